def fX1_withoutBit  (p0 : Int32) (p1 : Int32) : Option (Int32) :=
  some ((p0 &&& (((1 : Int32) <<< (p1 &&& 31)) - (1 : Int32))) ||| ((p0 >>> ((p1 + (1 : Int32)) &&& 31)) <<< (p1 &&& 31)))
def fX1_isNeeded (S : tw_St) (p1 : Int32) (p2 : Int32) : Option (Int32) :=
  tw_g p1 12 <|
  if ((S.2.2.2.2.1 p1.toNatClampNeg) &&& ((1 : Int32) <<< (p2 &&& 31))) = 0 then
    some (0 : Int32)
  else
    some (1 : Int32)
def fX1_followers_6 (S : tw_St) (p1 : Int32)  : Nat → Int32 → Int32 → Option (Int32)
  | 0, _, _ => none
  | n + 1, v2, v3 =>
    if S.2.2.2.2.2.2.2.1 ≤ v3 then
      some v2
    else
      (fX1_isNeeded S v3 p1).bind fun r17 =>
      if r17 = 0 then
        fX1_followers_6 S p1 n v2 (v3 + 1)
      else
        fX1_followers_6 S p1 n (v2 + 1) (v3 + 1)
def fX1_followers (S : tw_St) (p1 : Int32) : Option (Int32) :=
  fX1_followers_6 S p1 512 (0 : Int32) (p1 + (1 : Int32))
def fX1_lengthOfAll_4 (S : tw_St)  : Nat → Int32 → Int32 → Option (Int32)
  | 0, _, _ => none
  | n + 1, v1, v2 =>
    if S.2.2.2.2.2.2.2.1 ≤ v2 then
      some v1
    else
      tw_g v2 12 <|
      fX1_lengthOfAll_4 S n (v1 + (S.1 v2.toNatClampNeg)) (v2 + 1)
def fX1_lengthOfAll (S : tw_St)  : Option (Int32) :=
  fX1_lengthOfAll_4 S 512 (0 : Int32) (0 : Int32)
def fX1_keyOf (S : tw_St) (p1 : Int32) : Option (Int32) :=
  if S.2.2.2.2.2.2.2.2 = 1 then
    tw_g p1 12 <|
    some (S.1 p1.toNatClampNeg)
  else if S.2.2.2.2.2.2.2.2 = 2 then
    (fX1_followers S p1).bind fun r41 =>
    some r41
  else if S.2.2.2.2.2.2.2.2 = 3 then
    tw_g p1 12 <|
    some (S.2.2.2.1 p1.toNatClampNeg)
  else 
    some (0 : Int32)
def fX1_share_61 (S : tw_St) (p1 : Int32) (p2 : Int32)  (t0 : Int32) (v3 : Int32) : Option (Int32) :=
  if ¬ v3 = 0 then
    some (1 : Int32)
  else
    if t0 = 0 then
      some (0 : Int32)
    else
      some (1 : Int32)
def fX1_share_30 (S : tw_St) (p1 : Int32) (p2 : Int32)  (t0 : Int32) : Option (Int32) :=
  tw_g p1 12 <|
  if (S.2.2.1 p1.toNatClampNeg) = (-1 : Int32) then
    fX1_share_61 S p1 p2 (0 : Int32) t0
  else
    tw_g p1 12 <|
    tw_g p2 12 <|
    if ¬ (S.2.2.1 p1.toNatClampNeg) = (S.2.2.1 p2.toNatClampNeg) then
      fX1_share_61 S p1 p2 (0 : Int32) t0
    else
      fX1_share_61 S p1 p2 (1 : Int32) t0
def fX1_share (S : tw_St) (p1 : Int32) (p2 : Int32) : Option (Int32) :=
  tw_g p1 12 <|
  if (S.2.1 p1.toNatClampNeg) = (-1 : Int32) then
    fX1_share_30 S p1 p2 (0 : Int32)
  else
    tw_g p1 12 <|
    tw_g p2 12 <|
    if ¬ (S.2.1 p1.toNatClampNeg) = (S.2.1 p2.toNatClampNeg) then
      fX1_share_30 S p1 p2 (0 : Int32)
    else
      fX1_share_30 S p1 p2 (1 : Int32)
def fX1_appendTask (S : tw_St) (p1 : Int32) (p2 : Int32) (p3 : Int32) : Option (tw_St) :=
  tw_g S.2.2.2.2.2.2.2.1 12 <|
  tw_g S.2.2.2.2.2.2.2.1 12 <|
  tw_g S.2.2.2.2.2.2.2.1 12 <|
  tw_g S.2.2.2.2.2.2.2.1 12 <|
  tw_g S.2.2.2.2.2.2.2.1 12 <|
  some ((upd S.1 S.2.2.2.2.2.2.2.1.toNatClampNeg p1), (upd S.2.1 S.2.2.2.2.2.2.2.1.toNatClampNeg p2), (upd S.2.2.1 S.2.2.2.2.2.2.2.1.toNatClampNeg p3), (upd S.2.2.2.1 S.2.2.2.2.2.2.2.1.toNatClampNeg (0 : Int32)), (upd S.2.2.2.2.1 S.2.2.2.2.2.2.2.1.toNatClampNeg (0 : Int32)), S.2.2.2.2.2.1, S.2.2.2.2.2.2.1, (S.2.2.2.2.2.2.2.1 + (1 : Int32)), S.2.2.2.2.2.2.2.2)
def fX1_dropTask_12 (p1 : Int32)  : Nat → Int32 → tw_St → Option (tw_St)
  | 0, _, _ => none
  | n + 1, v2, S =>
    if S.2.2.2.2.2.2.2.1 ≤ v2 then
      some S
    else
      tw_g (v2 + (1 : Int32)) 12 <|
      tw_g v2 12 <|
      tw_g (v2 + (1 : Int32)) 12 <|
      tw_g v2 12 <|
      tw_g (v2 + (1 : Int32)) 12 <|
      tw_g v2 12 <|
      tw_g (v2 + (1 : Int32)) 12 <|
      tw_g v2 12 <|
      tw_g (v2 + (1 : Int32)) 12 <|
      (fX1_withoutBit (S.2.2.2.2.1 (v2 + (1 : Int32)).toNatClampNeg) p1).bind fun r90 =>
      tw_g v2 12 <|
      fX1_dropTask_12 p1 n (v2 + 1) ((upd S.1 v2.toNatClampNeg (S.1 (v2 + (1 : Int32)).toNatClampNeg)), (upd S.2.1 v2.toNatClampNeg (S.2.1 (v2 + (1 : Int32)).toNatClampNeg)), (upd S.2.2.1 v2.toNatClampNeg (S.2.2.1 (v2 + (1 : Int32)).toNatClampNeg)), (upd S.2.2.2.1 v2.toNatClampNeg (S.2.2.2.1 (v2 + (1 : Int32)).toNatClampNeg)), (upd S.2.2.2.2.1 v2.toNatClampNeg r90), S.2.2.2.2.2.1, S.2.2.2.2.2.2.1, S.2.2.2.2.2.2.2.1, S.2.2.2.2.2.2.2.2)
def fX1_dropTask (S : tw_St) (p1 : Int32) : Option (tw_St) :=
  fX1_dropTask_12 p1 512 p1 (S.1, S.2.1, S.2.2.1, S.2.2.2.1, S.2.2.2.2.1, S.2.2.2.2.2.1, S.2.2.2.2.2.2.1, (S.2.2.2.2.2.2.2.1 - (1 : Int32)), S.2.2.2.2.2.2.2.2)
def fX1_property (S : tw_St) (p1 : Int32) : Option (Nat) :=
  if p1 = 0 then
    some 1
  else if p1 = 1 then
    some 2
  else if p1 = 2 then
    some 3
  else if p1 = 3 then
    some 4
  else 
    some 5
def fX1_copyFrom_94 (O : tw_St)  : Nat → Int32 → tw_St → Option (tw_St)
  | 0, _, _ => none
  | n + 1, v2, S =>
    if (4 : Int32) ≤ v2 then
      some S
    else
      tw_g v2 4 <|
      tw_g v2 4 <|
      tw_g v2 4 <|
      tw_g v2 4 <|
      fX1_copyFrom_94 O n (v2 + 1) (S.1, S.2.1, S.2.2.1, S.2.2.2.1, S.2.2.2.2.1, (upd S.2.2.2.2.2.1 v2.toNatClampNeg (O.2.2.2.2.2.1 v2.toNatClampNeg)), (upd S.2.2.2.2.2.2.1 v2.toNatClampNeg (O.2.2.2.2.2.2.1 v2.toNatClampNeg)), S.2.2.2.2.2.2.2.1, S.2.2.2.2.2.2.2.2)
def fX1_copyFrom_18 (O : tw_St)  : Nat → Int32 → tw_St → Option (tw_St)
  | 0, _, _ => none
  | n + 1, v2, S =>
    if S.2.2.2.2.2.2.2.1 ≤ v2 then
      fX1_copyFrom_94 O 512 (0 : Int32) S
    else
      tw_g v2 12 <|
      tw_g v2 12 <|
      tw_g v2 12 <|
      tw_g v2 12 <|
      tw_g v2 12 <|
      tw_g v2 12 <|
      tw_g v2 12 <|
      tw_g v2 12 <|
      tw_g v2 12 <|
      tw_g v2 12 <|
      fX1_copyFrom_18 O n (v2 + 1) ((upd S.1 v2.toNatClampNeg (O.1 v2.toNatClampNeg)), (upd S.2.1 v2.toNatClampNeg (O.2.1 v2.toNatClampNeg)), (upd S.2.2.1 v2.toNatClampNeg (O.2.2.1 v2.toNatClampNeg)), (upd S.2.2.2.1 v2.toNatClampNeg (O.2.2.2.1 v2.toNatClampNeg)), (upd S.2.2.2.2.1 v2.toNatClampNeg (O.2.2.2.2.1 v2.toNatClampNeg)), S.2.2.2.2.2.1, S.2.2.2.2.2.2.1, S.2.2.2.2.2.2.2.1, S.2.2.2.2.2.2.2.2)
def fX1_copyFrom (S : tw_St) (O : tw_St)  : Option (tw_St) :=
  fX1_copyFrom_18 O 512 (0 : Int32) (S.1, S.2.1, S.2.2.1, S.2.2.2.1, S.2.2.2.2.1, S.2.2.2.2.2.1, S.2.2.2.2.2.2.1, O.2.2.2.2.2.2.2.1, O.2.2.2.2.2.2.2.2)
def fX0_startOf_10 (P : tw_Pl) (S : tw_St) (p2 : Int32)  : Nat → Int32 → Int32 → Option (Int32)
  | 0, _, _ => none
  | n + 1, v3, v4 =>
    if p2 ≤ v4 then
      some v3
    else
      tw_g v4 12 <|
      if (P.1 v4.toNatClampNeg) = (-1 : Int32) then
        fX0_startOf_10 P S p2 n v3 (v4 + 1)
      else
        (fX1_isNeeded S p2 v4).bind fun r31 =>
        if r31 = 0 then
          fX0_startOf_10 P S p2 n v3 (v4 + 1)
        else
          tw_g v4 12 <|
          tw_g v4 12 <|
          fX0_startOf_10 P S p2 n (if v3 < ((P.1 v4.toNatClampNeg) + (S.1 v4.toNatClampNeg)) then ((P.1 v4.toNatClampNeg) + (S.1 v4.toNatClampNeg)) else v3) (v4 + 1)
def fX0_startOf (P : tw_Pl) (S : tw_St) (p2 : Int32) : Option (Int32) :=
  tw_g p2 12 <|
  fX0_startOf_10 P S p2 512 (S.2.2.2.1 p2.toNatClampNeg) (0 : Int32)
def fX0_behindClash_13 (P : tw_Pl) (S : tw_St) (p2 : Int32) (p3 : Int32)  : Nat → Int32 → Int32 → Option (Int32)
  | 0, _, _ => none
  | n + 1, v4, v5 =>
    if S.2.2.2.2.2.2.2.1 ≤ v5 then
      some p3
    else
      tw_g v5 12 <|
      tw_g v5 12 <|
      if (P.1 v5.toNatClampNeg) = (-1 : Int32) then
        fX0_behindClash_13 P S p2 p3 n v4 (v5 + 1)
      else
        if v4 ≤ (P.1 v5.toNatClampNeg) then
          fX0_behindClash_13 P S p2 p3 n v4 (v5 + 1)
        else
          if ((P.1 v5.toNatClampNeg) + (S.1 v5.toNatClampNeg)) ≤ p3 then
            fX0_behindClash_13 P S p2 p3 n v4 (v5 + 1)
          else
            (fX1_share S p2 v5).bind fun r66 =>
            if r66 = 0 then
              fX0_behindClash_13 P S p2 p3 n v4 (v5 + 1)
            else
              some ((P.1 v5.toNatClampNeg) + (S.1 v5.toNatClampNeg))
def fX0_behindClash (P : tw_Pl) (S : tw_St) (p2 : Int32) (p3 : Int32) : Option (Int32) :=
  tw_g p2 12 <|
  fX0_behindClash_13 P S p2 p3 512 (p3 + (S.1 p2.toNatClampNeg)) (0 : Int32)
def fX0_firstDay_51 (P : tw_Pl) (S : tw_St) (p2 : Int32)  : Nat → Int32 → Int32 → Int32 → Option (Int32)
  | 0, _, _, _ => none
  | n + 1, v3, v4, v6 =>
    if (12 : Int32) ≤ v6 then
      some (-1 : Int32)
    else
      tw_g p2 12 <|
      if v4 < (v3 + (S.1 p2.toNatClampNeg)) then
        some (-1 : Int32)
      else
        (fX0_behindClash P S p2 v3).bind fun r75 =>
        if ¬ r75 = v3 then
          fX0_firstDay_51 P S p2 n r75 v4 (v6 + 1)
        else
          some v3
def fX0_firstDay (P : tw_Pl) (S : tw_St) (p2 : Int32) : Option (Int32) :=
  (fX0_startOf P S p2).bind fun r3 =>
  tw_g p2 12 <|
  if (S.2.2.1 p2.toNatClampNeg) = (-1 : Int32) then
    fX0_firstDay_51 P S p2 512 r3 (100 : Int32) (0 : Int32)
  else
    tw_g (S.2.2.1 p2.toNatClampNeg) 4 <|
    tw_g (S.2.2.1 p2.toNatClampNeg) 4 <|
    fX0_firstDay_51 P S p2 512 (if r3 < (S.2.2.2.2.2.1 (S.2.2.1 p2.toNatClampNeg).toNatClampNeg) then (S.2.2.2.2.2.1 (S.2.2.1 p2.toNatClampNeg).toNatClampNeg) else r3) ((S.2.2.2.2.2.2.1 (S.2.2.1 p2.toNatClampNeg).toNatClampNeg) + (1 : Int32)) (0 : Int32)
def fX0_firstByRule_55 (P : tw_Pl) (S : tw_St) (p2 : Int32) (k8 : Int32 → Int32 → Int32 → Option (Int32)) (t0 : Int32) (v3 : Int32) (v4 : Int32) (v5 : Int32) (v6 : Int32) : Option (Int32) :=
  if ¬ v6 = 0 then
    k8 v3 v4 (v5 + 1)
  else
    if t0 = 0 then
      k8 v3 v4 (v5 + 1)
    else
      tw_g v5 12 <|
      if (P.2.1 v5.toNatClampNeg) ≤ v4 then
        k8 v3 v4 (v5 + 1)
      else
        tw_g v5 12 <|
        k8 v5 (P.2.1 v5.toNatClampNeg) (v5 + 1)
def fX0_firstByRule_31 (P : tw_Pl) (S : tw_St) (p2 : Int32) (k8 : Int32 → Int32 → Int32 → Option (Int32)) (t0 : Int32) (v3 : Int32) (v4 : Int32) (v5 : Int32) : Option (Int32) :=
  tw_g v5 12 <|
  if ¬ ((S.2.2.2.2.1 v5.toNatClampNeg) &&& (P.2.2.1 ^^^ (-1 : Int32))) = 0 then
    fX0_firstByRule_55 P S p2 k8 (0 : Int32) v3 v4 v5 t0
  else
    fX0_firstByRule_55 P S p2 k8 (1 : Int32) v3 v4 v5 t0
def fX0_firstByRule_8 (P : tw_Pl) (S : tw_St) (p2 : Int32)  : Nat → Int32 → Int32 → Int32 → Option (Int32)
  | 0, _, _, _ => none
  | n + 1, v3, v4, v5 =>
    if S.2.2.2.2.2.2.2.1 ≤ v5 then
      some v3
    else
      if (p2 &&& ((1 : Int32) <<< (v5 &&& 31))) = 0 then
        fX0_firstByRule_31 P S p2 (fX0_firstByRule_8 P S p2 n) (0 : Int32) v3 v4 v5
      else
        fX0_firstByRule_31 P S p2 (fX0_firstByRule_8 P S p2 n) (1 : Int32) v3 v4 v5
def fX0_firstByRule (P : tw_Pl) (S : tw_St) (p2 : Int32) : Option (Int32) :=
  fX0_firstByRule_8 P S p2 512 (-1 : Int32) (-1 : Int32) (0 : Int32)
def fX0_lay_53 (S : tw_St)  : Nat → Int32 → Int32 → tw_Pl → Option (tw_Pl)
  | 0, _, _, _ => none
  | n + 1, v2, v3, P =>
    if S.2.2.2.2.2.2.2.1 ≤ v3 then
      some P
    else
      (fX0_firstByRule P S v2).bind fun r64 =>
      if ¬ r64 = (-1 : Int32) then
        (fX0_firstDay P S r64).bind fun r87 =>
        if r87 = (-1 : Int32) then
          fX0_lay_53 S n (v2 ||| ((1 : Int32) <<< (r64 &&& 31))) (v3 + 1) P
        else
          tw_g r64 12 <|
          tw_g r64 12 <|
          fX0_lay_53 S n (v2 ||| ((1 : Int32) <<< (r64 &&& 31))) (v3 + 1) ((upd P.1 r64.toNatClampNeg r87), P.2.1, (P.2.2.1 ||| ((1 : Int32) <<< (r64 &&& 31))), (P.2.2.2.1 + (1 : Int32)), (if P.2.2.2.2 < (r87 + (S.1 r64.toNatClampNeg)) then (r87 + (S.1 r64.toNatClampNeg)) else P.2.2.2.2))
      else
        some P
def fX0_lay_17 (S : tw_St)  : Nat → Int32 → tw_Pl → Option (tw_Pl)
  | 0, _, _ => none
  | n + 1, v2, P =>
    if S.2.2.2.2.2.2.2.1 ≤ v2 then
      fX0_lay_53 S 512 (0 : Int32) (0 : Int32) P
    else
      tw_g v2 12 <|
      (fX1_keyOf S v2).bind fun r39 =>
      tw_g v2 12 <|
      fX0_lay_17 S n (v2 + 1) ((upd P.1 v2.toNatClampNeg (-1 : Int32)), (upd P.2.1 v2.toNatClampNeg r39), P.2.2.1, P.2.2.2.1, P.2.2.2.2)
def fX0_lay (P : tw_Pl) (S : tw_St)  : Option (tw_Pl) :=
  fX0_lay_17 S 512 (0 : Int32) (P.1, P.2.1, (0 : Int32), (0 : Int32), (0 : Int32))
def fX0_waitOf (P : tw_Pl) (S : tw_St) (p2 : Int32) : Option (Int32) :=
  tw_g p2 12 <|
  if ¬ (P.1 p2.toNatClampNeg) = (-1 : Int32) then
    tw_g p2 12 <|
    (fX0_startOf P S p2).bind fun r23 =>
    some ((P.1 p2.toNatClampNeg) - r23)
  else
    some (0 : Int32)
def fX0_waitOfAll_4 (P : tw_Pl) (S : tw_St)  : Nat → Int32 → Int32 → Option (Int32)
  | 0, _, _ => none
  | n + 1, v2, v3 =>
    if S.2.2.2.2.2.2.2.1 ≤ v3 then
      some v2
    else
      (fX0_waitOf P S v3).bind fun r16 =>
      fX0_waitOfAll_4 P S n (v2 + r16) (v3 + 1)
def fX0_waitOfAll (P : tw_Pl) (S : tw_St)  : Option (Int32) :=
  fX0_waitOfAll_4 P S 512 (0 : Int32) (0 : Int32)
def fX0_lengthOfLaid_4 (P : tw_Pl) (S : tw_St)  : Nat → Int32 → Int32 → Option (Int32)
  | 0, _, _ => none
  | n + 1, v2, v3 =>
    if S.2.2.2.2.2.2.2.1 ≤ v3 then
      some v2
    else
      tw_g v3 12 <|
      if (P.1 v3.toNatClampNeg) = (-1 : Int32) then
        fX0_lengthOfLaid_4 P S n v2 (v3 + 1)
      else
        tw_g v3 12 <|
        fX0_lengthOfLaid_4 P S n (v2 + (S.1 v3.toNatClampNeg)) (v3 + 1)
def fX0_lengthOfLaid (P : tw_Pl) (S : tw_St)  : Option (Int32) :=
  fX0_lengthOfLaid_4 P S 512 (0 : Int32) (0 : Int32)
def fX0_daysIn_5 (P : tw_Pl) (S : tw_St) (p2 : Int32)  : Nat → Int32 → Int32 → Option (Int32)
  | 0, _, _ => none
  | n + 1, v3, v4 =>
    if S.2.2.2.2.2.2.2.1 ≤ v4 then
      some v3
    else
      tw_g v4 12 <|
      if (P.1 v4.toNatClampNeg) = (-1 : Int32) then
        fX0_daysIn_5 P S p2 n v3 (v4 + 1)
      else
        tw_g v4 12 <|
        if ¬ (S.2.2.1 v4.toNatClampNeg) = p2 then
          fX0_daysIn_5 P S p2 n v3 (v4 + 1)
        else
          tw_g v4 12 <|
          fX0_daysIn_5 P S p2 n (v3 + (S.1 v4.toNatClampNeg)) (v4 + 1)
def fX0_daysIn (P : tw_Pl) (S : tw_St) (p2 : Int32) : Option (Int32) :=
  fX0_daysIn_5 P S p2 512 (0 : Int32) (0 : Int32)
def fX0_tasksIn_5 (P : tw_Pl) (S : tw_St) (p2 : Int32)  : Nat → Int32 → Int32 → Option (Int32)
  | 0, _, _ => none
  | n + 1, v3, v4 =>
    if S.2.2.2.2.2.2.2.1 ≤ v4 then
      some v3
    else
      tw_g v4 12 <|
      if (P.1 v4.toNatClampNeg) = (-1 : Int32) then
        fX0_tasksIn_5 P S p2 n v3 (v4 + 1)
      else
        tw_g v4 12 <|
        if ¬ (S.2.2.1 v4.toNatClampNeg) = p2 then
          fX0_tasksIn_5 P S p2 n v3 (v4 + 1)
        else
          fX0_tasksIn_5 P S p2 n (v3 + 1) (v4 + 1)
def fX0_tasksIn (P : tw_Pl) (S : tw_St) (p2 : Int32) : Option (Int32) :=
  fX0_tasksIn_5 P S p2 512 (0 : Int32) (0 : Int32)
def fX0_taskOnP_3 (P : tw_Pl) (S : tw_St) (p3 : Int32) (p4 : Int32)  : Nat → Int32 → Option (Int32)
  | 0, _ => none
  | n + 1, v5 =>
    if S.2.2.2.2.2.2.2.1 ≤ v5 then
      some (-1 : Int32)
    else
      tw_g v5 12 <|
      if (P.1 v5.toNatClampNeg) = (-1 : Int32) then
        fX0_taskOnP_3 P S p3 p4 n (v5 + 1)
      else
        tw_g v5 12 <|
        if ¬ (S.2.1 v5.toNatClampNeg) = p3 then
          fX0_taskOnP_3 P S p3 p4 n (v5 + 1)
        else
          if p4 < (P.1 v5.toNatClampNeg) then
            fX0_taskOnP_3 P S p3 p4 n (v5 + 1)
          else
            tw_g v5 12 <|
            if ((P.1 v5.toNatClampNeg) + (S.1 v5.toNatClampNeg)) ≤ p4 then
              fX0_taskOnP_3 P S p3 p4 n (v5 + 1)
            else
              some v5
def fX0_taskOnP (P : tw_Pl) (S : tw_St) (p3 : Int32) (p4 : Int32) : Option (Int32) :=
  fX0_taskOnP_3 P S p3 p4 512 (0 : Int32)
def fX0_taskOnH_3 (P : tw_Pl) (S : tw_St) (p3 : Int32) (p4 : Int32)  : Nat → Int32 → Option (Int32)
  | 0, _ => none
  | n + 1, v5 =>
    if S.2.2.2.2.2.2.2.1 ≤ v5 then
      some (-1 : Int32)
    else
      tw_g v5 12 <|
      if (P.1 v5.toNatClampNeg) = (-1 : Int32) then
        fX0_taskOnH_3 P S p3 p4 n (v5 + 1)
      else
        tw_g v5 12 <|
        if ¬ (S.2.2.1 v5.toNatClampNeg) = p3 then
          fX0_taskOnH_3 P S p3 p4 n (v5 + 1)
        else
          if p4 < (P.1 v5.toNatClampNeg) then
            fX0_taskOnH_3 P S p3 p4 n (v5 + 1)
          else
            tw_g v5 12 <|
            if ((P.1 v5.toNatClampNeg) + (S.1 v5.toNatClampNeg)) ≤ p4 then
              fX0_taskOnH_3 P S p3 p4 n (v5 + 1)
            else
              some v5
def fX0_taskOnH (P : tw_Pl) (S : tw_St) (p3 : Int32) (p4 : Int32) : Option (Int32) :=
  fX0_taskOnH_3 P S p3 p4 512 (0 : Int32)
def fX3_isLength  (p0 : Int32) : Option (Int32) :=
  if p0 < (1 : Int32) then
    some (0 : Int32)
  else
    if (9 : Int32) < p0 then
      some (0 : Int32)
    else
      some (1 : Int32)
def fX3_isPerson  (p0 : Int32) : Option (Int32) :=
  if p0 < 0 then
    some (0 : Int32)
  else
    if (6 : Int32) ≤ p0 then
      some (0 : Int32)
    else
      some (1 : Int32)
def fX3_isHall  (p0 : Int32) : Option (Int32) :=
  if p0 < 0 then
    some (0 : Int32)
  else
    if (4 : Int32) ≤ p0 then
      some (0 : Int32)
    else
      some (1 : Int32)
def fX3_isDay  (p0 : Int32) : Option (Int32) :=
  if p0 < 0 then
    some (0 : Int32)
  else
    if (100 : Int32) ≤ p0 then
      some (0 : Int32)
    else
      some (1 : Int32)
def fX3_isRule  (p0 : Int32) : Option (Int32) :=
  if p0 < 0 then
    some (0 : Int32)
  else
    if (4 : Int32) ≤ p0 then
      some (0 : Int32)
    else
      some (1 : Int32)
def fX3_isSlip  (p0 : Int32) : Option (Int32) :=
  if p0 < (1 : Int32) then
    some (0 : Int32)
  else
    if (20 : Int32) < p0 then
      some (0 : Int32)
    else
      some (1 : Int32)
def fX3_isPersonOrNone  (p0 : Int32) : Option (Int32) :=
  if p0 = (-1 : Int32) then
    some (1 : Int32)
  else
    (fX3_isPerson p0).bind fun r6 =>
    if r6 = 0 then
      some (0 : Int32)
    else
      some (1 : Int32)
def fX3_isHallOrNone  (p0 : Int32) : Option (Int32) :=
  if p0 = (-1 : Int32) then
    some (1 : Int32)
  else
    (fX3_isHall p0).bind fun r6 =>
    if r6 = 0 then
      some (0 : Int32)
    else
      some (1 : Int32)
def fX3_isValue  (p0 : Int32) (p1 : Int32) : Option (Int32) :=
  if p0 = 0 then
    (fX3_isLength p1).bind fun r33 =>
    tw_q (r33 = 0 ∨ r33 = 1) <|
    some r33
  else if p0 = 1 then
    (fX3_isPersonOrNone p1).bind fun r38 =>
    tw_q (r38 = 0 ∨ r38 = 1) <|
    some r38
  else if p0 = 2 then
    (fX3_isHallOrNone p1).bind fun r43 =>
    tw_q (r43 = 0 ∨ r43 = 1) <|
    some r43
  else if p0 = 3 then
    if p1 < 0 then
      some (0 : Int32)
    else
      if (60 : Int32) < p1 then
        some (0 : Int32)
      else
        some (1 : Int32)
  else 
    some (0 : Int32)
def fX3_bitsOf_81 (p0 : UInt64)  (v2 : UInt64) (v4 : Int32) : Option (Int64) :=
  tw_q ((FP.dsub v2 FP.dconst1) &&& 0x7fffffffffffffff ≤ 0x7ff0000000000000) <|
  tw_q ((FP.dmul (FP.dsub v2 FP.dconst1) (4841369599423283200 : UInt64)) &&& 0x7fffffffffffffff ≤ 0x7ff0000000000000) <|
  some ((v4.toInt64 <<< ((52 : Int32).toInt64 &&& 63)) + (FP.d2l (FP.dmul (FP.dsub v2 FP.dconst1) (4841369599423283200 : UInt64))))
def fX3_bitsOf_52 (p0 : UInt64)  : Nat → UInt64 → Int32 → Int32 → Option (Int64)
  | 0, _, _, _ => none
  | n + 1, v2, v4, v5 =>
    if (1022 : Int32) ≤ v5 then
      fX3_bitsOf_81 p0 v2 v4
    else
      if 0 ≤ (Op.cmpValue (FP.dcmp v2 FP.dconst1) CmpOp.g) then
        fX3_bitsOf_81 p0 v2 v4
      else
        tw_q ((FP.dmul v2 (4611686018427387904 : UInt64)) &&& 0x7fffffffffffffff ≤ 0x7ff0000000000000) <|
        fX3_bitsOf_52 p0 n (FP.dmul v2 (4611686018427387904 : UInt64)) (v4 + (-1)) (v5 + 1)
def fX3_bitsOf_18 (p0 : UInt64)  : Nat → UInt64 → Int32 → Int32 → Option (Int64)
  | 0, _, _, _ => none
  | n + 1, v2, v4, v5 =>
    if (1023 : Int32) ≤ v5 then
      fX3_bitsOf_52 p0 512 v2 v4 (0 : Int32)
    else
      if (Op.cmpValue (FP.dcmp v2 (4611686018427387904 : UInt64)) CmpOp.l) < 0 then
        fX3_bitsOf_52 p0 512 v2 v4 (0 : Int32)
      else
        tw_q ((FP.ddiv v2 (4611686018427387904 : UInt64)) &&& 0x7fffffffffffffff ≤ 0x7ff0000000000000) <|
        fX3_bitsOf_18 p0 n (FP.ddiv v2 (4611686018427387904 : UInt64)) (v4 + 1) (v5 + 1)
def fX3_bitsOf  (p0 : UInt64) : Option (Int64) :=
  if 0 < (Op.cmpValue (FP.dcmp p0 FP.dconst0) CmpOp.l) then
    fX3_bitsOf_18 p0 512 p0 (1023 : Int32) (0 : Int32)
  else
    some (0 : Int64)
def fX2_isPartWhole  (p0 : Int32) : Option (Int32) :=
  if p0 < (4 : Int32) then
    some (0 : Int32)
  else
    if p0 = (7 : Int32) then
      some (0 : Int32)
    else
      some (1 : Int32)
def fX2_placeBehindMark_31 (p0 : Int32) (p1 : Int32)   : Option (Int32) :=
  if ¬ p1 = (110 : Int32) then
    some (-1 : Int32)
  else
    if p0 = (-1 : Int32) then
      some (-1 : Int32)
    else
      some (7 : Int32)
def fX2_placeBehindMark_13 (p0 : Int32) (p1 : Int32)   : Option (Int32) :=
  if ¬ p1 = (104 : Int32) then
    fX2_placeBehindMark_31 p0 p1
  else
    if p0 = (4 : Int32) then
      some (3 : Int32)
    else
      if ¬ p0 = (5 : Int32) then
        fX2_placeBehindMark_31 p0 p1
      else
        some (3 : Int32)
def fX2_placeBehindMark  (p0 : Int32) (p1 : Int32) : Option (Int32) :=
  if ¬ p1 = (112 : Int32) then
    fX2_placeBehindMark_13 p0 p1
  else
    if ¬ p0 = (4 : Int32) then
      fX2_placeBehindMark_13 p0 p1
    else
      some (2 : Int32)
def fX2_placeBehind_50 (p0 : Int32) (p1 : Int32)  (t0 : Int32) : Option (Int32) :=
  if t0 = 0 then
    some (-1 : Int32)
  else
    some (((7 : Int32) + (p1 - (97 : Int32))) + (1 : Int32))
def fX2_placeBehind  (p0 : Int32) (p1 : Int32) : Option (Int32) :=
  if ¬ p1 = (59 : Int32) then
    if p0 < (7 : Int32) then
      if p0 = 0 then
        if ¬ p1 = (100 : Int32) then
          some (-1 : Int32)
        else
          some (1 : Int32)
      else if p0 = 1 then
        (fX3_isLength (p1 - (48 : Int32))).bind fun r116 =>
        if r116 = 0 then
          some (-1 : Int32)
        else
          some (4 : Int32)
      else if p0 = 2 then
        (fX3_isPerson (p1 - (48 : Int32))).bind fun r132 =>
        if r132 = 0 then
          some (-1 : Int32)
        else
          some (5 : Int32)
      else if p0 = 3 then
        (fX3_isHall (p1 - (48 : Int32))).bind fun r148 =>
        if r148 = 0 then
          some (-1 : Int32)
        else
          some (6 : Int32)
      else 
        (fX2_placeBehindMark p0 p1).bind fun r163 =>
        some r163
    else
      if (p1 - (97 : Int32)) < (p0 - (7 : Int32)) then
        fX2_placeBehind_50 p0 p1 (0 : Int32)
      else
        if (12 : Int32) ≤ (p1 - (97 : Int32)) then
          fX2_placeBehind_50 p0 p1 (0 : Int32)
        else
          fX2_placeBehind_50 p0 p1 (1 : Int32)
  else
    (fX2_isPartWhole p0).bind fun r7 =>
    if r7 = 0 then
      some (-1 : Int32)
    else
      some (0 : Int32)
def fX2_firstWrong_4 (X : tw_Tx)  : Nat → Int32 → Int32 → Option (Int32)
  | 0, _, _ => none
  | n + 1, v1, v2 =>
    if X.2 ≤ v2 then
      some X.2
    else
      tw_g v2 60 <|
      (fX2_placeBehind v1 (X.1 v2.toNatClampNeg)).bind fun r19 =>
      if ¬ r19 = (-1 : Int32) then
        fX2_firstWrong_4 X n r19 (v2 + 1)
      else
        some v2
def fX2_firstWrong (X : tw_Tx)  : Option (Int32) :=
  fX2_firstWrong_4 X 512 (0 : Int32) (0 : Int32)
def fX2_isComplete_4 (X : tw_Tx)  : Nat → Int32 → Int32 → Option (Int32)
  | 0, _, _ => none
  | n + 1, v1, v2 =>
    if X.2 ≤ v2 then
      (fX2_isPartWhole v1).bind fun r35 =>
      tw_q (r35 = 0 ∨ r35 = 1) <|
      some r35
    else
      if v1 = (-1 : Int32) then
        (fX2_isPartWhole v1).bind fun r35 =>
        tw_q (r35 = 0 ∨ r35 = 1) <|
        some r35
      else
        tw_g v2 60 <|
        (fX2_placeBehind v1 (X.1 v2.toNatClampNeg)).bind fun r24 =>
        fX2_isComplete_4 X n r24 (v2 + 1)
def fX2_isComplete (X : tw_Tx)  : Option (Int32) :=
  fX2_isComplete_4 X 512 (0 : Int32) (0 : Int32)
def fX2_readInto (S : tw_St) (p1 : Int32) (p2 : Int32) : Option (Int32 × tw_St) :=
  if 0 ≤ (S.2.2.2.2.2.2.2.1 - (1 : Int32)) then
    if ¬ p1 = (1 : Int32) then
      if ¬ p1 = (2 : Int32) then
        if ¬ p1 = (3 : Int32) then
          if p1 < (7 : Int32) then
            some ((1 : Int32), S)
          else
            if p2 = (59 : Int32) then
              some ((1 : Int32), S)
            else
              if (p2 - (97 : Int32)) < (S.2.2.2.2.2.2.2.1 - (1 : Int32)) then
                tw_g (S.2.2.2.2.2.2.2.1 - (1 : Int32)) 12 <|
                tw_g (S.2.2.2.2.2.2.2.1 - (1 : Int32)) 12 <|
                some ((1 : Int32), (S.1, S.2.1, S.2.2.1, S.2.2.2.1, (upd S.2.2.2.2.1 (S.2.2.2.2.2.2.2.1 - (1 : Int32)).toNatClampNeg ((S.2.2.2.2.1 (S.2.2.2.2.2.2.2.1 - (1 : Int32)).toNatClampNeg) ||| ((1 : Int32) <<< ((p2 - (97 : Int32)) &&& 31)))), S.2.2.2.2.2.1, S.2.2.2.2.2.2.1, S.2.2.2.2.2.2.2.1, S.2.2.2.2.2.2.2.2))
              else
                some ((0 : Int32), S)
        else
          tw_g (S.2.2.2.2.2.2.2.1 - (1 : Int32)) 12 <|
          some ((1 : Int32), (S.1, S.2.1, (upd S.2.2.1 (S.2.2.2.2.2.2.2.1 - (1 : Int32)).toNatClampNeg (p2 - (48 : Int32))), S.2.2.2.1, S.2.2.2.2.1, S.2.2.2.2.2.1, S.2.2.2.2.2.2.1, S.2.2.2.2.2.2.2.1, S.2.2.2.2.2.2.2.2))
      else
        tw_g (S.2.2.2.2.2.2.2.1 - (1 : Int32)) 12 <|
        some ((1 : Int32), (S.1, (upd S.2.1 (S.2.2.2.2.2.2.2.1 - (1 : Int32)).toNatClampNeg (p2 - (48 : Int32))), S.2.2.1, S.2.2.2.1, S.2.2.2.2.1, S.2.2.2.2.2.1, S.2.2.2.2.2.2.1, S.2.2.2.2.2.2.2.1, S.2.2.2.2.2.2.2.2))
    else
      tw_g (S.2.2.2.2.2.2.2.1 - (1 : Int32)) 12 <|
      some ((1 : Int32), ((upd S.1 (S.2.2.2.2.2.2.2.1 - (1 : Int32)).toNatClampNeg (p2 - (48 : Int32))), S.2.1, S.2.2.1, S.2.2.2.1, S.2.2.2.2.1, S.2.2.2.2.2.1, S.2.2.2.2.2.2.1, S.2.2.2.2.2.2.2.1, S.2.2.2.2.2.2.2.2))
  else
    some ((0 : Int32), S)
def fX2_addTasksTo_53 (X : tw_Tx) (k4 : Int32 → Int32 → tw_St → Option (Int32 × tw_St)) (v2 : Int32) (v3 : Int32) (S : tw_St) : Option (Int32 × tw_St) :=
  tw_g v3 60 <|
  (fX2_placeBehind v2 (X.1 v3.toNatClampNeg)).bind fun r60 =>
  k4 r60 (v3 + 1) S
def fX2_addTasksTo_4 (X : tw_Tx)  : Nat → Int32 → Int32 → tw_St → Option (Int32 × tw_St)
  | 0, _, _, _ => none
  | n + 1, v2, v3, S =>
    if X.2 ≤ v3 then
      some ((1 : Int32), S)
    else
      if ¬ v2 = 0 then
        tw_g v3 60 <|
        (fX2_readInto S v2 (X.1 v3.toNatClampNeg)).bind fun r45 =>
        if ¬ r45.1 = 0 then
          fX2_addTasksTo_53 X (fX2_addTasksTo_4 X n) v2 v3 r45.2
        else
          some ((0 : Int32), r45.2)
      else
        if S.2.2.2.2.2.2.2.1 < (12 : Int32) then
          (fX1_appendTask S (1 : Int32) (-1 : Int32) (-1 : Int32)).bind fun r31 =>
          fX2_addTasksTo_53 X (fX2_addTasksTo_4 X n) v2 v3 r31
        else
          some ((0 : Int32), S)
def fX2_addTasksTo (X : tw_Tx) (S : tw_St)  : Option (Int32 × tw_St) :=
  fX2_addTasksTo_4 X 512 (0 : Int32) (0 : Int32) S
def fX3_isTask (Y : tw_Wl) (p1 : Int32) : Option (Int32) :=
  if p1 < 0 then
    some (0 : Int32)
  else
    if Y.1.2.2.2.2.2.2.2.1 ≤ p1 then
      some (0 : Int32)
    else
      some (1 : Int32)
def fX3_couldSlip (Y : tw_Wl) (p1 : Int32) (p2 : Int32) : Option (Int32) :=
  tw_g p1 12 <|
  if (Y.2.1.1 p1.toNatClampNeg) = (-1 : Int32) then
    some (0 : Int32)
  else
    if (60 : Int32) < ((Y.2.1.1 p1.toNatClampNeg) + p2) then
      some (0 : Int32)
    else
      some (1 : Int32)
def fX3_tryRule (Y : tw_Wl) (p1 : Int32) : Option (tw_Wl) :=
  (fX1_copyFrom Y.2.2.1 Y.1).bind fun r8 =>
  (fX0_lay Y.2.2.2.1 (r8.1, r8.2.1, r8.2.2.1, r8.2.2.2.1, r8.2.2.2.2.1, r8.2.2.2.2.2.1, r8.2.2.2.2.2.2.1, r8.2.2.2.2.2.2.2.1, p1)).bind fun r27 =>
  some (Y.1, Y.2.1, (r8.1, r8.2.1, r8.2.2.1, r8.2.2.2.1, r8.2.2.2.2.1, r8.2.2.2.2.2.1, r8.2.2.2.2.2.2.1, r8.2.2.2.2.2.2.2.1, p1), r27, Y.2.2.2.2.1, Y.2.2.2.2.2.1, Y.2.2.2.2.2.2.1, Y.2.2.2.2.2.2.2.1, Y.2.2.2.2.2.2.2.2)
def fX3_slackOf_31 (p1 : Int32)  : Nat → Int32 → Int32 → tw_Wl → Option (Int32 × tw_Wl)
  | 0, _, _, _ => none
  | n + 1, v2, v3, Y =>
    if v3 ≤ 0 then
      some ((0 : Int32), Y)
    else
      tw_g p1 12 <|
      (fX0_lay Y.2.2.2.1 (Y.2.2.1.1, Y.2.2.1.2.1, Y.2.2.1.2.2.1, (upd Y.2.2.1.2.2.2.1 p1.toNatClampNeg (v2 + v3)), Y.2.2.1.2.2.2.2.1, Y.2.2.1.2.2.2.2.2.1, Y.2.2.1.2.2.2.2.2.2.1, Y.2.2.1.2.2.2.2.2.2.2.1, Y.2.2.1.2.2.2.2.2.2.2.2)).bind fun r55 =>
      if r55.2.2.2.1 < Y.2.1.2.2.2.1 then
        fX3_slackOf_31 p1 n v2 (v3 + (-1)) (Y.1, Y.2.1, (Y.2.2.1.1, Y.2.2.1.2.1, Y.2.2.1.2.2.1, (upd Y.2.2.1.2.2.2.1 p1.toNatClampNeg (v2 + v3)), Y.2.2.1.2.2.2.2.1, Y.2.2.1.2.2.2.2.2.1, Y.2.2.1.2.2.2.2.2.2.1, Y.2.2.1.2.2.2.2.2.2.2.1, Y.2.2.1.2.2.2.2.2.2.2.2), r55, Y.2.2.2.2.1, Y.2.2.2.2.2.1, Y.2.2.2.2.2.2.1, Y.2.2.2.2.2.2.2.1, Y.2.2.2.2.2.2.2.2)
      else
        if Y.2.1.2.2.2.2 < r55.2.2.2.2 then
          fX3_slackOf_31 p1 n v2 (v3 + (-1)) (Y.1, Y.2.1, (Y.2.2.1.1, Y.2.2.1.2.1, Y.2.2.1.2.2.1, (upd Y.2.2.1.2.2.2.1 p1.toNatClampNeg (v2 + v3)), Y.2.2.1.2.2.2.2.1, Y.2.2.1.2.2.2.2.2.1, Y.2.2.1.2.2.2.2.2.2.1, Y.2.2.1.2.2.2.2.2.2.2.1, Y.2.2.1.2.2.2.2.2.2.2.2), r55, Y.2.2.2.2.1, Y.2.2.2.2.2.1, Y.2.2.2.2.2.2.1, Y.2.2.2.2.2.2.2.1, Y.2.2.2.2.2.2.2.2)
        else
          some (v3, (Y.1, Y.2.1, (Y.2.2.1.1, Y.2.2.1.2.1, Y.2.2.1.2.2.1, (upd Y.2.2.1.2.2.2.1 p1.toNatClampNeg (v2 + v3)), Y.2.2.1.2.2.2.2.1, Y.2.2.1.2.2.2.2.2.1, Y.2.2.1.2.2.2.2.2.2.1, Y.2.2.1.2.2.2.2.2.2.2.1, Y.2.2.1.2.2.2.2.2.2.2.2), r55, Y.2.2.2.2.1, Y.2.2.2.2.2.1, Y.2.2.2.2.2.2.1, Y.2.2.2.2.2.2.2.1, Y.2.2.2.2.2.2.2.2))
def fX3_slackOf (Y : tw_Wl) (p1 : Int32) : Option (Int32 × tw_Wl) :=
  tw_g p1 12 <|
  if ¬ (Y.2.1.1 p1.toNatClampNeg) = (-1 : Int32) then
    (fX1_copyFrom Y.2.2.1 Y.1).bind fun r25 =>
    fX3_slackOf_31 p1 512 (Y.2.1.1 p1.toNatClampNeg) (30 : Int32) (Y.1, Y.2.1, r25, Y.2.2.2.1, Y.2.2.2.2.1, Y.2.2.2.2.2.1, Y.2.2.2.2.2.2.1, Y.2.2.2.2.2.2.2.1, Y.2.2.2.2.2.2.2.2)
  else
    some ((-1 : Int32), Y)
def fX3_criticalTasks_4   : Nat → Int32 → Int32 → tw_Wl → Option (Int32 × tw_Wl)
  | 0, _, _, _ => none
  | n + 1, v1, v2, Y =>
    if Y.1.2.2.2.2.2.2.2.1 ≤ v2 then
      some (v1, Y)
    else
      (fX3_slackOf Y v2).bind fun r17 =>
      if ¬ r17.1 = 0 then
        fX3_criticalTasks_4 n v1 (v2 + 1) r17.2
      else
        fX3_criticalTasks_4 n (v1 + 1) (v2 + 1) r17.2
def fX3_criticalTasks (Y : tw_Wl)  : Option (Int32 × tw_Wl) :=
  fX3_criticalTasks_4 512 (0 : Int32) (0 : Int32) Y
def fX3_longestRow_20  (k4 : Int32 → Int32 → tw_Wl → Option (Int32 × tw_Wl)) : Nat → Int32 → Int32 → Int32 → Int32 → tw_Wl → Option (Int32 × tw_Wl)
  | 0, _, _, _, _, _ => none
  | n + 1, v1, v2, v3, v4, Y =>
    if v2 ≤ v4 then
      tw_g v2 12 <|
      tw_g v2 12 <|
      tw_g v2 12 <|
      k4 (if v1 < ((upd Y.2.2.2.2.2.1 v2.toNatClampNeg (v3 + (Y.1.1 v2.toNatClampNeg))) v2.toNatClampNeg) then ((upd Y.2.2.2.2.2.1 v2.toNatClampNeg (v3 + (Y.1.1 v2.toNatClampNeg))) v2.toNatClampNeg) else v1) (v2 + 1) (Y.1, Y.2.1, Y.2.2.1, Y.2.2.2.1, Y.2.2.2.2.1, (upd Y.2.2.2.2.2.1 v2.toNatClampNeg (v3 + (Y.1.1 v2.toNatClampNeg))), Y.2.2.2.2.2.2.1, Y.2.2.2.2.2.2.2.1, Y.2.2.2.2.2.2.2.2)
    else
      (fX1_isNeeded Y.1 v2 v4).bind fun r33 =>
      if r33 = 0 then
        fX3_longestRow_20 k4 n v1 v2 v3 (v4 + 1) Y
      else
        tw_g v4 12 <|
        fX3_longestRow_20 k4 n v1 v2 (if v3 < (Y.2.2.2.2.2.1 v4.toNatClampNeg) then (Y.2.2.2.2.2.1 v4.toNatClampNeg) else v3) (v4 + 1) Y
def fX3_longestRow_4   : Nat → Int32 → Int32 → tw_Wl → Option (Int32 × tw_Wl)
  | 0, _, _, _ => none
  | n + 1, v1, v2, Y =>
    if Y.1.2.2.2.2.2.2.2.1 ≤ v2 then
      some (v1, Y)
    else
      fX3_longestRow_20 (fX3_longestRow_4 n) 512 v1 v2 (0 : Int32) (0 : Int32) Y
def fX3_longestRow (Y : tw_Wl)  : Option (Int32 × tw_Wl) :=
  fX3_longestRow_4 512 (0 : Int32) (0 : Int32) Y
def fX3_dropOldest (Y : tw_Wl)  : Option (tw_Wl) :=
  tw_q ((Y.2.2.2.2.2.2.2.2 (0 : Int32).toNatClampNeg) < 6) <|
  tw_q ((Y.2.2.2.2.2.2.2.2 (1 : Int32).toNatClampNeg) < 6) <|
  tw_q (((va_up Y.2.2.2.2.2.2.2.2 ((1 : Int32) - (1 : Int32)).toNatClampNeg (Y.2.2.2.2.2.2.2.2 (1 : Int32).toNatClampNeg)) ((1 : Int32) + 1).toNatClampNeg) < 6) <|
  tw_q (((va_up (va_up Y.2.2.2.2.2.2.2.2 ((1 : Int32) - (1 : Int32)).toNatClampNeg (Y.2.2.2.2.2.2.2.2 (1 : Int32).toNatClampNeg)) (((1 : Int32) + 1) - (1 : Int32)).toNatClampNeg ((va_up Y.2.2.2.2.2.2.2.2 ((1 : Int32) - (1 : Int32)).toNatClampNeg (Y.2.2.2.2.2.2.2.2 (1 : Int32).toNatClampNeg)) ((1 : Int32) + 1).toNatClampNeg)) (((1 : Int32) + 1) + 1).toNatClampNeg) < 6) <|
  tw_q (((va_up (va_up (va_up Y.2.2.2.2.2.2.2.2 ((1 : Int32) - (1 : Int32)).toNatClampNeg (Y.2.2.2.2.2.2.2.2 (1 : Int32).toNatClampNeg)) (((1 : Int32) + 1) - (1 : Int32)).toNatClampNeg ((va_up Y.2.2.2.2.2.2.2.2 ((1 : Int32) - (1 : Int32)).toNatClampNeg (Y.2.2.2.2.2.2.2.2 (1 : Int32).toNatClampNeg)) ((1 : Int32) + 1).toNatClampNeg)) ((((1 : Int32) + 1) + 1) - (1 : Int32)).toNatClampNeg ((va_up (va_up Y.2.2.2.2.2.2.2.2 ((1 : Int32) - (1 : Int32)).toNatClampNeg (Y.2.2.2.2.2.2.2.2 (1 : Int32).toNatClampNeg)) (((1 : Int32) + 1) - (1 : Int32)).toNatClampNeg ((va_up Y.2.2.2.2.2.2.2.2 ((1 : Int32) - (1 : Int32)).toNatClampNeg (Y.2.2.2.2.2.2.2.2 (1 : Int32).toNatClampNeg)) ((1 : Int32) + 1).toNatClampNeg)) (((1 : Int32) + 1) + 1).toNatClampNeg)) ((((1 : Int32) + 1) + 1) + 1).toNatClampNeg) < 6) <|
  tw_q (((va_up (va_up (va_up (va_up Y.2.2.2.2.2.2.2.2 ((1 : Int32) - (1 : Int32)).toNatClampNeg (Y.2.2.2.2.2.2.2.2 (1 : Int32).toNatClampNeg)) (((1 : Int32) + 1) - (1 : Int32)).toNatClampNeg ((va_up Y.2.2.2.2.2.2.2.2 ((1 : Int32) - (1 : Int32)).toNatClampNeg (Y.2.2.2.2.2.2.2.2 (1 : Int32).toNatClampNeg)) ((1 : Int32) + 1).toNatClampNeg)) ((((1 : Int32) + 1) + 1) - (1 : Int32)).toNatClampNeg ((va_up (va_up Y.2.2.2.2.2.2.2.2 ((1 : Int32) - (1 : Int32)).toNatClampNeg (Y.2.2.2.2.2.2.2.2 (1 : Int32).toNatClampNeg)) (((1 : Int32) + 1) - (1 : Int32)).toNatClampNeg ((va_up Y.2.2.2.2.2.2.2.2 ((1 : Int32) - (1 : Int32)).toNatClampNeg (Y.2.2.2.2.2.2.2.2 (1 : Int32).toNatClampNeg)) ((1 : Int32) + 1).toNatClampNeg)) (((1 : Int32) + 1) + 1).toNatClampNeg)) (((((1 : Int32) + 1) + 1) + 1) - (1 : Int32)).toNatClampNeg ((va_up (va_up (va_up Y.2.2.2.2.2.2.2.2 ((1 : Int32) - (1 : Int32)).toNatClampNeg (Y.2.2.2.2.2.2.2.2 (1 : Int32).toNatClampNeg)) (((1 : Int32) + 1) - (1 : Int32)).toNatClampNeg ((va_up Y.2.2.2.2.2.2.2.2 ((1 : Int32) - (1 : Int32)).toNatClampNeg (Y.2.2.2.2.2.2.2.2 (1 : Int32).toNatClampNeg)) ((1 : Int32) + 1).toNatClampNeg)) ((((1 : Int32) + 1) + 1) - (1 : Int32)).toNatClampNeg ((va_up (va_up Y.2.2.2.2.2.2.2.2 ((1 : Int32) - (1 : Int32)).toNatClampNeg (Y.2.2.2.2.2.2.2.2 (1 : Int32).toNatClampNeg)) (((1 : Int32) + 1) - (1 : Int32)).toNatClampNeg ((va_up Y.2.2.2.2.2.2.2.2 ((1 : Int32) - (1 : Int32)).toNatClampNeg (Y.2.2.2.2.2.2.2.2 (1 : Int32).toNatClampNeg)) ((1 : Int32) + 1).toNatClampNeg)) (((1 : Int32) + 1) + 1).toNatClampNeg)) ((((1 : Int32) + 1) + 1) + 1).toNatClampNeg)) (((((1 : Int32) + 1) + 1) + 1) + 1).toNatClampNeg) < 6) <|
  some (Y.1, Y.2.1, Y.2.2.1, Y.2.2.2.1, Y.2.2.2.2.1, Y.2.2.2.2.2.1, (5 : Int32), Y.2.2.2.2.2.2.2.1, (va_up (va_up (va_up (va_up (va_up (va_up Y.2.2.2.2.2.2.2.2 ((1 : Int32) - (1 : Int32)).toNatClampNeg (Y.2.2.2.2.2.2.2.2 (1 : Int32).toNatClampNeg)) (((1 : Int32) + 1) - (1 : Int32)).toNatClampNeg ((va_up Y.2.2.2.2.2.2.2.2 ((1 : Int32) - (1 : Int32)).toNatClampNeg (Y.2.2.2.2.2.2.2.2 (1 : Int32).toNatClampNeg)) ((1 : Int32) + 1).toNatClampNeg)) ((((1 : Int32) + 1) + 1) - (1 : Int32)).toNatClampNeg ((va_up (va_up Y.2.2.2.2.2.2.2.2 ((1 : Int32) - (1 : Int32)).toNatClampNeg (Y.2.2.2.2.2.2.2.2 (1 : Int32).toNatClampNeg)) (((1 : Int32) + 1) - (1 : Int32)).toNatClampNeg ((va_up Y.2.2.2.2.2.2.2.2 ((1 : Int32) - (1 : Int32)).toNatClampNeg (Y.2.2.2.2.2.2.2.2 (1 : Int32).toNatClampNeg)) ((1 : Int32) + 1).toNatClampNeg)) (((1 : Int32) + 1) + 1).toNatClampNeg)) (((((1 : Int32) + 1) + 1) + 1) - (1 : Int32)).toNatClampNeg ((va_up (va_up (va_up Y.2.2.2.2.2.2.2.2 ((1 : Int32) - (1 : Int32)).toNatClampNeg (Y.2.2.2.2.2.2.2.2 (1 : Int32).toNatClampNeg)) (((1 : Int32) + 1) - (1 : Int32)).toNatClampNeg ((va_up Y.2.2.2.2.2.2.2.2 ((1 : Int32) - (1 : Int32)).toNatClampNeg (Y.2.2.2.2.2.2.2.2 (1 : Int32).toNatClampNeg)) ((1 : Int32) + 1).toNatClampNeg)) ((((1 : Int32) + 1) + 1) - (1 : Int32)).toNatClampNeg ((va_up (va_up Y.2.2.2.2.2.2.2.2 ((1 : Int32) - (1 : Int32)).toNatClampNeg (Y.2.2.2.2.2.2.2.2 (1 : Int32).toNatClampNeg)) (((1 : Int32) + 1) - (1 : Int32)).toNatClampNeg ((va_up Y.2.2.2.2.2.2.2.2 ((1 : Int32) - (1 : Int32)).toNatClampNeg (Y.2.2.2.2.2.2.2.2 (1 : Int32).toNatClampNeg)) ((1 : Int32) + 1).toNatClampNeg)) (((1 : Int32) + 1) + 1).toNatClampNeg)) ((((1 : Int32) + 1) + 1) + 1).toNatClampNeg)) ((((((1 : Int32) + 1) + 1) + 1) + 1) - (1 : Int32)).toNatClampNeg ((va_up (va_up (va_up (va_up Y.2.2.2.2.2.2.2.2 ((1 : Int32) - (1 : Int32)).toNatClampNeg (Y.2.2.2.2.2.2.2.2 (1 : Int32).toNatClampNeg)) (((1 : Int32) + 1) - (1 : Int32)).toNatClampNeg ((va_up Y.2.2.2.2.2.2.2.2 ((1 : Int32) - (1 : Int32)).toNatClampNeg (Y.2.2.2.2.2.2.2.2 (1 : Int32).toNatClampNeg)) ((1 : Int32) + 1).toNatClampNeg)) ((((1 : Int32) + 1) + 1) - (1 : Int32)).toNatClampNeg ((va_up (va_up Y.2.2.2.2.2.2.2.2 ((1 : Int32) - (1 : Int32)).toNatClampNeg (Y.2.2.2.2.2.2.2.2 (1 : Int32).toNatClampNeg)) (((1 : Int32) + 1) - (1 : Int32)).toNatClampNeg ((va_up Y.2.2.2.2.2.2.2.2 ((1 : Int32) - (1 : Int32)).toNatClampNeg (Y.2.2.2.2.2.2.2.2 (1 : Int32).toNatClampNeg)) ((1 : Int32) + 1).toNatClampNeg)) (((1 : Int32) + 1) + 1).toNatClampNeg)) (((((1 : Int32) + 1) + 1) + 1) - (1 : Int32)).toNatClampNeg ((va_up (va_up (va_up Y.2.2.2.2.2.2.2.2 ((1 : Int32) - (1 : Int32)).toNatClampNeg (Y.2.2.2.2.2.2.2.2 (1 : Int32).toNatClampNeg)) (((1 : Int32) + 1) - (1 : Int32)).toNatClampNeg ((va_up Y.2.2.2.2.2.2.2.2 ((1 : Int32) - (1 : Int32)).toNatClampNeg (Y.2.2.2.2.2.2.2.2 (1 : Int32).toNatClampNeg)) ((1 : Int32) + 1).toNatClampNeg)) ((((1 : Int32) + 1) + 1) - (1 : Int32)).toNatClampNeg ((va_up (va_up Y.2.2.2.2.2.2.2.2 ((1 : Int32) - (1 : Int32)).toNatClampNeg (Y.2.2.2.2.2.2.2.2 (1 : Int32).toNatClampNeg)) (((1 : Int32) + 1) - (1 : Int32)).toNatClampNeg ((va_up Y.2.2.2.2.2.2.2.2 ((1 : Int32) - (1 : Int32)).toNatClampNeg (Y.2.2.2.2.2.2.2.2 (1 : Int32).toNatClampNeg)) ((1 : Int32) + 1).toNatClampNeg)) (((1 : Int32) + 1) + 1).toNatClampNeg)) ((((1 : Int32) + 1) + 1) + 1).toNatClampNeg)) (((((1 : Int32) + 1) + 1) + 1) + 1).toNatClampNeg)) (5 : Int32).toNatClampNeg (Y.2.2.2.2.2.2.2.2 (0 : Int32).toNatClampNeg)))
def fX3_saveState_13   (Y : tw_Wl) : Option (tw_Wl) :=
  tw_g Y.2.2.2.2.2.2.1 6 <|
  tw_q ((Y.2.2.2.2.2.2.2.2 Y.2.2.2.2.2.2.1.toNatClampNeg) < 6) <|
  (fX1_copyFrom (Y.2.2.2.2.2.2.2.1 (Y.2.2.2.2.2.2.2.2 Y.2.2.2.2.2.2.1.toNatClampNeg)) Y.1).bind fun r26 =>
  some (Y.1, Y.2.1, Y.2.2.1, Y.2.2.2.1, Y.2.2.2.2.1, Y.2.2.2.2.2.1, (Y.2.2.2.2.2.2.1 + (1 : Int32)), (va_up Y.2.2.2.2.2.2.2.1 (Y.2.2.2.2.2.2.2.2 Y.2.2.2.2.2.2.1.toNatClampNeg) r26), Y.2.2.2.2.2.2.2.2)
def fX3_saveState (Y : tw_Wl)  : Option (tw_Wl) :=
  if Y.2.2.2.2.2.2.1 < (6 : Int32) then
    fX3_saveState_13 Y
  else
    (fX3_dropOldest Y).bind fun r10 =>
    fX3_saveState_13 r10
def fX3_add (Y : tw_Wl) (p1 : Int32) (p2 : Int32) (p3 : Int32) : Option (Nat × Int32 × tw_Wl) :=
  (fX3_isLength p1).bind fun r1 =>
  if r1 = 0 then
    some (1, 0, Y)
  else
    (fX3_isPersonOrNone p2).bind fun r8 =>
    if r8 = 0 then
      some (1, 0, Y)
    else
      (fX3_isHallOrNone p3).bind fun r15 =>
      if ¬ r15 = 0 then
        if Y.1.2.2.2.2.2.2.2.1 < (12 : Int32) then
          (fX3_saveState Y).bind fun r50 =>
          (fX1_appendTask r50.1 p1 p2 p3).bind fun r60 =>
          (fX0_lay r50.2.1 r60).bind fun r71 =>
          some (0, (r60.2.2.2.2.2.2.2.1 - (1 : Int32)), (r60, r71, r50.2.2.1, r50.2.2.2.1, r50.2.2.2.2.1, r50.2.2.2.2.2.1, r50.2.2.2.2.2.2.1, r50.2.2.2.2.2.2.2.1, r50.2.2.2.2.2.2.2.2))
        else
          some (2, 0, Y)
      else
        some (1, 0, Y)
def fX3_remove (Y : tw_Wl) (p1 : Int32) : Option (Nat × Int32 × tw_Wl) :=
  (fX3_isTask Y p1).bind fun r2 =>
  if ¬ r2 = 0 then
    (fX1_followers Y.1 p1).bind fun r21 =>
    (fX3_saveState Y).bind fun r26 =>
    (fX1_dropTask r26.1 p1).bind fun r34 =>
    (fX0_lay r26.2.1 r34).bind fun r45 =>
    some (0, r21, (r34, r45, r26.2.2.1, r26.2.2.2.1, r26.2.2.2.2.1, r26.2.2.2.2.2.1, r26.2.2.2.2.2.2.1, r26.2.2.2.2.2.2.2.1, r26.2.2.2.2.2.2.2.2))
  else
    some (3, 0, Y)
def fX3_need_99 (p1 : Int32) (p2 : Int32) (p3 : Int32)  (v4 : Int32) (Y : tw_Wl) : Option (Nat × Int32 × tw_Wl) :=
  (fX0_lay Y.2.1 Y.1).bind fun r107 =>
  some (0, v4, (Y.1, r107, Y.2.2.1, Y.2.2.2.1, Y.2.2.2.2.1, Y.2.2.2.2.2.1, Y.2.2.2.2.2.2.1, Y.2.2.2.2.2.2.2.1, Y.2.2.2.2.2.2.2.2))
def fX3_need_54 (p1 : Int32) (p2 : Int32) (p3 : Int32)  (t0 : Int32) (Y : tw_Wl) : Option (Nat × Int32 × tw_Wl) :=
  (fX3_saveState Y).bind fun r57 =>
  if p3 = 0 then
    tw_g p1 12 <|
    tw_g p1 12 <|
    fX3_need_99 p1 p2 p3 t0 ((r57.1.1, r57.1.2.1, r57.1.2.2.1, r57.1.2.2.2.1, (upd r57.1.2.2.2.2.1 p1.toNatClampNeg ((r57.1.2.2.2.2.1 p1.toNatClampNeg) &&& (((1 : Int32) <<< (p2 &&& 31)) ^^^ (-1 : Int32)))), r57.1.2.2.2.2.2.1, r57.1.2.2.2.2.2.2.1, r57.1.2.2.2.2.2.2.2.1, r57.1.2.2.2.2.2.2.2.2), r57.2.1, r57.2.2.1, r57.2.2.2.1, r57.2.2.2.2.1, r57.2.2.2.2.2.1, r57.2.2.2.2.2.2.1, r57.2.2.2.2.2.2.2.1, r57.2.2.2.2.2.2.2.2)
  else
    tw_g p1 12 <|
    tw_g p1 12 <|
    fX3_need_99 p1 p2 p3 t0 ((r57.1.1, r57.1.2.1, r57.1.2.2.1, r57.1.2.2.2.1, (upd r57.1.2.2.2.2.1 p1.toNatClampNeg ((r57.1.2.2.2.2.1 p1.toNatClampNeg) ||| ((1 : Int32) <<< (p2 &&& 31)))), r57.1.2.2.2.2.2.1, r57.1.2.2.2.2.2.2.1, r57.1.2.2.2.2.2.2.2.1, r57.1.2.2.2.2.2.2.2.2), r57.2.1, r57.2.2.1, r57.2.2.2.1, r57.2.2.2.2.1, r57.2.2.2.2.2.1, r57.2.2.2.2.2.2.1, r57.2.2.2.2.2.2.2.1, r57.2.2.2.2.2.2.2.2)
def fX3_need (Y : tw_Wl) (p1 : Int32) (p2 : Int32) (p3 : Int32) : Option (Nat × Int32 × tw_Wl) :=
  (fX3_isTask Y p1).bind fun r2 =>
  if r2 = 0 then
    some (3, 0, Y)
  else
    (fX3_isTask Y p2).bind fun r10 =>
    if ¬ r10 = 0 then
      if p2 < p1 then
        (fX1_isNeeded Y.1 p1 p2).bind fun r43 =>
        if r43 = 0 then
          fX3_need_54 p1 p2 p3 (0 : Int32) Y
        else
          fX3_need_54 p1 p2 p3 (1 : Int32) Y
      else
        some (1, 0, Y)
    else
      some (3, 0, Y)
def fX3_change (Y : tw_Wl) (p1 : Int32) (p2 : Int32) (p3 : Int32) : Option (Nat × Int32 × tw_Wl) :=
  (fX3_isTask Y p1).bind fun r2 =>
  if ¬ r2 = 0 then
    (fX3_isValue p2 p3).bind fun r18 =>
    if ¬ r18 = 0 then
      (fX3_saveState Y).bind fun r33 =>
      (fX1_property r33.1 p2).bind fun r41 =>
      if r41 = 1 then
        tw_g p1 12 <|
        tw_g p1 12 <|
        (fX0_lay r33.2.1 ((upd r33.1.1 p1.toNatClampNeg p3), r33.1.2.1, r33.1.2.2.1, r33.1.2.2.2.1, r33.1.2.2.2.2.1, r33.1.2.2.2.2.2.1, r33.1.2.2.2.2.2.2.1, r33.1.2.2.2.2.2.2.2.1, r33.1.2.2.2.2.2.2.2.2)).bind fun r65 =>
        some (0, (r33.1.1 p1.toNatClampNeg), (((upd r33.1.1 p1.toNatClampNeg p3), r33.1.2.1, r33.1.2.2.1, r33.1.2.2.2.1, r33.1.2.2.2.2.1, r33.1.2.2.2.2.2.1, r33.1.2.2.2.2.2.2.1, r33.1.2.2.2.2.2.2.2.1, r33.1.2.2.2.2.2.2.2.2), r65, r33.2.2.1, r33.2.2.2.1, r33.2.2.2.2.1, r33.2.2.2.2.2.1, r33.2.2.2.2.2.2.1, r33.2.2.2.2.2.2.2.1, r33.2.2.2.2.2.2.2.2))
      else if r41 = 2 then
        tw_g p1 12 <|
        tw_g p1 12 <|
        (fX0_lay r33.2.1 (r33.1.1, (upd r33.1.2.1 p1.toNatClampNeg p3), r33.1.2.2.1, r33.1.2.2.2.1, r33.1.2.2.2.2.1, r33.1.2.2.2.2.2.1, r33.1.2.2.2.2.2.2.1, r33.1.2.2.2.2.2.2.2.1, r33.1.2.2.2.2.2.2.2.2)).bind fun r65 =>
        some (0, (r33.1.2.1 p1.toNatClampNeg), ((r33.1.1, (upd r33.1.2.1 p1.toNatClampNeg p3), r33.1.2.2.1, r33.1.2.2.2.1, r33.1.2.2.2.2.1, r33.1.2.2.2.2.2.1, r33.1.2.2.2.2.2.2.1, r33.1.2.2.2.2.2.2.2.1, r33.1.2.2.2.2.2.2.2.2), r65, r33.2.2.1, r33.2.2.2.1, r33.2.2.2.2.1, r33.2.2.2.2.2.1, r33.2.2.2.2.2.2.1, r33.2.2.2.2.2.2.2.1, r33.2.2.2.2.2.2.2.2))
      else if r41 = 3 then
        tw_g p1 12 <|
        tw_g p1 12 <|
        (fX0_lay r33.2.1 (r33.1.1, r33.1.2.1, (upd r33.1.2.2.1 p1.toNatClampNeg p3), r33.1.2.2.2.1, r33.1.2.2.2.2.1, r33.1.2.2.2.2.2.1, r33.1.2.2.2.2.2.2.1, r33.1.2.2.2.2.2.2.2.1, r33.1.2.2.2.2.2.2.2.2)).bind fun r65 =>
        some (0, (r33.1.2.2.1 p1.toNatClampNeg), ((r33.1.1, r33.1.2.1, (upd r33.1.2.2.1 p1.toNatClampNeg p3), r33.1.2.2.2.1, r33.1.2.2.2.2.1, r33.1.2.2.2.2.2.1, r33.1.2.2.2.2.2.2.1, r33.1.2.2.2.2.2.2.2.1, r33.1.2.2.2.2.2.2.2.2), r65, r33.2.2.1, r33.2.2.2.1, r33.2.2.2.2.1, r33.2.2.2.2.2.1, r33.2.2.2.2.2.2.1, r33.2.2.2.2.2.2.2.1, r33.2.2.2.2.2.2.2.2))
      else if r41 = 4 then
        tw_g p1 12 <|
        tw_g p1 12 <|
        (fX0_lay r33.2.1 (r33.1.1, r33.1.2.1, r33.1.2.2.1, (upd r33.1.2.2.2.1 p1.toNatClampNeg p3), r33.1.2.2.2.2.1, r33.1.2.2.2.2.2.1, r33.1.2.2.2.2.2.2.1, r33.1.2.2.2.2.2.2.2.1, r33.1.2.2.2.2.2.2.2.2)).bind fun r65 =>
        some (0, (r33.1.2.2.2.1 p1.toNatClampNeg), ((r33.1.1, r33.1.2.1, r33.1.2.2.1, (upd r33.1.2.2.2.1 p1.toNatClampNeg p3), r33.1.2.2.2.2.1, r33.1.2.2.2.2.2.1, r33.1.2.2.2.2.2.2.1, r33.1.2.2.2.2.2.2.2.1, r33.1.2.2.2.2.2.2.2.2), r65, r33.2.2.1, r33.2.2.2.1, r33.2.2.2.2.1, r33.2.2.2.2.2.1, r33.2.2.2.2.2.2.1, r33.2.2.2.2.2.2.2.1, r33.2.2.2.2.2.2.2.2))
      else if r41 = 5 then
        tw_g p1 12 <|
        tw_g p1 12 <|
        (fX0_lay r33.2.1 (r33.1.1, r33.1.2.1, r33.1.2.2.1, r33.1.2.2.2.1, (upd r33.1.2.2.2.2.1 p1.toNatClampNeg p3), r33.1.2.2.2.2.2.1, r33.1.2.2.2.2.2.2.1, r33.1.2.2.2.2.2.2.2.1, r33.1.2.2.2.2.2.2.2.2)).bind fun r65 =>
        some (0, (r33.1.2.2.2.2.1 p1.toNatClampNeg), ((r33.1.1, r33.1.2.1, r33.1.2.2.1, r33.1.2.2.2.1, (upd r33.1.2.2.2.2.1 p1.toNatClampNeg p3), r33.1.2.2.2.2.2.1, r33.1.2.2.2.2.2.2.1, r33.1.2.2.2.2.2.2.2.1, r33.1.2.2.2.2.2.2.2.2), r65, r33.2.2.1, r33.2.2.2.1, r33.2.2.2.2.1, r33.2.2.2.2.2.1, r33.2.2.2.2.2.2.1, r33.2.2.2.2.2.2.2.1, r33.2.2.2.2.2.2.2.2))
      else 
        none
    else
      some (1, 0, Y)
  else
    some (3, 0, Y)
def fX3_slip (Y : tw_Wl) (p1 : Int32) (p2 : Int32) : Option (Nat × Int32 × tw_Wl) :=
  (fX3_isTask Y p1).bind fun r2 =>
  if ¬ r2 = 0 then
    (fX3_isSlip p2).bind fun r17 =>
    if ¬ r17 = 0 then
      (fX3_couldSlip Y p1 p2).bind fun r34 =>
      if ¬ r34 = 0 then
        (fX3_saveState Y).bind fun r57 =>
        tw_g p1 12 <|
        tw_g p1 12 <|
        (fX0_lay r57.2.1 (r57.1.1, r57.1.2.1, r57.1.2.2.1, (upd r57.1.2.2.2.1 p1.toNatClampNeg ((r57.2.1.1 p1.toNatClampNeg) + p2)), r57.1.2.2.2.2.1, r57.1.2.2.2.2.2.1, r57.1.2.2.2.2.2.2.1, r57.1.2.2.2.2.2.2.2.1, r57.1.2.2.2.2.2.2.2.2)).bind fun r88 =>
        some (0, (r88.2.2.2.2 - Y.2.1.2.2.2.2), ((r57.1.1, r57.1.2.1, r57.1.2.2.1, (upd r57.1.2.2.2.1 p1.toNatClampNeg ((r57.2.1.1 p1.toNatClampNeg) + p2)), r57.1.2.2.2.2.1, r57.1.2.2.2.2.2.1, r57.1.2.2.2.2.2.2.1, r57.1.2.2.2.2.2.2.2.1, r57.1.2.2.2.2.2.2.2.2), r88, r57.2.2.1, r57.2.2.2.1, r57.2.2.2.2.1, r57.2.2.2.2.2.1, r57.2.2.2.2.2.2.1, r57.2.2.2.2.2.2.2.1, r57.2.2.2.2.2.2.2.2))
      else
        some (2, 0, Y)
    else
      some (1, 0, Y)
  else
    some (3, 0, Y)
def fX3_borrow (Y : tw_Wl) (p1 : Int32) (p2 : Int32) (p3 : Int32) : Option (Nat × Int32 × tw_Wl) :=
  (fX3_isHall p1).bind fun r1 =>
  if ¬ r1 = 0 then
    (fX3_isDay p2).bind fun r16 =>
    if r16 = 0 then
      some (1, 0, Y)
    else
      (fX3_isDay p3).bind fun r23 =>
      if r23 = 0 then
        some (1, 0, Y)
      else
        if p2 ≤ p3 then
          (fX3_saveState Y).bind fun r43 =>
          tw_g p1 4 <|
          tw_g p1 4 <|
          (fX0_lay r43.2.1 (r43.1.1, r43.1.2.1, r43.1.2.2.1, r43.1.2.2.2.1, r43.1.2.2.2.2.1, (upd r43.1.2.2.2.2.2.1 p1.toNatClampNeg p2), (upd r43.1.2.2.2.2.2.2.1 p1.toNatClampNeg p3), r43.1.2.2.2.2.2.2.2.1, r43.1.2.2.2.2.2.2.2.2)).bind fun r74 =>
          some (0, r74.2.2.2.1, ((r43.1.1, r43.1.2.1, r43.1.2.2.1, r43.1.2.2.2.1, r43.1.2.2.2.2.1, (upd r43.1.2.2.2.2.2.1 p1.toNatClampNeg p2), (upd r43.1.2.2.2.2.2.2.1 p1.toNatClampNeg p3), r43.1.2.2.2.2.2.2.2.1, r43.1.2.2.2.2.2.2.2.2), r74, r43.2.2.1, r43.2.2.2.1, r43.2.2.2.2.1, r43.2.2.2.2.2.1, r43.2.2.2.2.2.2.1, r43.2.2.2.2.2.2.2.1, r43.2.2.2.2.2.2.2.2))
        else
          some (1, 0, Y)
  else
    some (3, 0, Y)
def fX3_rule (Y : tw_Wl) (p1 : Int32) : Option (Nat × Int32 × tw_Wl) :=
  (fX3_isRule p1).bind fun r1 =>
  if ¬ r1 = 0 then
    (fX3_saveState Y).bind fun r24 =>
    (fX0_lay r24.2.1 (r24.1.1, r24.1.2.1, r24.1.2.2.1, r24.1.2.2.2.1, r24.1.2.2.2.2.1, r24.1.2.2.2.2.2.1, r24.1.2.2.2.2.2.2.1, r24.1.2.2.2.2.2.2.2.1, p1)).bind fun r43 =>
    some (0, Y.1.2.2.2.2.2.2.2.2, ((r24.1.1, r24.1.2.1, r24.1.2.2.1, r24.1.2.2.2.1, r24.1.2.2.2.2.1, r24.1.2.2.2.2.2.1, r24.1.2.2.2.2.2.2.1, r24.1.2.2.2.2.2.2.2.1, p1), r43, r24.2.2.1, r24.2.2.2.1, r24.2.2.2.2.1, r24.2.2.2.2.2.1, r24.2.2.2.2.2.2.1, r24.2.2.2.2.2.2.2.1, r24.2.2.2.2.2.2.2.2))
  else
    some (1, 0, Y)
def fX3_append (Y : tw_Wl) (p1 : Int32) : Option (Nat × Int32 × tw_Wl) :=
  if p1 < (33 : Int32) then
    some (1, 0, Y)
  else
    if p1 ≤ (126 : Int32) then
      if Y.2.2.2.2.1.2 < (60 : Int32) then
        tw_g Y.2.2.2.2.1.2 60 <|
        some (0, (Y.2.2.2.2.1.2 + (1 : Int32)), (Y.1, Y.2.1, Y.2.2.1, Y.2.2.2.1, ((upd Y.2.2.2.2.1.1 Y.2.2.2.2.1.2.toNatClampNeg p1), (Y.2.2.2.2.1.2 + (1 : Int32))), Y.2.2.2.2.2.1, Y.2.2.2.2.2.2.1, Y.2.2.2.2.2.2.2.1, Y.2.2.2.2.2.2.2.2))
      else
        some (2, 0, Y)
    else
      some (1, 0, Y)
def fX3_clearBuffer (Y : tw_Wl)  : Option (Int32 × tw_Wl) :=
  some (Y.2.2.2.2.1.2, (Y.1, Y.2.1, Y.2.2.1, Y.2.2.2.1, (Y.2.2.2.2.1.1, (0 : Int32)), Y.2.2.2.2.2.1, Y.2.2.2.2.2.2.1, Y.2.2.2.2.2.2.2.1, Y.2.2.2.2.2.2.2.2))
def fX3_firstError (Y : tw_Wl)  : Option (Int32) :=
  (fX2_firstWrong Y.2.2.2.2.1).bind fun r4 =>
  some r4
def fX3_addAll (Y : tw_Wl)  : Option (Nat × Int32 × tw_Wl) :=
  (fX2_isComplete Y.2.2.2.2.1).bind fun r4 =>
  if ¬ r4 = 0 then
    (fX1_copyFrom Y.2.2.1 Y.1).bind fun r26 =>
    (fX2_addTasksTo Y.2.2.2.2.1 r26).bind fun r37 =>
    if ¬ r37.1 = 0 then
      (fX3_saveState (Y.1, Y.2.1, r37.2, Y.2.2.2.1, Y.2.2.2.2.1, Y.2.2.2.2.2.1, Y.2.2.2.2.2.2.1, Y.2.2.2.2.2.2.2.1, Y.2.2.2.2.2.2.2.2)).bind fun r52 =>
      (fX1_copyFrom r52.1 r52.2.2.1).bind fun r63 =>
      (fX0_lay r52.2.1 r63).bind fun r82 =>
      some (0, r63.2.2.2.2.2.2.2.1, (r63, r82, r52.2.2.1, r52.2.2.2.1, (r52.2.2.2.2.1.1, (0 : Int32)), r52.2.2.2.2.2.1, r52.2.2.2.2.2.2.1, r52.2.2.2.2.2.2.2.1, r52.2.2.2.2.2.2.2.2))
    else
      some (2, 0, (Y.1, Y.2.1, r37.2, Y.2.2.2.1, Y.2.2.2.2.1, Y.2.2.2.2.2.1, Y.2.2.2.2.2.2.1, Y.2.2.2.2.2.2.2.1, Y.2.2.2.2.2.2.2.2))
  else
    some (1, 0, Y)
def fX3_undo (Y : tw_Wl)  : Option (Nat × Int32 × tw_Wl) :=
  if 0 < Y.2.2.2.2.2.2.1 then
    tw_g (Y.2.2.2.2.2.2.1 - (1 : Int32)) 6 <|
    tw_q ((Y.2.2.2.2.2.2.2.2 (Y.2.2.2.2.2.2.1 - (1 : Int32)).toNatClampNeg) < 6) <|
    (fX1_copyFrom Y.1 (Y.2.2.2.2.2.2.2.1 (Y.2.2.2.2.2.2.2.2 (Y.2.2.2.2.2.2.1 - (1 : Int32)).toNatClampNeg))).bind fun r38 =>
    (fX0_lay Y.2.1 r38).bind fun r49 =>
    some (0, (Y.2.2.2.2.2.2.1 - (1 : Int32)), (r38, r49, Y.2.2.1, Y.2.2.2.1, Y.2.2.2.2.1, Y.2.2.2.2.2.1, (Y.2.2.2.2.2.2.1 - (1 : Int32)), Y.2.2.2.2.2.2.2.1, Y.2.2.2.2.2.2.2.2))
  else
    some (2, 0, Y)
def fX3_task (Y : tw_Wl) (p1 : Int32) (p2 : Int32) : Option (Nat × Int32 × tw_Wl) :=
  (fX3_isTask Y p1).bind fun r2 =>
  if ¬ r2 = 0 then
    if p2 < 0 then
      some (1, 0, Y)
    else
      if p2 < (9 : Int32) then
        if p2 = 5 then
          (fX1_followers Y.1 p1).bind fun r69 =>
          some (0, r69, Y)
        else if p2 = 6 then
          tw_g p1 12 <|
          some (0, (Y.2.1.1 p1.toNatClampNeg), Y)
        else if p2 = 7 then
          (fX3_slackOf Y p1).bind fun r85 =>
          some (0, r85.1, r85.2)
        else if p2 = 8 then
          (fX0_waitOf Y.2.1 Y.1 p1).bind fun r98 =>
          some (0, r98, Y)
        else 
          (fX1_property Y.1 p2).bind fun r107 =>
          if r107 = 1 then
            tw_g p1 12 <|
            some (0, (Y.1.1 p1.toNatClampNeg), Y)
          else if r107 = 2 then
            tw_g p1 12 <|
            some (0, (Y.1.2.1 p1.toNatClampNeg), Y)
          else if r107 = 3 then
            tw_g p1 12 <|
            some (0, (Y.1.2.2.1 p1.toNatClampNeg), Y)
          else if r107 = 4 then
            tw_g p1 12 <|
            some (0, (Y.1.2.2.2.1 p1.toNatClampNeg), Y)
          else if r107 = 5 then
            tw_g p1 12 <|
            some (0, (Y.1.2.2.2.2.1 p1.toNatClampNeg), Y)
          else 
            none
      else
        some (1, 0, Y)
  else
    some (3, 0, Y)
def fX3_personOn (Y : tw_Wl) (p1 : Int32) (p2 : Int32) : Option (Nat × Int32) :=
  (fX3_isPerson p1).bind fun r1 =>
  if r1 = 0 then
    some (3, 0)
  else
    (fX3_isDay p2).bind fun r8 =>
    if ¬ r8 = 0 then
      (fX0_taskOnP Y.2.1 Y.1 p1 p2).bind fun r39 =>
      some (0, r39)
    else
      some (3, 0)
def fX3_hallOn (Y : tw_Wl) (p1 : Int32) (p2 : Int32) : Option (Nat × Int32) :=
  (fX3_isHall p1).bind fun r1 =>
  if r1 = 0 then
    some (3, 0)
  else
    (fX3_isDay p2).bind fun r8 =>
    if ¬ r8 = 0 then
      (fX0_taskOnH Y.2.1 Y.1 p1 p2).bind fun r39 =>
      some (0, r39)
    else
      some (3, 0)
def fX3_hall (Y : tw_Wl) (p1 : Int32) (p2 : Int32) : Option (Nat × Int32) :=
  (fX3_isHall p1).bind fun r1 =>
  if ¬ r1 = 0 then
    if p2 < 0 then
      some (1, 0)
    else
      if p2 < (4 : Int32) then
        if p2 = 0 then
          tw_g p1 4 <|
          some (0, (Y.1.2.2.2.2.2.1 p1.toNatClampNeg))
        else if p2 = 1 then
          tw_g p1 4 <|
          some (0, (Y.1.2.2.2.2.2.2.1 p1.toNatClampNeg))
        else if p2 = 2 then
          (fX0_daysIn Y.2.1 Y.1 p1).bind fun r89 =>
          some (0, r89)
        else 
          (fX0_tasksIn Y.2.1 Y.1 p1).bind fun r102 =>
          some (0, r102)
      else
        some (1, 0)
  else
    some (3, 0)
def fX3_count (Y : tw_Wl) (p1 : Int32) : Option (Nat × Int32 × tw_Wl) :=
  if p1 < 0 then
    some (1, 0, Y)
  else
    if p1 < (9 : Int32) then
      if p1 = 0 then
        some (0, Y.1.2.2.2.2.2.2.2.1, Y)
      else if p1 = 1 then
        some (0, Y.2.1.2.2.2.1, Y)
      else if p1 = 2 then
        some (0, (Y.1.2.2.2.2.2.2.2.1 - Y.2.1.2.2.2.1), Y)
      else if p1 = 3 then
        some (0, Y.2.1.2.2.2.2, Y)
      else if p1 = 4 then
        (fX1_lengthOfAll Y.1).bind fun r108 =>
        some (0, r108, Y)
      else if p1 = 5 then
        (fX3_criticalTasks Y).bind fun r113 =>
        some (0, r113.1, r113.2)
      else if p1 = 6 then
        (fX0_waitOfAll Y.2.1 Y.1).bind fun r125 =>
        some (0, r125, Y)
      else if p1 = 7 then
        (fX3_longestRow Y).bind fun r130 =>
        some (0, r130.1, r130.2)
      else 
        some (0, Y.2.2.2.2.2.2.1, Y)
    else
      some (1, 0, Y)
def fX3_setting (Y : tw_Wl)  : Option (Int32) :=
  some Y.1.2.2.2.2.2.2.2.2
def fX3_ifRule (Y : tw_Wl) (p1 : Int32) (p2 : Int32) : Option (Nat × Int32 × tw_Wl) :=
  (fX3_isRule p1).bind fun r1 =>
  if r1 = 0 then
    some (1, 0, Y)
  else
    if p2 < 0 then
      some (1, 0, Y)
    else
      if p2 < (3 : Int32) then
        (fX3_tryRule Y p1).bind fun r26 =>
        if p2 = 0 then
          some (0, r26.2.2.2.1.2.2.2.2, r26)
        else if p2 = 1 then
          some (0, r26.2.2.2.1.2.2.2.1, r26)
        else 
          (fX0_waitOfAll r26.2.2.2.1 r26.2.2.1).bind fun r80 =>
          some (0, r80, r26)
      else
        some (1, 0, Y)
def fX3_bestRule_9   : Nat → Int32 → Int32 → Int32 → Int32 → tw_Wl → Option (Int32 × tw_Wl)
  | 0, _, _, _, _, _ => none
  | n + 1, v1, v2, v3, v4, Y =>
    if (4 : Int32) ≤ v4 then
      some (v1, Y)
    else
      (fX3_tryRule Y v4).bind fun r18 =>
      if v2 < r18.2.2.2.1.2.2.2.1 then
        fX3_bestRule_9 n v4 r18.2.2.2.1.2.2.2.1 r18.2.2.2.1.2.2.2.2 (v4 + 1) r18
      else
        if ¬ r18.2.2.2.1.2.2.2.1 = v2 then
          fX3_bestRule_9 n v1 v2 v3 (v4 + 1) r18
        else
          if v3 ≤ r18.2.2.2.1.2.2.2.2 then
            fX3_bestRule_9 n v1 v2 v3 (v4 + 1) r18
          else
            fX3_bestRule_9 n v4 r18.2.2.2.1.2.2.2.1 r18.2.2.2.1.2.2.2.2 (v4 + 1) r18
def fX3_bestRule (Y : tw_Wl)  : Option (Int32 × tw_Wl) :=
  fX3_bestRule_9 512 (0 : Int32) (-1 : Int32) (0 : Int32) (0 : Int32) Y
def fX3_ifFreed_28 (p1 : Int32)  : Nat → Int32 → tw_Wl → Option (Nat × Int32 × tw_Wl)
  | 0, _, _ => none
  | n + 1, v2, Y =>
    if Y.2.2.1.2.2.2.2.2.2.2.1 ≤ v2 then
      (fX0_lay Y.2.2.2.1 Y.2.2.1).bind fun r76 =>
      some (0, r76.2.2.2.2, (Y.1, Y.2.1, Y.2.2.1, r76, Y.2.2.2.2.1, Y.2.2.2.2.2.1, Y.2.2.2.2.2.2.1, Y.2.2.2.2.2.2.2.1, Y.2.2.2.2.2.2.2.2))
    else
      tw_g v2 12 <|
      if ¬ (Y.2.2.1.2.1 v2.toNatClampNeg) = p1 then
        fX3_ifFreed_28 p1 n (v2 + 1) Y
      else
        tw_g v2 12 <|
        fX3_ifFreed_28 p1 n (v2 + 1) (Y.1, Y.2.1, (Y.2.2.1.1, (upd Y.2.2.1.2.1 v2.toNatClampNeg (-1 : Int32)), Y.2.2.1.2.2.1, Y.2.2.1.2.2.2.1, Y.2.2.1.2.2.2.2.1, Y.2.2.1.2.2.2.2.2.1, Y.2.2.1.2.2.2.2.2.2.1, Y.2.2.1.2.2.2.2.2.2.2.1, Y.2.2.1.2.2.2.2.2.2.2.2), Y.2.2.2.1, Y.2.2.2.2.1, Y.2.2.2.2.2.1, Y.2.2.2.2.2.2.1, Y.2.2.2.2.2.2.2.1, Y.2.2.2.2.2.2.2.2)
def fX3_ifFreed (Y : tw_Wl) (p1 : Int32) : Option (Nat × Int32 × tw_Wl) :=
  (fX3_isPerson p1).bind fun r1 =>
  if ¬ r1 = 0 then
    (fX1_copyFrom Y.2.2.1 Y.1).bind fun r23 =>
    fX3_ifFreed_28 p1 512 (0 : Int32) (Y.1, Y.2.1, r23, Y.2.2.2.1, Y.2.2.2.2.1, Y.2.2.2.2.2.1, Y.2.2.2.2.2.2.1, Y.2.2.2.2.2.2.2.1, Y.2.2.2.2.2.2.2.2)
  else
    some (3, 0, Y)
def fX3_worstSlip_22 (p1 : Int32)  : Nat → Int32 → Int32 → Int32 → tw_Wl → Option (Nat × Int32 × tw_Wl)
  | 0, _, _, _, _ => none
  | n + 1, v2, v3, v4, Y =>
    if Y.1.2.2.2.2.2.2.2.1 ≤ v4 then
      some (0, v2, Y)
    else
      (fX3_couldSlip Y v4 p1).bind fun r38 =>
      if r38 = 0 then
        fX3_worstSlip_22 p1 n v2 v3 (v4 + 1) Y
      else
        (fX1_copyFrom Y.2.2.1 Y.1).bind fun r52 =>
        tw_g v4 12 <|
        tw_g v4 12 <|
        (fX0_lay Y.2.2.2.1 (r52.1, r52.2.1, r52.2.2.1, (upd r52.2.2.2.1 v4.toNatClampNeg ((Y.2.1.1 v4.toNatClampNeg) + p1)), r52.2.2.2.2.1, r52.2.2.2.2.2.1, r52.2.2.2.2.2.2.1, r52.2.2.2.2.2.2.2.1, r52.2.2.2.2.2.2.2.2)).bind fun r85 =>
        if r85.2.2.2.2 ≤ v3 then
          fX3_worstSlip_22 p1 n v2 v3 (v4 + 1) (Y.1, Y.2.1, (r52.1, r52.2.1, r52.2.2.1, (upd r52.2.2.2.1 v4.toNatClampNeg ((Y.2.1.1 v4.toNatClampNeg) + p1)), r52.2.2.2.2.1, r52.2.2.2.2.2.1, r52.2.2.2.2.2.2.1, r52.2.2.2.2.2.2.2.1, r52.2.2.2.2.2.2.2.2), r85, Y.2.2.2.2.1, Y.2.2.2.2.2.1, Y.2.2.2.2.2.2.1, Y.2.2.2.2.2.2.2.1, Y.2.2.2.2.2.2.2.2)
        else
          fX3_worstSlip_22 p1 n v4 r85.2.2.2.2 (v4 + 1) (Y.1, Y.2.1, (r52.1, r52.2.1, r52.2.2.1, (upd r52.2.2.2.1 v4.toNatClampNeg ((Y.2.1.1 v4.toNatClampNeg) + p1)), r52.2.2.2.2.1, r52.2.2.2.2.2.1, r52.2.2.2.2.2.2.1, r52.2.2.2.2.2.2.2.1, r52.2.2.2.2.2.2.2.2), r85, Y.2.2.2.2.1, Y.2.2.2.2.2.1, Y.2.2.2.2.2.2.1, Y.2.2.2.2.2.2.2.1, Y.2.2.2.2.2.2.2.2)
def fX3_worstSlip (Y : tw_Wl) (p1 : Int32) : Option (Nat × Int32 × tw_Wl) :=
  (fX3_isSlip p1).bind fun r1 =>
  if ¬ r1 = 0 then
    fX3_worstSlip_22 p1 512 (-1 : Int32) (-1 : Int32) (0 : Int32) Y
  else
    some (1, 0, Y)
def fX3_busyness (Y : tw_Wl)  : Option (UInt64) :=
  if 0 < Y.2.1.2.2.2.2 then
    (fX0_lengthOfLaid Y.2.1 Y.1).bind fun r22 =>
    tw_q ((FP.ddiv (FP.i2d r22) (FP.i2d Y.2.1.2.2.2.2)) &&& 0x7fffffffffffffff ≤ 0x7ff0000000000000) <|
    some (FP.ddiv (FP.i2d r22) (FP.i2d Y.2.1.2.2.2.2))
  else
    some FP.dconst0
def fX3_withTasks_20 (p1 : Int64) (k5 : Int64 → Int32 → tw_Wl → Option (Int64 × tw_Wl)) : Nat → Int64 → Int32 → Int32 → tw_Wl → Option (Int64 × tw_Wl)
  | 0, _, _, _, _ => none
  | n + 1, v3, v5, v6, Y =>
    if (9 : Int32) ≤ v6 then
      k5 v3 (v5 + 1) Y
    else
      (fX3_task Y v5 v6).bind fun r37 =>
      tw_q (r37.1 = 0) <|
      fX3_withTasks_20 p1 k5 n (((31 : Int64) * v3) + r37.2.1.toInt64) v5 (v6 + 1) r37.2.2
def fX3_withTasks_5 (p1 : Int64)  : Nat → Int64 → Int32 → tw_Wl → Option (Int64 × tw_Wl)
  | 0, _, _, _ => none
  | n + 1, v3, v5, Y =>
    if Y.1.2.2.2.2.2.2.2.1 ≤ v5 then
      some (v3, Y)
    else
      fX3_withTasks_20 p1 (fX3_withTasks_5 p1 n) 512 v3 v5 (0 : Int32) Y
def fX3_withTasks (Y : tw_Wl) (p1 : Int64) : Option (Int64 × tw_Wl) :=
  fX3_withTasks_5 p1 512 p1 (0 : Int32) Y
def fX3_withHalls_14 (Y : tw_Wl) (p1 : Int64) (k5 : Int64 → Int32 → Option (Int64)) : Nat → Int64 → Int32 → Int32 → Option (Int64)
  | 0, _, _, _ => none
  | n + 1, v3, v5, v6 =>
    if (4 : Int32) ≤ v6 then
      k5 v3 (v5 + 1)
    else
      (fX3_hall Y v5 v6).bind fun r30 =>
      tw_q (r30.1 = 0) <|
      fX3_withHalls_14 Y p1 k5 n (((31 : Int64) * v3) + r30.2.toInt64) v5 (v6 + 1)
def fX3_withHalls_5 (Y : tw_Wl) (p1 : Int64)  : Nat → Int64 → Int32 → Option (Int64)
  | 0, _, _ => none
  | n + 1, v3, v5 =>
    if (4 : Int32) ≤ v5 then
      some v3
    else
      fX3_withHalls_14 Y p1 (fX3_withHalls_5 Y p1 n) 512 v3 v5 (0 : Int32)
def fX3_withHalls (Y : tw_Wl) (p1 : Int64) : Option (Int64) :=
  fX3_withHalls_5 Y p1 512 p1 (0 : Int32)
def fX3_withPersons_15 (p1 : Int64) (k5 : Int64 → Int32 → tw_Wl → Option (Int64 × tw_Wl)) : Nat → Int64 → Int32 → Int32 → tw_Wl → Option (Int64 × tw_Wl)
  | 0, _, _, _, _ => none
  | n + 1, v3, v5, v6, Y =>
    if (10 : Int32) ≤ v6 then
      (fX3_ifFreed Y v5).bind fun r52 =>
      tw_q (r52.1 = 0) <|
      k5 (((31 : Int64) * v3) + r52.2.1.toInt64) (v5 + 1) r52.2.2
    else
      (fX3_personOn Y v5 v6).bind fun r32 =>
      tw_q (r32.1 = 0) <|
      fX3_withPersons_15 p1 k5 n (((31 : Int64) * v3) + r32.2.toInt64) v5 (v6 + 1) Y
def fX3_withPersons_5 (p1 : Int64)  : Nat → Int64 → Int32 → tw_Wl → Option (Int64 × tw_Wl)
  | 0, _, _, _ => none
  | n + 1, v3, v5, Y =>
    if (6 : Int32) ≤ v5 then
      some (v3, Y)
    else
      fX3_withPersons_15 p1 (fX3_withPersons_5 p1 n) 512 v3 v5 (0 : Int32) Y
def fX3_withPersons (Y : tw_Wl) (p1 : Int64) : Option (Int64 × tw_Wl) :=
  fX3_withPersons_5 p1 512 p1 (0 : Int32) Y
def fX3_withRules_14 (p1 : Int64) (k5 : Int64 → Int32 → tw_Wl → Option (Int64 × tw_Wl)) : Nat → Int64 → Int32 → Int32 → tw_Wl → Option (Int64 × tw_Wl)
  | 0, _, _, _, _ => none
  | n + 1, v3, v5, v6, Y =>
    if (3 : Int32) ≤ v6 then
      k5 v3 (v5 + 1) Y
    else
      (fX3_ifRule Y v5 v6).bind fun r30 =>
      tw_q (r30.1 = 0) <|
      fX3_withRules_14 p1 k5 n (((31 : Int64) * v3) + r30.2.1.toInt64) v5 (v6 + 1) r30.2.2
def fX3_withRules_5 (p1 : Int64)  : Nat → Int64 → Int32 → tw_Wl → Option (Int64 × tw_Wl)
  | 0, _, _, _ => none
  | n + 1, v3, v5, Y =>
    if (4 : Int32) ≤ v5 then
      some (v3, Y)
    else
      fX3_withRules_14 p1 (fX3_withRules_5 p1 n) 512 v3 v5 (0 : Int32) Y
def fX3_withRules (Y : tw_Wl) (p1 : Int64) : Option (Int64 × tw_Wl) :=
  fX3_withRules_5 p1 512 p1 (0 : Int32) Y
def fX3_withText_18 (Y : tw_Wl) (p1 : Int64)  : Nat → Int64 → Int32 → Option (Int64)
  | 0, _, _ => none
  | n + 1, v3, v5 =>
    if Y.2.2.2.2.1.2 ≤ v5 then
      some v3
    else
      tw_g v5 60 <|
      fX3_withText_18 Y p1 n (((31 : Int64) * v3) + ((Y.2.2.2.2.1.1 v5.toNatClampNeg).toInt64)) (v5 + 1)
def fX3_withText (Y : tw_Wl) (p1 : Int64) : Option (Int64) :=
  fX3_withText_18 Y p1 512 (((31 : Int64) * p1) + Y.2.2.2.2.1.2.toInt64) (0 : Int32)
def fX3_digest_6   : Nat → Int64 → Int32 → tw_Wl → Option (Int64 × tw_Wl)
  | 0, _, _, _ => none
  | n + 1, v1, v3, Y =>
    if (9 : Int32) ≤ v3 then
      (fX3_withTasks Y (((31 : Int64) * v1) + Y.1.2.2.2.2.2.2.2.2.toInt64)).bind fun r48 =>
      (fX3_withHalls r48.2 r48.1).bind fun r54 =>
      (fX3_withPersons r48.2 r54).bind fun r60 =>
      (fX3_withRules r60.2 r60.1).bind fun r66 =>
      (fX3_bestRule r66.2).bind fun r76 =>
      (fX3_worstSlip r76.2 (3 : Int32)).bind fun r89 =>
      tw_q (r89.1 = 0) <|
      (fX3_busyness r89.2.2).bind fun r101 =>
      (fX3_bitsOf r101).bind fun r104 =>
      (fX3_withText r89.2.2 (((31 : Int64) * (((31 : Int64) * (((31 : Int64) * r66.1) + r76.1.toInt64)) + r89.2.1.toInt64)) + r104)).bind fun r111 =>
      some (r111, r89.2.2)
    else
      (fX3_count Y v3).bind fun r19 =>
      tw_q (r19.1 = 0) <|
      fX3_digest_6 n (((31 : Int64) * v1) + r19.2.1.toInt64) (v3 + 1) r19.2.2
def fX3_digest (Y : tw_Wl)  : Option (Int64 × tw_Wl) :=
  fX3_digest_6 512 (2791 : Int64) (0 : Int32) Y
def fJxe99ae_isNaN_b9ae7  (p0 : UInt64) : Option (Int32) :=
  if (Op.cmpValue (FP.dcmp p0 p0) CmpOp.l) = 0 then
    some (0 : Int32)
  else
    some (1 : Int32)
def fJxe99ae_doubleToLongBits_ccdee  (p0 : UInt64) : Option (Int64) :=
  (fJxe99ae_isNaN_b9ae7 p0).bind fun r1 =>
  if ¬ r1 = 0 then
    some (9221120237041090560 : Int64)
  else
    some p0.toInt64
def fX4_in  (p0 : Int32) (p1 : Int32) (p2 : Int32) : Option (Int32) :=
  if p0 < p1 then
    some (0 : Int32)
  else
    if p2 < p0 then
      some (0 : Int32)
    else
      some (1 : Int32)
def fX4_isHall  (p0 : Int32) : Option (Int32) :=
  (fX4_in p0 (0 : Int32) (3 : Int32)).bind fun r3 =>
  tw_q (r3 = 0 ∨ r3 = 1) <|
  some r3
def fX4_isPerson  (p0 : Int32) : Option (Int32) :=
  (fX4_in p0 (0 : Int32) (5 : Int32)).bind fun r3 =>
  tw_q (r3 = 0 ∨ r3 = 1) <|
  some r3
def fX4_isDay  (p0 : Int32) : Option (Int32) :=
  (fX4_in p0 (0 : Int32) (99 : Int32)).bind fun r4 =>
  tw_q (r4 = 0 ∨ r4 = 1) <|
  some r4
def fX4_isFor  (p0 : Int32) (p1 : Int32) : Option (Int32) :=
  if ¬ p0 = 0 then
    if ¬ p0 = (1 : Int32) then
      if ¬ p0 = (2 : Int32) then
        (fX4_in p1 (0 : Int32) (60 : Int32)).bind fun r46 =>
        tw_q (r46 = 0 ∨ r46 = 1) <|
        some r46
      else
        (fX4_in p1 (-1 : Int32) (3 : Int32)).bind fun r36 =>
        tw_q (r36 = 0 ∨ r36 = 1) <|
        some r36
    else
      (fX4_in p1 (-1 : Int32) (5 : Int32)).bind fun r22 =>
      tw_q (r22 = 0 ∨ r22 = 1) <|
      some r22
  else
    (fX4_in p1 (1 : Int32) (9 : Int32)).bind fun r8 =>
    tw_q (r8 = 0 ∨ r8 = 1) <|
    some r8
def fX4_of (sx : tw_F) (p1 : Int32) (p2 : Int32) : Option (Int32) :=
  tw_g (((10 : Int32) + ((5 : Int32) * p1)) + p2) 70 <|
  some (sx (((10 : Int32) + ((5 : Int32) * p1)) + p2).toNatClampNeg)
def fX4_followers_4 (sx : tw_F) (p1 : Int32)  : Nat → Int32 → Int32 → Option (Int32)
  | 0, _, _ => none
  | n + 1, v2, v3 =>
    if (sx (0 : Int32).toNatClampNeg) ≤ v3 then
      some v2
    else
      (fX4_of sx v3 (4 : Int32)).bind fun r15 =>
      fX4_followers_4 sx p1 n (v2 + ((r15 >>> (p1 &&& 31)) &&& (1 : Int32))) (v3 + 1)
def fX4_followers (sx : tw_F) (p1 : Int32) : Option (Int32) :=
  fX4_followers_4 sx p1 512 (0 : Int32) (0 : Int32)
def fX4_weight (sx : tw_F) (p1 : Int32) : Option (Int32) :=
  if (sx (1 : Int32).toNatClampNeg) = 0 then
    some (0 : Int32)
  else if (sx (1 : Int32).toNatClampNeg) = 1 then
    (fX4_of sx p1 (0 : Int32)).bind fun r33 =>
    some r33
  else if (sx (1 : Int32).toNatClampNeg) = 2 then
    (fX4_followers sx p1).bind fun r39 =>
    some r39
  else 
    (fX4_of sx p1 (3 : Int32)).bind fun r46 =>
    some r46
def fX4_behind (sx : tw_F) (dx : tw_F) (p2 : Int32) : Option (Int32) :=
  tw_g p2 12 <|
  (fX4_of sx p2 (0 : Int32)).bind fun r6 =>
  some ((dx p2.toNatClampNeg) + r6)
def fX4_ready_10 (sx : tw_F) (dx : tw_F) (p2 : Int32)  : Nat → Int32 → Int32 → Option (Int32)
  | 0, _, _ => none
  | n + 1, v3, v4 =>
    if p2 ≤ v4 then
      some v3
    else
      (fX4_of sx p2 (4 : Int32)).bind fun r19 =>
      if ¬ ((r19 >>> (v4 &&& 31)) &&& (1 : Int32)) = (1 : Int32) then
        fX4_ready_10 sx dx p2 n v3 (v4 + 1)
      else
        (fX4_behind sx dx v4).bind fun r35 =>
        if r35 ≤ v3 then
          fX4_ready_10 sx dx p2 n v3 (v4 + 1)
        else
          (fX4_behind sx dx v4).bind fun r46 =>
          fX4_ready_10 sx dx p2 n r46 (v4 + 1)
def fX4_ready (sx : tw_F) (dx : tw_F) (p2 : Int32) : Option (Int32) :=
  (fX4_of sx p2 (3 : Int32)).bind fun r3 =>
  fX4_ready_10 sx dx p2 512 r3 (0 : Int32)
def fX4_isFree_166 (sx : tw_F) (dx : tw_F) (p2 : Int32) (p3 : Int32) (k70 : Int32 → Int32 → Int32 → Int32 → Option (Int32)) (t0 : Int32) (v4 : Int32) (v5 : Int32) (v7 : Int32) (v8 : Int32) : Option (Int32) :=
  if v8 = 0 then
    k70 v4 v5 (1 : Int32) (v7 + 1)
  else
    if ¬ t0 = 0 then
      k70 v4 v5 (0 : Int32) (v7 + 1)
    else
      k70 v4 v5 (1 : Int32) (v7 + 1)
def fX4_isFree_143 (sx : tw_F) (dx : tw_F) (p2 : Int32) (p3 : Int32) (k70 : Int32 → Int32 → Int32 → Int32 → Option (Int32)) (v4 : Int32) (v5 : Int32) (v7 : Int32) (v8 : Int32) : Option (Int32) :=
  if v5 = (-1 : Int32) then
    fX4_isFree_166 sx dx p2 p3 k70 (0 : Int32) v4 v5 v7 v8
  else
    (fX4_of sx v7 (2 : Int32)).bind fun r155 =>
    if ¬ v5 = r155 then
      fX4_isFree_166 sx dx p2 p3 k70 (0 : Int32) v4 v5 v7 v8
    else
      fX4_isFree_166 sx dx p2 p3 k70 (1 : Int32) v4 v5 v7 v8
def fX4_isFree_115 (sx : tw_F) (dx : tw_F) (p2 : Int32) (p3 : Int32) (k70 : Int32 → Int32 → Int32 → Int32 → Option (Int32)) (t0 : Int32) (v4 : Int32) (v5 : Int32) (v7 : Int32) : Option (Int32) :=
  (fX4_of sx p2 (1 : Int32)).bind fun r120 =>
  if r120 = (-1 : Int32) then
    fX4_isFree_143 sx dx p2 p3 k70 v4 v5 v7 t0
  else
    (fX4_of sx p2 (1 : Int32)).bind fun r130 =>
    (fX4_of sx v7 (1 : Int32)).bind fun r137 =>
    if r130 = r137 then
      fX4_isFree_166 sx dx p2 p3 k70 (1 : Int32) v4 v5 v7 t0
    else
      fX4_isFree_143 sx dx p2 p3 k70 v4 v5 v7 t0
def fX4_isFree_70 (sx : tw_F) (dx : tw_F) (p2 : Int32) (p3 : Int32)  : Nat → Int32 → Int32 → Int32 → Int32 → Option (Int32)
  | 0, _, _, _, _ => none
  | n + 1, v4, v5, v6, v7 =>
    if (sx (0 : Int32).toNatClampNeg) ≤ v7 then
      tw_q (v6 = 0 ∨ v6 = 1) <|
      some v6
    else
      if v6 = 0 then
        tw_q (v6 = 0 ∨ v6 = 1) <|
        some v6
      else
        tw_g v7 12 <|
        if (dx v7.toNatClampNeg) < 0 then
          fX4_isFree_115 sx dx p2 p3 (fX4_isFree_70 sx dx p2 p3 n) (0 : Int32) v4 v5 v7
        else
          tw_g v7 12 <|
          if v4 < (dx v7.toNatClampNeg) then
            fX4_isFree_115 sx dx p2 p3 (fX4_isFree_70 sx dx p2 p3 n) (0 : Int32) v4 v5 v7
          else
            (fX4_behind sx dx v7).bind fun r103 =>
            if r103 ≤ p3 then
              fX4_isFree_115 sx dx p2 p3 (fX4_isFree_70 sx dx p2 p3 n) (0 : Int32) v4 v5 v7
            else
              fX4_isFree_115 sx dx p2 p3 (fX4_isFree_70 sx dx p2 p3 n) (1 : Int32) v4 v5 v7
def fX4_isFree (sx : tw_F) (dx : tw_F) (p2 : Int32) (p3 : Int32) : Option (Int32) :=
  (fX4_of sx p2 (0 : Int32)).bind fun r4 =>
  (fX4_of sx p2 (2 : Int32)).bind fun r15 =>
  if (100 : Int32) ≤ ((p3 + r4) - (1 : Int32)) then
    fX4_isFree_70 sx dx p2 p3 512 ((p3 + r4) - (1 : Int32)) r15 (0 : Int32) (0 : Int32)
  else
    if r15 = (-1 : Int32) then
      fX4_isFree_70 sx dx p2 p3 512 ((p3 + r4) - (1 : Int32)) r15 (1 : Int32) (0 : Int32)
    else
      tw_g ((2 : Int32) + ((2 : Int32) * r15)) 70 <|
      if p3 < (sx ((2 : Int32) + ((2 : Int32) * r15)).toNatClampNeg) then
        fX4_isFree_70 sx dx p2 p3 512 ((p3 + r4) - (1 : Int32)) r15 (0 : Int32) (0 : Int32)
      else
        tw_g (((2 : Int32) + ((2 : Int32) * r15)) + (1 : Int32)) 70 <|
        if (sx (((2 : Int32) + ((2 : Int32) * r15)) + (1 : Int32)).toNatClampNeg) < ((p3 + r4) - (1 : Int32)) then
          fX4_isFree_70 sx dx p2 p3 512 ((p3 + r4) - (1 : Int32)) r15 (0 : Int32) (0 : Int32)
        else
          fX4_isFree_70 sx dx p2 p3 512 ((p3 + r4) - (1 : Int32)) r15 (1 : Int32) (0 : Int32)
def fX4_lays_197 (sx : tw_F) (k32 : Int32 → Int32 → Int32 → tw_F → Option (tw_F)) (t0 : Int32) (t1 : Int32) (v2 : Int32) (v4 : Int32) (dx : tw_F) : Option (tw_F) :=
  k32 (v2 &&& (((1 : Int32) <<< (v4 &&& 31)) ^^^ (-1 : Int32))) (t0 ||| t1) v4 dx
def fX4_lays_164 (sx : tw_F) (k32 : Int32 → Int32 → Int32 → tw_F → Option (tw_F)) (v2 : Int32) (v3 : Int32) (v4 : Int32) (v5 : Int32) (dx : tw_F) : Option (tw_F) :=
  if (100 : Int32) ≤ v5 then
    tw_g v4 12 <|
    if (100 : Int32) ≤ v5 then
      fX4_lays_197 sx k32 v3 (0 : Int32) v2 v4 (upd dx v4.toNatClampNeg (-1 : Int32))
    else
      fX4_lays_197 sx k32 v3 ((1 : Int32) <<< (v4 &&& 31)) v2 v4 (upd dx v4.toNatClampNeg (-1 : Int32))
  else
    tw_g v4 12 <|
    if (100 : Int32) ≤ v5 then
      fX4_lays_197 sx k32 v3 (0 : Int32) v2 v4 (upd dx v4.toNatClampNeg v5)
    else
      fX4_lays_197 sx k32 v3 ((1 : Int32) <<< (v4 &&& 31)) v2 v4 (upd dx v4.toNatClampNeg v5)
def fX4_lays_139 (sx : tw_F) (k32 : Int32 → Int32 → Int32 → tw_F → Option (tw_F)) : Nat → Int32 → Int32 → Int32 → Int32 → tw_F → Option (tw_F)
  | 0, _, _, _, _, _ => none
  | n + 1, v2, v3, v4, v5, dx =>
    if (100 : Int32) ≤ v5 then
      fX4_lays_164 sx k32 v2 v3 v4 v5 dx
    else
      (fX4_isFree sx dx v4 v5).bind fun r152 =>
      if ¬ r152 = 0 then
        fX4_lays_164 sx k32 v2 v3 v4 v5 dx
      else
        fX4_lays_139 sx k32 n v2 v3 v4 (v5 + 1) dx
def fX4_lays_81 (sx : tw_F) (k32 : Int32 → Int32 → Int32 → tw_F → Option (tw_F)) (k44 : Int32 → Int32 → Int32 → Int32 → tw_F → Option (tw_F)) (t0 : Int32) (v2 : Int32) (v3 : Int32) (v4 : Int32) (v5 : Int32) (dx : tw_F) : Option (tw_F) :=
  if t0 = 0 then
    k44 v2 v3 v4 (v5 + 1) dx
  else
    if v4 = (-1 : Int32) then
      k44 v2 v3 v5 (v5 + 1) dx
    else
      (fX4_weight sx v5).bind fun r97 =>
      (fX4_weight sx v4).bind fun r103 =>
      if r97 ≤ r103 then
        k44 v2 v3 v4 (v5 + 1) dx
      else
        k44 v2 v3 v5 (v5 + 1) dx
def fX4_lays_44 (sx : tw_F) (k32 : Int32 → Int32 → Int32 → tw_F → Option (tw_F)) : Nat → Int32 → Int32 → Int32 → Int32 → tw_F → Option (tw_F)
  | 0, _, _, _, _, _ => none
  | n + 1, v2, v3, v4, v5, dx =>
    if (sx (0 : Int32).toNatClampNeg) ≤ v5 then
      if v4 = (-1 : Int32) then
        k32 v2 v3 v4 dx
      else
        (fX4_ready sx dx v4).bind fun r134 =>
        fX4_lays_139 sx k32 512 v2 v3 v4 r134 dx
    else
      if ¬ ((v2 >>> (v5 &&& 31)) &&& (1 : Int32)) = (1 : Int32) then
        fX4_lays_81 sx k32 (fX4_lays_44 sx k32 n) (0 : Int32) v2 v3 v4 v5 dx
      else
        (fX4_of sx v5 (4 : Int32)).bind fun r66 =>
        if ¬ (r66 &&& (v3 ^^^ (-1 : Int32))) = 0 then
          fX4_lays_81 sx k32 (fX4_lays_44 sx k32 n) (0 : Int32) v2 v3 v4 v5 dx
        else
          fX4_lays_81 sx k32 (fX4_lays_44 sx k32 n) (1 : Int32) v2 v3 v4 v5 dx
def fX4_lays_32 (sx : tw_F)  : Nat → Int32 → Int32 → Int32 → tw_F → Option (tw_F)
  | 0, _, _, _, _ => none
  | n + 1, v2, v3, v4, dx =>
    if v4 = (-1 : Int32) then
      some dx
    else
      fX4_lays_44 sx (fX4_lays_32 sx n) 512 v2 v3 (-1 : Int32) (0 : Int32) dx
def fX4_lays_4 (sx : tw_F)  : Nat → Int32 → Int32 → tw_F → Option (tw_F)
  | 0, _, _, _ => none
  | n + 1, v2, v3, dx =>
    if (sx (0 : Int32).toNatClampNeg) ≤ v3 then
      fX4_lays_32 sx 512 v2 (0 : Int32) (0 : Int32) dx
    else
      tw_g v3 12 <|
      fX4_lays_4 sx n (v2 ||| ((1 : Int32) <<< (v3 &&& 31))) (v3 + 1) (upd dx v3.toNatClampNeg (-1 : Int32))
def fX4_lays (sx : tw_F) (dx : tw_F)  : Option (tw_F) :=
  fX4_lays_4 sx 512 (0 : Int32) (0 : Int32) dx
def fX4_laid_4 (sx : tw_F) (dx : tw_F)  : Nat → Int32 → Int32 → Option (Int32)
  | 0, _, _ => none
  | n + 1, v2, v3 =>
    if (sx (0 : Int32).toNatClampNeg) ≤ v3 then
      some v2
    else
      tw_g v3 12 <|
      if ¬ (dx v3.toNatClampNeg) = (-1 : Int32) then
        fX4_laid_4 sx dx n (v2 + (1 : Int32)) (v3 + 1)
      else
        fX4_laid_4 sx dx n (v2 + (0 : Int32)) (v3 + 1)
def fX4_laid (sx : tw_F) (dx : tw_F)  : Option (Int32) :=
  fX4_laid_4 sx dx 512 (0 : Int32) (0 : Int32)
def fX4_end_4 (sx : tw_F) (dx : tw_F)  : Nat → Int32 → Int32 → Option (Int32)
  | 0, _, _ => none
  | n + 1, v2, v3 =>
    if (sx (0 : Int32).toNatClampNeg) ≤ v3 then
      some v2
    else
      tw_g v3 12 <|
      if (dx v3.toNatClampNeg) = (-1 : Int32) then
        fX4_end_4 sx dx n v2 (v3 + 1)
      else
        (fX4_behind sx dx v3).bind fun r21 =>
        if r21 ≤ v2 then
          fX4_end_4 sx dx n v2 (v3 + 1)
        else
          (fX4_behind sx dx v3).bind fun r31 =>
          fX4_end_4 sx dx n r31 (v3 + 1)
def fX4_end (sx : tw_F) (dx : tw_F)  : Option (Int32) :=
  fX4_end_4 sx dx 512 (0 : Int32) (0 : Int32)
def fX4_waits (sx : tw_F) (dx : tw_F) (p2 : Int32) : Option (Int32) :=
  tw_g p2 12 <|
  if ¬ (dx p2.toNatClampNeg) = (-1 : Int32) then
    tw_g p2 12 <|
    (fX4_ready sx dx p2).bind fun r17 =>
    some ((dx p2.toNatClampNeg) - r17)
  else
    some (0 : Int32)
def fX4_waiting_4 (sx : tw_F) (dx : tw_F)  : Nat → Int32 → Int32 → Option (Int32)
  | 0, _, _ => none
  | n + 1, v2, v3 =>
    if (sx (0 : Int32).toNatClampNeg) ≤ v3 then
      some v2
    else
      (fX4_waits sx dx v3).bind fun r15 =>
      fX4_waiting_4 sx dx n (v2 + r15) (v3 + 1)
def fX4_waiting (sx : tw_F) (dx : tw_F)  : Option (Int32) :=
  fX4_waiting_4 sx dx 512 (0 : Int32) (0 : Int32)
def fX4_thrown (M : tw_Md)  : Option (Int32) :=
  some M.2.2.2.2.2.2.1
def fX4_fails (M : tw_Md) (p1 : Int32) : Option (Int32 × tw_Md) :=
  some ((0 : Int32), (M.1, M.2.1, M.2.2.1, M.2.2.2.1, M.2.2.2.2.1, M.2.2.2.2.2.1, p1, M.2.2.2.2.2.2.2.1, M.2.2.2.2.2.2.2.2.1, M.2.2.2.2.2.2.2.2.2.1, M.2.2.2.2.2.2.2.2.2.2.1, M.2.2.2.2.2.2.2.2.2.2.2.1, M.2.2.2.2.2.2.2.2.2.2.2.2))
def fX4_isTask (M : tw_Md) (p1 : Int32) : Option (Int32) :=
  (fX4_in p1 (0 : Int32) ((M.1 (0 : Int32).toNatClampNeg) - (1 : Int32))).bind fun r10 =>
  tw_q (r10 = 0 ∨ r10 = 1) <|
  some r10
def fX4_saves_51   : Nat → Int32 → tw_Md → Option (tw_Md)
  | 0, _, _ => none
  | n + 1, v1, M =>
    if (70 : Int32) ≤ v1 then
      some (M.1, M.2.1, M.2.2.1, (M.2.2.2.1 + (1 : Int32)), M.2.2.2.2.1, M.2.2.2.2.2.1, M.2.2.2.2.2.2.1, M.2.2.2.2.2.2.2.1, M.2.2.2.2.2.2.2.2.1, M.2.2.2.2.2.2.2.2.2.1, M.2.2.2.2.2.2.2.2.2.2.1, M.2.2.2.2.2.2.2.2.2.2.2.1, M.2.2.2.2.2.2.2.2.2.2.2.2)
    else
      tw_g v1 70 <|
      tw_g (((70 : Int32) * M.2.2.2.1) + v1) 420 <|
      fX4_saves_51 n (v1 + 1) (M.1, M.2.1, (upd M.2.2.1 (((70 : Int32) * M.2.2.2.1) + v1).toNatClampNeg (M.1 v1.toNatClampNeg)), M.2.2.2.1, M.2.2.2.2.1, M.2.2.2.2.2.1, M.2.2.2.2.2.2.1, M.2.2.2.2.2.2.2.1, M.2.2.2.2.2.2.2.2.1, M.2.2.2.2.2.2.2.2.2.1, M.2.2.2.2.2.2.2.2.2.2.1, M.2.2.2.2.2.2.2.2.2.2.2.1, M.2.2.2.2.2.2.2.2.2.2.2.2)
def fX4_saves_11   : Nat → Int32 → tw_Md → Option (tw_Md)
  | 0, _, _ => none
  | n + 1, v1, M =>
    if (350 : Int32) ≤ v1 then
      fX4_saves_51 512 (0 : Int32) (M.1, M.2.1, M.2.2.1, (M.2.2.2.1 - (1 : Int32)), M.2.2.2.2.1, M.2.2.2.2.2.1, M.2.2.2.2.2.2.1, M.2.2.2.2.2.2.2.1, M.2.2.2.2.2.2.2.2.1, M.2.2.2.2.2.2.2.2.2.1, M.2.2.2.2.2.2.2.2.2.2.1, M.2.2.2.2.2.2.2.2.2.2.2.1, M.2.2.2.2.2.2.2.2.2.2.2.2)
    else
      tw_g (v1 + (70 : Int32)) 420 <|
      tw_g v1 420 <|
      fX4_saves_11 n (v1 + 1) (M.1, M.2.1, (upd M.2.2.1 v1.toNatClampNeg (M.2.2.1 (v1 + (70 : Int32)).toNatClampNeg)), M.2.2.2.1, M.2.2.2.2.1, M.2.2.2.2.2.1, M.2.2.2.2.2.2.1, M.2.2.2.2.2.2.2.1, M.2.2.2.2.2.2.2.2.1, M.2.2.2.2.2.2.2.2.2.1, M.2.2.2.2.2.2.2.2.2.2.1, M.2.2.2.2.2.2.2.2.2.2.2.1, M.2.2.2.2.2.2.2.2.2.2.2.2)
def fX4_saves (M : tw_Md)  : Option (tw_Md) :=
  if ¬ M.2.2.2.1 = (6 : Int32) then
    fX4_saves_51 512 (0 : Int32) M
  else
    fX4_saves_11 512 (0 : Int32) M
def fX4_undo_30   : Nat → Int32 → tw_Md → Option (Int32 × tw_Md)
  | 0, _, _ => none
  | n + 1, v1, M =>
    if (70 : Int32) ≤ v1 then
      some (M.2.2.2.1, M)
    else
      tw_g (((70 : Int32) * M.2.2.2.1) + v1) 420 <|
      tw_g v1 70 <|
      fX4_undo_30 n (v1 + 1) ((upd M.1 v1.toNatClampNeg (M.2.2.1 (((70 : Int32) * M.2.2.2.1) + v1).toNatClampNeg)), M.2.1, M.2.2.1, M.2.2.2.1, M.2.2.2.2.1, M.2.2.2.2.2.1, M.2.2.2.2.2.2.1, M.2.2.2.2.2.2.2.1, M.2.2.2.2.2.2.2.2.1, M.2.2.2.2.2.2.2.2.2.1, M.2.2.2.2.2.2.2.2.2.2.1, M.2.2.2.2.2.2.2.2.2.2.2.1, M.2.2.2.2.2.2.2.2.2.2.2.2)
def fX4_undo (M : tw_Md)  : Option (Int32 × tw_Md) :=
  if ¬ M.2.2.2.1 = 0 then
    fX4_undo_30 512 (0 : Int32) (M.1, M.2.1, M.2.2.1, (M.2.2.2.1 - (1 : Int32)), M.2.2.2.2.1, M.2.2.2.2.2.1, (0 : Int32), M.2.2.2.2.2.2.2.1, M.2.2.2.2.2.2.2.2.1, M.2.2.2.2.2.2.2.2.2.1, M.2.2.2.2.2.2.2.2.2.2.1, M.2.2.2.2.2.2.2.2.2.2.2.1, M.2.2.2.2.2.2.2.2.2.2.2.2)
  else
    (fX4_fails (M.1, M.2.1, M.2.2.1, M.2.2.2.1, M.2.2.2.2.1, M.2.2.2.2.2.1, (0 : Int32), M.2.2.2.2.2.2.2.1, M.2.2.2.2.2.2.2.2.1, M.2.2.2.2.2.2.2.2.2.1, M.2.2.2.2.2.2.2.2.2.2.1, M.2.2.2.2.2.2.2.2.2.2.2.1, M.2.2.2.2.2.2.2.2.2.2.2.2) (1 : Int32)).bind fun r14 =>
    some (r14.1, r14.2)
def fX4_tries_2   : Nat → Int32 → tw_Md → Option (tw_Md)
  | 0, _, _ => none
  | n + 1, v1, M =>
    if (70 : Int32) ≤ v1 then
      some M
    else
      tw_g v1 70 <|
      tw_g v1 70 <|
      fX4_tries_2 n (v1 + 1) (M.1, (upd M.2.1 v1.toNatClampNeg (M.1 v1.toNatClampNeg)), M.2.2.1, M.2.2.2.1, M.2.2.2.2.1, M.2.2.2.2.2.1, M.2.2.2.2.2.2.1, M.2.2.2.2.2.2.2.1, M.2.2.2.2.2.2.2.2.1, M.2.2.2.2.2.2.2.2.2.1, M.2.2.2.2.2.2.2.2.2.2.1, M.2.2.2.2.2.2.2.2.2.2.2.1, M.2.2.2.2.2.2.2.2.2.2.2.2)
def fX4_tries (M : tw_Md)  : Option (tw_Md) :=
  fX4_tries_2 512 (0 : Int32) M
def fX4_plans (M : tw_Md)  : Option (tw_Md) :=
  (fX4_lays M.1 M.2.2.2.2.2.2.2.2.2.2.2.1).bind fun r8 =>
  some (M.1, M.2.1, M.2.2.1, M.2.2.2.1, M.2.2.2.2.1, M.2.2.2.2.2.1, M.2.2.2.2.2.2.1, M.2.2.2.2.2.2.2.1, M.2.2.2.2.2.2.2.2.1, M.2.2.2.2.2.2.2.2.2.1, M.2.2.2.2.2.2.2.2.2.2.1, r8, M.2.2.2.2.2.2.2.2.2.2.2.2)
def fX4_triesFrom (M : tw_Md) (p1 : Int32) (p2 : Int32) : Option (tw_Md) :=
  (fX4_tries M).bind fun r1 =>
  tw_g (((10 : Int32) + ((5 : Int32) * p1)) + (3 : Int32)) 70 <|
  (fX4_lays (upd r1.2.1 (((10 : Int32) + ((5 : Int32) * p1)) + (3 : Int32)).toNatClampNeg p2) r1.2.2.2.2.2.2.2.2.2.2.2.2).bind fun r26 =>
  some (r1.1, (upd r1.2.1 (((10 : Int32) + ((5 : Int32) * p1)) + (3 : Int32)).toNatClampNeg p2), r1.2.2.1, r1.2.2.2.1, r1.2.2.2.2.1, r1.2.2.2.2.2.1, r1.2.2.2.2.2.2.1, r1.2.2.2.2.2.2.2.1, r1.2.2.2.2.2.2.2.2.1, r1.2.2.2.2.2.2.2.2.2.1, r1.2.2.2.2.2.2.2.2.2.2.1, r1.2.2.2.2.2.2.2.2.2.2.2.1, r26)
def fX4_slack_15 (p1 : Int32)  : Nat → Int32 → tw_Md → Option (Int32 × tw_Md)
  | 0, _, _ => none
  | n + 1, v2, M =>
    if v2 ≤ 0 then
      some ((0 : Int32), M)
    else
      tw_g p1 12 <|
      (fX4_triesFrom M p1 ((M.2.2.2.2.2.2.2.2.2.2.2.1 p1.toNatClampNeg) + v2)).bind fun r29 =>
      (fX4_laid r29.2.1 r29.2.2.2.2.2.2.2.2.2.2.2.2).bind fun r40 =>
      (fX4_laid r29.1 r29.2.2.2.2.2.2.2.2.2.2.2.1).bind fun r51 =>
      if r40 < r51 then
        fX4_slack_15 p1 n (v2 + (-1)) r29
      else
        (fX4_end r29.2.1 r29.2.2.2.2.2.2.2.2.2.2.2.2).bind fun r65 =>
        (fX4_end r29.1 r29.2.2.2.2.2.2.2.2.2.2.2.1).bind fun r76 =>
        if r76 < r65 then
          fX4_slack_15 p1 n (v2 + (-1)) r29
        else
          some (v2, r29)
def fX4_slack (M : tw_Md) (p1 : Int32) : Option (Int32 × tw_Md) :=
  tw_g p1 12 <|
  if ¬ (M.2.2.2.2.2.2.2.2.2.2.2.1 p1.toNatClampNeg) = (-1 : Int32) then
    fX4_slack_15 p1 512 (30 : Int32) M
  else
    some ((-1 : Int32), M)
def fX4_comes (M : tw_Md) (p1 : Int32) (p2 : Int32) (p3 : Int32) (p4 : Int32) : Option (tw_Md) :=
  tw_g ((10 : Int32) + ((5 : Int32) * (M.1 (0 : Int32).toNatClampNeg))) 70 <|
  tw_g (((10 : Int32) + ((5 : Int32) * (M.1 (0 : Int32).toNatClampNeg))) + (1 : Int32)) 70 <|
  tw_g (((10 : Int32) + ((5 : Int32) * (M.1 (0 : Int32).toNatClampNeg))) + (2 : Int32)) 70 <|
  tw_g (((10 : Int32) + ((5 : Int32) * (M.1 (0 : Int32).toNatClampNeg))) + (3 : Int32)) 70 <|
  tw_g (((10 : Int32) + ((5 : Int32) * (M.1 (0 : Int32).toNatClampNeg))) + (4 : Int32)) 70 <|
  some ((upd (upd (upd (upd (upd (upd M.1 ((10 : Int32) + ((5 : Int32) * (M.1 (0 : Int32).toNatClampNeg))).toNatClampNeg p1) (((10 : Int32) + ((5 : Int32) * (M.1 (0 : Int32).toNatClampNeg))) + (1 : Int32)).toNatClampNeg p2) (((10 : Int32) + ((5 : Int32) * (M.1 (0 : Int32).toNatClampNeg))) + (2 : Int32)).toNatClampNeg p3) (((10 : Int32) + ((5 : Int32) * (M.1 (0 : Int32).toNatClampNeg))) + (3 : Int32)).toNatClampNeg (0 : Int32)) (((10 : Int32) + ((5 : Int32) * (M.1 (0 : Int32).toNatClampNeg))) + (4 : Int32)).toNatClampNeg p4) (0 : Int32).toNatClampNeg (((upd (upd (upd (upd (upd M.1 ((10 : Int32) + ((5 : Int32) * (M.1 (0 : Int32).toNatClampNeg))).toNatClampNeg p1) (((10 : Int32) + ((5 : Int32) * (M.1 (0 : Int32).toNatClampNeg))) + (1 : Int32)).toNatClampNeg p2) (((10 : Int32) + ((5 : Int32) * (M.1 (0 : Int32).toNatClampNeg))) + (2 : Int32)).toNatClampNeg p3) (((10 : Int32) + ((5 : Int32) * (M.1 (0 : Int32).toNatClampNeg))) + (3 : Int32)).toNatClampNeg (0 : Int32)) (((10 : Int32) + ((5 : Int32) * (M.1 (0 : Int32).toNatClampNeg))) + (4 : Int32)).toNatClampNeg p4) (0 : Int32).toNatClampNeg) + (1 : Int32))), M.2.1, M.2.2.1, M.2.2.2.1, M.2.2.2.2.1, M.2.2.2.2.2.1, M.2.2.2.2.2.2.1, M.2.2.2.2.2.2.2.1, M.2.2.2.2.2.2.2.2.1, M.2.2.2.2.2.2.2.2.2.1, M.2.2.2.2.2.2.2.2.2.2.1, M.2.2.2.2.2.2.2.2.2.2.2.1, M.2.2.2.2.2.2.2.2.2.2.2.2)
def fX4_add (M : tw_Md) (p1 : Int32) (p2 : Int32) (p3 : Int32) : Option (Int32 × tw_Md) :=
  (fX4_isFor (0 : Int32) p1).bind fun r7 =>
  if r7 = 0 then
    (fX4_fails (M.1, M.2.1, M.2.2.1, M.2.2.2.1, M.2.2.2.2.1, M.2.2.2.2.2.1, (0 : Int32), M.2.2.2.2.2.2.2.1, M.2.2.2.2.2.2.2.2.1, M.2.2.2.2.2.2.2.2.2.1, M.2.2.2.2.2.2.2.2.2.2.1, M.2.2.2.2.2.2.2.2.2.2.2.1, M.2.2.2.2.2.2.2.2.2.2.2.2) (1 : Int32)).bind fun r31 =>
    some (r31.1, r31.2)
  else
    (fX4_isFor (1 : Int32) p2).bind fun r15 =>
    if r15 = 0 then
      (fX4_fails (M.1, M.2.1, M.2.2.1, M.2.2.2.1, M.2.2.2.2.1, M.2.2.2.2.2.1, (0 : Int32), M.2.2.2.2.2.2.2.1, M.2.2.2.2.2.2.2.2.1, M.2.2.2.2.2.2.2.2.2.1, M.2.2.2.2.2.2.2.2.2.2.1, M.2.2.2.2.2.2.2.2.2.2.2.1, M.2.2.2.2.2.2.2.2.2.2.2.2) (1 : Int32)).bind fun r31 =>
      some (r31.1, r31.2)
    else
      (fX4_isFor (2 : Int32) p3).bind fun r23 =>
      if ¬ r23 = 0 then
        if ¬ (M.1 (0 : Int32).toNatClampNeg) = (12 : Int32) then
          (fX4_saves (M.1, M.2.1, M.2.2.1, M.2.2.2.1, M.2.2.2.2.1, M.2.2.2.2.2.1, (0 : Int32), M.2.2.2.2.2.2.2.1, M.2.2.2.2.2.2.2.2.1, M.2.2.2.2.2.2.2.2.2.1, M.2.2.2.2.2.2.2.2.2.2.1, M.2.2.2.2.2.2.2.2.2.2.2.1, M.2.2.2.2.2.2.2.2.2.2.2.2)).bind fun r53 =>
          (fX4_comes r53 p1 p2 p3 (0 : Int32)).bind fun r61 =>
          some (((r61.1 (0 : Int32).toNatClampNeg) - (1 : Int32)), r61)
        else
          (fX4_fails (M.1, M.2.1, M.2.2.1, M.2.2.2.1, M.2.2.2.2.1, M.2.2.2.2.2.1, (0 : Int32), M.2.2.2.2.2.2.2.1, M.2.2.2.2.2.2.2.2.1, M.2.2.2.2.2.2.2.2.2.1, M.2.2.2.2.2.2.2.2.2.2.1, M.2.2.2.2.2.2.2.2.2.2.2.1, M.2.2.2.2.2.2.2.2.2.2.2.2) (2 : Int32)).bind fun r48 =>
          some (r48.1, r48.2)
      else
        (fX4_fails (M.1, M.2.1, M.2.2.1, M.2.2.2.1, M.2.2.2.2.1, M.2.2.2.2.2.1, (0 : Int32), M.2.2.2.2.2.2.2.1, M.2.2.2.2.2.2.2.2.1, M.2.2.2.2.2.2.2.2.2.1, M.2.2.2.2.2.2.2.2.2.2.1, M.2.2.2.2.2.2.2.2.2.2.2.1, M.2.2.2.2.2.2.2.2.2.2.2.2) (1 : Int32)).bind fun r31 =>
        some (r31.1, r31.2)
def fX4_remove_93 (p1 : Int32)  : Nat → Int32 → Int32 → Int32 → tw_Md → Option (Int32 × tw_Md)
  | 0, _, _, _, _ => none
  | n + 1, v2, v3, v4, M =>
    if (M.1 (0 : Int32).toNatClampNeg) ≤ v4 then
      some (v2, M)
    else
      (fX4_of M.1 v4 (4 : Int32)).bind fun r111 =>
      tw_g (((10 : Int32) + ((5 : Int32) * v4)) + (4 : Int32)) 70 <|
      fX4_remove_93 p1 n v2 v3 (v4 + 1) ((upd M.1 (((10 : Int32) + ((5 : Int32) * v4)) + (4 : Int32)).toNatClampNeg ((r111 &&& v3) ||| ((r111 >>> ((1 : Int32) &&& 31)) &&& (v3 ^^^ (-1 : Int32))))), M.2.1, M.2.2.1, M.2.2.2.1, M.2.2.2.2.1, M.2.2.2.2.2.1, M.2.2.2.2.2.2.1, M.2.2.2.2.2.2.2.1, M.2.2.2.2.2.2.2.2.1, M.2.2.2.2.2.2.2.2.2.1, M.2.2.2.2.2.2.2.2.2.2.1, M.2.2.2.2.2.2.2.2.2.2.2.1, M.2.2.2.2.2.2.2.2.2.2.2.2)
def fX4_remove_49 (p1 : Int32)  : Nat → Int32 → Int32 → tw_Md → Option (Int32 × tw_Md)
  | 0, _, _, _ => none
  | n + 1, v2, v3, M =>
    if ((10 : Int32) + ((5 : Int32) * (M.1 (0 : Int32).toNatClampNeg))) ≤ v3 then
      fX4_remove_93 p1 512 v2 (((1 : Int32) <<< (p1 &&& 31)) - (1 : Int32)) (0 : Int32) M
    else
      tw_g (v3 + (5 : Int32)) 70 <|
      tw_g v3 70 <|
      fX4_remove_49 p1 n v2 (v3 + 1) ((upd M.1 v3.toNatClampNeg (M.1 (v3 + (5 : Int32)).toNatClampNeg)), M.2.1, M.2.2.1, M.2.2.2.1, M.2.2.2.2.1, M.2.2.2.2.2.1, M.2.2.2.2.2.2.1, M.2.2.2.2.2.2.2.1, M.2.2.2.2.2.2.2.2.1, M.2.2.2.2.2.2.2.2.2.1, M.2.2.2.2.2.2.2.2.2.2.1, M.2.2.2.2.2.2.2.2.2.2.2.1, M.2.2.2.2.2.2.2.2.2.2.2.2)
def fX4_remove (M : tw_Md) (p1 : Int32) : Option (Int32 × tw_Md) :=
  (fX4_isTask (M.1, M.2.1, M.2.2.1, M.2.2.2.1, M.2.2.2.2.1, M.2.2.2.2.2.1, (0 : Int32), M.2.2.2.2.2.2.2.1, M.2.2.2.2.2.2.2.2.1, M.2.2.2.2.2.2.2.2.2.1, M.2.2.2.2.2.2.2.2.2.2.1, M.2.2.2.2.2.2.2.2.2.2.2.1, M.2.2.2.2.2.2.2.2.2.2.2.2) p1).bind fun r7 =>
  if ¬ r7 = 0 then
    (fX4_saves (M.1, M.2.1, M.2.2.1, M.2.2.2.1, M.2.2.2.2.1, M.2.2.2.2.2.1, (0 : Int32), M.2.2.2.2.2.2.2.1, M.2.2.2.2.2.2.2.2.1, M.2.2.2.2.2.2.2.2.2.1, M.2.2.2.2.2.2.2.2.2.2.1, M.2.2.2.2.2.2.2.2.2.2.2.1, M.2.2.2.2.2.2.2.2.2.2.2.2)).bind fun r20 =>
    (fX4_followers r20.1 p1).bind fun r28 =>
    fX4_remove_49 p1 512 r28 ((10 : Int32) + ((5 : Int32) * p1)) ((upd r20.1 (0 : Int32).toNatClampNeg ((r20.1 (0 : Int32).toNatClampNeg) - (1 : Int32))), r20.2.1, r20.2.2.1, r20.2.2.2.1, r20.2.2.2.2.1, r20.2.2.2.2.2.1, r20.2.2.2.2.2.2.1, r20.2.2.2.2.2.2.2.1, r20.2.2.2.2.2.2.2.2.1, r20.2.2.2.2.2.2.2.2.2.1, r20.2.2.2.2.2.2.2.2.2.2.1, r20.2.2.2.2.2.2.2.2.2.2.2.1, r20.2.2.2.2.2.2.2.2.2.2.2.2)
  else
    (fX4_fails (M.1, M.2.1, M.2.2.1, M.2.2.2.1, M.2.2.2.2.1, M.2.2.2.2.2.1, (0 : Int32), M.2.2.2.2.2.2.2.1, M.2.2.2.2.2.2.2.2.1, M.2.2.2.2.2.2.2.2.2.1, M.2.2.2.2.2.2.2.2.2.2.1, M.2.2.2.2.2.2.2.2.2.2.2.1, M.2.2.2.2.2.2.2.2.2.2.2.2) (1 : Int32)).bind fun r15 =>
    some (r15.1, r15.2)
def fX4_need (M : tw_Md) (p1 : Int32) (p2 : Int32) (p3 : Int32) : Option (Int32 × tw_Md) :=
  (fX4_isTask (M.1, M.2.1, M.2.2.1, M.2.2.2.1, M.2.2.2.2.1, M.2.2.2.2.2.1, (0 : Int32), M.2.2.2.2.2.2.2.1, M.2.2.2.2.2.2.2.2.1, M.2.2.2.2.2.2.2.2.2.1, M.2.2.2.2.2.2.2.2.2.2.1, M.2.2.2.2.2.2.2.2.2.2.2.1, M.2.2.2.2.2.2.2.2.2.2.2.2) p1).bind fun r7 =>
  if r7 = 0 then
    (fX4_fails (M.1, M.2.1, M.2.2.1, M.2.2.2.1, M.2.2.2.2.1, M.2.2.2.2.2.1, (0 : Int32), M.2.2.2.2.2.2.2.1, M.2.2.2.2.2.2.2.2.1, M.2.2.2.2.2.2.2.2.2.1, M.2.2.2.2.2.2.2.2.2.2.1, M.2.2.2.2.2.2.2.2.2.2.2.1, M.2.2.2.2.2.2.2.2.2.2.2.2) (1 : Int32)).bind fun r23 =>
    some (r23.1, r23.2)
  else
    (fX4_isTask (M.1, M.2.1, M.2.2.1, M.2.2.2.1, M.2.2.2.2.1, M.2.2.2.2.2.1, (0 : Int32), M.2.2.2.2.2.2.2.1, M.2.2.2.2.2.2.2.2.1, M.2.2.2.2.2.2.2.2.2.1, M.2.2.2.2.2.2.2.2.2.2.1, M.2.2.2.2.2.2.2.2.2.2.2.1, M.2.2.2.2.2.2.2.2.2.2.2.2) p2).bind fun r15 =>
    if ¬ r15 = 0 then
      if p2 < p1 then
        (fX4_saves (M.1, M.2.1, M.2.2.1, M.2.2.2.1, M.2.2.2.2.1, M.2.2.2.2.2.1, (0 : Int32), M.2.2.2.2.2.2.2.1, M.2.2.2.2.2.2.2.2.1, M.2.2.2.2.2.2.2.2.2.1, M.2.2.2.2.2.2.2.2.2.2.1, M.2.2.2.2.2.2.2.2.2.2.2.1, M.2.2.2.2.2.2.2.2.2.2.2.2)).bind fun r39 =>
        (fX4_of r39.1 p1 (4 : Int32)).bind fun r48 =>
        if p3 = 0 then
          tw_g (((10 : Int32) + ((5 : Int32) * p1)) + (4 : Int32)) 70 <|
          some (((r48 >>> (p2 &&& 31)) &&& (1 : Int32)), ((upd r39.1 (((10 : Int32) + ((5 : Int32) * p1)) + (4 : Int32)).toNatClampNeg (r48 &&& (((1 : Int32) <<< (p2 &&& 31)) ^^^ (-1 : Int32)))), r39.2.1, r39.2.2.1, r39.2.2.2.1, r39.2.2.2.2.1, r39.2.2.2.2.2.1, r39.2.2.2.2.2.2.1, r39.2.2.2.2.2.2.2.1, r39.2.2.2.2.2.2.2.2.1, r39.2.2.2.2.2.2.2.2.2.1, r39.2.2.2.2.2.2.2.2.2.2.1, r39.2.2.2.2.2.2.2.2.2.2.2.1, r39.2.2.2.2.2.2.2.2.2.2.2.2))
        else
          tw_g (((10 : Int32) + ((5 : Int32) * p1)) + (4 : Int32)) 70 <|
          some (((r48 >>> (p2 &&& 31)) &&& (1 : Int32)), ((upd r39.1 (((10 : Int32) + ((5 : Int32) * p1)) + (4 : Int32)).toNatClampNeg (r48 ||| ((1 : Int32) <<< (p2 &&& 31)))), r39.2.1, r39.2.2.1, r39.2.2.2.1, r39.2.2.2.2.1, r39.2.2.2.2.2.1, r39.2.2.2.2.2.2.1, r39.2.2.2.2.2.2.2.1, r39.2.2.2.2.2.2.2.2.1, r39.2.2.2.2.2.2.2.2.2.1, r39.2.2.2.2.2.2.2.2.2.2.1, r39.2.2.2.2.2.2.2.2.2.2.2.1, r39.2.2.2.2.2.2.2.2.2.2.2.2))
      else
        (fX4_fails (M.1, M.2.1, M.2.2.1, M.2.2.2.1, M.2.2.2.2.1, M.2.2.2.2.2.1, (0 : Int32), M.2.2.2.2.2.2.2.1, M.2.2.2.2.2.2.2.2.1, M.2.2.2.2.2.2.2.2.2.1, M.2.2.2.2.2.2.2.2.2.2.1, M.2.2.2.2.2.2.2.2.2.2.2.1, M.2.2.2.2.2.2.2.2.2.2.2.2) (2 : Int32)).bind fun r34 =>
        some (r34.1, r34.2)
    else
      (fX4_fails (M.1, M.2.1, M.2.2.1, M.2.2.2.1, M.2.2.2.2.1, M.2.2.2.2.2.1, (0 : Int32), M.2.2.2.2.2.2.2.1, M.2.2.2.2.2.2.2.2.1, M.2.2.2.2.2.2.2.2.2.1, M.2.2.2.2.2.2.2.2.2.2.1, M.2.2.2.2.2.2.2.2.2.2.2.1, M.2.2.2.2.2.2.2.2.2.2.2.2) (1 : Int32)).bind fun r23 =>
      some (r23.1, r23.2)
def fX4_change (M : tw_Md) (p1 : Int32) (p2 : Int32) (p3 : Int32) : Option (Int32 × tw_Md) :=
  (fX4_isTask (M.1, M.2.1, M.2.2.1, M.2.2.2.1, M.2.2.2.2.1, M.2.2.2.2.2.1, (0 : Int32), M.2.2.2.2.2.2.2.1, M.2.2.2.2.2.2.2.2.1, M.2.2.2.2.2.2.2.2.2.1, M.2.2.2.2.2.2.2.2.2.2.1, M.2.2.2.2.2.2.2.2.2.2.2.1, M.2.2.2.2.2.2.2.2.2.2.2.2) p1).bind fun r7 =>
  if ¬ r7 = 0 then
    (fX4_in p2 (0 : Int32) (3 : Int32)).bind fun r22 =>
    if r22 = 0 then
      (fX4_fails (M.1, M.2.1, M.2.2.1, M.2.2.2.1, M.2.2.2.2.1, M.2.2.2.2.2.1, (0 : Int32), M.2.2.2.2.2.2.2.1, M.2.2.2.2.2.2.2.2.1, M.2.2.2.2.2.2.2.2.2.1, M.2.2.2.2.2.2.2.2.2.2.1, M.2.2.2.2.2.2.2.2.2.2.2.1, M.2.2.2.2.2.2.2.2.2.2.2.2) (2 : Int32)).bind fun r38 =>
      some (r38.1, r38.2)
    else
      (fX4_isFor p2 p3).bind fun r30 =>
      if ¬ r30 = 0 then
        (fX4_saves (M.1, M.2.1, M.2.2.1, M.2.2.2.1, M.2.2.2.2.1, M.2.2.2.2.2.1, (0 : Int32), M.2.2.2.2.2.2.2.1, M.2.2.2.2.2.2.2.2.1, M.2.2.2.2.2.2.2.2.2.1, M.2.2.2.2.2.2.2.2.2.2.1, M.2.2.2.2.2.2.2.2.2.2.2.1, M.2.2.2.2.2.2.2.2.2.2.2.2)).bind fun r43 =>
        (fX4_of r43.1 p1 p2).bind fun r52 =>
        tw_g (((10 : Int32) + ((5 : Int32) * p1)) + p2) 70 <|
        some (r52, ((upd r43.1 (((10 : Int32) + ((5 : Int32) * p1)) + p2).toNatClampNeg p3), r43.2.1, r43.2.2.1, r43.2.2.2.1, r43.2.2.2.2.1, r43.2.2.2.2.2.1, r43.2.2.2.2.2.2.1, r43.2.2.2.2.2.2.2.1, r43.2.2.2.2.2.2.2.2.1, r43.2.2.2.2.2.2.2.2.2.1, r43.2.2.2.2.2.2.2.2.2.2.1, r43.2.2.2.2.2.2.2.2.2.2.2.1, r43.2.2.2.2.2.2.2.2.2.2.2.2))
      else
        (fX4_fails (M.1, M.2.1, M.2.2.1, M.2.2.2.1, M.2.2.2.2.1, M.2.2.2.2.2.1, (0 : Int32), M.2.2.2.2.2.2.2.1, M.2.2.2.2.2.2.2.2.1, M.2.2.2.2.2.2.2.2.2.1, M.2.2.2.2.2.2.2.2.2.2.1, M.2.2.2.2.2.2.2.2.2.2.2.1, M.2.2.2.2.2.2.2.2.2.2.2.2) (2 : Int32)).bind fun r38 =>
        some (r38.1, r38.2)
  else
    (fX4_fails (M.1, M.2.1, M.2.2.1, M.2.2.2.1, M.2.2.2.2.1, M.2.2.2.2.2.1, (0 : Int32), M.2.2.2.2.2.2.2.1, M.2.2.2.2.2.2.2.2.1, M.2.2.2.2.2.2.2.2.2.1, M.2.2.2.2.2.2.2.2.2.2.1, M.2.2.2.2.2.2.2.2.2.2.2.1, M.2.2.2.2.2.2.2.2.2.2.2.2) (1 : Int32)).bind fun r15 =>
    some (r15.1, r15.2)
def fX4_slip (M : tw_Md) (p1 : Int32) (p2 : Int32) : Option (Int32 × tw_Md) :=
  (fX4_isTask (M.1, M.2.1, M.2.2.1, M.2.2.2.1, M.2.2.2.2.1, M.2.2.2.2.2.1, (0 : Int32), M.2.2.2.2.2.2.2.1, M.2.2.2.2.2.2.2.2.1, M.2.2.2.2.2.2.2.2.2.1, M.2.2.2.2.2.2.2.2.2.2.1, M.2.2.2.2.2.2.2.2.2.2.2.1, M.2.2.2.2.2.2.2.2.2.2.2.2) p1).bind fun r7 =>
  if ¬ r7 = 0 then
    (fX4_in p2 (1 : Int32) (20 : Int32)).bind fun r23 =>
    if ¬ r23 = 0 then
      (fX4_plans (M.1, M.2.1, M.2.2.1, M.2.2.2.1, M.2.2.2.2.1, M.2.2.2.2.2.1, (0 : Int32), M.2.2.2.2.2.2.2.1, M.2.2.2.2.2.2.2.2.1, M.2.2.2.2.2.2.2.2.2.1, M.2.2.2.2.2.2.2.2.2.2.1, M.2.2.2.2.2.2.2.2.2.2.2.1, M.2.2.2.2.2.2.2.2.2.2.2.2)).bind fun r36 =>
      tw_g p1 12 <|
      if (r36.2.2.2.2.2.2.2.2.2.2.2.1 p1.toNatClampNeg) = (-1 : Int32) then
        (fX4_fails r36 (3 : Int32)).bind fun r64 =>
        some (r64.1, r64.2)
      else
        tw_g p1 12 <|
        if ((r36.2.2.2.2.2.2.2.2.2.2.2.1 p1.toNatClampNeg) + p2) ≤ (60 : Int32) then
          (fX4_saves r36).bind fun r69 =>
          (fX4_end r69.1 r69.2.2.2.2.2.2.2.2.2.2.2.1).bind fun r80 =>
          tw_g p1 12 <|
          tw_g (((10 : Int32) + ((5 : Int32) * p1)) + (3 : Int32)) 70 <|
          (fX4_plans ((upd r69.1 (((10 : Int32) + ((5 : Int32) * p1)) + (3 : Int32)).toNatClampNeg ((r69.2.2.2.2.2.2.2.2.2.2.2.1 p1.toNatClampNeg) + p2)), r69.2.1, r69.2.2.1, r69.2.2.2.1, r69.2.2.2.2.1, r69.2.2.2.2.2.1, r69.2.2.2.2.2.2.1, r69.2.2.2.2.2.2.2.1, r69.2.2.2.2.2.2.2.2.1, r69.2.2.2.2.2.2.2.2.2.1, r69.2.2.2.2.2.2.2.2.2.2.1, r69.2.2.2.2.2.2.2.2.2.2.2.1, r69.2.2.2.2.2.2.2.2.2.2.2.2)).bind fun r106 =>
          (fX4_end r106.1 r106.2.2.2.2.2.2.2.2.2.2.2.1).bind fun r117 =>
          some ((r117 - r80), r106)
        else
          (fX4_fails r36 (3 : Int32)).bind fun r64 =>
          some (r64.1, r64.2)
    else
      (fX4_fails (M.1, M.2.1, M.2.2.1, M.2.2.2.1, M.2.2.2.2.1, M.2.2.2.2.2.1, (0 : Int32), M.2.2.2.2.2.2.2.1, M.2.2.2.2.2.2.2.2.1, M.2.2.2.2.2.2.2.2.2.1, M.2.2.2.2.2.2.2.2.2.2.1, M.2.2.2.2.2.2.2.2.2.2.2.1, M.2.2.2.2.2.2.2.2.2.2.2.2) (2 : Int32)).bind fun r31 =>
      some (r31.1, r31.2)
  else
    (fX4_fails (M.1, M.2.1, M.2.2.1, M.2.2.2.1, M.2.2.2.2.1, M.2.2.2.2.2.1, (0 : Int32), M.2.2.2.2.2.2.2.1, M.2.2.2.2.2.2.2.2.1, M.2.2.2.2.2.2.2.2.2.1, M.2.2.2.2.2.2.2.2.2.2.1, M.2.2.2.2.2.2.2.2.2.2.2.1, M.2.2.2.2.2.2.2.2.2.2.2.2) (1 : Int32)).bind fun r15 =>
    some (r15.1, r15.2)
def fX4_borrow (M : tw_Md) (p1 : Int32) (p2 : Int32) (p3 : Int32) : Option (Int32 × tw_Md) :=
  (fX4_isHall p1).bind fun r6 =>
  if ¬ r6 = 0 then
    (fX4_isDay p2).bind fun r19 =>
    if r19 = 0 then
      (fX4_fails (M.1, M.2.1, M.2.2.1, M.2.2.2.1, M.2.2.2.2.1, M.2.2.2.2.2.1, (0 : Int32), M.2.2.2.2.2.2.2.1, M.2.2.2.2.2.2.2.2.1, M.2.2.2.2.2.2.2.2.2.1, M.2.2.2.2.2.2.2.2.2.2.1, M.2.2.2.2.2.2.2.2.2.2.2.1, M.2.2.2.2.2.2.2.2.2.2.2.2) (2 : Int32)).bind fun r37 =>
      some (r37.1, r37.2)
    else
      (fX4_in p3 p2 (99 : Int32)).bind fun r29 =>
      if ¬ r29 = 0 then
        (fX4_saves (M.1, M.2.1, M.2.2.1, M.2.2.2.1, M.2.2.2.2.1, M.2.2.2.2.2.1, (0 : Int32), M.2.2.2.2.2.2.2.1, M.2.2.2.2.2.2.2.2.1, M.2.2.2.2.2.2.2.2.2.1, M.2.2.2.2.2.2.2.2.2.2.1, M.2.2.2.2.2.2.2.2.2.2.2.1, M.2.2.2.2.2.2.2.2.2.2.2.2)).bind fun r42 =>
        tw_g ((2 : Int32) + ((2 : Int32) * p1)) 70 <|
        tw_g (((2 : Int32) + ((2 : Int32) * p1)) + (1 : Int32)) 70 <|
        (fX4_plans ((upd (upd r42.1 ((2 : Int32) + ((2 : Int32) * p1)).toNatClampNeg p2) (((2 : Int32) + ((2 : Int32) * p1)) + (1 : Int32)).toNatClampNeg p3), r42.2.1, r42.2.2.1, r42.2.2.2.1, r42.2.2.2.2.1, r42.2.2.2.2.2.1, r42.2.2.2.2.2.2.1, r42.2.2.2.2.2.2.2.1, r42.2.2.2.2.2.2.2.2.1, r42.2.2.2.2.2.2.2.2.2.1, r42.2.2.2.2.2.2.2.2.2.2.1, r42.2.2.2.2.2.2.2.2.2.2.2.1, r42.2.2.2.2.2.2.2.2.2.2.2.2)).bind fun r70 =>
        (fX4_laid r70.1 r70.2.2.2.2.2.2.2.2.2.2.2.1).bind fun r81 =>
        some (r81, r70)
      else
        (fX4_fails (M.1, M.2.1, M.2.2.1, M.2.2.2.1, M.2.2.2.2.1, M.2.2.2.2.2.1, (0 : Int32), M.2.2.2.2.2.2.2.1, M.2.2.2.2.2.2.2.2.1, M.2.2.2.2.2.2.2.2.2.1, M.2.2.2.2.2.2.2.2.2.2.1, M.2.2.2.2.2.2.2.2.2.2.2.1, M.2.2.2.2.2.2.2.2.2.2.2.2) (2 : Int32)).bind fun r37 =>
        some (r37.1, r37.2)
  else
    (fX4_fails (M.1, M.2.1, M.2.2.1, M.2.2.2.1, M.2.2.2.2.1, M.2.2.2.2.2.1, (0 : Int32), M.2.2.2.2.2.2.2.1, M.2.2.2.2.2.2.2.2.1, M.2.2.2.2.2.2.2.2.2.1, M.2.2.2.2.2.2.2.2.2.2.1, M.2.2.2.2.2.2.2.2.2.2.2.1, M.2.2.2.2.2.2.2.2.2.2.2.2) (1 : Int32)).bind fun r14 =>
    some (r14.1, r14.2)
def fX4_rule (M : tw_Md) (p1 : Int32) : Option (Int32 × tw_Md) :=
  (fX4_in p1 (0 : Int32) (3 : Int32)).bind fun r8 =>
  if ¬ r8 = 0 then
    (fX4_saves (M.1, M.2.1, M.2.2.1, M.2.2.2.1, M.2.2.2.2.1, M.2.2.2.2.2.1, (0 : Int32), M.2.2.2.2.2.2.2.1, M.2.2.2.2.2.2.2.2.1, M.2.2.2.2.2.2.2.2.2.1, M.2.2.2.2.2.2.2.2.2.2.1, M.2.2.2.2.2.2.2.2.2.2.2.1, M.2.2.2.2.2.2.2.2.2.2.2.2)).bind fun r21 =>
    some ((r21.1 (1 : Int32).toNatClampNeg), ((upd r21.1 (1 : Int32).toNatClampNeg p1), r21.2.1, r21.2.2.1, r21.2.2.2.1, r21.2.2.2.2.1, r21.2.2.2.2.2.1, r21.2.2.2.2.2.2.1, r21.2.2.2.2.2.2.2.1, r21.2.2.2.2.2.2.2.2.1, r21.2.2.2.2.2.2.2.2.2.1, r21.2.2.2.2.2.2.2.2.2.2.1, r21.2.2.2.2.2.2.2.2.2.2.2.1, r21.2.2.2.2.2.2.2.2.2.2.2.2))
  else
    (fX4_fails (M.1, M.2.1, M.2.2.1, M.2.2.2.1, M.2.2.2.2.1, M.2.2.2.2.2.1, (0 : Int32), M.2.2.2.2.2.2.2.1, M.2.2.2.2.2.2.2.2.1, M.2.2.2.2.2.2.2.2.2.1, M.2.2.2.2.2.2.2.2.2.2.1, M.2.2.2.2.2.2.2.2.2.2.2.1, M.2.2.2.2.2.2.2.2.2.2.2.2) (1 : Int32)).bind fun r16 =>
    some (r16.1, r16.2)
def fX4_append (M : tw_Md) (p1 : Int32) : Option (Int32 × tw_Md) :=
  (fX4_in p1 (33 : Int32) (126 : Int32)).bind fun r10 =>
  if ¬ r10 = 0 then
    if ¬ M.2.2.2.2.2.1 = (60 : Int32) then
      tw_g M.2.2.2.2.2.1 60 <|
      some ((M.2.2.2.2.2.1 + (1 : Int32)), (M.1, M.2.1, M.2.2.1, M.2.2.2.1, (upd M.2.2.2.2.1 M.2.2.2.2.2.1.toNatClampNeg p1), (M.2.2.2.2.2.1 + (1 : Int32)), (0 : Int32), M.2.2.2.2.2.2.2.1, M.2.2.2.2.2.2.2.2.1, M.2.2.2.2.2.2.2.2.2.1, M.2.2.2.2.2.2.2.2.2.2.1, M.2.2.2.2.2.2.2.2.2.2.2.1, M.2.2.2.2.2.2.2.2.2.2.2.2))
    else
      (fX4_fails (M.1, M.2.1, M.2.2.1, M.2.2.2.1, M.2.2.2.2.1, M.2.2.2.2.2.1, (0 : Int32), M.2.2.2.2.2.2.2.1, M.2.2.2.2.2.2.2.2.1, M.2.2.2.2.2.2.2.2.2.1, M.2.2.2.2.2.2.2.2.2.2.1, M.2.2.2.2.2.2.2.2.2.2.2.1, M.2.2.2.2.2.2.2.2.2.2.2.2) (2 : Int32)).bind fun r33 =>
      some (r33.1, r33.2)
  else
    (fX4_fails (M.1, M.2.1, M.2.2.1, M.2.2.2.1, M.2.2.2.2.1, M.2.2.2.2.2.1, (0 : Int32), M.2.2.2.2.2.2.2.1, M.2.2.2.2.2.2.2.2.1, M.2.2.2.2.2.2.2.2.2.1, M.2.2.2.2.2.2.2.2.2.2.1, M.2.2.2.2.2.2.2.2.2.2.2.1, M.2.2.2.2.2.2.2.2.2.2.2.2) (1 : Int32)).bind fun r18 =>
    some (r18.1, r18.2)
def fX4_clearBuffer (M : tw_Md)  : Option (Int32 × tw_Md) :=
  some (M.2.2.2.2.2.1, (M.1, M.2.1, M.2.2.1, M.2.2.2.1, M.2.2.2.2.1, (0 : Int32), (0 : Int32), M.2.2.2.2.2.2.2.1, M.2.2.2.2.2.2.2.2.1, M.2.2.2.2.2.2.2.2.2.1, M.2.2.2.2.2.2.2.2.2.2.1, M.2.2.2.2.2.2.2.2.2.2.2.1, M.2.2.2.2.2.2.2.2.2.2.2.2))
def fX4_isAt (M : tw_Md) (p1 : Int32) (p2 : Int32) : Option (Int32) :=
  if M.2.2.2.2.2.1 ≤ M.2.2.2.2.2.2.2.1 then
    some (0 : Int32)
  else
    tw_g M.2.2.2.2.2.2.2.1 60 <|
    (fX4_in (M.2.2.2.2.1 M.2.2.2.2.2.2.2.1.toNatClampNeg) p1 p2).bind fun r22 =>
    if r22 = 0 then
      some (0 : Int32)
    else
      some (1 : Int32)
def fX4_stops (M : tw_Md)  : Option (Int32 × tw_Md) :=
  if M.2.2.2.2.2.1 ≤ M.2.2.2.2.2.2.2.1 then
    some ((0 : Int32), (M.1, M.2.1, M.2.2.1, M.2.2.2.1, M.2.2.2.2.1, M.2.2.2.2.2.1, M.2.2.2.2.2.2.1, M.2.2.2.2.2.2.2.1, (0 : Int32), M.2.2.2.2.2.2.2.2.2.1, M.2.2.2.2.2.2.2.2.2.2.1, M.2.2.2.2.2.2.2.2.2.2.2.1, M.2.2.2.2.2.2.2.2.2.2.2.2))
  else
    some ((0 : Int32), (M.1, M.2.1, M.2.2.1, M.2.2.2.1, M.2.2.2.2.1, M.2.2.2.2.2.1, M.2.2.2.2.2.2.1, M.2.2.2.2.2.2.2.1, (1 : Int32), M.2.2.2.2.2.2.2.2.2.1, M.2.2.2.2.2.2.2.2.2.2.1, M.2.2.2.2.2.2.2.2.2.2.2.1, M.2.2.2.2.2.2.2.2.2.2.2.2))
def fX4_isSign (M : tw_Md) (p1 : Int32) : Option (Int32 × tw_Md) :=
  (fX4_isAt M p1 p1).bind fun r3 =>
  if r3 = 0 then
    tw_q (r3 = 0 ∨ r3 = 1) <|
    some (r3, (M.1, M.2.1, M.2.2.1, M.2.2.2.1, M.2.2.2.2.1, M.2.2.2.2.2.1, M.2.2.2.2.2.2.1, (M.2.2.2.2.2.2.2.1 + (0 : Int32)), M.2.2.2.2.2.2.2.2.1, M.2.2.2.2.2.2.2.2.2.1, M.2.2.2.2.2.2.2.2.2.2.1, M.2.2.2.2.2.2.2.2.2.2.2.1, M.2.2.2.2.2.2.2.2.2.2.2.2))
  else
    tw_q (r3 = 0 ∨ r3 = 1) <|
    some (r3, (M.1, M.2.1, M.2.2.1, M.2.2.2.1, M.2.2.2.2.1, M.2.2.2.2.2.1, M.2.2.2.2.2.2.1, (M.2.2.2.2.2.2.2.1 + (1 : Int32)), M.2.2.2.2.2.2.2.2.1, M.2.2.2.2.2.2.2.2.2.1, M.2.2.2.2.2.2.2.2.2.2.1, M.2.2.2.2.2.2.2.2.2.2.2.1, M.2.2.2.2.2.2.2.2.2.2.2.2))
def fX4_isFigure (M : tw_Md) (p1 : Int32) (p2 : Int32) (p3 : Int32) : Option (Int32 × tw_Md) :=
  (fX4_isAt M p2 p3).bind fun r3 =>
  if ¬ r3 = 0 then
    tw_g M.2.2.2.2.2.2.2.1 60 <|
    tw_g (((4 : Int32) * M.2.2.2.2.2.2.2.2.2.2.1) + p1) 124 <|
    some ((1 : Int32), (M.1, M.2.1, M.2.2.1, M.2.2.2.1, M.2.2.2.2.1, M.2.2.2.2.2.1, M.2.2.2.2.2.2.1, (M.2.2.2.2.2.2.2.1 + (1 : Int32)), M.2.2.2.2.2.2.2.2.1, (upd M.2.2.2.2.2.2.2.2.2.1 (((4 : Int32) * M.2.2.2.2.2.2.2.2.2.2.1) + p1).toNatClampNeg ((M.2.2.2.2.1 M.2.2.2.2.2.2.2.1.toNatClampNeg) - (48 : Int32))), M.2.2.2.2.2.2.2.2.2.2.1, M.2.2.2.2.2.2.2.2.2.2.2.1, M.2.2.2.2.2.2.2.2.2.2.2.2))
  else
    (fX4_stops M).bind fun r10 =>
    tw_q (r10.1 = 0 ∨ r10.1 = 1) <|
    some (r10.1, r10.2)
def fX4_isNeeds_3   : Nat → Int32 → tw_Md → Option (Int32 × tw_Md)
  | 0, _, _ => none
  | n + 1, v1, M =>
    (fX4_isAt M v1 (108 : Int32)).bind fun r7 =>
    if r7 = 0 then
      tw_g (((4 : Int32) * M.2.2.2.2.2.2.2.2.2.2.1) + (3 : Int32)) 124 <|
      if ¬ (M.2.2.2.2.2.2.2.2.2.1 (((4 : Int32) * M.2.2.2.2.2.2.2.2.2.2.1) + (3 : Int32)).toNatClampNeg) = 0 then
        some ((1 : Int32), M)
      else
        (fX4_stops M).bind fun r85 =>
        if r85.1 = 0 then
          some ((0 : Int32), r85.2)
        else
          some ((1 : Int32), r85.2)
    else
      tw_g (((4 : Int32) * M.2.2.2.2.2.2.2.2.2.2.1) + (3 : Int32)) 124 <|
      tw_g M.2.2.2.2.2.2.2.1 60 <|
      tw_g (((4 : Int32) * M.2.2.2.2.2.2.2.2.2.2.1) + (3 : Int32)) 124 <|
      tw_g M.2.2.2.2.2.2.2.1 60 <|
      fX4_isNeeds_3 n ((M.2.2.2.2.1 M.2.2.2.2.2.2.2.1.toNatClampNeg) + (1 : Int32)) (M.1, M.2.1, M.2.2.1, M.2.2.2.1, M.2.2.2.2.1, M.2.2.2.2.2.1, M.2.2.2.2.2.2.1, (M.2.2.2.2.2.2.2.1 + (1 : Int32)), M.2.2.2.2.2.2.2.2.1, (upd M.2.2.2.2.2.2.2.2.2.1 (((4 : Int32) * M.2.2.2.2.2.2.2.2.2.2.1) + (3 : Int32)).toNatClampNeg ((M.2.2.2.2.2.2.2.2.2.1 (((4 : Int32) * M.2.2.2.2.2.2.2.2.2.2.1) + (3 : Int32)).toNatClampNeg) ||| ((1 : Int32) <<< (((M.2.2.2.2.1 M.2.2.2.2.2.2.2.1.toNatClampNeg) - (97 : Int32)) &&& 31)))), M.2.2.2.2.2.2.2.2.2.2.1, M.2.2.2.2.2.2.2.2.2.2.2.1, M.2.2.2.2.2.2.2.2.2.2.2.2)
def fX4_isNeeds (M : tw_Md)  : Option (Int32 × tw_Md) :=
  fX4_isNeeds_3 512 (97 : Int32) M
def fX4_isPart_116   (M : tw_Md) : Option (Int32 × tw_Md) :=
  (fX4_isSign M (110 : Int32)).bind fun r119 =>
  if r119.1 = 0 then
    some ((1 : Int32), r119.2)
  else
    (fX4_isNeeds r119.2).bind fun r126 =>
    if r126.1 = 0 then
      some ((0 : Int32), r126.2)
    else
      some ((1 : Int32), r126.2)
def fX4_isPart_93   (M : tw_Md) : Option (Int32 × tw_Md) :=
  (fX4_isSign M (104 : Int32)).bind fun r96 =>
  if r96.1 = 0 then
    fX4_isPart_116 r96.2
  else
    (fX4_isFigure r96.2 (2 : Int32) (48 : Int32) (51 : Int32)).bind fun r108 =>
    if ¬ r108.1 = 0 then
      fX4_isPart_116 r108.2
    else
      some ((0 : Int32), r108.2)
def fX4_isPart (M : tw_Md)  : Option (Int32 × tw_Md) :=
  tw_g (((4 : Int32) * M.2.2.2.2.2.2.2.2.2.2.1) + (1 : Int32)) 124 <|
  tw_g (((4 : Int32) * M.2.2.2.2.2.2.2.2.2.2.1) + (2 : Int32)) 124 <|
  tw_g (((4 : Int32) * M.2.2.2.2.2.2.2.2.2.2.1) + (3 : Int32)) 124 <|
  (fX4_isSign (M.1, M.2.1, M.2.2.1, M.2.2.2.1, M.2.2.2.2.1, M.2.2.2.2.2.1, M.2.2.2.2.2.2.1, M.2.2.2.2.2.2.2.1, M.2.2.2.2.2.2.2.2.1, (upd (upd (upd M.2.2.2.2.2.2.2.2.2.1 (((4 : Int32) * M.2.2.2.2.2.2.2.2.2.2.1) + (1 : Int32)).toNatClampNeg (-1 : Int32)) (((4 : Int32) * M.2.2.2.2.2.2.2.2.2.2.1) + (2 : Int32)).toNatClampNeg (-1 : Int32)) (((4 : Int32) * M.2.2.2.2.2.2.2.2.2.2.1) + (3 : Int32)).toNatClampNeg (0 : Int32)), M.2.2.2.2.2.2.2.2.2.2.1, M.2.2.2.2.2.2.2.2.2.2.2.1, M.2.2.2.2.2.2.2.2.2.2.2.2) (100 : Int32)).bind fun r45 =>
  if ¬ r45.1 = 0 then
    (fX4_isFigure r45.2 (0 : Int32) (49 : Int32) (57 : Int32)).bind fun r62 =>
    if ¬ r62.1 = 0 then
      (fX4_isSign r62.2 (112 : Int32)).bind fun r73 =>
      if r73.1 = 0 then
        fX4_isPart_93 r73.2
      else
        (fX4_isFigure r73.2 (1 : Int32) (48 : Int32) (53 : Int32)).bind fun r85 =>
        if ¬ r85.1 = 0 then
          fX4_isPart_93 r85.2
        else
          some ((0 : Int32), r85.2)
    else
      some ((0 : Int32), r62.2)
  else
    (fX4_stops r45.2).bind fun r52 =>
    tw_q (r52.1 = 0 ∨ r52.1 = 1) <|
    some (r52.1, r52.2)
def fX4_isText_67   (t1 : Int32) (M : tw_Md) : Option (Int32 × tw_Md) :=
  tw_q (t1 = 0 ∨ t1 = 1) <|
  if ¬ M.2.2.2.2.2.2.2.1 = M.2.2.2.2.2.1 then
    some ((0 : Int32), (M.1, M.2.1, M.2.2.1, M.2.2.2.1, M.2.2.2.2.1, M.2.2.2.2.2.1, M.2.2.2.2.2.2.1, M.2.2.2.2.2.2.2.1, t1, M.2.2.2.2.2.2.2.2.2.1, M.2.2.2.2.2.2.2.2.2.2.1, M.2.2.2.2.2.2.2.2.2.2.2.1, M.2.2.2.2.2.2.2.2.2.2.2.2))
  else
    some ((1 : Int32), (M.1, M.2.1, M.2.2.1, M.2.2.2.1, M.2.2.2.2.1, M.2.2.2.2.2.1, M.2.2.2.2.2.2.1, M.2.2.2.2.2.2.2.1, t1, M.2.2.2.2.2.2.2.2.2.1, M.2.2.2.2.2.2.2.2.2.2.1, M.2.2.2.2.2.2.2.2.2.2.2.1, M.2.2.2.2.2.2.2.2.2.2.2.2))
def fX4_isText_17   : Nat → Int32 → tw_Md → Option (Int32 × tw_Md)
  | 0, _, _ => none
  | n + 1, v1, M =>
    if v1 = 0 then
      if M.2.2.2.2.2.1 ≤ M.2.2.2.2.2.2.2.1 then
        fX4_isText_67 (0 : Int32) M
      else
        fX4_isText_67 (1 : Int32) M
    else
      (fX4_isPart M).bind fun r22 =>
      if ¬ r22.1 = 0 then
        (fX4_isSign (r22.2.1, r22.2.2.1, r22.2.2.2.1, r22.2.2.2.2.1, r22.2.2.2.2.2.1, r22.2.2.2.2.2.2.1, r22.2.2.2.2.2.2.2.1, r22.2.2.2.2.2.2.2.2.1, r22.2.2.2.2.2.2.2.2.2.1, r22.2.2.2.2.2.2.2.2.2.2.1, (r22.2.2.2.2.2.2.2.2.2.2.2.1 + (1 : Int32)), r22.2.2.2.2.2.2.2.2.2.2.2.2.1, r22.2.2.2.2.2.2.2.2.2.2.2.2.2) (59 : Int32)).bind fun r43 =>
        fX4_isText_17 n r43.1 r43.2
      else
        some ((0 : Int32), r22.2)
def fX4_isText (M : tw_Md)  : Option (Int32 × tw_Md) :=
  fX4_isText_17 512 (1 : Int32) (M.1, M.2.1, M.2.2.1, M.2.2.2.1, M.2.2.2.2.1, M.2.2.2.2.2.1, M.2.2.2.2.2.2.1, (0 : Int32), (0 : Int32), M.2.2.2.2.2.2.2.2.2.1, (0 : Int32), M.2.2.2.2.2.2.2.2.2.2.2.1, M.2.2.2.2.2.2.2.2.2.2.2.2)
def fX4_firstError (M : tw_Md)  : Option (Int32 × tw_Md) :=
  (fX4_isText (M.1, M.2.1, M.2.2.1, M.2.2.2.1, M.2.2.2.2.1, M.2.2.2.2.2.1, (0 : Int32), M.2.2.2.2.2.2.2.1, M.2.2.2.2.2.2.2.2.1, M.2.2.2.2.2.2.2.2.2.1, M.2.2.2.2.2.2.2.2.2.2.1, M.2.2.2.2.2.2.2.2.2.2.2.1, M.2.2.2.2.2.2.2.2.2.2.2.2)).bind fun r6 =>
  if ¬ r6.1 = 0 then
    some (r6.2.2.2.2.2.2.1, r6.2)
  else
    if r6.2.2.2.2.2.2.2.2.2.1 = 0 then
      some (r6.2.2.2.2.2.2.1, r6.2)
    else
      some (r6.2.2.2.2.2.2.2.2.1, r6.2)
def fX4_mayCome_24 (M : tw_Md)  : Nat → Int32 → Int32 → Option (Int32)
  | 0, _, _ => none
  | n + 1, v1, v2 =>
    if M.2.2.2.2.2.2.2.2.2.2.1 ≤ v2 then
      tw_q (v1 = 0 ∨ v1 = 1) <|
      some v1
    else
      if v1 = 0 then
        fX4_mayCome_24 M n (0 : Int32) (v2 + 1)
      else
        tw_g (((4 : Int32) * v2) + (3 : Int32)) 124 <|
        if ¬ ((M.2.2.2.2.2.2.2.2.2.1 (((4 : Int32) * v2) + (3 : Int32)).toNatClampNeg) >>> (((M.1 (0 : Int32).toNatClampNeg) + v2) &&& 31)) = 0 then
          fX4_mayCome_24 M n (0 : Int32) (v2 + 1)
        else
          fX4_mayCome_24 M n (1 : Int32) (v2 + 1)
def fX4_mayCome (M : tw_Md)  : Option (Int32) :=
  if (12 : Int32) < ((M.1 (0 : Int32).toNatClampNeg) + M.2.2.2.2.2.2.2.2.2.2.1) then
    fX4_mayCome_24 M 512 (0 : Int32) (0 : Int32)
  else
    fX4_mayCome_24 M 512 (1 : Int32) (0 : Int32)
def fX4_addAll_42   : Nat → Int32 → tw_Md → Option (Int32 × tw_Md)
  | 0, _, _ => none
  | n + 1, v1, M =>
    if M.2.2.2.2.2.2.2.2.2.2.1 ≤ v1 then
      some ((M.1 (0 : Int32).toNatClampNeg), M)
    else
      tw_g ((4 : Int32) * v1) 124 <|
      tw_g (((4 : Int32) * v1) + (1 : Int32)) 124 <|
      tw_g (((4 : Int32) * v1) + (2 : Int32)) 124 <|
      tw_g (((4 : Int32) * v1) + (3 : Int32)) 124 <|
      (fX4_comes M (M.2.2.2.2.2.2.2.2.2.1 ((4 : Int32) * v1).toNatClampNeg) (M.2.2.2.2.2.2.2.2.2.1 (((4 : Int32) * v1) + (1 : Int32)).toNatClampNeg) (M.2.2.2.2.2.2.2.2.2.1 (((4 : Int32) * v1) + (2 : Int32)).toNatClampNeg) (M.2.2.2.2.2.2.2.2.2.1 (((4 : Int32) * v1) + (3 : Int32)).toNatClampNeg)).bind fun r89 =>
      fX4_addAll_42 n (v1 + 1) r89
def fX4_addAll (M : tw_Md)  : Option (Int32 × tw_Md) :=
  (fX4_isText (M.1, M.2.1, M.2.2.1, M.2.2.2.1, M.2.2.2.2.1, M.2.2.2.2.2.1, (0 : Int32), M.2.2.2.2.2.2.2.1, M.2.2.2.2.2.2.2.2.1, M.2.2.2.2.2.2.2.2.2.1, M.2.2.2.2.2.2.2.2.2.2.1, M.2.2.2.2.2.2.2.2.2.2.2.1, M.2.2.2.2.2.2.2.2.2.2.2.2)).bind fun r6 =>
  if ¬ r6.1 = 0 then
    (fX4_mayCome r6.2).bind fun r19 =>
    if ¬ r19 = 0 then
      (fX4_saves r6.2).bind fun r32 =>
      fX4_addAll_42 512 (0 : Int32) (r32.1, r32.2.1, r32.2.2.1, r32.2.2.2.1, r32.2.2.2.2.1, (0 : Int32), r32.2.2.2.2.2.2.1, r32.2.2.2.2.2.2.2.1, r32.2.2.2.2.2.2.2.2.1, r32.2.2.2.2.2.2.2.2.2.1, r32.2.2.2.2.2.2.2.2.2.2.1, r32.2.2.2.2.2.2.2.2.2.2.2.1, r32.2.2.2.2.2.2.2.2.2.2.2.2)
    else
      (fX4_fails r6.2 (2 : Int32)).bind fun r27 =>
      some (r27.1, r27.2)
  else
    (fX4_fails r6.2 (1 : Int32)).bind fun r14 =>
    some (r14.1, r14.2)
def fX4_ofTask (M : tw_Md) (p1 : Int32) (p2 : Int32) : Option (Int32 × tw_Md) :=
  if (6 : Int32) ≤ p2 then
    (fX4_plans M).bind fun r33 =>
    if ¬ p2 = (6 : Int32) then
      if ¬ p2 = (7 : Int32) then
        (fX4_waits r33.1 r33.2.2.2.2.2.2.2.2.2.2.2.1 p1).bind fun r74 =>
        some (r74, r33)
      else
        (fX4_slack r33 p1).bind fun r59 =>
        some (r59.1, r59.2)
    else
      tw_g p1 12 <|
      some ((r33.2.2.2.2.2.2.2.2.2.2.2.1 p1.toNatClampNeg), r33)
  else
    if (5 : Int32) ≤ p2 then
      (fX4_followers M.1 p1).bind fun r28 =>
      some (r28, M)
    else
      (fX4_of M.1 p1 p2).bind fun r17 =>
      some (r17, M)
def fX4_task (M : tw_Md) (p1 : Int32) (p2 : Int32) : Option (Int32 × tw_Md) :=
  (fX4_isTask (M.1, M.2.1, M.2.2.1, M.2.2.2.1, M.2.2.2.2.1, M.2.2.2.2.2.1, (0 : Int32), M.2.2.2.2.2.2.2.1, M.2.2.2.2.2.2.2.2.1, M.2.2.2.2.2.2.2.2.2.1, M.2.2.2.2.2.2.2.2.2.2.1, M.2.2.2.2.2.2.2.2.2.2.2.1, M.2.2.2.2.2.2.2.2.2.2.2.2) p1).bind fun r7 =>
  if ¬ r7 = 0 then
    (fX4_in p2 (0 : Int32) (8 : Int32)).bind fun r23 =>
    if r23 = 0 then
      (fX4_fails (M.1, M.2.1, M.2.2.1, M.2.2.2.1, M.2.2.2.2.1, M.2.2.2.2.2.1, (0 : Int32), M.2.2.2.2.2.2.2.1, M.2.2.2.2.2.2.2.2.1, M.2.2.2.2.2.2.2.2.2.1, M.2.2.2.2.2.2.2.2.2.2.1, M.2.2.2.2.2.2.2.2.2.2.2.1, M.2.2.2.2.2.2.2.2.2.2.2.2) (2 : Int32)).bind fun r40 =>
      some (r40.1, r40.2)
    else
      (fX4_ofTask (M.1, M.2.1, M.2.2.1, M.2.2.2.1, M.2.2.2.2.1, M.2.2.2.2.2.1, (0 : Int32), M.2.2.2.2.2.2.2.1, M.2.2.2.2.2.2.2.2.1, M.2.2.2.2.2.2.2.2.2.1, M.2.2.2.2.2.2.2.2.2.2.1, M.2.2.2.2.2.2.2.2.2.2.2.1, M.2.2.2.2.2.2.2.2.2.2.2.2) p1 p2).bind fun r32 =>
      some (r32.1, r32.2)
  else
    (fX4_fails (M.1, M.2.1, M.2.2.1, M.2.2.2.1, M.2.2.2.2.1, M.2.2.2.2.2.1, (0 : Int32), M.2.2.2.2.2.2.2.1, M.2.2.2.2.2.2.2.2.1, M.2.2.2.2.2.2.2.2.2.1, M.2.2.2.2.2.2.2.2.2.2.1, M.2.2.2.2.2.2.2.2.2.2.2.1, M.2.2.2.2.2.2.2.2.2.2.2.2) (1 : Int32)).bind fun r15 =>
    some (r15.1, r15.2)
def fX4_on_3 (M : tw_Md) (p1 : Int32) (p2 : Int32) (p3 : Int32)  : Nat → Int32 → Option (Int32)
  | 0, _ => none
  | n + 1, v4 =>
    if (M.1 (0 : Int32).toNatClampNeg) ≤ v4 then
      some (-1 : Int32)
    else
      (fX4_of M.1 v4 p1).bind fun r21 =>
      if ¬ r21 = p2 then
        fX4_on_3 M p1 p2 p3 n (v4 + 1)
      else
        tw_g v4 12 <|
        if (M.2.2.2.2.2.2.2.2.2.2.2.1 v4.toNatClampNeg) = (-1 : Int32) then
          fX4_on_3 M p1 p2 p3 n (v4 + 1)
        else
          tw_g v4 12 <|
          (fX4_behind M.1 M.2.2.2.2.2.2.2.2.2.2.2.1 v4).bind fun r57 =>
          (fX4_in p3 (M.2.2.2.2.2.2.2.2.2.2.2.1 v4.toNatClampNeg) (r57 - (1 : Int32))).bind fun r62 =>
          if r62 = 0 then
            fX4_on_3 M p1 p2 p3 n (v4 + 1)
          else
            some v4
def fX4_on (M : tw_Md) (p1 : Int32) (p2 : Int32) (p3 : Int32) : Option (Int32) :=
  fX4_on_3 M p1 p2 p3 512 (0 : Int32)
def fX4_personOn (M : tw_Md) (p1 : Int32) (p2 : Int32) : Option (Int32 × tw_Md) :=
  (fX4_plans (M.1, M.2.1, M.2.2.1, M.2.2.2.1, M.2.2.2.2.1, M.2.2.2.2.2.1, (0 : Int32), M.2.2.2.2.2.2.2.1, M.2.2.2.2.2.2.2.2.1, M.2.2.2.2.2.2.2.2.2.1, M.2.2.2.2.2.2.2.2.2.2.1, M.2.2.2.2.2.2.2.2.2.2.2.1, M.2.2.2.2.2.2.2.2.2.2.2.2)).bind fun r6 =>
  (fX4_isPerson p1).bind fun r10 =>
  if r10 = 0 then
    (fX4_fails r6 (1 : Int32)).bind fun r35 =>
    some (r35.1, r35.2)
  else
    (fX4_isDay p2).bind fun r17 =>
    if r17 = 0 then
      (fX4_fails r6 (1 : Int32)).bind fun r35 =>
      some (r35.1, r35.2)
    else
      (fX4_on r6 (1 : Int32) p1 p2).bind fun r27 =>
      some (r27, r6)
def fX4_hallOn (M : tw_Md) (p1 : Int32) (p2 : Int32) : Option (Int32 × tw_Md) :=
  (fX4_plans (M.1, M.2.1, M.2.2.1, M.2.2.2.1, M.2.2.2.2.1, M.2.2.2.2.2.1, (0 : Int32), M.2.2.2.2.2.2.2.1, M.2.2.2.2.2.2.2.2.1, M.2.2.2.2.2.2.2.2.2.1, M.2.2.2.2.2.2.2.2.2.2.1, M.2.2.2.2.2.2.2.2.2.2.2.1, M.2.2.2.2.2.2.2.2.2.2.2.2)).bind fun r6 =>
  (fX4_isHall p1).bind fun r10 =>
  if r10 = 0 then
    (fX4_fails r6 (1 : Int32)).bind fun r35 =>
    some (r35.1, r35.2)
  else
    (fX4_isDay p2).bind fun r17 =>
    if r17 = 0 then
      (fX4_fails r6 (1 : Int32)).bind fun r35 =>
      some (r35.1, r35.2)
    else
      (fX4_on r6 (2 : Int32) p1 p2).bind fun r27 =>
      some (r27, r6)
def fX4_ofHall_68 (p1 : Int32) (p2 : Int32) (k27 : Int32 → Int32 → tw_Md → Option (Int32 × tw_Md)) (t0 : Int32) (v3 : Int32) (v4 : Int32) (M : tw_Md) : Option (Int32 × tw_Md) :=
  if t0 = 0 then
    k27 (v3 + (0 : Int32)) (v4 + 1) M
  else
    if ¬ p2 = (2 : Int32) then
      k27 (v3 + (1 : Int32)) (v4 + 1) M
    else
      (fX4_of M.1 v4 (0 : Int32)).bind fun r88 =>
      k27 (v3 + r88) (v4 + 1) M
def fX4_ofHall_27 (p1 : Int32) (p2 : Int32)  : Nat → Int32 → Int32 → tw_Md → Option (Int32 × tw_Md)
  | 0, _, _, _ => none
  | n + 1, v3, v4, M =>
    if (M.1 (0 : Int32).toNatClampNeg) ≤ v4 then
      some (v3, M)
    else
      (fX4_of M.1 v4 (2 : Int32)).bind fun r45 =>
      if ¬ r45 = p1 then
        fX4_ofHall_68 p1 p2 (fX4_ofHall_27 p1 p2 n) (0 : Int32) v3 v4 M
      else
        tw_g v4 12 <|
        if (M.2.2.2.2.2.2.2.2.2.2.2.1 v4.toNatClampNeg) = (-1 : Int32) then
          fX4_ofHall_68 p1 p2 (fX4_ofHall_27 p1 p2 n) (0 : Int32) v3 v4 M
        else
          fX4_ofHall_68 p1 p2 (fX4_ofHall_27 p1 p2 n) (1 : Int32) v3 v4 M
def fX4_ofHall (M : tw_Md) (p1 : Int32) (p2 : Int32) : Option (Int32 × tw_Md) :=
  if (2 : Int32) ≤ p2 then
    (fX4_plans M).bind fun r19 =>
    fX4_ofHall_27 p1 p2 512 (0 : Int32) (0 : Int32) r19
  else
    tw_g (((2 : Int32) + ((2 : Int32) * p1)) + p2) 70 <|
    some ((M.1 (((2 : Int32) + ((2 : Int32) * p1)) + p2).toNatClampNeg), M)
def fX4_hall (M : tw_Md) (p1 : Int32) (p2 : Int32) : Option (Int32 × tw_Md) :=
  (fX4_isHall p1).bind fun r6 =>
  if ¬ r6 = 0 then
    (fX4_in p2 (0 : Int32) (3 : Int32)).bind fun r21 =>
    if r21 = 0 then
      (fX4_fails (M.1, M.2.1, M.2.2.1, M.2.2.2.1, M.2.2.2.2.1, M.2.2.2.2.2.1, (0 : Int32), M.2.2.2.2.2.2.2.1, M.2.2.2.2.2.2.2.2.1, M.2.2.2.2.2.2.2.2.2.1, M.2.2.2.2.2.2.2.2.2.2.1, M.2.2.2.2.2.2.2.2.2.2.2.1, M.2.2.2.2.2.2.2.2.2.2.2.2) (2 : Int32)).bind fun r38 =>
      some (r38.1, r38.2)
    else
      (fX4_ofHall (M.1, M.2.1, M.2.2.1, M.2.2.2.1, M.2.2.2.2.1, M.2.2.2.2.2.1, (0 : Int32), M.2.2.2.2.2.2.2.1, M.2.2.2.2.2.2.2.2.1, M.2.2.2.2.2.2.2.2.2.1, M.2.2.2.2.2.2.2.2.2.2.1, M.2.2.2.2.2.2.2.2.2.2.2.1, M.2.2.2.2.2.2.2.2.2.2.2.2) p1 p2).bind fun r30 =>
      some (r30.1, r30.2)
  else
    (fX4_fails (M.1, M.2.1, M.2.2.1, M.2.2.2.1, M.2.2.2.2.1, M.2.2.2.2.2.1, (0 : Int32), M.2.2.2.2.2.2.2.1, M.2.2.2.2.2.2.2.2.1, M.2.2.2.2.2.2.2.2.2.1, M.2.2.2.2.2.2.2.2.2.2.1, M.2.2.2.2.2.2.2.2.2.2.2.1, M.2.2.2.2.2.2.2.2.2.2.2.2) (1 : Int32)).bind fun r14 =>
    some (r14.1, r14.2)
def fX4_critical_4   : Nat → Int32 → Int32 → tw_Md → Option (Int32 × tw_Md)
  | 0, _, _, _ => none
  | n + 1, v1, v2, M =>
    if (M.1 (0 : Int32).toNatClampNeg) ≤ v2 then
      some (v1, M)
    else
      (fX4_slack M v2).bind fun r17 =>
      if ¬ r17.1 = 0 then
        fX4_critical_4 n (v1 + (0 : Int32)) (v2 + 1) r17.2
      else
        fX4_critical_4 n (v1 + (1 : Int32)) (v2 + 1) r17.2
def fX4_critical (M : tw_Md)  : Option (Int32 × tw_Md) :=
  fX4_critical_4 512 (0 : Int32) (0 : Int32) M
def fX4_longest_19  (k4 : Int32 → Int32 → tw_Md → Option (Int32 × tw_Md)) : Nat → Int32 → Int32 → Int32 → Int32 → tw_Md → Option (Int32 × tw_Md)
  | 0, _, _, _, _, _ => none
  | n + 1, v1, v2, v3, v4, M =>
    if v2 ≤ v4 then
      (fX4_of M.1 v2 (0 : Int32)).bind fun r84 =>
      tw_g v2 12 <|
      tw_g v2 12 <|
      if ((upd M.2.2.2.2.2.2.2.2.2.2.2.2 v2.toNatClampNeg (v3 + r84)) v2.toNatClampNeg) ≤ v1 then
        k4 v1 (v2 + 1) (M.1, M.2.1, M.2.2.1, M.2.2.2.1, M.2.2.2.2.1, M.2.2.2.2.2.1, M.2.2.2.2.2.2.1, M.2.2.2.2.2.2.2.1, M.2.2.2.2.2.2.2.2.1, M.2.2.2.2.2.2.2.2.2.1, M.2.2.2.2.2.2.2.2.2.2.1, M.2.2.2.2.2.2.2.2.2.2.2.1, (upd M.2.2.2.2.2.2.2.2.2.2.2.2 v2.toNatClampNeg (v3 + r84)))
      else
        tw_g v2 12 <|
        k4 ((upd M.2.2.2.2.2.2.2.2.2.2.2.2 v2.toNatClampNeg (v3 + r84)) v2.toNatClampNeg) (v2 + 1) (M.1, M.2.1, M.2.2.1, M.2.2.2.1, M.2.2.2.2.1, M.2.2.2.2.2.1, M.2.2.2.2.2.2.1, M.2.2.2.2.2.2.2.1, M.2.2.2.2.2.2.2.2.1, M.2.2.2.2.2.2.2.2.2.1, M.2.2.2.2.2.2.2.2.2.2.1, M.2.2.2.2.2.2.2.2.2.2.2.1, (upd M.2.2.2.2.2.2.2.2.2.2.2.2 v2.toNatClampNeg (v3 + r84)))
    else
      (fX4_of M.1 v2 (4 : Int32)).bind fun r31 =>
      if ¬ ((r31 >>> (v4 &&& 31)) &&& (1 : Int32)) = (1 : Int32) then
        fX4_longest_19 k4 n v1 v2 v3 (v4 + 1) M
      else
        tw_g v4 12 <|
        if (M.2.2.2.2.2.2.2.2.2.2.2.2 v4.toNatClampNeg) ≤ v3 then
          fX4_longest_19 k4 n v1 v2 v3 (v4 + 1) M
        else
          tw_g v4 12 <|
          fX4_longest_19 k4 n v1 v2 (M.2.2.2.2.2.2.2.2.2.2.2.2 v4.toNatClampNeg) (v4 + 1) M
def fX4_longest_4   : Nat → Int32 → Int32 → tw_Md → Option (Int32 × tw_Md)
  | 0, _, _, _ => none
  | n + 1, v1, v2, M =>
    if (M.1 (0 : Int32).toNatClampNeg) ≤ v2 then
      some (v1, M)
    else
      fX4_longest_19 (fX4_longest_4 n) 512 v1 v2 (0 : Int32) (0 : Int32) M
def fX4_longest (M : tw_Md)  : Option (Int32 × tw_Md) :=
  fX4_longest_4 512 (0 : Int32) (0 : Int32) M
def fX4_lengths_29 (M : tw_Md) (p1 : Int32) (k4 : Int32 → Int32 → Option (Int32)) (t0 : Int32) (v3 : Int32) : Option (Int32) :=
  (fX4_of M.1 v3 (0 : Int32)).bind fun r35 =>
  k4 (t0 + r35) (v3 + 1)
def fX4_lengths_4 (M : tw_Md) (p1 : Int32)  : Nat → Int32 → Int32 → Option (Int32)
  | 0, _, _ => none
  | n + 1, v2, v3 =>
    if (M.1 (0 : Int32).toNatClampNeg) ≤ v3 then
      some v2
    else
      if p1 = 0 then
        fX4_lengths_29 M p1 (fX4_lengths_4 M p1 n) v2 v3
      else
        tw_g v3 12 <|
        if (M.2.2.2.2.2.2.2.2.2.2.2.1 v3.toNatClampNeg) = (-1 : Int32) then
          fX4_lengths_4 M p1 n (v2 + (0 : Int32)) (v3 + 1)
        else
          fX4_lengths_29 M p1 (fX4_lengths_4 M p1 n) v2 v3
def fX4_lengths (M : tw_Md) (p1 : Int32) : Option (Int32) :=
  fX4_lengths_4 M p1 512 (0 : Int32) (0 : Int32)
def fX4_counted (M : tw_Md) (p1 : Int32) : Option (Int32 × tw_Md) :=
  (fX4_plans M).bind fun r1 =>
  if (4 : Int32) ≤ p1 then
    if (7 : Int32) ≤ p1 then
      if ¬ p1 = (7 : Int32) then
        some (r1.2.2.2.1, r1)
      else
        (fX4_longest r1).bind fun r121 =>
        some (r121.1, r121.2)
    else
      if ¬ p1 = (4 : Int32) then
        if ¬ p1 = (5 : Int32) then
          (fX4_waiting r1.1 r1.2.2.2.2.2.2.2.2.2.2.2.1).bind fun r110 =>
          some (r110, r1)
        else
          (fX4_critical r1).bind fun r96 =>
          some (r96.1, r96.2)
      else
        (fX4_lengths r1 (0 : Int32)).bind fun r84 =>
        some (r84, r1)
  else
    (fX4_laid r1.1 r1.2.2.2.2.2.2.2.2.2.2.2.1).bind fun r17 =>
    if ¬ p1 = 0 then
      if ¬ p1 = (1 : Int32) then
        if ¬ p1 = (2 : Int32) then
          (fX4_end r1.1 r1.2.2.2.2.2.2.2.2.2.2.2.1).bind fun r67 =>
          some (r67, r1)
        else
          some (((r1.1 (0 : Int32).toNatClampNeg) - r17), r1)
      else
        some (r17, r1)
    else
      some ((r1.1 (0 : Int32).toNatClampNeg), r1)
def fX4_count (M : tw_Md) (p1 : Int32) : Option (Int32 × tw_Md) :=
  (fX4_in p1 (0 : Int32) (8 : Int32)).bind fun r9 =>
  if r9 = 0 then
    (fX4_fails (M.1, M.2.1, M.2.2.1, M.2.2.2.1, M.2.2.2.2.1, M.2.2.2.2.2.1, (0 : Int32), M.2.2.2.2.2.2.2.1, M.2.2.2.2.2.2.2.2.1, M.2.2.2.2.2.2.2.2.2.1, M.2.2.2.2.2.2.2.2.2.2.1, M.2.2.2.2.2.2.2.2.2.2.2.1, M.2.2.2.2.2.2.2.2.2.2.2.2) (1 : Int32)).bind fun r25 =>
    some (r25.1, r25.2)
  else
    (fX4_counted (M.1, M.2.1, M.2.2.1, M.2.2.2.1, M.2.2.2.2.1, M.2.2.2.2.2.1, (0 : Int32), M.2.2.2.2.2.2.2.1, M.2.2.2.2.2.2.2.2.1, M.2.2.2.2.2.2.2.2.2.1, M.2.2.2.2.2.2.2.2.2.2.1, M.2.2.2.2.2.2.2.2.2.2.2.1, M.2.2.2.2.2.2.2.2.2.2.2.2) p1).bind fun r17 =>
    some (r17.1, r17.2)
def fX4_setting (M : tw_Md)  : Option (Int32 × tw_Md) :=
  some ((M.1 (1 : Int32).toNatClampNeg), (M.1, M.2.1, M.2.2.1, M.2.2.2.1, M.2.2.2.2.1, M.2.2.2.2.2.1, (0 : Int32), M.2.2.2.2.2.2.2.1, M.2.2.2.2.2.2.2.2.1, M.2.2.2.2.2.2.2.2.2.1, M.2.2.2.2.2.2.2.2.2.2.1, M.2.2.2.2.2.2.2.2.2.2.2.1, M.2.2.2.2.2.2.2.2.2.2.2.2))
def fX4_byRule (M : tw_Md) (p1 : Int32) (p2 : Int32) : Option (Int32 × tw_Md) :=
  (fX4_tries M).bind fun r1 =>
  (fX4_lays (upd r1.2.1 (1 : Int32).toNatClampNeg p1) r1.2.2.2.2.2.2.2.2.2.2.2.2).bind fun r19 =>
  if ¬ p2 = 0 then
    if ¬ p2 = (1 : Int32) then
      (fX4_waiting (upd r1.2.1 (1 : Int32).toNatClampNeg p1) r19).bind fun r67 =>
      some (r67, (r1.1, (upd r1.2.1 (1 : Int32).toNatClampNeg p1), r1.2.2.1, r1.2.2.2.1, r1.2.2.2.2.1, r1.2.2.2.2.2.1, r1.2.2.2.2.2.2.1, r1.2.2.2.2.2.2.2.1, r1.2.2.2.2.2.2.2.2.1, r1.2.2.2.2.2.2.2.2.2.1, r1.2.2.2.2.2.2.2.2.2.2.1, r1.2.2.2.2.2.2.2.2.2.2.2.1, r19))
    else
      (fX4_laid (upd r1.2.1 (1 : Int32).toNatClampNeg p1) r19).bind fun r53 =>
      some (r53, (r1.1, (upd r1.2.1 (1 : Int32).toNatClampNeg p1), r1.2.2.1, r1.2.2.2.1, r1.2.2.2.2.1, r1.2.2.2.2.2.1, r1.2.2.2.2.2.2.1, r1.2.2.2.2.2.2.2.1, r1.2.2.2.2.2.2.2.2.1, r1.2.2.2.2.2.2.2.2.2.1, r1.2.2.2.2.2.2.2.2.2.2.1, r1.2.2.2.2.2.2.2.2.2.2.2.1, r19))
  else
    (fX4_end (upd r1.2.1 (1 : Int32).toNatClampNeg p1) r19).bind fun r34 =>
    some (r34, (r1.1, (upd r1.2.1 (1 : Int32).toNatClampNeg p1), r1.2.2.1, r1.2.2.2.1, r1.2.2.2.2.1, r1.2.2.2.2.2.1, r1.2.2.2.2.2.2.1, r1.2.2.2.2.2.2.2.1, r1.2.2.2.2.2.2.2.2.1, r1.2.2.2.2.2.2.2.2.2.1, r1.2.2.2.2.2.2.2.2.2.2.1, r1.2.2.2.2.2.2.2.2.2.2.2.1, r19))
def fX4_ifRule (M : tw_Md) (p1 : Int32) (p2 : Int32) : Option (Int32 × tw_Md) :=
  (fX4_in p1 (0 : Int32) (3 : Int32)).bind fun r8 =>
  if r8 = 0 then
    (fX4_fails (M.1, M.2.1, M.2.2.1, M.2.2.2.1, M.2.2.2.2.1, M.2.2.2.2.2.1, (0 : Int32), M.2.2.2.2.2.2.2.1, M.2.2.2.2.2.2.2.2.1, M.2.2.2.2.2.2.2.2.2.1, M.2.2.2.2.2.2.2.2.2.2.1, M.2.2.2.2.2.2.2.2.2.2.2.1, M.2.2.2.2.2.2.2.2.2.2.2.2) (1 : Int32)).bind fun r34 =>
    some (r34.1, r34.2)
  else
    (fX4_in p2 (0 : Int32) (2 : Int32)).bind fun r17 =>
    if r17 = 0 then
      (fX4_fails (M.1, M.2.1, M.2.2.1, M.2.2.2.1, M.2.2.2.2.1, M.2.2.2.2.2.1, (0 : Int32), M.2.2.2.2.2.2.2.1, M.2.2.2.2.2.2.2.2.1, M.2.2.2.2.2.2.2.2.2.1, M.2.2.2.2.2.2.2.2.2.2.1, M.2.2.2.2.2.2.2.2.2.2.2.1, M.2.2.2.2.2.2.2.2.2.2.2.2) (1 : Int32)).bind fun r34 =>
      some (r34.1, r34.2)
    else
      (fX4_byRule (M.1, M.2.1, M.2.2.1, M.2.2.2.1, M.2.2.2.2.1, M.2.2.2.2.2.1, (0 : Int32), M.2.2.2.2.2.2.2.1, M.2.2.2.2.2.2.2.2.1, M.2.2.2.2.2.2.2.2.2.1, M.2.2.2.2.2.2.2.2.2.2.1, M.2.2.2.2.2.2.2.2.2.2.2.1, M.2.2.2.2.2.2.2.2.2.2.2.2) p1 p2).bind fun r26 =>
      some (r26.1, r26.2)
def fX4_best_4   : Nat → Int32 → Int32 → tw_Md → Option (Int32 × tw_Md)
  | 0, _, _, _ => none
  | n + 1, v1, v2, M =>
    if (4 : Int32) ≤ v2 then
      some (v1, M)
    else
      (fX4_byRule M v2 (1 : Int32)).bind fun r12 =>
      (fX4_byRule r12.2 v1 (1 : Int32)).bind fun r18 =>
      if 0 < (r12.1 - r18.1) then
        fX4_best_4 n v2 (v2 + 1) r18.2
      else
        if ¬ (r12.1 - r18.1) = 0 then
          fX4_best_4 n v1 (v2 + 1) r18.2
        else
          (fX4_byRule r18.2 v2 (0 : Int32)).bind fun r34 =>
          (fX4_byRule r34.2 v1 (0 : Int32)).bind fun r40 =>
          if r40.1 ≤ r34.1 then
            fX4_best_4 n v1 (v2 + 1) r40.2
          else
            fX4_best_4 n v2 (v2 + 1) r40.2
def fX4_best (M : tw_Md)  : Option (Int32 × tw_Md) :=
  fX4_best_4 512 (0 : Int32) (1 : Int32) M
def fX4_bestRule (M : tw_Md)  : Option (Int32 × tw_Md) :=
  (fX4_best (M.1, M.2.1, M.2.2.1, M.2.2.2.1, M.2.2.2.2.1, M.2.2.2.2.2.1, (0 : Int32), M.2.2.2.2.2.2.2.1, M.2.2.2.2.2.2.2.2.1, M.2.2.2.2.2.2.2.2.2.1, M.2.2.2.2.2.2.2.2.2.2.1, M.2.2.2.2.2.2.2.2.2.2.2.1, M.2.2.2.2.2.2.2.2.2.2.2.2)).bind fun r6 =>
  some (r6.1, r6.2)
def fX4_freed_6 (p1 : Int32)  : Nat → Int32 → tw_Md → Option (Int32 × tw_Md)
  | 0, _, _ => none
  | n + 1, v2, M =>
    if (M.1 (0 : Int32).toNatClampNeg) ≤ v2 then
      (fX4_lays M.2.1 M.2.2.2.2.2.2.2.2.2.2.2.2).bind fun r65 =>
      (fX4_end M.2.1 r65).bind fun r76 =>
      some (r76, (M.1, M.2.1, M.2.2.1, M.2.2.2.1, M.2.2.2.2.1, M.2.2.2.2.2.1, M.2.2.2.2.2.2.1, M.2.2.2.2.2.2.2.1, M.2.2.2.2.2.2.2.2.1, M.2.2.2.2.2.2.2.2.2.1, M.2.2.2.2.2.2.2.2.2.2.1, M.2.2.2.2.2.2.2.2.2.2.2.1, r65))
    else
      tw_g (((10 : Int32) + ((5 : Int32) * v2)) + (1 : Int32)) 70 <|
      if ¬ (M.2.1 (((10 : Int32) + ((5 : Int32) * v2)) + (1 : Int32)).toNatClampNeg) = p1 then
        tw_g (((10 : Int32) + ((5 : Int32) * v2)) + (1 : Int32)) 70 <|
        tw_g (((10 : Int32) + ((5 : Int32) * v2)) + (1 : Int32)) 70 <|
        fX4_freed_6 p1 n (v2 + 1) (M.1, (upd M.2.1 (((10 : Int32) + ((5 : Int32) * v2)) + (1 : Int32)).toNatClampNeg (M.2.1 (((10 : Int32) + ((5 : Int32) * v2)) + (1 : Int32)).toNatClampNeg)), M.2.2.1, M.2.2.2.1, M.2.2.2.2.1, M.2.2.2.2.2.1, M.2.2.2.2.2.2.1, M.2.2.2.2.2.2.2.1, M.2.2.2.2.2.2.2.2.1, M.2.2.2.2.2.2.2.2.2.1, M.2.2.2.2.2.2.2.2.2.2.1, M.2.2.2.2.2.2.2.2.2.2.2.1, M.2.2.2.2.2.2.2.2.2.2.2.2)
      else
        tw_g (((10 : Int32) + ((5 : Int32) * v2)) + (1 : Int32)) 70 <|
        fX4_freed_6 p1 n (v2 + 1) (M.1, (upd M.2.1 (((10 : Int32) + ((5 : Int32) * v2)) + (1 : Int32)).toNatClampNeg (-1 : Int32)), M.2.2.1, M.2.2.2.1, M.2.2.2.2.1, M.2.2.2.2.2.1, M.2.2.2.2.2.2.1, M.2.2.2.2.2.2.2.1, M.2.2.2.2.2.2.2.2.1, M.2.2.2.2.2.2.2.2.2.1, M.2.2.2.2.2.2.2.2.2.2.1, M.2.2.2.2.2.2.2.2.2.2.2.1, M.2.2.2.2.2.2.2.2.2.2.2.2)
def fX4_freed (M : tw_Md) (p1 : Int32) : Option (Int32 × tw_Md) :=
  (fX4_tries M).bind fun r1 =>
  fX4_freed_6 p1 512 (0 : Int32) r1
def fX4_ifFreed (M : tw_Md) (p1 : Int32) : Option (Int32 × tw_Md) :=
  (fX4_isPerson p1).bind fun r6 =>
  if r6 = 0 then
    (fX4_fails (M.1, M.2.1, M.2.2.1, M.2.2.2.1, M.2.2.2.2.1, M.2.2.2.2.2.1, (0 : Int32), M.2.2.2.2.2.2.2.1, M.2.2.2.2.2.2.2.2.1, M.2.2.2.2.2.2.2.2.2.1, M.2.2.2.2.2.2.2.2.2.2.1, M.2.2.2.2.2.2.2.2.2.2.2.1, M.2.2.2.2.2.2.2.2.2.2.2.2) (1 : Int32)).bind fun r22 =>
    some (r22.1, r22.2)
  else
    (fX4_freed (M.1, M.2.1, M.2.2.1, M.2.2.2.1, M.2.2.2.2.1, M.2.2.2.2.2.1, (0 : Int32), M.2.2.2.2.2.2.2.1, M.2.2.2.2.2.2.2.2.1, M.2.2.2.2.2.2.2.2.2.1, M.2.2.2.2.2.2.2.2.2.2.1, M.2.2.2.2.2.2.2.2.2.2.2.1, M.2.2.2.2.2.2.2.2.2.2.2.2) p1).bind fun r14 =>
    some (r14.1, r14.2)
def fX4_worst_87 (p1 : Int32) (k11 : Int32 → Int32 → Int32 → tw_Md → Option (Int32 × tw_Md)) (t0 : Int32) (v3 : Int32) (v4 : Int32) (v5 : Int32) (M : tw_Md) : Option (Int32 × tw_Md) :=
  if v5 ≤ v3 then
    k11 t0 v3 (v4 + 1) M
  else
    k11 t0 v5 (v4 + 1) M
def fX4_worst_11 (p1 : Int32)  : Nat → Int32 → Int32 → Int32 → tw_Md → Option (Int32 × tw_Md)
  | 0, _, _, _, _ => none
  | n + 1, v2, v3, v4, M =>
    if (M.1 (0 : Int32).toNatClampNeg) ≤ v4 then
      some (v2, M)
    else
      tw_g v4 12 <|
      if (M.2.2.2.2.2.2.2.2.2.2.2.1 v4.toNatClampNeg) = (-1 : Int32) then
        fX4_worst_11 p1 n v2 v3 (v4 + 1) M
      else
        tw_g v4 12 <|
        if (60 : Int32) < ((M.2.2.2.2.2.2.2.2.2.2.2.1 v4.toNatClampNeg) + p1) then
          fX4_worst_11 p1 n v2 v3 (v4 + 1) M
        else
          tw_g v4 12 <|
          (fX4_triesFrom M v4 ((M.2.2.2.2.2.2.2.2.2.2.2.1 v4.toNatClampNeg) + p1)).bind fun r59 =>
          (fX4_end r59.2.1 r59.2.2.2.2.2.2.2.2.2.2.2.2).bind fun r70 =>
          if r70 ≤ v3 then
            fX4_worst_87 p1 (fX4_worst_11 p1 n) v2 v3 v4 r70 r59
          else
            fX4_worst_87 p1 (fX4_worst_11 p1 n) v4 v3 v4 r70 r59
def fX4_worst (M : tw_Md) (p1 : Int32) : Option (Int32 × tw_Md) :=
  (fX4_plans M).bind fun r1 =>
  fX4_worst_11 p1 512 (-1 : Int32) (-1 : Int32) (0 : Int32) r1
def fX4_worstSlip (M : tw_Md) (p1 : Int32) : Option (Int32 × tw_Md) :=
  (fX4_in p1 (1 : Int32) (20 : Int32)).bind fun r9 =>
  if r9 = 0 then
    (fX4_fails (M.1, M.2.1, M.2.2.1, M.2.2.2.1, M.2.2.2.2.1, M.2.2.2.2.2.1, (0 : Int32), M.2.2.2.2.2.2.2.1, M.2.2.2.2.2.2.2.2.1, M.2.2.2.2.2.2.2.2.2.1, M.2.2.2.2.2.2.2.2.2.2.1, M.2.2.2.2.2.2.2.2.2.2.2.1, M.2.2.2.2.2.2.2.2.2.2.2.2) (1 : Int32)).bind fun r25 =>
    some (r25.1, r25.2)
  else
    (fX4_worst (M.1, M.2.1, M.2.2.1, M.2.2.2.1, M.2.2.2.2.1, M.2.2.2.2.2.1, (0 : Int32), M.2.2.2.2.2.2.2.1, M.2.2.2.2.2.2.2.2.1, M.2.2.2.2.2.2.2.2.2.1, M.2.2.2.2.2.2.2.2.2.2.1, M.2.2.2.2.2.2.2.2.2.2.2.1, M.2.2.2.2.2.2.2.2.2.2.2.2) p1).bind fun r17 =>
    some (r17.1, r17.2)
def fX4_busy (M : tw_Md)  : Option (UInt64 × tw_Md) :=
  (fX4_plans M).bind fun r1 =>
  (fX4_end r1.1 r1.2.2.2.2.2.2.2.2.2.2.2.1).bind fun r12 =>
  if ¬ r12 = 0 then
    (fX4_lengths r1 (1 : Int32)).bind fun r26 =>
    tw_q ((FP.ddiv (FP.i2d r26) (FP.i2d r12)) &&& 0x7fffffffffffffff ≤ 0x7ff0000000000000) <|
    some ((FP.ddiv (FP.i2d r26) (FP.i2d r12)), r1)
  else
    some (FP.dconst0, r1)
def fX4_busyness (M : tw_Md)  : Option (UInt64 × tw_Md) :=
  (fX4_busy (M.1, M.2.1, M.2.2.1, M.2.2.2.1, M.2.2.2.2.1, M.2.2.2.2.2.1, (0 : Int32), M.2.2.2.2.2.2.2.1, M.2.2.2.2.2.2.2.2.1, M.2.2.2.2.2.2.2.2.2.1, M.2.2.2.2.2.2.2.2.2.2.1, M.2.2.2.2.2.2.2.2.2.2.2.1, M.2.2.2.2.2.2.2.2.2.2.2.2)).bind fun r6 =>
  some (r6.1, r6.2)
def fX4_digest_297   : Nat → Int64 → Int32 → tw_Md → Option (Int64 × tw_Md)
  | 0, _, _, _ => none
  | n + 1, v1, v3, M =>
    if M.2.2.2.2.2.1 ≤ v3 then
      some (v1, M)
    else
      tw_g v3 60 <|
      fX4_digest_297 n (((31 : Int64) * v1) + ((M.2.2.2.2.1 v3.toNatClampNeg).toInt64)) (v3 + 1) M
def fX4_digest_215  (k207 : Int64 → Int32 → tw_Md → Option (Int64 × tw_Md)) : Nat → Int64 → Int32 → Int32 → tw_Md → Option (Int64 × tw_Md)
  | 0, _, _, _, _ => none
  | n + 1, v1, v3, v4, M =>
    if (3 : Int32) ≤ v4 then
      k207 v1 (v3 + 1) M
    else
      (fX4_byRule M v3 v4).bind fun r230 =>
      fX4_digest_215 k207 n (((31 : Int64) * v1) + r230.1.toInt64) v3 (v4 + 1) r230.2
def fX4_digest_207   : Nat → Int64 → Int32 → tw_Md → Option (Int64 × tw_Md)
  | 0, _, _, _ => none
  | n + 1, v1, v3, M =>
    if (4 : Int32) ≤ v3 then
      (fX4_best M).bind fun r257 =>
      (fX4_worst r257.2 (3 : Int32)).bind fun r265 =>
      (fX4_busy r265.2).bind fun r280 =>
      (fJxe99ae_doubleToLongBits_ccdee r280.1).bind fun r283 =>
      fX4_digest_297 512 (((31 : Int64) * (((31 : Int64) * (((31 : Int64) * (((31 : Int64) * v1) + r257.1.toInt64)) + r265.1.toInt64)) + r283)) + r280.2.2.2.2.2.2.1.toInt64) (0 : Int32) r280.2
    else
      fX4_digest_215 (fX4_digest_207 n) 512 v1 v3 (0 : Int32) M
def fX4_digest_157  (k148 : Int64 → Int32 → tw_Md → Option (Int64 × tw_Md)) : Nat → Int64 → Int32 → Int32 → tw_Md → Option (Int64 × tw_Md)
  | 0, _, _, _, _ => none
  | n + 1, v1, v3, v4, M =>
    if (10 : Int32) ≤ v4 then
      (fX4_freed M v3).bind fun r193 =>
      k148 (((31 : Int64) * v1) + r193.1.toInt64) (v3 + 1) r193.2
    else
      (fX4_on M (1 : Int32) v3 v4).bind fun r174 =>
      fX4_digest_157 k148 n (((31 : Int64) * v1) + r174.toInt64) v3 (v4 + 1) M
def fX4_digest_148   : Nat → Int64 → Int32 → tw_Md → Option (Int64 × tw_Md)
  | 0, _, _, _ => none
  | n + 1, v1, v3, M =>
    if (6 : Int32) ≤ v3 then
      fX4_digest_207 512 v1 (0 : Int32) M
    else
      fX4_digest_157 (fX4_digest_148 n) 512 v1 v3 (0 : Int32) M
def fX4_digest_109  (k101 : Int64 → Int32 → tw_Md → Option (Int64 × tw_Md)) : Nat → Int64 → Int32 → Int32 → tw_Md → Option (Int64 × tw_Md)
  | 0, _, _, _, _ => none
  | n + 1, v1, v3, v4, M =>
    if (4 : Int32) ≤ v4 then
      k101 v1 (v3 + 1) M
    else
      (fX4_ofHall M v3 v4).bind fun r124 =>
      fX4_digest_109 k101 n (((31 : Int64) * v1) + r124.1.toInt64) v3 (v4 + 1) r124.2
def fX4_digest_101   : Nat → Int64 → Int32 → tw_Md → Option (Int64 × tw_Md)
  | 0, _, _, _ => none
  | n + 1, v1, v3, M =>
    if (4 : Int32) ≤ v3 then
      (fX4_plans M).bind fun r143 =>
      fX4_digest_148 512 v1 (0 : Int32) r143
    else
      fX4_digest_109 (fX4_digest_101 n) 512 v1 v3 (0 : Int32) M
def fX4_digest_65  (k52 : Int64 → Int32 → tw_Md → Option (Int64 × tw_Md)) : Nat → Int64 → Int32 → Int32 → tw_Md → Option (Int64 × tw_Md)
  | 0, _, _, _, _ => none
  | n + 1, v1, v3, v4, M =>
    if (9 : Int32) ≤ v4 then
      k52 v1 (v3 + 1) M
    else
      (fX4_ofTask M v3 v4).bind fun r81 =>
      fX4_digest_65 k52 n (((31 : Int64) * v1) + r81.1.toInt64) v3 (v4 + 1) r81.2
def fX4_digest_52   : Nat → Int64 → Int32 → tw_Md → Option (Int64 × tw_Md)
  | 0, _, _, _ => none
  | n + 1, v1, v3, M =>
    if (M.1 (0 : Int32).toNatClampNeg) ≤ v3 then
      fX4_digest_101 512 v1 (0 : Int32) M
    else
      fX4_digest_65 (fX4_digest_52 n) 512 v1 v3 (0 : Int32) M
def fX4_digest_11   : Nat → Int64 → Int32 → tw_Md → Option (Int64 × tw_Md)
  | 0, _, _, _ => none
  | n + 1, v1, v3, M =>
    if (9 : Int32) ≤ v3 then
      fX4_digest_52 512 (((31 : Int64) * v1) + ((M.1 (1 : Int32).toNatClampNeg).toInt64)) (0 : Int32) M
    else
      (fX4_counted M v3).bind fun r24 =>
      fX4_digest_11 n (((31 : Int64) * v1) + r24.1.toInt64) (v3 + 1) r24.2
def fX4_digest (M : tw_Md)  : Option (Int64 × tw_Md) :=
  fX4_digest_11 512 (2791 : Int64) (0 : Int32) (M.1, M.2.1, M.2.2.1, M.2.2.2.1, M.2.2.2.2.1, M.2.2.2.2.2.1, (0 : Int32), M.2.2.2.2.2.2.2.1, M.2.2.2.2.2.2.2.2.1, M.2.2.2.2.2.2.2.2.2.1, M.2.2.2.2.2.2.2.2.2.2.1, M.2.2.2.2.2.2.2.2.2.2.2.1, M.2.2.2.2.2.2.2.2.2.2.2.2)
