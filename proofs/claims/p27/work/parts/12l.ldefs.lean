def fL_low  (p0 : Int32) (p1 : Int32) : Option (Int32) :=
  tw_q (¬ p1 = 0) <|
  some ((p0 &&& (2147483647 : Int32)) - (p0 &&& (2147483647 : Int32)) / p1 * p1)
def fL_plan_447   (v1 : Int32) (v2 : Int32) (v3 : Int32) (v4 : Int32) (v5 : Int32) (v6 : Int32) (Y : tw_Wl) : Option (Int32 × tw_Wl) :=
  if v6 = 0 then
    some ((0 : Int32), Y)
  else
    (fX3_count Y (1 : Int32)).bind fun r455 =>
    tw_q (r455.1 = 0) <|
    if ¬ v2 = r455.2.1 then
      some ((0 : Int32), r455.2.2)
    else
      (fX3_count r455.2.2 (2 : Int32)).bind fun r466 =>
      tw_q (r466.1 = 0) <|
      if ¬ (v1 - v2) = r466.2.1 then
        some ((0 : Int32), r466.2.2)
      else
        (fX3_count r466.2.2 (3 : Int32)).bind fun r476 =>
        tw_q (r476.1 = 0) <|
        if ¬ v5 = r476.2.1 then
          some ((0 : Int32), r476.2.2)
        else
          (fX3_count r476.2.2 (6 : Int32)).bind fun r486 =>
          tw_q (r486.1 = 0) <|
          if ¬ v3 = r486.2.1 then
            some ((0 : Int32), r486.2.2)
          else
            (fX3_count r486.2.2 (5 : Int32)).bind fun r496 =>
            tw_q (r496.1 = 0) <|
            if ¬ v4 = r496.2.1 then
              some ((0 : Int32), r496.2.2)
            else
              some ((1 : Int32), r496.2.2)
def fL_plan_385  (k22 : Int32 → Int32 → Int32 → Int32 → Int32 → Int32 → Int32 → tw_Wl → Option (Int32 × tw_Wl)) (k354 : Int32 → Int32 → Int32 → Int32 → Int32 → Int32 → Int32 → Int32 → Int32 → Int32 → Int32 → tw_Wl → Option (Int32 × tw_Wl)) (v1 : Int32) (v2 : Int32) (v3 : Int32) (v4 : Int32) (v5 : Int32) (v7 : Int32) (v9 : Int32) (v11 : Int32) (v12 : Int32) (v13 : Int32) (Y : tw_Wl) : Option (Int32 × tw_Wl) :=
  if v12 = (-1 : Int32) then
    k354 v1 v2 v3 v4 v5 (1 : Int32) v7 v9 v11 v12 (v13 + 1) Y
  else
    (fX3_hallOn Y v12 v13).bind fun r396 =>
    tw_q (r396.1 = 0) <|
    if ¬ r396.2 = v7 then
      k354 v1 v2 v3 v4 v5 (0 : Int32) v7 v9 v11 v12 (v13 + 1) Y
    else
      (fX3_hall Y v12 (0 : Int32)).bind fun r410 =>
      tw_q (r410.1 = 0) <|
      if v13 < r410.2 then
        k354 v1 v2 v3 v4 v5 (0 : Int32) v7 v9 v11 v12 (v13 + 1) Y
      else
        (fX3_hall Y v12 (1 : Int32)).bind fun r422 =>
        tw_q (r422.1 = 0) <|
        if r422.2 < v13 then
          k354 v1 v2 v3 v4 v5 (0 : Int32) v7 v9 v11 v12 (v13 + 1) Y
        else
          k354 v1 v2 v3 v4 v5 (1 : Int32) v7 v9 v11 v12 (v13 + 1) Y
def fL_plan_354  (k22 : Int32 → Int32 → Int32 → Int32 → Int32 → Int32 → Int32 → tw_Wl → Option (Int32 × tw_Wl)) : Nat → Int32 → Int32 → Int32 → Int32 → Int32 → Int32 → Int32 → Int32 → Int32 → Int32 → Int32 → tw_Wl → Option (Int32 × tw_Wl)
  | 0, _, _, _, _, _, _, _, _, _, _, _, _ => none
  | n + 1, v1, v2, v3, v4, v5, v6, v7, v9, v11, v12, v13, Y =>
    if v9 ≤ v13 then
      k22 v1 v2 v3 v4 v5 v6 (v7 + 1) Y
    else
      if v6 = 0 then
        k22 v1 v2 v3 v4 v5 v6 (v7 + 1) Y
      else
        if v11 = (-1 : Int32) then
          fL_plan_385 k22 (fL_plan_354 k22 n) v1 v2 v3 v4 v5 v7 v9 v11 v12 v13 Y
        else
          (fX3_personOn Y v11 v13).bind fun r377 =>
          tw_q (r377.1 = 0) <|
          if ¬ r377.2 = v7 then
            fL_plan_354 k22 n v1 v2 v3 v4 v5 (0 : Int32) v7 v9 v11 v12 (v13 + 1) Y
          else
            fL_plan_385 k22 (fL_plan_354 k22 n) v1 v2 v3 v4 v5 v7 v9 v11 v12 v13 Y
def fL_plan_332  (k22 : Int32 → Int32 → Int32 → Int32 → Int32 → Int32 → Int32 → tw_Wl → Option (Int32 × tw_Wl)) (v1 : Int32) (v2 : Int32) (v3 : Int32) (v4 : Int32) (v5 : Int32) (v6 : Int32) (v7 : Int32) (v8 : Int32) (v9 : Int32) (Y : tw_Wl) : Option (Int32 × tw_Wl) :=
  (fX3_task Y v7 (1 : Int32)).bind fun r336 =>
  tw_q (r336.1 = 0) <|
  (fX3_task r336.2.2 v7 (2 : Int32)).bind fun r345 =>
  tw_q (r345.1 = 0) <|
  fL_plan_354 k22 512 v1 v2 v3 v4 v5 v6 v7 v9 r336.2.1 r345.2.1 v8 r345.2.2
def fL_plan_265  (k22 : Int32 → Int32 → Int32 → Int32 → Int32 → Int32 → Int32 → tw_Wl → Option (Int32 × tw_Wl)) : Nat → Int32 → Int32 → Int32 → Int32 → Int32 → Int32 → Int32 → Int32 → Int32 → Int32 → Int32 → tw_Wl → Option (Int32 × tw_Wl)
  | 0, _, _, _, _, _, _, _, _, _, _, _, _ => none
  | n + 1, v1, v2, v3, v4, v5, v6, v7, v8, v9, v10, v11, Y =>
    if v7 ≤ v11 then
      fL_plan_332 k22 v1 v2 v3 v4 v5 v6 v7 v8 v9 Y
    else
      if v6 = 0 then
        fL_plan_332 k22 v1 v2 v3 v4 v5 v6 v7 v8 v9 Y
      else
        if ((v10 >>> (v11 &&& 31)) &&& (1 : Int32)) = 0 then
          fL_plan_265 k22 n v1 v2 v3 v4 v5 (1 : Int32) v7 v8 v9 v10 (v11 + 1) Y
        else
          (fX3_task Y v11 (6 : Int32)).bind fun r292 =>
          tw_q (r292.1 = 0) <|
          if r292.2.1 < 0 then
            fL_plan_265 k22 n v1 v2 v3 v4 v5 (0 : Int32) v7 v8 v9 v10 (v11 + 1) r292.2.2
          else
            (fX3_task r292.2.2 v11 (6 : Int32)).bind fun r303 =>
            tw_q (r303.1 = 0) <|
            (fX3_task r303.2.2 v11 (0 : Int32)).bind fun r310 =>
            tw_q (r310.1 = 0) <|
            if v8 < (r303.2.1 + r310.2.1) then
              fL_plan_265 k22 n v1 v2 v3 v4 v5 (0 : Int32) v7 v8 v9 v10 (v11 + 1) r310.2.2
            else
              fL_plan_265 k22 n v1 v2 v3 v4 v5 (1 : Int32) v7 v8 v9 v10 (v11 + 1) r310.2.2
def fL_plan_194  (k22 : Int32 → Int32 → Int32 → Int32 → Int32 → Int32 → Int32 → tw_Wl → Option (Int32 × tw_Wl)) (t0 : Int32) (v1 : Int32) (v2 : Int32) (v3 : Int32) (v4 : Int32) (v6 : Int32) (v7 : Int32) (v8 : Int32) (v9 : Int32) (v10 : Int32) (Y : tw_Wl) : Option (Int32 × tw_Wl) :=
  if v6 = 0 then
    fL_plan_265 k22 512 v1 v2 v3 v4 t0 (0 : Int32) v7 v8 v9 v10 (0 : Int32) Y
  else
    (fX3_task Y v7 (3 : Int32)).bind fun r207 =>
    tw_q (r207.1 = 0) <|
    if v8 < r207.2.1 then
      fL_plan_265 k22 512 v1 v2 v3 v4 t0 (0 : Int32) v7 v8 v9 v10 (0 : Int32) r207.2.2
    else
      if (100 : Int32) < v9 then
        fL_plan_265 k22 512 v1 v2 v3 v4 t0 (0 : Int32) v7 v8 v9 v10 (0 : Int32) r207.2.2
      else
        (fX3_task r207.2.2 v7 (7 : Int32)).bind fun r225 =>
        tw_q (r225.1 = 0) <|
        if r225.2.1 < 0 then
          fL_plan_265 k22 512 v1 v2 v3 v4 t0 (0 : Int32) v7 v8 v9 v10 (0 : Int32) r225.2.2
        else
          (fX3_task r225.2.2 v7 (7 : Int32)).bind fun r236 =>
          tw_q (r236.1 = 0) <|
          if (30 : Int32) < r236.2.1 then
            fL_plan_265 k22 512 v1 v2 v3 v4 t0 (0 : Int32) v7 v8 v9 v10 (0 : Int32) r236.2.2
          else
            (fX3_task r236.2.2 v7 (8 : Int32)).bind fun r249 =>
            tw_q (r249.1 = 0) <|
            if r249.2.1 < 0 then
              fL_plan_265 k22 512 v1 v2 v3 v4 t0 (0 : Int32) v7 v8 v9 v10 (0 : Int32) r249.2.2
            else
              fL_plan_265 k22 512 v1 v2 v3 v4 t0 (1 : Int32) v7 v8 v9 v10 (0 : Int32) r249.2.2
def fL_plan_131  (k22 : Int32 → Int32 → Int32 → Int32 → Int32 → Int32 → Int32 → tw_Wl → Option (Int32 × tw_Wl)) (t0 : Int32) (t1 : Int32) (v1 : Int32) (v2 : Int32) (v3 : Int32) (v5 : Int32) (v6 : Int32) (v7 : Int32) (v8 : Int32) (v9 : Int32) (v10 : Int32) (Y : tw_Wl) : Option (Int32 × tw_Wl) :=
  if 0 ≤ v8 then
    if v9 ≤ v5 then
      fL_plan_194 k22 v5 v1 (v2 + 1) v3 (t0 + t1) v6 v7 v8 v9 v10 Y
    else
      fL_plan_194 k22 v9 v1 (v2 + 1) v3 (t0 + t1) v6 v7 v8 v9 v10 Y
  else
    if v6 = 0 then
      k22 v1 v2 v3 (t0 + t1) v5 (0 : Int32) (v7 + 1) Y
    else
      (fX3_task Y v7 (7 : Int32)).bind fun r149 =>
      tw_q (r149.1 = 0) <|
      if ¬ r149.2.1 = (-1 : Int32) then
        k22 v1 v2 v3 (t0 + t1) v5 (0 : Int32) (v7 + 1) r149.2.2
      else
        (fX3_task r149.2.2 v7 (8 : Int32)).bind fun r161 =>
        tw_q (r161.1 = 0) <|
        if ¬ r161.2.1 = 0 then
          k22 v1 v2 v3 (t0 + t1) v5 (0 : Int32) (v7 + 1) r161.2.2
        else
          k22 v1 v2 v3 (t0 + t1) v5 (1 : Int32) (v7 + 1) r161.2.2
def fL_plan_100  (k22 : Int32 → Int32 → Int32 → Int32 → Int32 → Int32 → Int32 → tw_Wl → Option (Int32 × tw_Wl)) (t0 : Int32) (v1 : Int32) (v2 : Int32) (v3 : Int32) (v4 : Int32) (v5 : Int32) (v7 : Int32) (v8 : Int32) (v9 : Int32) (v10 : Int32) (Y : tw_Wl) : Option (Int32 × tw_Wl) :=
  (fX3_task Y v7 (8 : Int32)).bind fun r108 =>
  tw_q (r108.1 = 0) <|
  (fX3_task r108.2.2 v7 (7 : Int32)).bind fun r120 =>
  tw_q (r120.1 = 0) <|
  if ¬ r120.2.1 = 0 then
    fL_plan_131 k22 v4 (0 : Int32) v1 v2 (v3 + r108.2.1) v5 t0 v7 v8 v9 v10 r120.2.2
  else
    fL_plan_131 k22 v4 (1 : Int32) v1 v2 (v3 + r108.2.1) v5 t0 v7 v8 v9 v10 r120.2.2
def fL_plan_22   : Nat → Int32 → Int32 → Int32 → Int32 → Int32 → Int32 → Int32 → tw_Wl → Option (Int32 × tw_Wl)
  | 0, _, _, _, _, _, _, _, _ => none
  | n + 1, v1, v2, v3, v4, v5, v6, v7, Y =>
    if v1 ≤ v7 then
      fL_plan_447 v1 v2 v3 v4 v5 v6 Y
    else
      if v6 = 0 then
        fL_plan_447 v1 v2 v3 v4 v5 v6 Y
      else
        (fX3_task Y v7 (6 : Int32)).bind fun r38 =>
        tw_q (r38.1 = 0) <|
        (fX3_task r38.2.2 v7 (0 : Int32)).bind fun r49 =>
        tw_q (r49.1 = 0) <|
        (fX3_task r49.2.2 v7 (4 : Int32)).bind fun r59 =>
        tw_q (r59.1 = 0) <|
        if ¬ (r59.2.1 >>> (v7 &&& 31)) = 0 then
          fL_plan_100 (fL_plan_22 n) (0 : Int32) v1 v2 v3 v4 v5 v7 r38.2.1 (r38.2.1 + r49.2.1) r59.2.1 r59.2.2
        else
          (fX3_task r59.2.2 v7 (0 : Int32)).bind fun r76 =>
          tw_q (r76.1 = 0) <|
          if r76.2.1 < (1 : Int32) then
            fL_plan_100 (fL_plan_22 n) (0 : Int32) v1 v2 v3 v4 v5 v7 r38.2.1 (r38.2.1 + r49.2.1) r59.2.1 r76.2.2
          else
            (fX3_task r76.2.2 v7 (0 : Int32)).bind fun r87 =>
            tw_q (r87.1 = 0) <|
            if (9 : Int32) < r87.2.1 then
              fL_plan_100 (fL_plan_22 n) (0 : Int32) v1 v2 v3 v4 v5 v7 r38.2.1 (r38.2.1 + r49.2.1) r59.2.1 r87.2.2
            else
              fL_plan_100 (fL_plan_22 n) (1 : Int32) v1 v2 v3 v4 v5 v7 r38.2.1 (r38.2.1 + r49.2.1) r59.2.1 r87.2.2
def fL_plan (Y : tw_Wl)  : Option (Int32 × tw_Wl) :=
  (fX3_count Y (0 : Int32)).bind fun r2 =>
  tw_q (r2.1 = 0) <|
  fL_plan_22 512 r2.2.1 (0 : Int32) (0 : Int32) (0 : Int32) (0 : Int32) (1 : Int32) (0 : Int32) r2.2.2
def fL_looks_261   (t0 : Int32) (Y : tw_Wl) : Option (Int32 × tw_Wl) :=
  (fX3_busyness Y).bind fun r262 =>
  if (Op.cmpValue (FP.dcmp r262 FP.dconst0) CmpOp.l) ≤ 0 then
    if ¬ t0 = (0 : Int32) then
      some ((0 : Int32), Y)
    else
      some ((1 : Int32), Y)
  else
    if ¬ t0 = (1 : Int32) then
      some ((0 : Int32), Y)
    else
      some ((1 : Int32), Y)
def fL_looks_225   (Y : tw_Wl) : Option (Int32 × tw_Wl) :=
  (fX3_count Y (7 : Int32)).bind fun r228 =>
  tw_q (r228.1 = 0) <|
  (fX3_count r228.2.2 (4 : Int32)).bind fun r233 =>
  tw_q (r233.1 = 0) <|
  if r233.2.1 < r228.2.1 then
    some ((0 : Int32), r233.2.2)
  else
    (fX3_busyness r233.2.2).bind fun r240 =>
    if (Op.cmpValue (FP.dcmp r240 FP.dconst0) CmpOp.l) < 0 then
      some ((0 : Int32), r233.2.2)
    else
      (fX3_count r233.2.2 (1 : Int32)).bind fun r250 =>
      tw_q (r250.1 = 0) <|
      if r250.2.1 ≤ 0 then
        fL_looks_261 (0 : Int32) r250.2.2
      else
        fL_looks_261 (1 : Int32) r250.2.2
def fL_looks_198   (t0 : Int32) (Y : tw_Wl) : Option (Int32 × tw_Wl) :=
  if t0 = 0 then
    some ((0 : Int32), Y)
  else
    (fX3_count Y (2 : Int32)).bind fun r205 =>
    tw_q (r205.1 = 0) <|
    if 0 < r205.2.1 then
      fL_looks_225 r205.2.2
    else
      (fX3_count r205.2.2 (3 : Int32)).bind fun r213 =>
      tw_q (r213.1 = 0) <|
      (fX3_count r213.2.2 (7 : Int32)).bind fun r219 =>
      tw_q (r219.1 = 0) <|
      if r213.2.1 < r219.2.1 then
        some ((0 : Int32), r219.2.2)
      else
        fL_looks_225 r219.2.2
def fL_looks_156   (v1 : Int32) (Y : tw_Wl) : Option (Int32 × tw_Wl) :=
  (fX3_worstSlip Y (3 : Int32)).bind fun r158 =>
  tw_q (r158.1 = 0) <|
  if v1 = 0 then
    fL_looks_198 (0 : Int32) r158.2.2
  else
    if r158.2.1 = (-1 : Int32) then
      fL_looks_198 (1 : Int32) r158.2.2
    else
      (fX3_task r158.2.2 r158.2.1 (6 : Int32)).bind fun r175 =>
      tw_q (r175.1 = 0) <|
      if r175.2.1 < 0 then
        fL_looks_198 (0 : Int32) r175.2.2
      else
        (fX3_task r175.2.2 r158.2.1 (6 : Int32)).bind fun r185 =>
        tw_q (r185.1 = 0) <|
        if (57 : Int32) < r185.2.1 then
          fL_looks_198 (0 : Int32) r185.2.2
        else
          fL_looks_198 (1 : Int32) r185.2.2
def fL_looks_74  (k60 : Int32 → Int32 → tw_Wl → Option (Int32 × tw_Wl)) : Nat → Int32 → Int32 → Int32 → tw_Wl → Option (Int32 × tw_Wl)
  | 0, _, _, _, _ => none
  | n + 1, v2, v3, v4, Y =>
    if (100 : Int32) ≤ v4 then
      (fX3_hall Y v2 (2 : Int32)).bind fun r108 =>
      tw_q (r108.1 = 0) <|
      if ¬ r108.2 = v3 then
        k60 (0 : Int32) (v2 + 1) Y
      else
        (fX3_hall Y v2 (0 : Int32)).bind fun r118 =>
        tw_q (r118.1 = 0) <|
        (fX3_hall Y v2 (1 : Int32)).bind fun r124 =>
        tw_q (r124.1 = 0) <|
        if r124.2 < r118.2 then
          k60 (0 : Int32) (v2 + 1) Y
        else
          (fX3_hall Y v2 (3 : Int32)).bind fun r133 =>
          tw_q (r133.1 = 0) <|
          (fX3_count Y (1 : Int32)).bind fun r138 =>
          tw_q (r138.1 = 0) <|
          if r138.2.1 < r133.2 then
            k60 (0 : Int32) (v2 + 1) r138.2.2
          else
            k60 (1 : Int32) (v2 + 1) r138.2.2
    else
      (fX3_hallOn Y v2 v4).bind fun r86 =>
      tw_q (r86.1 = 0) <|
      if r86.2 < 0 then
        fL_looks_74 k60 n v2 (v3 + (0 : Int32)) (v4 + 1) Y
      else
        fL_looks_74 k60 n v2 (v3 + (1 : Int32)) (v4 + 1) Y
def fL_looks_60   : Nat → Int32 → Int32 → tw_Wl → Option (Int32 × tw_Wl)
  | 0, _, _, _ => none
  | n + 1, v1, v2, Y =>
    if (4 : Int32) ≤ v2 then
      fL_looks_156 v1 Y
    else
      if v1 = 0 then
        fL_looks_156 v1 Y
      else
        fL_looks_74 (fL_looks_60 n) 512 v2 (0 : Int32) (0 : Int32) Y
def fL_looks (Y : tw_Wl)  : Option (Int32 × tw_Wl) :=
  (fX3_setting Y).bind fun r2 =>
  (fX3_ifRule Y r2 (0 : Int32)).bind fun r6 =>
  tw_q (r6.1 = 0) <|
  (fX3_count r6.2.2 (3 : Int32)).bind fun r11 =>
  tw_q (r11.1 = 0) <|
  if ¬ r6.2.1 = r11.2.1 then
    fL_looks_60 512 (0 : Int32) (0 : Int32) r11.2.2
  else
    (fX3_setting r11.2.2).bind fun r19 =>
    (fX3_ifRule r11.2.2 r19 (1 : Int32)).bind fun r23 =>
    tw_q (r23.1 = 0) <|
    (fX3_count r23.2.2 (1 : Int32)).bind fun r28 =>
    tw_q (r28.1 = 0) <|
    if ¬ r23.2.1 = r28.2.1 then
      fL_looks_60 512 (0 : Int32) (0 : Int32) r28.2.2
    else
      (fX3_setting r28.2.2).bind fun r36 =>
      (fX3_ifRule r28.2.2 r36 (2 : Int32)).bind fun r40 =>
      tw_q (r40.1 = 0) <|
      (fX3_count r40.2.2 (6 : Int32)).bind fun r46 =>
      tw_q (r46.1 = 0) <|
      if ¬ r40.2.1 = r46.2.1 then
        fL_looks_60 512 (0 : Int32) (0 : Int32) r46.2.2
      else
        fL_looks_60 512 (1 : Int32) (0 : Int32) r46.2.2
