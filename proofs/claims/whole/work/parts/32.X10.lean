def f_X10_balances_L22 (m2 : gM) (p1 : Int32) (p2 : Int32) (p3 : Int32) (r1 : Int32) (r4 : Int32) : Nat → Int32 → Int32 → Option (Int32 × Int32)
  | 0, _, _ => none
  | n + 1, x5, x6 =>
    if 3 ≤ x6 then
      some (x5, x6)
    else
      ob (f_X10_gapOf p1 p2 x6 p3 m2) fun r10 =>
      ob (if 0 ≤ r4 then
          if r4 ≤ 0 then
            some 0
          else
            if r10 ≤ 0 then
              some 0
            else
              some 1
        else
          if 0 ≤ r10 then
            some 0
          else
            some 1) fun (z12 : Int32) =>
      ob (if z12 = 0 then
          ob (a_ld 120 41 (((12 * p1) + (4 * x6)) + p3) m2) fun v18 =>
          some v18
        else
          some r1) fun (z17 : Int32) =>
      ob (some (x5 + (r10 * z17))) fun (x19 : Int32) =>
      f_X10_balances_L22 m2 p1 p2 p3 r1 r4 n x19 (x6 + 1)
def f_X10_balances_L120 (m2 : gM) (p1 : Int32) (p2 : Int32) (r1 : Int32) (r4 : Int32) : Nat → Int32 → Int32 → Option (Int32 × Int32)
  | 0, _, _ => none
  | n + 1, x21, x22 =>
    ob (a_ld 10 34 p1 m2) fun v25 =>
    if ((30 * p1) + v25) ≤ x22 then
      some (x21, x22)
    else
      ob (a_ld 300 35 x22 m2) fun v27 =>
      ob (if v27 = p2 then
          ob (a_ld 300 40 x22 m2) fun v30 =>
          some v30
        else
          some 0) fun (z29 : Int32) =>
      ob (if 0 ≤ r4 then
          some ((-z29) * r1)
        else
          some (z29 * r1)) fun (z32 : Int32) =>
      ob (some (x21 + z32)) fun (x33 : Int32) =>
      f_X10_balances_L120 m2 p1 p2 r1 r4 n x33 (x22 + 1)
def f_X10_balances (p1 : Int32) (p2 : Int32) (p3 : Int32) (me : gM) : Option (Int32 × gM) :=
  ob (f_X10_helps p1 p3 me) fun w3 =>
  ob (some w3.1) fun r1 =>
  ob (some w3.2) fun m2 =>
  ob (f_X10_gapIn p1 p3 m2) fun r4 =>
  ob (f_X10_balances_L22 m2 p1 p2 p3 r1 r4 f_fuel 0 0) fun t35 =>
  ob (some t35.1) fun y7 =>
  ob (some t35.2) fun y8 =>
  ob (some (30 * p1)) fun (x20 : Int32) =>
  ob (f_X10_balances_L120 m2 p1 p2 r1 r4 f_fuel y7 x20) fun t34 =>
  ob (some t34.1) fun y23 =>
  ob (some t34.2) fun y24 =>
  some (y23, m2)
def f_X10_billOf_L15 (p1 : Int32) (p2 : Int32) : Nat → Int32 → Int32 → gM → Option (Int32 × Int32 × gM)
  | 0, _, _, _ => none
  | n + 1, x2, x3, m4 =>
    if 4 ≤ x3 then
      some (x2, x3, m4)
    else
      ob (f_X10_balances p1 p2 x3 m4) fun w11 =>
      ob (some w11.1) fun r9 =>
      ob (some w11.2) fun m10 =>
      ob (some (x2 + r9)) fun (x12 : Int32) =>
      f_X10_billOf_L15 p1 p2 n x12 (x3 + 1) m10
def f_X10_billOf (p1 : Int32) (p2 : Int32) (me : gM) : Option (Int32 × gM) :=
  ob (a_ld 60 45 ((6 * p1) + p2) me) fun v1 =>
  ob (f_X10_billOf_L15 p1 p2 f_fuel v1 0 me) fun t13 =>
  ob (some t13.1) fun y5 =>
  ob (some t13.2.1) fun y6 =>
  ob (some t13.2.2) fun m7 =>
  some (y5, m7)
def f_X10_lowestBelow_L2 (me : gM) : Nat → Int32 → Option ((Int32) ⊕ (Int32))
  | 0, _ => none
  | n + 1, x1 =>
    if 6 ≤ x1 then
      some (.inl x1)
    else
      ob (a_ld 6 4 x1 me) fun v4 =>
      if v4 = 0 then
        ob (a_ld 6 2 x1 me) fun v6 =>
        if 0 ≤ v6 then
          f_X10_lowestBelow_L2 me n (x1 + 1)
        else
          some (.inr x1)
      else
        f_X10_lowestBelow_L2 me n (x1 + 1)
def f_X10_lowestBelow (me : gM) : Option (Int32) :=
  oz (f_X10_lowestBelow_L2 me f_fuel 0) (fun w9 => some w9) fun y2 =>
  some (-1)
def f_X10_fails_L29 (m4 : gM) : Nat → Int64 → Int32 → Option (Int64 × Int32)
  | 0, _, _ => none
  | n + 1, x5, x6 =>
    if 6 ≤ x6 then
      some (x5, x6)
    else
      ob (a_ld 6 4 x6 m4) fun v10 =>
      ob (if v10 = 0 then
          ob (a_ld 6 3 x6 m4) fun v13 =>
          some ((v13).toInt64)
        else
          some 0) fun (z12 : Int64) =>
      ob (some (x5 + z12)) fun (x14 : Int64) =>
      f_X10_fails_L29 m4 n x14 (x6 + 1)
def f_X10_fails_L75 (x2 : Int64) (y7 : Int64) : Nat → Int64 → Int32 → gM → Option (Int64 × Int32 × gM)
  | 0, _, _, _ => none
  | n + 1, x15, x16, m17 =>
    if 6 ≤ x16 then
      some (x15, x16, m17)
    else
      ob (a_ld 6 4 x16 m17) fun v22 =>
      ob (if v22 = 0 then
          if (lg_cmp y7 0) ≤ 0 then
            some 0
          else
            ob (a_ld 6 3 x16 m17) fun v26 =>
            ob (a_dv (x2 * (v26).toInt64) y7) fun q27 =>
            some ((q27).toInt32)
        else
          some 0) fun (z24 : Int32) =>
      ob (a_ld 6 2 x16 m17) fun v28 =>
      ob (a_st 6 2 x16 (v28 - z24) m17) fun m29 =>
      ob (some (x15 - (z24).toInt64)) fun (x30 : Int64) =>
      f_X10_fails_L75 x2 y7 n x30 (x16 + 1) m29
def f_X10_fails (p1 : Int32) (me : gM) : Option (gM) :=
  ob (a_ld 6 2 p1 me) fun v1 =>
  ob (some (((-v1)).toInt64)) fun (x2 : Int64) =>
  ob (a_st 6 4 p1 1 me) fun m3 =>
  ob (a_st 6 2 p1 0 m3) fun m4 =>
  ob (f_X10_fails_L29 m4 f_fuel 0 0) fun t33 =>
  ob (some t33.1) fun y7 =>
  ob (some t33.2) fun y8 =>
  ob (f_X10_fails_L75 x2 y7 f_fuel x2 0 m4) fun t32 =>
  ob (some t32.1) fun y18 =>
  ob (some t32.2.1) fun y19 =>
  ob (some t32.2.2) fun m20 =>
  ob (some (g_up m20 0 (upd (m20 0) 6 ((m20 0 6) - (y18).toInt32)))) fun m31 =>
  some m31
def f_X10_run_L52 (p1 : Int32) : Nat → Int32 → gM → Option (Int32 × gM)
  | 0, _, _ => none
  | n + 1, x10, m11 =>
    if 6 ≤ x10 then
      some (x10, m11)
    else
      ob (a_ld 6 4 x10 m11) fun v15 =>
      ob (if v15 = 0 then
          ob (f_X10_billOf p1 x10 m11) fun w20 =>
          ob (some w20.1) fun r18 =>
          ob (some w20.2) fun m19 =>
          ob (a_ld 60 46 ((6 * p1) + x10) m19) fun v21 =>
          ob (some (r18 - v21)) fun (x22 : Int32) =>
          ob (a_ld 60 46 ((6 * p1) + x10) m19) fun v23 =>
          ob (a_st 60 46 ((6 * p1) + x10) (v23 + x22) m19) fun m24 =>
          ob (a_ld 6 2 x10 m24) fun v25 =>
          ob (a_st 6 2 x10 (v25 + x22) m24) fun m26 =>
          ob (some (g_up m26 0 (upd (m26 0) 6 ((m26 0 6) - x22)))) fun m27 =>
          some m27
        else
          some m11) fun (m17 : gM) =>
      f_X10_run_L52 p1 n (x10 + 1) m17
def f_X10_run_L134  : Nat → Int32 → Int32 → gM → Option (Int32 × Int32 × gM)
  | 0, _, _, _ => none
  | n + 1, x29, x30, m31 =>
    if x30 = (-1) then
      some (x29, x30, m31)
    else
      ob (f_X10_fails x30 m31) fun m36 =>
      ob (f_X10_lowestBelow m36) fun r37 =>
      f_X10_run_L134  n (x29 + 1) r37 m36
def f_X10_run (p1 : Int32) (me : gM) : Option (Int32 × gM) :=
  ob (f_X10_isClosed p1 me) fun r1 =>
  ob (if r1 = 0 then
      some 1
    else
      ob (a_ld 10 47 p1 me) fun v4 =>
      if v4 = 3 then
        some 2
      else
        some 0) fun (z3 : Int32) =>
  ob (some (g_up me 0 (upd (me 0) 67 z3))) fun m6 =>
  if (m6 0 67) ≤ 0 then
    ob (a_ld 10 47 p1 m6) fun v8 =>
    ob (a_st 10 47 p1 (v8 + 1) m6) fun m9 =>
    ob (f_X10_run_L52 p1 f_fuel 0 m9) fun t39 =>
    ob (some t39.1) fun y12 =>
    ob (some t39.2) fun m13 =>
    ob (f_X10_lowestBelow m13) fun r28 =>
    ob (f_X10_run_L134  f_fuel 0 r28 m13) fun t38 =>
    ob (some t38.1) fun y32 =>
    ob (some t38.2.1) fun y33 =>
    ob (some t38.2.2) fun m34 =>
    some (y32, m34)
  else
    some (0, m6)
def f_X10_day (me : gM) : Option (Int32 × gM) :=
  ob (some (g_up me 0 (upd (me 0) 67 0))) fun m1 =>
  some ((m1 0 0), m1)
def f_X10_phase (me : gM) : Option (Int32 × gM) :=
  ob (some (g_up me 0 (upd (me 0) 67 0))) fun m1 =>
  some ((m1 0 1), m1)
def f_X10_isThere (p1 : Int32) (me : gM) : Option (Int32 × gM) :=
  ob (if p1 = 0 then
      some 1
    else
      if (me 0 1) = 0 then
        some 2
      else
        some 0) fun (z2 : Int32) =>
  ob (some (g_up me 0 (upd (me 0) 67 z2))) fun m4 =>
  ob (if (m4 0 67) = 0 then
      some 1
    else
      some 0) fun (z6 : Int32) =>
  ob (a_zc z6) fun b7 =>
  some (b7, m4)
def f_X10_price (p1 : Int32) (p2 : Int32) (me : gM) : Option (Int32 × gM) :=
  ob (f_X10_isZone p1) fun r1 =>
  ob (if r1 = 0 then
      some 0
    else
      ob (f_X10_isHour p2) fun r4 =>
      if r4 = 0 then
        some 0
      else
        some 1) fun (z3 : Int32) =>
  ob (f_X10_isThere z3 me) fun w8 =>
  ob (some w8.1) fun r6 =>
  ob (some w8.2) fun m7 =>
  ob (if r6 = 0 then
      some 0
    else
      ob (a_ld 120 41 (((12 * (m7 0 0)) + (4 * p1)) + p2) m7) fun v11 =>
      some v11) fun (z10 : Int32) =>
  some (z10, m7)
def f_X10_net (p1 : Int32) (p2 : Int32) (me : gM) : Option (Int32 × gM) :=
  ob (f_X10_isZone p1) fun r1 =>
  ob (if r1 = 0 then
      some 0
    else
      ob (f_X10_isHour p2) fun r4 =>
      if r4 = 0 then
        some 0
      else
        some 1) fun (z3 : Int32) =>
  ob (f_X10_isThere z3 me) fun w8 =>
  ob (some w8.1) fun r6 =>
  ob (some w8.2) fun m7 =>
  ob (if r6 = 0 then
      some 0
    else
      ob (a_ld 12 48 ((4 * p1) + p2) m7) fun v11 =>
      some v11) fun (z10 : Int32) =>
  some (z10, m7)
def f_X10_flow (p1 : Int32) (p2 : Int32) (me : gM) : Option (Int32 × gM) :=
  ob (f_X10_in p1 0 2) fun r1 =>
  ob (if r1 = 0 then
      some 0
    else
      ob (f_X10_isHour p2) fun r4 =>
      if r4 = 0 then
        some 0
      else
        some 1) fun (z3 : Int32) =>
  ob (f_X10_isThere z3 me) fun w8 =>
  ob (some w8.1) fun r6 =>
  ob (some w8.2) fun m7 =>
  if r6 = 0 then
    some (0, m7)
  else
    ob (if p1 = 1 then
        some 4
      else
        some 0) fun (z11 : Int32) =>
    ob (a_ld 12 48 (z11 + p2) m7) fun v12 =>
    ob (if p1 = 0 then
        some 4
      else
        some 8) fun (z14 : Int32) =>
    ob (a_ld 12 48 (z14 + p2) m7) fun v15 =>
    some ((v12 - v15), m7)
def f_X10_taken (p1 : Int32) (me : gM) : Option (Int32 × gM) :=
  ob (f_X10_in p1 0 ((me 0 7) - 1)) fun r1 =>
  ob (f_X10_isThere r1 me) fun w4 =>
  ob (some w4.1) fun r2 =>
  ob (some w4.2) fun m3 =>
  ob (if r2 = 0 then
      some 0
    else
      ob (a_ld 40 11 p1 m3) fun v7 =>
      some v7) fun (z6 : Int32) =>
  some (z6, m3)
def f_X10_isTaken (p1 : Int32) (me : gM) : Option (Int32 × gM) :=
  ob (f_X10_in p1 0 ((me 0 16) - 1)) fun r1 =>
  ob (f_X10_isThere r1 me) fun w4 =>
  ob (some w4.1) fun r2 =>
  ob (some w4.2) fun m3 =>
  ob (if r2 = 0 then
      some 0
    else
      if (((m3 0 25) >>> (p1 &&& 31)) &&& 1) = 1 then
        some 1
      else
        some 0) fun (z6 : Int32) =>
  ob (a_zc z6) fun b8 =>
  some (b8, m3)
def f_X10_gain (p1 : Int32) (me : gM) : Option (Int32 × gM) :=
  ob (f_X10_in p1 0 ((me 0 16) - 1)) fun r1 =>
  ob (f_X10_isThere r1 me) fun w4 =>
  ob (some w4.1) fun r2 =>
  ob (some w4.2) fun m3 =>
  ob (if r2 = 0 then
      some 0
    else
      ob (f_X10_gainOf p1 120 41 (12 * (m3 0 0)) m3) fun r7 =>
      some r7) fun (z6 : Int32) =>
  some (z6, m3)
def f_X10_worthAnew_L38 (m3 : gM) : Nat → Int32 → Int32 → Option (Int32 × Int32)
  | 0, _, _ => none
  | n + 1, x7, x8 =>
    if (m3 0 7) ≤ x8 then
      some (x7, x8)
    else
      if (m3 0 67) = 0 then
        ob (a_ld 40 8 x8 m3) fun v13 =>
        ob (if v13 = 1 then
            ob (a_ld 40 11 x8 m3) fun v17 =>
            some v17
          else
            ob (a_ld 40 11 x8 m3) fun v16 =>
            some (-v16)) fun (z15 : Int32) =>
        ob (a_ld 40 9 x8 m3) fun v18 =>
        ob (some (x7 + (z15 * v18))) fun (x19 : Int32) =>
        f_X10_worthAnew_L38 m3 n x19 (x8 + 1)
      else
        some (x7, x8)
def f_X10_worthAnew (me : gM) : Option (Int32 × gM) :=
  ob (if (me 0 1) = 0 then
      some 1
    else
      some 0) fun (z2 : Int32) =>
  ob (some (g_up me 0 (upd (me 0) 67 z2))) fun m3 =>
  ob (if (m3 0 67) = 0 then
      ob (f_X10_worthOfBlocks (m3 0 25) m3) fun r6 =>
      some r6
    else
      some 0) fun (z5 : Int32) =>
  ob (f_X10_worthAnew_L38 m3 f_fuel z5 0) fun t20 =>
  ob (some t20.1) fun y9 =>
  ob (some t20.2) fun y10 =>
  some (y9, m3)
def f_X10_given (p1 : Int32) (me : gM) : Option (Int32 × gM) :=
  ob (f_X10_in p1 0 ((me 0 26) - 1)) fun r1 =>
  ob (f_X10_isThere r1 me) fun w4 =>
  ob (some w4.1) fun r2 =>
  ob (some w4.2) fun m3 =>
  ob (if r2 = 0 then
      some 0
    else
      ob (a_ld 20 26 p1 m3) fun v7 =>
      some v7) fun (z6 : Int32) =>
  some (z6, m3)
def f_X10_left (p1 : Int32) (me : gM) : Option (Int32 × gM) :=
  ob (f_X10_in p1 0 ((me 0 33) - 1)) fun r1 =>
  ob (if r1 = 0 then
      some 1
    else
      some 0) fun (z3 : Int32) =>
  ob (some (g_up me 0 (upd (me 0) 67 z3))) fun m4 =>
  ob (if (m4 0 67) = 0 then
      ob (a_ld 60 32 p1 m4) fun v7 =>
      some v7
    else
      some 0) fun (z6 : Int32) =>
  some (z6, m4)
def f_X10_plan (p1 : Int32) (p2 : Int32) (p3 : Int32) (p4 : Int32) (me : gM) : Option (Int32 × gM) :=
  ob (f_X10_in p1 0 (me 0 0)) fun r1 =>
  ob (if r1 = 0 then
      some 1
    else
      ob (f_X10_isFirm p2) fun r4 =>
      if r4 = 0 then
        some 1
      else
        ob (f_X10_isZone p3) fun r6 =>
        if r6 = 0 then
          some 1
        else
          ob (f_X10_isHour p4) fun r8 =>
          if r8 = 0 then
            some 1
          else
            some 0) fun (z3 : Int32) =>
  ob (some (g_up me 0 (upd (me 0) 67 z3))) fun m10 =>
  ob (if (m10 0 67) = 0 then
      ob (f_X10_placeOf p1 p2 p3 p4) fun r13 =>
      ob (a_ld 720 42 r13 m10) fun v14 =>
      some v14
    else
      some 0) fun (z12 : Int32) =>
  some (z12, m10)
def f_X10_gap (p1 : Int32) (p2 : Int32) (me : gM) : Option (Int32 × gM) :=
  ob (f_X10_isClosed p1 me) fun r1 =>
  ob (if r1 = 0 then
      some 1
    else
      ob (f_X10_isHour p2) fun r4 =>
      if r4 = 0 then
        some 1
      else
        some 0) fun (z3 : Int32) =>
  ob (some (g_up me 0 (upd (me 0) 67 z3))) fun m6 =>
  ob (if (m6 0 67) = 0 then
      ob (f_X10_gapIn p1 p2 m6) fun r9 =>
      some r9
    else
      some 0) fun (z8 : Int32) =>
  some (z8, m6)
def f_X10_gapPrice (p1 : Int32) (p2 : Int32) (me : gM) : Option (Int32 × gM) :=
  ob (f_X10_isClosed p1 me) fun r1 =>
  ob (if r1 = 0 then
      some 1
    else
      ob (f_X10_isHour p2) fun r4 =>
      if r4 = 0 then
        some 1
      else
        some 0) fun (z3 : Int32) =>
  ob (some (g_up me 0 (upd (me 0) 67 z3))) fun m6 =>
  ob (if (m6 0 67) = 0 then
      ob (f_X10_helps p1 p2 m6) fun w12 =>
      ob (some w12.1) fun r10 =>
      ob (some w12.2) fun m11 =>
      some (r10, m11)
    else
      some (0, m6)) fun (t13 : Int32 × gM) =>
  ob (some t13.1) fun z8 =>
  ob (some t13.2) fun m9 =>
  some (z8, m9)
def f_X10_isBill (p1 : Int32) (p2 : Int32) (me : gM) : Option (Int32 × gM) :=
  ob (f_X10_isClosed p1 me) fun r1 =>
  ob (if r1 = 0 then
      some 1
    else
      ob (f_X10_isFirm p2) fun r4 =>
      if r4 = 0 then
        some 1
      else
        some 0) fun (z3 : Int32) =>
  ob (some (g_up me 0 (upd (me 0) 67 z3))) fun m6 =>
  ob (if (m6 0 67) = 0 then
      some 1
    else
      some 0) fun (z8 : Int32) =>
  ob (a_zc z8) fun b9 =>
  some (b9, m6)
def f_X10_bill (p1 : Int32) (p2 : Int32) (me : gM) : Option (Int32 × gM) :=
  ob (f_X10_isBill p1 p2 me) fun w3 =>
  ob (some w3.1) fun r1 =>
  ob (some w3.2) fun m2 =>
  ob (if r1 = 0 then
      some (0, m2)
    else
      ob (f_X10_billOf p1 p2 m2) fun w9 =>
      ob (some w9.1) fun r7 =>
      ob (some w9.2) fun m8 =>
      some (r7, m8)) fun (t10 : Int32 × gM) =>
  ob (some t10.1) fun z5 =>
  ob (some t10.2) fun m6 =>
  some (z5, m6)
def f_X10_settled (p1 : Int32) (p2 : Int32) (me : gM) : Option (Int32 × gM) :=
  ob (f_X10_isBill p1 p2 me) fun w3 =>
  ob (some w3.1) fun r1 =>
  ob (some w3.2) fun m2 =>
  ob (if r1 = 0 then
      some 0
    else
      ob (a_ld 60 46 ((6 * p1) + p2) m2) fun v6 =>
      some v6) fun (z5 : Int32) =>
  some (z5, m2)
def f_X10_account (p1 : Int32) (me : gM) : Option (Int32 × gM) :=
  ob (f_X10_isFirm p1) fun r1 =>
  ob (if r1 = 0 then
      some 1
    else
      some 0) fun (z3 : Int32) =>
  ob (some (g_up me 0 (upd (me 0) 67 z3))) fun m4 =>
  ob (if (m4 0 67) = 0 then
      ob (a_ld 6 2 p1 m4) fun v7 =>
      some v7
    else
      some 0) fun (z6 : Int32) =>
  some (z6, m4)
def f_X10_hasFailed (p1 : Int32) (me : gM) : Option (Int32 × gM) :=
  ob (f_X10_isFirm p1) fun r1 =>
  ob (if r1 = 0 then
      some 1
    else
      some 0) fun (z3 : Int32) =>
  ob (some (g_up me 0 (upd (me 0) 67 z3))) fun m4 =>
  ob (if (m4 0 67) = 0 then
      ob (a_ld 6 4 p1 m4) fun v7 =>
      if v7 = 1 then
        some 1
      else
        some 0
    else
      some 0) fun (z6 : Int32) =>
  ob (a_zc z6) fun b9 =>
  some (b9, m4)
def f_X10_house (me : gM) : Option (Int32 × gM) :=
  ob (some (g_up me 0 (upd (me 0) 67 0))) fun m1 =>
  some ((m1 0 6), m1)
abbrev rmX10_balances : Room := { frames := 4, cells := 0, slots := 0, locals := 103 }
set_option maxHeartbeats 4000000 in
set_option maxRecDepth 100000 in
theorem c_X10_balances (l : Launch) (G : gG) {p1 : Int32} {p2 : Int32} {p3 : Int32} {me : gM} {r0 : Int32} {m0 : gM}  (hf : f_X10_balances p1 p2 p3 me = some (r0, m0)) : Met l yX10_balances wsX10_balances rmX10_balances (va_Pc [.ref (G.2.2.1 0), .int p1, .int p2, .int p3] (g_W ZM G me)) (g_Qi ZM G r0 m0) 0 0 (g_A ZM G) := by
  refine Met.ofW (cc := cX10_balances) (maxL := 10) (ret := (some .int)) (by decide) rfl ?_
  intro p e s m args below meth c s₁ B hml hv
  obtain ⟨rfl, hW0⟩ := hv
  have hC : CallFix p m c cX10_balances 10 s ([.ref (G.2.2.1 0), .int p1, .int p2, .int p3] : List Value).toArray wsX10_balances RX10 := ⟨B.exec, B.bytes, hml, findClass_of_methodNamed B.named, atoms_spec (ws := wsX10_balances) B.pre⟩
  have hx := hC.1
  have hb := hC.2.1
  have hown := hC.2.2.2.1
  have hts := hC.2.2.2.2
  have hr := B.returns
  have hlocks := B.notSynchronized
  have hW := g_H_enter hW0
  have hi10 : ∀ w ∈ wsX100, w ∈ wsX10_balances := by decide +kernel
  have hl := lv_entry ([.ref (G.2.2.1 0), .int p1, .int p2, .int p3]) (n := 10) (Nat.le_of_ble_eq_true rfl)
  rw [lg_entry_eq]
  generalize (lg_sl ([.ref (G.2.2.1 0), .int p1, .int p2, .int p3]) ++ List.replicate (10 - (lg_sl ([.ref (G.2.2.1 0), .int p1, .int p2, .int p3])).length) Slot.unset).toArray = ls at hl ⊢
  have hl : lv_has ls 10 [(0, .ref (G.2.2.1 0)), (1, .int p1), (2, .int p2), (3, .int p3)] := hl
  obtain ⟨Q, hQ⟩ : ∃ Q, Q = MQ below (g_Qi ZM G r0 m0) ([.ref (G.2.2.1 0), .int p1, .int p2, .int p3] : List Value).toArray s 0 0 (g_A ZM G) := ⟨_, rfl⟩
  refine g_goQ hQ ?_
  unfold f_X10_balances at hf
  refine g_start hW (fun H locs hW => ?_)
  refine lv_aload_n hx hb dX10_balances_0 rfl (lv_at hl 0 rfl) ?_
  refine lv_iload_n hx hb dX10_balances_1 rfl (lv_at hl 1 rfl) ?_
  refine lv_iload_n hx hb dX10_balances_2 rfl (lv_at hl 3 rfl) ?_
  obtain ⟨⟨r1, m2⟩, hg, hf⟩ := ob_inv hf
  have hf := ob_inv2 hf
  refine g_cVi hC hW (o := 0) (ci := 10) (As := [.int p1, .int p3]) (rest := []) zm_k0 zm_b0 rfl (c_X10_helps l G  hg) (cwV 2 hts gX10_balances_X10_helps rfl rfl rfl (by decide +kernel) ⟨Nat.le_of_ble_eq_true rfl, Nat.le_of_ble_eq_true rfl⟩) rfl hl.1 rfl (Nat.le_of_ble_eq_true rfl) dX10_balances_3 ⟨Nat.le_of_ble_eq_true rfl, Nat.le_of_ble_eq_true rfl⟩ (fun H locs hW => ?_)
  refine lv_istore (lv' := [(4, .int r1), (0, .ref (G.2.2.1 0)), (1, .int p1), (2, .int p2), (3, .int p3)]) hx hb dX10_balances_6 hl (by decide) rfl (fun ls hl => ?_)
  refine lv_aload_n hx hb dX10_balances_8 rfl (lv_at hl 1 rfl) ?_
  refine lv_iload_n hx hb dX10_balances_9 rfl (lv_at hl 2 rfl) ?_
  refine lv_iload_n hx hb dX10_balances_10 rfl (lv_at hl 4 rfl) ?_
  obtain ⟨r4, hg, hf⟩ := ob_inv hf
  refine g_cVi hC hW (o := 0) (ci := 10) (As := [.int p1, .int p3]) (rest := []) zm_k0 zm_b0 rfl (c_X10_gapIn l G  hg) (cwV 2 hts gX10_balances_X10_gapIn rfl rfl rfl (by decide +kernel) ⟨Nat.le_of_ble_eq_true rfl, Nat.le_of_ble_eq_true rfl⟩) rfl hl.1 rfl (Nat.le_of_ble_eq_true rfl) dX10_balances_11 ⟨Nat.le_of_ble_eq_true rfl, Nat.le_of_ble_eq_true rfl⟩ (fun H locs hW => ?_)
  refine lv_istore (lv' := [(5, .int r4), (4, .int r1), (0, .ref (G.2.2.1 0)), (1, .int p1), (2, .int p2), (3, .int p3)]) hx hb dX10_balances_14 hl (by decide) rfl (fun ls hl => ?_)
  refine lv_iconst (v := 0) hx hb dX10_balances_16 (by decide) ?_
  refine lv_istore (lv' := [(6, .int 0), (5, .int r4), (4, .int r1), (0, .ref (G.2.2.1 0)), (1, .int p1), (2, .int p2), (3, .int p3)]) hx hb dX10_balances_17 hl (by decide) rfl (fun ls hl => ?_)
  refine lv_iconst (v := 0) hx hb dX10_balances_19 (by decide) ?_
  refine lv_istore (lv' := [(7, .int 0), (6, .int 0), (5, .int r4), (4, .int r1), (0, .ref (G.2.2.1 0)), (1, .int p1), (2, .int p2), (3, .int p3)]) hx hb dX10_balances_20 hl (by decide) rfl (fun ls hl => ?_)
  have hL22 : ∀ (n : Nat) (x5 : Int32) (x6 : Int32) (y7 : Int32) (y8 : Int32) (H : Heap) (locs : List Loc) (ls : Array Slot), f_X10_balances_L22 m2 p1 p2 p3 r1 r4 n x5 x6 = some (y7, y8) → g_H ZM G s H locs m2 → lv_has ls 10 [(0, .ref (G.2.2.1 0)), (1, .int p1), (2, .int p2), (3, .int p3), (4, .int r1), (5, .int r4), (6, .int x5), (7, .int x6)] → (∀ (H : Heap) (locs : List Loc) (ls : Array Slot), g_H ZM G s H locs m2 → lv_has ls 10 [(0, .ref (G.2.2.1 0)), (1, .int p1), (2, .int p2), (4, .int r1), (5, .int r4), (6, .int y7)] → W p l e (headSpec wsX10_balances rmX10_balances).room s m ([.ref (G.2.2.1 0), .int p1, .int p2, .int p3] : List Value).toArray below meth c H locs 0 0 Q (F0 m 114 ls [])) → W p l e (headSpec wsX10_balances rmX10_balances).room s m ([.ref (G.2.2.1 0), .int p1, .int p2, .int p3] : List Value).toArray below meth c H locs 0 0 Q (F0 m 22 ls []) := by
    intro n
    induction n with
    | zero =>
      intro x5 x6 y7 y8 H locs ls hf hW hl hE
      cases hf
    | succ n ih =>
      intro x5 x6 y7 y8 H locs ls hf hW hl hE
      rw [f_X10_balances_L22] at hf
      refine lv_iload hx hb dX10_balances_22 (lv_at hl 7 rfl) ?_
      refine lv_iconst (v := 3) hx hb dX10_balances_24 (by decide) ?_
      refine lv_icmp_ge (tgt := 114) hx hb dX10_balances_25 (by decide) (fun c9 => ?_) (fun c9 => ?_)
      · have hf := a_if_t c9 hf
        cases hf
        exact hE H locs ls hW (lv_sub hl [0, 1, 2, 4, 5, 6] rfl)
      · have hf := a_if_f c9 hf
        refine lv_aload_n hx hb dX10_balances_28 rfl (lv_at hl 0 rfl) ?_
        refine lv_iload_n hx hb dX10_balances_29 rfl (lv_at hl 1 rfl) ?_
        refine lv_iload_n hx hb dX10_balances_30 rfl (lv_at hl 2 rfl) ?_
        refine lv_iload hx hb dX10_balances_31 (lv_at hl 7 rfl) ?_
        refine lv_iload_n hx hb dX10_balances_33 rfl (lv_at hl 3 rfl) ?_
        obtain ⟨r10, hg, hf⟩ := ob_inv hf
        refine g_cVi hC hW (o := 0) (ci := 10) (As := [.int p1, .int p2, .int x6, .int p3]) (rest := []) zm_k0 zm_b0 rfl (c_X10_gapOf l G  hg) (cwV 4 hts gX10_balances_X10_gapOf rfl rfl rfl (by decide +kernel) ⟨Nat.le_of_ble_eq_true rfl, Nat.le_of_ble_eq_true rfl⟩) rfl hl.1 rfl (Nat.le_of_ble_eq_true rfl) dX10_balances_34 ⟨Nat.le_of_ble_eq_true rfl, Nat.le_of_ble_eq_true rfl⟩ (fun H locs hW => ?_)
        refine lv_istore (lv' := [(8, .int r10), (0, .ref (G.2.2.1 0)), (1, .int p1), (2, .int p2), (3, .int p3), (4, .int r1), (5, .int r4), (6, .int x5), (7, .int x6)]) hx hb dX10_balances_37 hl (by decide) rfl (fun ls hl => ?_)
        refine lv_iload hx hb dX10_balances_39 (lv_at hl 6 rfl) ?_
        obtain ⟨z12, hg, hf⟩ := ob_inv hf
        have hJ72 : ∀ (H : Heap) (locs : List Loc) (ls : Array Slot), g_H ZM G s H locs m2 → lv_has ls 10 [(0, .ref (G.2.2.1 0)), (1, .int p1), (2, .int p2), (3, .int p3), (4, .int r1), (5, .int r4), (6, .int x5), (7, .int x6), (8, .int r10)] → W p l e (headSpec wsX10_balances rmX10_balances).room s m ([.ref (G.2.2.1 0), .int p1, .int p2, .int p3] : List Value).toArray below meth c H locs 0 0 Q (F0 m 72 ls [.int z12]) := by
          intro H locs ls hW hl
          refine lv_istore (lv' := [(9, .int z12), (0, .ref (G.2.2.1 0)), (1, .int p1), (2, .int p2), (3, .int p3), (4, .int r1), (5, .int r4), (6, .int x5), (7, .int x6), (8, .int r10)]) hx hb dX10_balances_72 hl (by decide) rfl (fun ls hl => ?_)
          refine lv_iload hx hb dX10_balances_74 (lv_at hl 7 rfl) ?_
          refine lv_iload hx hb dX10_balances_76 (lv_at hl 9 rfl) ?_
          refine lv_iload hx hb dX10_balances_78 (lv_at hl 0 rfl) ?_
          obtain ⟨z17, hg, hf⟩ := ob_inv hf
          have hJ104 : ∀ (H : Heap) (locs : List Loc) (ls : Array Slot), g_H ZM G s H locs m2 → lv_has ls 10 [(0, .ref (G.2.2.1 0)), (1, .int p1), (2, .int p2), (3, .int p3), (4, .int r1), (5, .int r4), (7, .int x6)] → W p l e (headSpec wsX10_balances rmX10_balances).room s m ([.ref (G.2.2.1 0), .int p1, .int p2, .int p3] : List Value).toArray below meth c H locs 0 0 Q (F0 m 104 ls [.int z17, .int r10, .int x5]) := by
            intro H locs ls hW hl
            refine lv_imul hx hb dX10_balances_104 ?_
            refine lv_iadd hx hb dX10_balances_105 ?_
            obtain ⟨x19, h9, hf⟩ := ob_inv hf
            refine g_nmi (Option.some.inj h9) ?_
            refine lv_istore (lv' := [(6, .int x19), (0, .ref (G.2.2.1 0)), (1, .int p1), (2, .int p2), (3, .int p3), (4, .int r1), (5, .int r4), (7, .int x6)]) hx hb dX10_balances_106 hl (by decide) rfl (fun ls hl => ?_)
            refine lv_iinc (v := (x6 + 1)) (lv' := [(7, .int (x6 + 1)), (6, .int x19), (0, .ref (G.2.2.1 0)), (1, .int p1), (2, .int p2), (3, .int p3), (4, .int r1), (5, .int r4)]) hx hb dX10_balances_108 hl (k := 7) rfl (congrArg (fun z => x6 + z) (by decide)) (by decide) rfl (fun ls hl => ?_)
            refine lv_goto (tgt := 22) hx hb dX10_balances_111 (by decide) ?_
            exact ih _ _ _ _ _ _ _ hf hW (lv_sub hl [2, 3, 4, 5, 6, 7, 1, 0] rfl) hE
          replace hf := hg
          refine lv_if_eq (tgt := 88) hx hb dX10_balances_80 (by decide) (fun c16 => ?_) (fun c16 => ?_)
          · have hf := a_if_t c16 hf
            refine lv_aload_n hx hb dX10_balances_88 rfl (lv_at hl 1 rfl) ?_
            refine g_getr hC hW (o := 0) (ci := 10) (k := 48) zm_k0 zm_b0 rfl hi10 (by decide) rfl (t := 41) zm_r0_48 (by decide +kernel) dX10_balances_89 ?_
            refine lv_bipush (v := 12) hx hb dX10_balances_92 (by decide) ?_
            refine lv_iload_n hx hb dX10_balances_94 rfl (lv_at hl 2 rfl) ?_
            refine lv_imul hx hb dX10_balances_95 ?_
            refine lv_iconst (v := 4) hx hb dX10_balances_96 (by decide) ?_
            refine lv_iload hx hb dX10_balances_97 (lv_at hl 8 rfl) ?_
            refine lv_imul hx hb dX10_balances_99 ?_
            refine lv_iadd hx hb dX10_balances_100 ?_
            refine lv_iload_n hx hb dX10_balances_101 rfl (lv_at hl 4 rfl) ?_
            refine lv_iadd hx hb dX10_balances_102 ?_
            obtain ⟨v18, h9, hf⟩ := ob_inv hf
            refine g_ild hC hW zm_k41 zm_b41 zm_n41 h9 dX10_balances_103 ?_
            cases hf
            exact hJ104 H locs ls hW (lv_sub hl [1, 2, 3, 4, 5, 6, 8] rfl)
          · have hf := a_if_f c16 hf
            refine lv_iload hx hb dX10_balances_83 (lv_at hl 5 rfl) ?_
            refine lv_goto (tgt := 104) hx hb dX10_balances_85 (by decide) ?_
            cases hf
            exact hJ104 H locs ls hW (lv_sub hl [1, 2, 3, 4, 5, 6, 8] rfl)
        replace hf := hg
        refine lv_if_ge (tgt := 57) hx hb dX10_balances_41 (by decide) (fun c11 => ?_) (fun c11 => ?_)
        · have hf := a_if_t c11 hf
          refine lv_iload hx hb dX10_balances_57 (lv_at hl 6 rfl) ?_
          refine lv_if_le (tgt := 71) hx hb dX10_balances_59 (by decide) (fun c13 => ?_) (fun c13 => ?_)
          · have hf := a_if_t c13 hf
            refine lv_iconst (v := 0) hx hb dX10_balances_71 (by decide) ?_
            cases hf
            exact hJ72 H locs ls hW (lv_sub hl [1, 2, 3, 4, 5, 6, 7, 8, 0] rfl)
          · have hf := a_if_f c13 hf
            refine lv_iload hx hb dX10_balances_62 (lv_at hl 0 rfl) ?_
            refine lv_if_le (tgt := 71) hx hb dX10_balances_64 (by decide) (fun c14 => ?_) (fun c14 => ?_)
            · have hf := a_if_t c14 hf
              refine lv_iconst (v := 0) hx hb dX10_balances_71 (by decide) ?_
              cases hf
              exact hJ72 H locs ls hW (lv_sub hl [1, 2, 3, 4, 5, 6, 7, 8, 0] rfl)
            · have hf := a_if_f c14 hf
              refine lv_iconst (v := 1) hx hb dX10_balances_67 (by decide) ?_
              refine lv_goto (tgt := 72) hx hb dX10_balances_68 (by decide) ?_
              cases hf
              exact hJ72 H locs ls hW (lv_sub hl [1, 2, 3, 4, 5, 6, 7, 8, 0] rfl)
        · have hf := a_if_f c11 hf
          refine lv_iload hx hb dX10_balances_44 (lv_at hl 0 rfl) ?_
          refine lv_if_ge (tgt := 53) hx hb dX10_balances_46 (by decide) (fun c15 => ?_) (fun c15 => ?_)
          · have hf := a_if_t c15 hf
            refine lv_iconst (v := 0) hx hb dX10_balances_53 (by decide) ?_
            refine lv_goto (tgt := 72) hx hb dX10_balances_54 (by decide) ?_
            cases hf
            exact hJ72 H locs ls hW (lv_sub hl [1, 2, 3, 4, 5, 6, 7, 8, 0] rfl)
          · have hf := a_if_f c15 hf
            refine lv_iconst (v := 1) hx hb dX10_balances_49 (by decide) ?_
            refine lv_goto (tgt := 72) hx hb dX10_balances_50 (by decide) ?_
            cases hf
            exact hJ72 H locs ls hW (lv_sub hl [1, 2, 3, 4, 5, 6, 7, 8, 0] rfl)
  obtain ⟨⟨y7, y8⟩, hg, hf⟩ := ob_inv hf
  have hf := ob_inv2 hf
  refine hL22 _ _ _ _ _ _ _ _ hg hW (lv_sub hl [4, 5, 6, 7, 3, 2, 1, 0] rfl) (fun H locs ls hW hl => ?_)
  refine lv_bipush (v := 30) hx hb dX10_balances_114 (by decide) ?_
  refine lv_iload_n hx hb dX10_balances_116 rfl (lv_at hl 1 rfl) ?_
  refine lv_imul hx hb dX10_balances_117 ?_
  obtain ⟨x20, h9, hf⟩ := ob_inv hf
  refine g_nmi (Option.some.inj h9) ?_
  refine lv_istore (lv' := [(7, .int x20), (0, .ref (G.2.2.1 0)), (1, .int p1), (2, .int p2), (4, .int r1), (5, .int r4), (6, .int y7)]) hx hb dX10_balances_118 hl (by decide) rfl (fun ls hl => ?_)
  have hL120 : ∀ (n : Nat) (x21 : Int32) (x22 : Int32) (y23 : Int32) (y24 : Int32) (H : Heap) (locs : List Loc) (ls : Array Slot), f_X10_balances_L120 m2 p1 p2 r1 r4 n x21 x22 = some (y23, y24) → g_H ZM G s H locs m2 → lv_has ls 10 [(0, .ref (G.2.2.1 0)), (1, .int p1), (2, .int p2), (4, .int r1), (5, .int r4), (6, .int x21), (7, .int x22)] → (∀ (H : Heap) (locs : List Loc) (ls : Array Slot), g_H ZM G s H locs m2 → lv_has ls 10 [(6, .int y23)] → W p l e (headSpec wsX10_balances rmX10_balances).room s m ([.ref (G.2.2.1 0), .int p1, .int p2, .int p3] : List Value).toArray below meth c H locs 0 0 Q (F0 m 190 ls [])) → W p l e (headSpec wsX10_balances rmX10_balances).room s m ([.ref (G.2.2.1 0), .int p1, .int p2, .int p3] : List Value).toArray below meth c H locs 0 0 Q (F0 m 120 ls []) := by
    intro n
    induction n with
    | zero =>
      intro x21 x22 y23 y24 H locs ls hf hW hl hE
      cases hf
    | succ n ih =>
      intro x21 x22 y23 y24 H locs ls hf hW hl hE
      rw [f_X10_balances_L120] at hf
      refine lv_iload hx hb dX10_balances_120 (lv_at hl 6 rfl) ?_
      refine lv_bipush (v := 30) hx hb dX10_balances_122 (by decide) ?_
      refine lv_iload_n hx hb dX10_balances_124 rfl (lv_at hl 1 rfl) ?_
      refine lv_imul hx hb dX10_balances_125 ?_
      refine lv_aload_n hx hb dX10_balances_126 rfl (lv_at hl 0 rfl) ?_
      refine g_getr hC hW (o := 0) (ci := 10) (k := 41) zm_k0 zm_b0 rfl hi10 (by decide) rfl (t := 34) zm_r0_41 (by decide +kernel) dX10_balances_127 ?_
      refine lv_iload_n hx hb dX10_balances_130 rfl (lv_at hl 1 rfl) ?_
      obtain ⟨v25, h9, hf⟩ := ob_inv hf
      refine g_ild hC hW zm_k34 zm_b34 zm_n34 h9 dX10_balances_131 ?_
      refine lv_iadd hx hb dX10_balances_132 ?_
      refine lv_icmp_ge (tgt := 190) hx hb dX10_balances_133 (by decide) (fun c26 => ?_) (fun c26 => ?_)
      · have hf := a_if_t c26 hf
        cases hf
        exact hE H locs ls hW (lv_sub hl [5] rfl)
      · have hf := a_if_f c26 hf
        refine lv_aload_n hx hb dX10_balances_136 rfl (lv_at hl 0 rfl) ?_
        refine g_getr hC hW (o := 0) (ci := 10) (k := 42) zm_k0 zm_b0 rfl hi10 (by decide) rfl (t := 35) zm_r0_42 (by decide +kernel) dX10_balances_137 ?_
        refine lv_iload hx hb dX10_balances_140 (lv_at hl 6 rfl) ?_
        obtain ⟨v27, h9, hf⟩ := ob_inv hf
        refine g_ild hC hW zm_k35 zm_b35 zm_n35 h9 dX10_balances_142 ?_
        refine lv_iload_n hx hb dX10_balances_143 rfl (lv_at hl 2 rfl) ?_
        obtain ⟨z29, hg, hf⟩ := ob_inv hf
        have hJ158 : ∀ (H : Heap) (locs : List Loc) (ls : Array Slot), g_H ZM G s H locs m2 → lv_has ls 10 [(0, .ref (G.2.2.1 0)), (1, .int p1), (2, .int p2), (4, .int r1), (5, .int r4), (6, .int x21), (7, .int x22)] → W p l e (headSpec wsX10_balances rmX10_balances).room s m ([.ref (G.2.2.1 0), .int p1, .int p2, .int p3] : List Value).toArray below meth c H locs 0 0 Q (F0 m 158 ls [.int z29]) := by
          intro H locs ls hW hl
          refine lv_istore (lv' := [(8, .int z29), (0, .ref (G.2.2.1 0)), (1, .int p1), (2, .int p2), (4, .int r1), (5, .int r4), (6, .int x21), (7, .int x22)]) hx hb dX10_balances_158 hl (by decide) rfl (fun ls hl => ?_)
          refine lv_iload hx hb dX10_balances_160 (lv_at hl 6 rfl) ?_
          refine lv_iload hx hb dX10_balances_162 (lv_at hl 5 rfl) ?_
          obtain ⟨z32, hg, hf⟩ := ob_inv hf
          have hJ181 : ∀ (H : Heap) (locs : List Loc) (ls : Array Slot), g_H ZM G s H locs m2 → lv_has ls 10 [(0, .ref (G.2.2.1 0)), (1, .int p1), (2, .int p2), (4, .int r1), (5, .int r4), (7, .int x22)] → W p l e (headSpec wsX10_balances rmX10_balances).room s m ([.ref (G.2.2.1 0), .int p1, .int p2, .int p3] : List Value).toArray below meth c H locs 0 0 Q (F0 m 181 ls [.int z32, .int x21]) := by
            intro H locs ls hW hl
            refine lv_iadd hx hb dX10_balances_181 ?_
            obtain ⟨x33, h9, hf⟩ := ob_inv hf
            refine g_nmi (Option.some.inj h9) ?_
            refine lv_istore (lv' := [(6, .int x33), (0, .ref (G.2.2.1 0)), (1, .int p1), (2, .int p2), (4, .int r1), (5, .int r4), (7, .int x22)]) hx hb dX10_balances_182 hl (by decide) rfl (fun ls hl => ?_)
            refine lv_iinc (v := (x22 + 1)) (lv' := [(7, .int (x22 + 1)), (6, .int x33), (0, .ref (G.2.2.1 0)), (1, .int p1), (2, .int p2), (4, .int r1), (5, .int r4)]) hx hb dX10_balances_184 hl (k := 6) rfl (congrArg (fun z => x22 + z) (by decide)) (by decide) rfl (fun ls hl => ?_)
            refine lv_goto (tgt := 120) hx hb dX10_balances_187 (by decide) ?_
            exact ih _ _ _ _ _ _ _ hf hW (lv_sub hl [2, 3, 4, 5, 6, 1, 0] rfl) hE
          replace hf := hg
          refine lv_if_ge (tgt := 175) hx hb dX10_balances_164 (by decide) (fun c31 => ?_) (fun c31 => ?_)
          · have hf := a_if_t c31 hf
            refine lv_iload hx hb dX10_balances_175 (lv_at hl 0 rfl) ?_
            refine lv_ineg hx hb dX10_balances_177 ?_
            refine lv_iload hx hb dX10_balances_178 (lv_at hl 4 rfl) ?_
            refine lv_imul hx hb dX10_balances_180 ?_
            cases hf
            exact hJ181 H locs ls hW (lv_sub hl [1, 2, 3, 4, 5, 7] rfl)
          · have hf := a_if_f c31 hf
            refine lv_iload hx hb dX10_balances_167 (lv_at hl 0 rfl) ?_
            refine lv_iload hx hb dX10_balances_169 (lv_at hl 4 rfl) ?_
            refine lv_imul hx hb dX10_balances_171 ?_
            refine lv_goto (tgt := 181) hx hb dX10_balances_172 (by decide) ?_
            cases hf
            exact hJ181 H locs ls hW (lv_sub hl [1, 2, 3, 4, 5, 7] rfl)
        replace hf := hg
        refine lv_icmp_ne (tgt := 157) hx hb dX10_balances_144 (by decide) (fun c28 => ?_) (fun c28 => ?_)
        · have hf := a_if_f c28 hf
          refine lv_iconst (v := 0) hx hb dX10_balances_157 (by decide) ?_
          cases hf
          exact hJ158 H locs ls hW (lv_sub hl [0, 1, 2, 3, 4, 5, 6] rfl)
        · have hf := a_if_t c28 hf
          refine lv_aload_n hx hb dX10_balances_147 rfl (lv_at hl 0 rfl) ?_
          refine g_getr hC hW (o := 0) (ci := 10) (k := 47) zm_k0 zm_b0 rfl hi10 (by decide) rfl (t := 40) zm_r0_47 (by decide +kernel) dX10_balances_148 ?_
          refine lv_iload hx hb dX10_balances_151 (lv_at hl 6 rfl) ?_
          obtain ⟨v30, h9, hf⟩ := ob_inv hf
          refine g_ild hC hW zm_k40 zm_b40 zm_n40 h9 dX10_balances_153 ?_
          refine lv_goto (tgt := 158) hx hb dX10_balances_154 (by decide) ?_
          cases hf
          exact hJ158 H locs ls hW (lv_sub hl [0, 1, 2, 3, 4, 5, 6] rfl)
  obtain ⟨⟨y23, y24⟩, hg, hf⟩ := ob_inv hf
  have hf := ob_inv2 hf
  refine hL120 _ _ _ _ _ _ _ _ hg hW (lv_sub hl [1, 2, 3, 4, 5, 6, 0] rfl) (fun H locs ls hW hl => ?_)
  refine lv_iload hx hb dX10_balances_190 (lv_at hl 0 rfl) ?_
  cases hf
  subst hQ
  exact g_iret hC hW hr hlocks rfl rfl dX10_balances_192
abbrev rmX10_billOf : Room := { frames := 5, cells := 0, slots := 0, locals := 132 }
set_option maxHeartbeats 4000000 in
set_option maxRecDepth 100000 in
theorem c_X10_billOf (l : Launch) (G : gG) {p1 : Int32} {p2 : Int32} {me : gM} {r0 : Int32} {m0 : gM}  (hf : f_X10_billOf p1 p2 me = some (r0, m0)) : Met l yX10_billOf wsX10_billOf rmX10_billOf (va_Pc [.ref (G.2.2.1 0), .int p1, .int p2] (g_W ZM G me)) (g_Qi ZM G r0 m0) 0 0 (g_A ZM G) := by
  refine Met.ofW (cc := cX10_billOf) (maxL := 5) (ret := (some .int)) (by decide) rfl ?_
  intro p e s m args below meth c s₁ B hml hv
  obtain ⟨rfl, hW0⟩ := hv
  have hC : CallFix p m c cX10_billOf 5 s ([.ref (G.2.2.1 0), .int p1, .int p2] : List Value).toArray wsX10_billOf RX10 := ⟨B.exec, B.bytes, hml, findClass_of_methodNamed B.named, atoms_spec (ws := wsX10_billOf) B.pre⟩
  have hx := hC.1
  have hb := hC.2.1
  have hown := hC.2.2.2.1
  have hts := hC.2.2.2.2
  have hr := B.returns
  have hlocks := B.notSynchronized
  have hW := g_H_enter hW0
  have hi10 : ∀ w ∈ wsX100, w ∈ wsX10_billOf := by decide +kernel
  have hl := lv_entry ([.ref (G.2.2.1 0), .int p1, .int p2]) (n := 5) (Nat.le_of_ble_eq_true rfl)
  rw [lg_entry_eq]
  generalize (lg_sl ([.ref (G.2.2.1 0), .int p1, .int p2]) ++ List.replicate (5 - (lg_sl ([.ref (G.2.2.1 0), .int p1, .int p2])).length) Slot.unset).toArray = ls at hl ⊢
  have hl : lv_has ls 5 [(0, .ref (G.2.2.1 0)), (1, .int p1), (2, .int p2)] := hl
  obtain ⟨Q, hQ⟩ : ∃ Q, Q = MQ below (g_Qi ZM G r0 m0) ([.ref (G.2.2.1 0), .int p1, .int p2] : List Value).toArray s 0 0 (g_A ZM G) := ⟨_, rfl⟩
  refine g_goQ hQ ?_
  unfold f_X10_billOf at hf
  refine g_start hW (fun H locs hW => ?_)
  refine lv_aload_n hx hb dX10_billOf_0 rfl (lv_at hl 0 rfl) ?_
  refine g_getr hC hW (o := 0) (ci := 10) (k := 52) zm_k0 zm_b0 rfl hi10 (by decide) rfl (t := 45) zm_r0_52 (by decide +kernel) dX10_billOf_1 ?_
  refine lv_bipush (v := 6) hx hb dX10_billOf_4 (by decide) ?_
  refine lv_iload_n hx hb dX10_billOf_6 rfl (lv_at hl 1 rfl) ?_
  refine lv_imul hx hb dX10_billOf_7 ?_
  refine lv_iload_n hx hb dX10_billOf_8 rfl (lv_at hl 2 rfl) ?_
  refine lv_iadd hx hb dX10_billOf_9 ?_
  obtain ⟨v1, h9, hf⟩ := ob_inv hf
  refine g_ild hC hW zm_k45 zm_b45 zm_n45 h9 dX10_billOf_10 ?_
  refine lv_istore_n (lv' := [(3, .int v1), (0, .ref (G.2.2.1 0)), (1, .int p1), (2, .int p2)]) hx hb dX10_billOf_11 rfl hl (by decide) rfl (fun ls hl => ?_)
  refine lv_iconst (v := 0) hx hb dX10_billOf_12 (by decide) ?_
  refine lv_istore (lv' := [(4, .int 0), (3, .int v1), (0, .ref (G.2.2.1 0)), (1, .int p1), (2, .int p2)]) hx hb dX10_billOf_13 hl (by decide) rfl (fun ls hl => ?_)
  have hL15 : ∀ (n : Nat) (x2 : Int32) (x3 : Int32) (m4 : gM) (y5 : Int32) (y6 : Int32) (m7 : gM) (H : Heap) (locs : List Loc) (ls : Array Slot), f_X10_billOf_L15 p1 p2 n x2 x3 m4 = some (y5, y6, m7) → g_H ZM G s H locs m4 → lv_has ls 5 [(0, .ref (G.2.2.1 0)), (1, .int p1), (2, .int p2), (3, .int x2), (4, .int x3)] → (∀ (H : Heap) (locs : List Loc) (ls : Array Slot), g_H ZM G s H locs m7 → lv_has ls 5 [(3, .int y5)] → W p l e (headSpec wsX10_billOf rmX10_billOf).room s m ([.ref (G.2.2.1 0), .int p1, .int p2] : List Value).toArray below meth c H locs 0 0 Q (F0 m 38 ls [])) → W p l e (headSpec wsX10_billOf rmX10_billOf).room s m ([.ref (G.2.2.1 0), .int p1, .int p2] : List Value).toArray below meth c H locs 0 0 Q (F0 m 15 ls []) := by
    intro n
    induction n with
    | zero =>
      intro x2 x3 m4 y5 y6 m7 H locs ls hf hW hl hE
      cases hf
    | succ n ih =>
      intro x2 x3 m4 y5 y6 m7 H locs ls hf hW hl hE
      rw [f_X10_billOf_L15] at hf
      refine lv_iload hx hb dX10_billOf_15 (lv_at hl 4 rfl) ?_
      refine lv_iconst (v := 4) hx hb dX10_billOf_17 (by decide) ?_
      refine lv_icmp_ge (tgt := 38) hx hb dX10_billOf_18 (by decide) (fun c8 => ?_) (fun c8 => ?_)
      · have hf := a_if_t c8 hf
        cases hf
        exact hE H locs ls hW (lv_sub hl [3] rfl)
      · have hf := a_if_f c8 hf
        refine lv_iload_n hx hb dX10_billOf_21 rfl (lv_at hl 3 rfl) ?_
        refine lv_aload_n hx hb dX10_billOf_22 rfl (lv_at hl 0 rfl) ?_
        refine lv_iload_n hx hb dX10_billOf_23 rfl (lv_at hl 1 rfl) ?_
        refine lv_iload_n hx hb dX10_billOf_24 rfl (lv_at hl 2 rfl) ?_
        refine lv_iload hx hb dX10_billOf_25 (lv_at hl 4 rfl) ?_
        obtain ⟨⟨r9, m10⟩, hg, hf⟩ := ob_inv hf
        have hf := ob_inv2 hf
        refine g_cVi hC hW (o := 0) (ci := 10) (As := [.int p1, .int p2, .int x3]) (rest := [.int x2]) zm_k0 zm_b0 rfl (c_X10_balances l G  hg) (cwV 3 hts gX10_billOf_X10_balances rfl rfl rfl (by decide +kernel) ⟨Nat.le_of_ble_eq_true rfl, Nat.le_of_ble_eq_true rfl⟩) rfl hl.1 rfl (Nat.le_of_ble_eq_true rfl) dX10_billOf_27 ⟨Nat.le_of_ble_eq_true rfl, Nat.le_of_ble_eq_true rfl⟩ (fun H locs hW => ?_)
        refine lv_iadd hx hb dX10_billOf_30 ?_
        obtain ⟨x12, h9, hf⟩ := ob_inv hf
        refine g_nmi (Option.some.inj h9) ?_
        refine lv_istore_n (lv' := [(3, .int x12), (0, .ref (G.2.2.1 0)), (1, .int p1), (2, .int p2), (4, .int x3)]) hx hb dX10_billOf_31 rfl hl (by decide) rfl (fun ls hl => ?_)
        refine lv_iinc (v := (x3 + 1)) (lv' := [(4, .int (x3 + 1)), (3, .int x12), (0, .ref (G.2.2.1 0)), (1, .int p1), (2, .int p2)]) hx hb dX10_billOf_32 hl (k := 4) rfl (congrArg (fun z => x3 + z) (by decide)) (by decide) rfl (fun ls hl => ?_)
        refine lv_goto (tgt := 15) hx hb dX10_billOf_35 (by decide) ?_
        exact ih _ _ _ _ _ _ _ _ _ hf hW (lv_sub hl [2, 3, 4, 1, 0] rfl) hE
  obtain ⟨⟨y5, y6, m7⟩, hg, hf⟩ := ob_inv hf
  have hf := ob_inv3 hf
  refine hL15 _ _ _ _ _ _ _ _ _ _ hg hW (lv_sub hl [2, 3, 4, 1, 0] rfl) (fun H locs ls hW hl => ?_)
  refine lv_iload_n hx hb dX10_billOf_38 rfl (lv_at hl 0 rfl) ?_
  cases hf
  subst hQ
  exact g_iret hC hW hr hlocks rfl rfl dX10_billOf_39
abbrev rmX10_lowestBelow : Room := { frames := 0, cells := 0, slots := 0, locals := 0 }
set_option maxHeartbeats 4000000 in
set_option maxRecDepth 100000 in
theorem c_X10_lowestBelow (l : Launch) (G : gG)  {me : gM} {r0 : Int32}  (hf : f_X10_lowestBelow me = some r0) : Met l yX10_lowestBelow wsX10_lowestBelow rmX10_lowestBelow (va_Pc [.ref (G.2.2.1 0)] (g_W ZM G me)) (g_Qi ZM G r0 me) 0 0 (g_A ZM G) := by
  refine Met.ofW (cc := cX10_lowestBelow) (maxL := 2) (ret := (some .int)) (by decide) rfl ?_
  intro p e s m args below meth c s₁ B hml hv
  obtain ⟨rfl, hW0⟩ := hv
  have hC : CallFix p m c cX10_lowestBelow 2 s ([.ref (G.2.2.1 0)] : List Value).toArray wsX10_lowestBelow RX10 := ⟨B.exec, B.bytes, hml, findClass_of_methodNamed B.named, atoms_spec (ws := wsX10_lowestBelow) B.pre⟩
  have hx := hC.1
  have hb := hC.2.1
  have hown := hC.2.2.2.1
  have hts := hC.2.2.2.2
  have hr := B.returns
  have hlocks := B.notSynchronized
  have hW := g_H_enter hW0
  have hi10 : ∀ w ∈ wsX100, w ∈ wsX10_lowestBelow := by decide +kernel
  have hl := lv_entry ([.ref (G.2.2.1 0)]) (n := 2) (Nat.le_of_ble_eq_true rfl)
  rw [lg_entry_eq]
  generalize (lg_sl ([.ref (G.2.2.1 0)]) ++ List.replicate (2 - (lg_sl ([.ref (G.2.2.1 0)])).length) Slot.unset).toArray = ls at hl ⊢
  have hl : lv_has ls 2 [(0, .ref (G.2.2.1 0))] := hl
  obtain ⟨Q, hQ⟩ : ∃ Q, Q = MQ below (g_Qi ZM G r0 me) ([.ref (G.2.2.1 0)] : List Value).toArray s 0 0 (g_A ZM G) := ⟨_, rfl⟩
  refine g_goQ hQ ?_
  unfold f_X10_lowestBelow at hf
  refine g_start hW (fun H locs hW => ?_)
  refine lv_iconst (v := 0) hx hb dX10_lowestBelow_0 (by decide) ?_
  refine lv_istore_n (lv' := [(1, .int 0), (0, .ref (G.2.2.1 0))]) hx hb dX10_lowestBelow_1 rfl hl (by decide) rfl (fun ls hl => ?_)
  have hL2 : ∀ (n : Nat) (x1 : Int32) (v9 : (Int32) ⊕ (Int32)) (H : Heap) (locs : List Loc) (ls : Array Slot), f_X10_lowestBelow_L2 me n x1 = some v9 → g_H ZM G s H locs me → lv_has ls 2 [(0, .ref (G.2.2.1 0)), (1, .int x1)] → (∀ (y2 : Int32), v9 = .inl y2 → (∀ (H : Heap) (locs : List Loc) (ls : Array Slot), g_H ZM G s H locs me → lv_has ls 2 [] → W p l e (headSpec wsX10_lowestBelow rmX10_lowestBelow).room s m ([.ref (G.2.2.1 0)] : List Value).toArray below meth c H locs 0 0 Q (F0 m 34 ls []))) → (∀ w9, v9 = .inr w9 → w9 = r0) → W p l e (headSpec wsX10_lowestBelow rmX10_lowestBelow).room s m ([.ref (G.2.2.1 0)] : List Value).toArray below meth c H locs 0 0 Q (F0 m 2 ls []) := by
    intro n
    induction n with
    | zero =>
      intro x1 v9 H locs ls hf hW hl hE hX
      cases hf
    | succ n ih =>
      intro x1 v9 H locs ls hf hW hl hE hX
      rw [f_X10_lowestBelow_L2] at hf
      refine lv_iload_n hx hb dX10_lowestBelow_2 rfl (lv_at hl 1 rfl) ?_
      refine lv_bipush (v := 6) hx hb dX10_lowestBelow_3 (by decide) ?_
      refine lv_icmp_ge (tgt := 34) hx hb dX10_lowestBelow_5 (by decide) (fun c3 => ?_) (fun c3 => ?_)
      · have hf := a_if_t c3 hf
        exact hE _ (Option.some.inj hf).symm H locs ls hW (lv_sub hl [] rfl)
      · have hf := a_if_f c3 hf
        refine lv_aload_n hx hb dX10_lowestBelow_8 rfl (lv_at hl 0 rfl) ?_
        refine g_getr hC hW (o := 0) (ci := 10) (k := 5) zm_k0 zm_b0 rfl hi10 (by decide) rfl (t := 4) zm_r0_5 (by decide +kernel) dX10_lowestBelow_9 ?_
        refine lv_iload_n hx hb dX10_lowestBelow_12 rfl (lv_at hl 1 rfl) ?_
        obtain ⟨v4, h9, hf⟩ := ob_inv hf
        refine g_ild hC hW zm_k4 zm_b4 zm_n4 h9 dX10_lowestBelow_13 ?_
        refine lv_if_ne (tgt := 28) hx hb dX10_lowestBelow_14 (by decide) (fun c5 => ?_) (fun c5 => ?_)
        · have hf := a_if_f c5 hf
          refine lv_iinc (v := (x1 + 1)) (lv' := [(1, .int (x1 + 1)), (0, .ref (G.2.2.1 0))]) hx hb dX10_lowestBelow_28 hl (k := 1) rfl (congrArg (fun z => x1 + z) (by decide)) (by decide) rfl (fun ls hl => ?_)
          refine lv_goto (tgt := 2) hx hb dX10_lowestBelow_31 (by decide) ?_
          exact ih _ _ _ _ _ hf hW (lv_sub hl [1, 0] rfl) hE hX
        · have hf := a_if_t c5 hf
          refine lv_aload_n hx hb dX10_lowestBelow_17 rfl (lv_at hl 0 rfl) ?_
          refine g_getr hC hW (o := 0) (ci := 10) (k := 3) zm_k0 zm_b0 rfl hi10 (by decide) rfl (t := 2) zm_r0_3 (by decide +kernel) dX10_lowestBelow_18 ?_
          refine lv_iload_n hx hb dX10_lowestBelow_21 rfl (lv_at hl 1 rfl) ?_
          obtain ⟨v6, h9, hf⟩ := ob_inv hf
          refine g_ild hC hW zm_k2 zm_b2 zm_n2 h9 dX10_lowestBelow_22 ?_
          refine lv_if_ge (tgt := 28) hx hb dX10_lowestBelow_23 (by decide) (fun c7 => ?_) (fun c7 => ?_)
          · have hf := a_if_t c7 hf
            refine lv_iinc (v := (x1 + 1)) (lv' := [(1, .int (x1 + 1)), (0, .ref (G.2.2.1 0))]) hx hb dX10_lowestBelow_28 hl (k := 1) rfl (congrArg (fun z => x1 + z) (by decide)) (by decide) rfl (fun ls hl => ?_)
            refine lv_goto (tgt := 2) hx hb dX10_lowestBelow_31 (by decide) ?_
            exact ih _ _ _ _ _ hf hW (lv_sub hl [1, 0] rfl) hE hX
          · have hf := a_if_f c7 hf
            refine lv_iload_n hx hb dX10_lowestBelow_26 rfl (lv_at hl 1 rfl) ?_
            have hq := hX _ (Option.some.inj hf).symm
            cases hq
            subst hQ
            exact g_iret hC hW hr hlocks rfl rfl dX10_lowestBelow_27
  obtain ⟨v9, hg, hfl, hfr⟩ := oz_inv hf
  refine hL2 _ _ v9 _ _ _ hg hW (lv_sub hl [1, 0] rfl) (fun y2 hv9 H locs ls hW hl => ?_) (fun w9 hw9 => Option.some.inj (hfr w9 hw9))
  have hf := hfl _ hv9
  refine lv_iconst (v := (-1)) hx hb dX10_lowestBelow_34 (by decide) ?_
  cases hf
  subst hQ
  exact g_iret hC hW hr hlocks rfl rfl dX10_lowestBelow_35
abbrev rmX10_fails : Room := { frames := 0, cells := 0, slots := 0, locals := 0 }
set_option maxHeartbeats 4000000 in
set_option maxRecDepth 100000 in
theorem c_X10_fails (l : Launch) (G : gG) {p1 : Int32} {me : gM} {m0 : gM}  (hf : f_X10_fails p1 me = some m0) : Met l yX10_fails wsX10_fails rmX10_fails (va_Pc [.ref (G.2.2.1 0), .int p1] (g_W ZM G me)) (g_Qv ZM G m0) 0 0 (g_A ZM G) := by
  refine Met.ofW (cc := cX10_fails) (maxL := 10) (ret := none) (by decide) rfl ?_
  intro p e s m args below meth c s₁ B hml hv
  obtain ⟨rfl, hW0⟩ := hv
  have hC : CallFix p m c cX10_fails 10 s ([.ref (G.2.2.1 0), .int p1] : List Value).toArray wsX10_fails RX10 := ⟨B.exec, B.bytes, hml, findClass_of_methodNamed B.named, atoms_spec (ws := wsX10_fails) B.pre⟩
  have hx := hC.1
  have hb := hC.2.1
  have hown := hC.2.2.2.1
  have hts := hC.2.2.2.2
  have hr := B.returns
  have hlocks := B.notSynchronized
  have hW := g_H_enter hW0
  have hi10 : ∀ w ∈ wsX100, w ∈ wsX10_fails := by decide +kernel
  have hl := lv_entry ([.ref (G.2.2.1 0), .int p1]) (n := 10) (Nat.le_of_ble_eq_true rfl)
  rw [lg_entry_eq]
  generalize (lg_sl ([.ref (G.2.2.1 0), .int p1]) ++ List.replicate (10 - (lg_sl ([.ref (G.2.2.1 0), .int p1])).length) Slot.unset).toArray = ls at hl ⊢
  have hl : lv_has ls 10 [(0, .ref (G.2.2.1 0)), (1, .int p1)] := hl
  obtain ⟨Q, hQ⟩ : ∃ Q, Q = MQ below (g_Qv ZM G m0) ([.ref (G.2.2.1 0), .int p1] : List Value).toArray s 0 0 (g_A ZM G) := ⟨_, rfl⟩
  refine g_goQ hQ ?_
  unfold f_X10_fails at hf
  refine g_start hW (fun H locs hW => ?_)
  refine lv_aload_n hx hb dX10_fails_0 rfl (lv_at hl 0 rfl) ?_
  refine g_getr hC hW (o := 0) (ci := 10) (k := 3) zm_k0 zm_b0 rfl hi10 (by decide) rfl (t := 2) zm_r0_3 (by decide +kernel) dX10_fails_1 ?_
  refine lv_iload_n hx hb dX10_fails_4 rfl (lv_at hl 1 rfl) ?_
  obtain ⟨v1, h9, hf⟩ := ob_inv hf
  refine g_ild hC hW zm_k2 zm_b2 zm_n2 h9 dX10_fails_5 ?_
  refine lv_ineg hx hb dX10_fails_6 ?_
  refine lv_i2l (v := ((-v1)).toInt64) hx hb dX10_fails_7 rfl ?_
  obtain ⟨x2, h9, hf⟩ := ob_inv hf
  refine g_nml (Option.some.inj h9) ?_
  refine lv_lstore_n (lv' := [(2, .long x2), (0, .ref (G.2.2.1 0)), (1, .int p1)]) hx hb dX10_fails_8 rfl hl (by decide) rfl (fun ls hl => ?_)
  refine lv_lconst (v := 0) hx hb dX10_fails_9 (by decide) ?_
  refine lv_lstore (lv' := [(4, .long 0), (2, .long x2), (0, .ref (G.2.2.1 0)), (1, .int p1)]) hx hb dX10_fails_10 hl (by decide) rfl (fun ls hl => ?_)
  refine lv_aload_n hx hb dX10_fails_12 rfl (lv_at hl 2 rfl) ?_
  refine g_getr hC hW (o := 0) (ci := 10) (k := 5) zm_k0 zm_b0 rfl hi10 (by decide) rfl (t := 4) zm_r0_5 (by decide +kernel) dX10_fails_13 ?_
  refine lv_iload_n hx hb dX10_fails_16 rfl (lv_at hl 3 rfl) ?_
  refine lv_iconst (v := 1) hx hb dX10_fails_17 (by decide) ?_
  obtain ⟨m3, h9, hf⟩ := ob_inv hf
  refine g_ist hC hW zm_k4 zm_b4 zm_n4 h9 dX10_fails_18 (fun H locs hW => ?_)
  refine lv_aload_n hx hb dX10_fails_19 rfl (lv_at hl 2 rfl) ?_
  refine g_getr hC hW (o := 0) (ci := 10) (k := 3) zm_k0 zm_b0 rfl hi10 (by decide) rfl (t := 2) zm_r0_3 (by decide +kernel) dX10_fails_20 ?_
  refine lv_iload_n hx hb dX10_fails_23 rfl (lv_at hl 3 rfl) ?_
  refine lv_iconst (v := 0) hx hb dX10_fails_24 (by decide) ?_
  obtain ⟨m4, h9, hf⟩ := ob_inv hf
  refine g_ist hC hW zm_k2 zm_b2 zm_n2 h9 dX10_fails_25 (fun H locs hW => ?_)
  refine lv_iconst (v := 0) hx hb dX10_fails_26 (by decide) ?_
  refine lv_istore (lv' := [(6, .int 0), (4, .long 0), (2, .long x2), (0, .ref (G.2.2.1 0)), (1, .int p1)]) hx hb dX10_fails_27 hl (by decide) rfl (fun ls hl => ?_)
  have hL29 : ∀ (n : Nat) (x5 : Int64) (x6 : Int32) (y7 : Int64) (y8 : Int32) (H : Heap) (locs : List Loc) (ls : Array Slot), f_X10_fails_L29 m4 n x5 x6 = some (y7, y8) → g_H ZM G s H locs m4 → lv_has ls 10 [(0, .ref (G.2.2.1 0)), (2, .long x2), (4, .long x5), (6, .int x6)] → (∀ (H : Heap) (locs : List Loc) (ls : Array Slot), g_H ZM G s H locs m4 → lv_has ls 10 [(0, .ref (G.2.2.1 0)), (2, .long x2), (4, .long y7)] → W p l e (headSpec wsX10_fails rmX10_fails).room s m ([.ref (G.2.2.1 0), .int p1] : List Value).toArray below meth c H locs 0 0 Q (F0 m 69 ls [])) → W p l e (headSpec wsX10_fails rmX10_fails).room s m ([.ref (G.2.2.1 0), .int p1] : List Value).toArray below meth c H locs 0 0 Q (F0 m 29 ls []) := by
    intro n
    induction n with
    | zero =>
      intro x5 x6 y7 y8 H locs ls hf hW hl hE
      cases hf
    | succ n ih =>
      intro x5 x6 y7 y8 H locs ls hf hW hl hE
      rw [f_X10_fails_L29] at hf
      refine lv_iload hx hb dX10_fails_29 (lv_at hl 3 rfl) ?_
      refine lv_bipush (v := 6) hx hb dX10_fails_31 (by decide) ?_
      refine lv_icmp_ge (tgt := 69) hx hb dX10_fails_33 (by decide) (fun c9 => ?_) (fun c9 => ?_)
      · have hf := a_if_t c9 hf
        cases hf
        exact hE H locs ls hW (lv_sub hl [0, 1, 2] rfl)
      · have hf := a_if_f c9 hf
        refine lv_lload hx hb dX10_fails_36 (lv_at hl 2 rfl) ?_
        refine lv_aload_n hx hb dX10_fails_38 rfl (lv_at hl 0 rfl) ?_
        refine g_getr hC hW (o := 0) (ci := 10) (k := 5) zm_k0 zm_b0 rfl hi10 (by decide) rfl (t := 4) zm_r0_5 (by decide +kernel) dX10_fails_39 ?_
        refine lv_iload hx hb dX10_fails_42 (lv_at hl 3 rfl) ?_
        obtain ⟨v10, h9, hf⟩ := ob_inv hf
        refine g_ild hC hW zm_k4 zm_b4 zm_n4 h9 dX10_fails_44 ?_
        obtain ⟨z12, hg, hf⟩ := ob_inv hf
        have hJ60 : ∀ (H : Heap) (locs : List Loc) (ls : Array Slot), g_H ZM G s H locs m4 → lv_has ls 10 [(0, .ref (G.2.2.1 0)), (2, .long x2), (6, .int x6)] → W p l e (headSpec wsX10_fails rmX10_fails).room s m ([.ref (G.2.2.1 0), .int p1] : List Value).toArray below meth c H locs 0 0 Q (F0 m 60 ls [.long z12, .long x5]) := by
          intro H locs ls hW hl
          refine lv_ladd hx hb dX10_fails_60 ?_
          obtain ⟨x14, h9, hf⟩ := ob_inv hf
          refine g_nml (Option.some.inj h9) ?_
          refine lv_lstore (lv' := [(4, .long x14), (0, .ref (G.2.2.1 0)), (2, .long x2), (6, .int x6)]) hx hb dX10_fails_61 hl (by decide) rfl (fun ls hl => ?_)
          refine lv_iinc (v := (x6 + 1)) (lv' := [(6, .int (x6 + 1)), (4, .long x14), (0, .ref (G.2.2.1 0)), (2, .long x2)]) hx hb dX10_fails_63 hl (k := 3) rfl (congrArg (fun z => x6 + z) (by decide)) (by decide) rfl (fun ls hl => ?_)
          refine lv_goto (tgt := 29) hx hb dX10_fails_66 (by decide) ?_
          exact ih _ _ _ _ _ _ _ hf hW (lv_sub hl [2, 3, 1, 0] rfl) hE
        replace hf := hg
        refine lv_if_ne (tgt := 59) hx hb dX10_fails_45 (by decide) (fun c11 => ?_) (fun c11 => ?_)
        · have hf := a_if_f c11 hf
          refine lv_lconst (v := 0) hx hb dX10_fails_59 (by decide) ?_
          cases hf
          exact hJ60 H locs ls hW (lv_sub hl [0, 1, 3] rfl)
        · have hf := a_if_t c11 hf
          refine lv_aload_n hx hb dX10_fails_48 rfl (lv_at hl 0 rfl) ?_
          refine g_getr hC hW (o := 0) (ci := 10) (k := 4) zm_k0 zm_b0 rfl hi10 (by decide) rfl (t := 3) zm_r0_4 (by decide +kernel) dX10_fails_49 ?_
          refine lv_iload hx hb dX10_fails_52 (lv_at hl 3 rfl) ?_
          obtain ⟨v13, h9, hf⟩ := ob_inv hf
          refine g_ild hC hW zm_k3 zm_b3 zm_n3 h9 dX10_fails_54 ?_
          refine lv_i2l (v := (v13).toInt64) hx hb dX10_fails_55 rfl ?_
          refine lv_goto (tgt := 60) hx hb dX10_fails_56 (by decide) ?_
          cases hf
          exact hJ60 H locs ls hW (lv_sub hl [0, 1, 3] rfl)
  obtain ⟨⟨y7, y8⟩, hg, hf⟩ := ob_inv hf
  have hf := ob_inv2 hf
  refine hL29 _ _ _ _ _ _ _ _ hg hW (lv_sub hl [3, 2, 1, 0] rfl) (fun H locs ls hW hl => ?_)
  refine lv_lload_n hx hb dX10_fails_69 rfl (lv_at hl 1 rfl) ?_
  refine lv_lstore (lv' := [(6, .long x2), (0, .ref (G.2.2.1 0)), (2, .long x2), (4, .long y7)]) hx hb dX10_fails_70 hl (by decide) rfl (fun ls hl => ?_)
  refine lv_iconst (v := 0) hx hb dX10_fails_72 (by decide) ?_
  refine lv_istore (lv' := [(8, .int 0), (6, .long x2), (0, .ref (G.2.2.1 0)), (2, .long x2), (4, .long y7)]) hx hb dX10_fails_73 hl (by decide) rfl (fun ls hl => ?_)
  have hL75 : ∀ (n : Nat) (x15 : Int64) (x16 : Int32) (m17 : gM) (y18 : Int64) (y19 : Int32) (m20 : gM) (H : Heap) (locs : List Loc) (ls : Array Slot), f_X10_fails_L75 x2 y7 n x15 x16 m17 = some (y18, y19, m20) → g_H ZM G s H locs m17 → lv_has ls 10 [(0, .ref (G.2.2.1 0)), (2, .long x2), (4, .long y7), (6, .long x15), (8, .int x16)] → (∀ (H : Heap) (locs : List Loc) (ls : Array Slot), g_H ZM G s H locs m20 → lv_has ls 10 [(0, .ref (G.2.2.1 0)), (6, .long y18)] → W p l e (headSpec wsX10_fails rmX10_fails).room s m ([.ref (G.2.2.1 0), .int p1] : List Value).toArray below meth c H locs 0 0 Q (F0 m 145 ls [])) → W p l e (headSpec wsX10_fails rmX10_fails).room s m ([.ref (G.2.2.1 0), .int p1] : List Value).toArray below meth c H locs 0 0 Q (F0 m 75 ls []) := by
    intro n
    induction n with
    | zero =>
      intro x15 x16 m17 y18 y19 m20 H locs ls hf hW hl hE
      cases hf
    | succ n ih =>
      intro x15 x16 m17 y18 y19 m20 H locs ls hf hW hl hE
      rw [f_X10_fails_L75] at hf
      refine lv_iload hx hb dX10_fails_75 (lv_at hl 4 rfl) ?_
      refine lv_bipush (v := 6) hx hb dX10_fails_77 (by decide) ?_
      refine lv_icmp_ge (tgt := 145) hx hb dX10_fails_79 (by decide) (fun c21 => ?_) (fun c21 => ?_)
      · have hf := a_if_t c21 hf
        cases hf
        exact hE H locs ls hW (lv_sub hl [0, 3] rfl)
      · have hf := a_if_f c21 hf
        refine lv_aload_n hx hb dX10_fails_82 rfl (lv_at hl 0 rfl) ?_
        refine g_getr hC hW (o := 0) (ci := 10) (k := 5) zm_k0 zm_b0 rfl hi10 (by decide) rfl (t := 4) zm_r0_5 (by decide +kernel) dX10_fails_83 ?_
        refine lv_iload hx hb dX10_fails_86 (lv_at hl 4 rfl) ?_
        obtain ⟨v22, h9, hf⟩ := ob_inv hf
        refine g_ild hC hW zm_k4 zm_b4 zm_n4 h9 dX10_fails_88 ?_
        obtain ⟨z24, hg, hf⟩ := ob_inv hf
        have hJ117 : ∀ (H : Heap) (locs : List Loc) (ls : Array Slot), g_H ZM G s H locs m17 → lv_has ls 10 [(0, .ref (G.2.2.1 0)), (2, .long x2), (4, .long y7), (6, .long x15), (8, .int x16)] → W p l e (headSpec wsX10_fails rmX10_fails).room s m ([.ref (G.2.2.1 0), .int p1] : List Value).toArray below meth c H locs 0 0 Q (F0 m 117 ls [.int z24]) := by
          intro H locs ls hW hl
          refine lv_istore (lv' := [(9, .int z24), (0, .ref (G.2.2.1 0)), (2, .long x2), (4, .long y7), (6, .long x15), (8, .int x16)]) hx hb dX10_fails_117 hl (by decide) rfl (fun ls hl => ?_)
          refine lv_aload_n hx hb dX10_fails_119 rfl (lv_at hl 1 rfl) ?_
          refine g_getr hC hW (o := 0) (ci := 10) (k := 3) zm_k0 zm_b0 rfl hi10 (by decide) rfl (t := 2) zm_r0_3 (by decide +kernel) dX10_fails_120 ?_
          refine lv_iload hx hb dX10_fails_123 (lv_at hl 5 rfl) ?_
          refine lv_dup2_11 hx hb dX10_fails_125 rfl rfl ?_
          obtain ⟨v28, h9, hf⟩ := ob_inv hf
          refine g_ild hC hW zm_k2 zm_b2 zm_n2 h9 dX10_fails_126 ?_
          refine lv_iload hx hb dX10_fails_127 (lv_at hl 0 rfl) ?_
          refine lv_isub hx hb dX10_fails_129 ?_
          obtain ⟨m29, h9, hf⟩ := ob_inv hf
          refine g_ist hC hW zm_k2 zm_b2 zm_n2 h9 dX10_fails_130 (fun H locs hW => ?_)
          refine lv_lload hx hb dX10_fails_131 (lv_at hl 4 rfl) ?_
          refine lv_iload hx hb dX10_fails_133 (lv_at hl 0 rfl) ?_
          refine lv_i2l (v := (z24).toInt64) hx hb dX10_fails_135 rfl ?_
          refine lv_lsub hx hb dX10_fails_136 ?_
          obtain ⟨x30, h9, hf⟩ := ob_inv hf
          refine g_nml (Option.some.inj h9) ?_
          refine lv_lstore (lv' := [(6, .long x30), (9, .int z24), (0, .ref (G.2.2.1 0)), (2, .long x2), (4, .long y7), (8, .int x16)]) hx hb dX10_fails_137 hl (by decide) rfl (fun ls hl => ?_)
          refine lv_iinc (v := (x16 + 1)) (lv' := [(8, .int (x16 + 1)), (6, .long x30), (9, .int z24), (0, .ref (G.2.2.1 0)), (2, .long x2), (4, .long y7)]) hx hb dX10_fails_139 hl (k := 5) rfl (congrArg (fun z => x16 + z) (by decide)) (by decide) rfl (fun ls hl => ?_)
          refine lv_goto (tgt := 75) hx hb dX10_fails_142 (by decide) ?_
          exact ih _ _ _ _ _ _ _ _ _ hf hW (lv_sub hl [3, 4, 5, 1, 0] rfl) hE
        replace hf := hg
        refine lv_if_ne (tgt := 116) hx hb dX10_fails_89 (by decide) (fun c23 => ?_) (fun c23 => ?_)
        · have hf := a_if_f c23 hf
          refine lv_iconst (v := 0) hx hb dX10_fails_116 (by decide) ?_
          cases hf
          exact hJ117 H locs ls hW (lv_sub hl [0, 1, 2, 3, 4] rfl)
        · have hf := a_if_t c23 hf
          refine lv_lload hx hb dX10_fails_92 (lv_at hl 2 rfl) ?_
          refine lv_lconst (v := 0) hx hb dX10_fails_94 (by decide) ?_
          refine W.lcmp hx hb dX10_fails_95 ?_
          refine lv_if_le (tgt := 116) hx hb dX10_fails_96 (by decide) (fun c25 => ?_) (fun c25 => ?_)
          · have hf := a_if_t c25 hf
            refine lv_iconst (v := 0) hx hb dX10_fails_116 (by decide) ?_
            cases hf
            exact hJ117 H locs ls hW (lv_sub hl [0, 1, 2, 3, 4] rfl)
          · have hf := a_if_f c25 hf
            refine lv_lload_n hx hb dX10_fails_99 rfl (lv_at hl 1 rfl) ?_
            refine lv_aload_n hx hb dX10_fails_100 rfl (lv_at hl 0 rfl) ?_
            refine g_getr hC hW (o := 0) (ci := 10) (k := 4) zm_k0 zm_b0 rfl hi10 (by decide) rfl (t := 3) zm_r0_4 (by decide +kernel) dX10_fails_101 ?_
            refine lv_iload hx hb dX10_fails_104 (lv_at hl 4 rfl) ?_
            obtain ⟨v26, h9, hf⟩ := ob_inv hf
            refine g_ild hC hW zm_k3 zm_b3 zm_n3 h9 dX10_fails_106 ?_
            refine lv_i2l (v := (v26).toInt64) hx hb dX10_fails_107 rfl ?_
            refine lv_lmul hx hb dX10_fails_108 ?_
            refine lv_lload hx hb dX10_fails_109 (lv_at hl 2 rfl) ?_
            obtain ⟨q27, h9, hf⟩ := ob_inv hf
            refine lv_ldiv hx hb dX10_fails_111 (a_dv_inv h9).1 ?_
            refine g_nml (a_dv_inv h9).2 ?_
            refine lv_l2i (v := (q27).toInt32) hx hb dX10_fails_112 rfl ?_
            refine lv_goto (tgt := 117) hx hb dX10_fails_113 (by decide) ?_
            cases hf
            exact hJ117 H locs ls hW (lv_sub hl [0, 1, 2, 3, 4] rfl)
  obtain ⟨⟨y18, y19, m20⟩, hg, hf⟩ := ob_inv hf
  have hf := ob_inv3 hf
  refine hL75 _ _ _ _ _ _ _ _ _ _ hg hW (lv_sub hl [2, 3, 4, 1, 0] rfl) (fun H locs ls hW hl => ?_)
  refine lv_aload_n hx hb dX10_fails_145 rfl (lv_at hl 0 rfl) ?_
  refine lv_dup hx hb dX10_fails_146 rfl ?_
  refine g_geti hC hW (o := 0) (ci := 10) (k := 6) zm_k0 zm_b0 rfl hi10 (by decide) rfl (by decide +kernel) dX10_fails_147 ?_
  refine lv_lload hx hb dX10_fails_150 (lv_at hl 1 rfl) ?_
  refine lv_l2i (v := (y18).toInt32) hx hb dX10_fails_152 rfl ?_
  refine lv_isub hx hb dX10_fails_153 ?_
  obtain ⟨m31, h9, hf⟩ := ob_inv hf
  refine g_puti hC hW (o := 0) (ci := 10) (k := 6) zm_k0 zm_b0 rfl hi10 tyX10_ok nmX10 (by decide) rfl rfl rfl (by decide +kernel) dX10_fails_154 (fun H locs hW => ?_)
  rw [Option.some.inj h9] at hW
  cases hf
  subst hQ
  exact g_vret hC hW hr hlocks rfl dX10_fails_157
abbrev rmX10_run : Room := { frames := 6, cells := 0, slots := 0, locals := 156 }
set_option maxHeartbeats 4000000 in
set_option maxRecDepth 100000 in
theorem c_X10_run (l : Launch) (G : gG) {p1 : Int32} {me : gM} {r0 : Int32} {m0 : gM}  (hf : f_X10_run p1 me = some (r0, m0)) : Met l yX10_run wsX10_run rmX10_run (va_Pc [.ref (G.2.2.1 0), .int p1] (g_W ZM G me)) (g_Qi ZM G r0 m0) 0 0 (g_A ZM G) := by
  refine Met.ofW (cc := cX10_run) (maxL := 4) (ret := (some .int)) (by decide) rfl ?_
  intro p e s m args below meth c s₁ B hml hv
  obtain ⟨rfl, hW0⟩ := hv
  have hC : CallFix p m c cX10_run 4 s ([.ref (G.2.2.1 0), .int p1] : List Value).toArray wsX10_run RX10 := ⟨B.exec, B.bytes, hml, findClass_of_methodNamed B.named, atoms_spec (ws := wsX10_run) B.pre⟩
  have hx := hC.1
  have hb := hC.2.1
  have hown := hC.2.2.2.1
  have hts := hC.2.2.2.2
  have hr := B.returns
  have hlocks := B.notSynchronized
  have hW := g_H_enter hW0
  have hi10 : ∀ w ∈ wsX100, w ∈ wsX10_run := by decide +kernel
  have hl := lv_entry ([.ref (G.2.2.1 0), .int p1]) (n := 4) (Nat.le_of_ble_eq_true rfl)
  rw [lg_entry_eq]
  generalize (lg_sl ([.ref (G.2.2.1 0), .int p1]) ++ List.replicate (4 - (lg_sl ([.ref (G.2.2.1 0), .int p1])).length) Slot.unset).toArray = ls at hl ⊢
  have hl : lv_has ls 4 [(0, .ref (G.2.2.1 0)), (1, .int p1)] := hl
  obtain ⟨Q, hQ⟩ : ∃ Q, Q = MQ below (g_Qi ZM G r0 m0) ([.ref (G.2.2.1 0), .int p1] : List Value).toArray s 0 0 (g_A ZM G) := ⟨_, rfl⟩
  refine g_goQ hQ ?_
  unfold f_X10_run at hf
  refine g_start hW (fun H locs hW => ?_)
  refine lv_aload_n hx hb dX10_run_0 rfl (lv_at hl 0 rfl) ?_
  refine lv_aload_n hx hb dX10_run_1 rfl (lv_at hl 0 rfl) ?_
  refine lv_iload_n hx hb dX10_run_2 rfl (lv_at hl 1 rfl) ?_
  obtain ⟨r1, hg, hf⟩ := ob_inv hf
  refine g_cVi hC hW (o := 0) (ci := 10) (As := [.int p1]) (rest := [.ref (G.2.2.1 0)]) zm_k0 zm_b0 rfl (c_X10_isClosed l G  hg) (cwV 1 hts gX10_run_X10_isClosed rfl rfl rfl (by decide +kernel) ⟨Nat.le_of_ble_eq_true rfl, Nat.le_of_ble_eq_true rfl⟩) rfl hl.1 rfl (Nat.le_of_ble_eq_true rfl) dX10_run_3 ⟨Nat.le_of_ble_eq_true rfl, Nat.le_of_ble_eq_true rfl⟩ (fun H locs hW => ?_)
  obtain ⟨z3, hg, hf⟩ := ob_inv hf
  have hJ28 : ∀ (H : Heap) (locs : List Loc) (ls : Array Slot), g_H ZM G s H locs me → lv_has ls 4 [(0, .ref (G.2.2.1 0)), (1, .int p1)] → W p l e (headSpec wsX10_run rmX10_run).room s m ([.ref (G.2.2.1 0), .int p1] : List Value).toArray below meth c H locs 0 0 Q (F0 m 28 ls [.int z3, .ref (G.2.2.1 0)]) := by
    intro H locs ls hW hl
    obtain ⟨m6, h9, hf⟩ := ob_inv hf
    refine g_puti hC hW (o := 0) (ci := 10) (k := 67) zm_k0 zm_b0 rfl hi10 tyX10_ok nmX10 (by decide) rfl rfl rfl (by decide +kernel) dX10_run_28 (fun H locs hW => ?_)
    rw [Option.some.inj h9] at hW
    refine lv_aload_n hx hb dX10_run_31 rfl (lv_at hl 0 rfl) ?_
    refine g_geti hC hW (o := 0) (ci := 10) (k := 67) zm_k0 zm_b0 rfl hi10 (by decide) rfl (by decide +kernel) dX10_run_32 ?_
    refine lv_if_le (tgt := 40) hx hb dX10_run_35 (by decide) (fun c7 => ?_) (fun c7 => ?_)
    · have hf := a_if_t c7 hf
      refine lv_aload_n hx hb dX10_run_40 rfl (lv_at hl 0 rfl) ?_
      refine g_getr hC hW (o := 0) (ci := 10) (k := 54) zm_k0 zm_b0 rfl hi10 (by decide) rfl (t := 47) zm_r0_54 (by decide +kernel) dX10_run_41 ?_
      refine lv_iload_n hx hb dX10_run_44 rfl (lv_at hl 1 rfl) ?_
      refine lv_dup2_11 hx hb dX10_run_45 rfl rfl ?_
      obtain ⟨v8, h9, hf⟩ := ob_inv hf
      refine g_ild hC hW zm_k47 zm_b47 zm_n47 h9 dX10_run_46 ?_
      refine lv_iconst (v := 1) hx hb dX10_run_47 (by decide) ?_
      refine lv_iadd hx hb dX10_run_48 ?_
      obtain ⟨m9, h9, hf⟩ := ob_inv hf
      refine g_ist hC hW zm_k47 zm_b47 zm_n47 h9 dX10_run_49 (fun H locs hW => ?_)
      refine lv_iconst (v := 0) hx hb dX10_run_50 (by decide) ?_
      refine lv_istore_n (lv' := [(2, .int 0), (0, .ref (G.2.2.1 0)), (1, .int p1)]) hx hb dX10_run_51 rfl hl (by decide) rfl (fun ls hl => ?_)
      have hL52 : ∀ (n : Nat) (x10 : Int32) (m11 : gM) (y12 : Int32) (m13 : gM) (H : Heap) (locs : List Loc) (ls : Array Slot), f_X10_run_L52 p1 n x10 m11 = some (y12, m13) → g_H ZM G s H locs m11 → lv_has ls 4 [(0, .ref (G.2.2.1 0)), (1, .int p1), (2, .int x10)] → (∀ (H : Heap) (locs : List Loc) (ls : Array Slot), g_H ZM G s H locs m13 → lv_has ls 4 [(0, .ref (G.2.2.1 0))] → W p l e (headSpec wsX10_run rmX10_run).room s m ([.ref (G.2.2.1 0), .int p1] : List Value).toArray below meth c H locs 0 0 Q (F0 m 127 ls [])) → W p l e (headSpec wsX10_run rmX10_run).room s m ([.ref (G.2.2.1 0), .int p1] : List Value).toArray below meth c H locs 0 0 Q (F0 m 52 ls []) := by
        intro n
        induction n with
        | zero =>
          intro x10 m11 y12 m13 H locs ls hf hW hl hE
          cases hf
        | succ n ih =>
          intro x10 m11 y12 m13 H locs ls hf hW hl hE
          rw [f_X10_run_L52] at hf
          refine lv_iload_n hx hb dX10_run_52 rfl (lv_at hl 2 rfl) ?_
          refine lv_bipush (v := 6) hx hb dX10_run_53 (by decide) ?_
          refine lv_icmp_ge (tgt := 127) hx hb dX10_run_55 (by decide) (fun c14 => ?_) (fun c14 => ?_)
          · have hf := a_if_t c14 hf
            cases hf
            exact hE H locs ls hW (lv_sub hl [0] rfl)
          · have hf := a_if_f c14 hf
            refine lv_aload_n hx hb dX10_run_58 rfl (lv_at hl 0 rfl) ?_
            refine g_getr hC hW (o := 0) (ci := 10) (k := 5) zm_k0 zm_b0 rfl hi10 (by decide) rfl (t := 4) zm_r0_5 (by decide +kernel) dX10_run_59 ?_
            refine lv_iload_n hx hb dX10_run_62 rfl (lv_at hl 2 rfl) ?_
            obtain ⟨v15, h9, hf⟩ := ob_inv hf
            refine g_ild hC hW zm_k4 zm_b4 zm_n4 h9 dX10_run_63 ?_
            obtain ⟨m17, hg, hf⟩ := ob_inv hf
            have hJ121 : ∀ (H : Heap) (locs : List Loc) (ls : Array Slot), g_H ZM G s H locs m17 → lv_has ls 4 [(0, .ref (G.2.2.1 0)), (1, .int p1), (2, .int x10)] → W p l e (headSpec wsX10_run rmX10_run).room s m ([.ref (G.2.2.1 0), .int p1] : List Value).toArray below meth c H locs 0 0 Q (F0 m 121 ls []) := by
              intro H locs ls hW hl
              refine lv_iinc (v := (x10 + 1)) (lv' := [(2, .int (x10 + 1)), (0, .ref (G.2.2.1 0)), (1, .int p1)]) hx hb dX10_run_121 hl (k := 2) rfl (congrArg (fun z => x10 + z) (by decide)) (by decide) rfl (fun ls hl => ?_)
              refine lv_goto (tgt := 52) hx hb dX10_run_124 (by decide) ?_
              exact ih _ _ _ _ _ _ _ hf hW (lv_sub hl [1, 2, 0] rfl) hE
            replace hf := hg
            refine lv_if_ne (tgt := 121) hx hb dX10_run_64 (by decide) (fun c16 => ?_) (fun c16 => ?_)
            · have hf := a_if_f c16 hf
              cases hf
              exact hJ121 H locs ls hW (lv_sub hl [0, 1, 2] rfl)
            · have hf := a_if_t c16 hf
              refine lv_aload_n hx hb dX10_run_67 rfl (lv_at hl 0 rfl) ?_
              refine lv_iload_n hx hb dX10_run_68 rfl (lv_at hl 1 rfl) ?_
              refine lv_iload_n hx hb dX10_run_69 rfl (lv_at hl 2 rfl) ?_
              obtain ⟨⟨r18, m19⟩, hg, hf⟩ := ob_inv hf
              have hf := ob_inv2 hf
              refine g_cVi hC hW (o := 0) (ci := 10) (As := [.int p1, .int x10]) (rest := []) zm_k0 zm_b0 rfl (c_X10_billOf l G  hg) (cwV 2 hts gX10_run_X10_billOf rfl rfl rfl (by decide +kernel) ⟨Nat.le_of_ble_eq_true rfl, Nat.le_of_ble_eq_true rfl⟩) rfl hl.1 rfl (Nat.le_of_ble_eq_true rfl) dX10_run_70 ⟨Nat.le_of_ble_eq_true rfl, Nat.le_of_ble_eq_true rfl⟩ (fun H locs hW => ?_)
              refine lv_aload_n hx hb dX10_run_73 rfl (lv_at hl 0 rfl) ?_
              refine g_getr hC hW (o := 0) (ci := 10) (k := 53) zm_k0 zm_b0 rfl hi10 (by decide) rfl (t := 46) zm_r0_53 (by decide +kernel) dX10_run_74 ?_
              refine lv_bipush (v := 6) hx hb dX10_run_77 (by decide) ?_
              refine lv_iload_n hx hb dX10_run_79 rfl (lv_at hl 1 rfl) ?_
              refine lv_imul hx hb dX10_run_80 ?_
              refine lv_iload_n hx hb dX10_run_81 rfl (lv_at hl 2 rfl) ?_
              refine lv_iadd hx hb dX10_run_82 ?_
              obtain ⟨v21, h9, hf⟩ := ob_inv hf
              refine g_ild hC hW zm_k46 zm_b46 zm_n46 h9 dX10_run_83 ?_
              refine lv_isub hx hb dX10_run_84 ?_
              obtain ⟨x22, h9, hf⟩ := ob_inv hf
              refine g_nmi (Option.some.inj h9) ?_
              refine lv_istore_n (lv' := [(3, .int x22), (0, .ref (G.2.2.1 0)), (1, .int p1), (2, .int x10)]) hx hb dX10_run_85 rfl hl (by decide) rfl (fun ls hl => ?_)
              refine lv_aload_n hx hb dX10_run_86 rfl (lv_at hl 1 rfl) ?_
              refine g_getr hC hW (o := 0) (ci := 10) (k := 53) zm_k0 zm_b0 rfl hi10 (by decide) rfl (t := 46) zm_r0_53 (by decide +kernel) dX10_run_87 ?_
              refine lv_bipush (v := 6) hx hb dX10_run_90 (by decide) ?_
              refine lv_iload_n hx hb dX10_run_92 rfl (lv_at hl 2 rfl) ?_
              refine lv_imul hx hb dX10_run_93 ?_
              refine lv_iload_n hx hb dX10_run_94 rfl (lv_at hl 3 rfl) ?_
              refine lv_iadd hx hb dX10_run_95 ?_
              refine lv_dup2_11 hx hb dX10_run_96 rfl rfl ?_
              obtain ⟨v23, h9, hf⟩ := ob_inv hf
              refine g_ild hC hW zm_k46 zm_b46 zm_n46 h9 dX10_run_97 ?_
              refine lv_iload_n hx hb dX10_run_98 rfl (lv_at hl 0 rfl) ?_
              refine lv_iadd hx hb dX10_run_99 ?_
              obtain ⟨m24, h9, hf⟩ := ob_inv hf
              refine g_ist hC hW zm_k46 zm_b46 zm_n46 h9 dX10_run_100 (fun H locs hW => ?_)
              refine lv_aload_n hx hb dX10_run_101 rfl (lv_at hl 1 rfl) ?_
              refine g_getr hC hW (o := 0) (ci := 10) (k := 3) zm_k0 zm_b0 rfl hi10 (by decide) rfl (t := 2) zm_r0_3 (by decide +kernel) dX10_run_102 ?_
              refine lv_iload_n hx hb dX10_run_105 rfl (lv_at hl 3 rfl) ?_
              refine lv_dup2_11 hx hb dX10_run_106 rfl rfl ?_
              obtain ⟨v25, h9, hf⟩ := ob_inv hf
              refine g_ild hC hW zm_k2 zm_b2 zm_n2 h9 dX10_run_107 ?_
              refine lv_iload_n hx hb dX10_run_108 rfl (lv_at hl 0 rfl) ?_
              refine lv_iadd hx hb dX10_run_109 ?_
              obtain ⟨m26, h9, hf⟩ := ob_inv hf
              refine g_ist hC hW zm_k2 zm_b2 zm_n2 h9 dX10_run_110 (fun H locs hW => ?_)
              refine lv_aload_n hx hb dX10_run_111 rfl (lv_at hl 1 rfl) ?_
              refine lv_dup hx hb dX10_run_112 rfl ?_
              refine g_geti hC hW (o := 0) (ci := 10) (k := 6) zm_k0 zm_b0 rfl hi10 (by decide) rfl (by decide +kernel) dX10_run_113 ?_
              refine lv_iload_n hx hb dX10_run_116 rfl (lv_at hl 0 rfl) ?_
              refine lv_isub hx hb dX10_run_117 ?_
              obtain ⟨m27, h9, hf⟩ := ob_inv hf
              refine g_puti hC hW (o := 0) (ci := 10) (k := 6) zm_k0 zm_b0 rfl hi10 tyX10_ok nmX10 (by decide) rfl rfl rfl (by decide +kernel) dX10_run_118 (fun H locs hW => ?_)
              rw [Option.some.inj h9] at hW
              cases hf
              exact hJ121 H locs ls hW (lv_sub hl [1, 2, 3] rfl)
      obtain ⟨⟨y12, m13⟩, hg, hf⟩ := ob_inv hf
      have hf := ob_inv2 hf
      refine hL52 _ _ _ _ _ _ _ _ hg hW (lv_sub hl [1, 2, 0] rfl) (fun H locs ls hW hl => ?_)
      refine lv_iconst (v := 0) hx hb dX10_run_127 (by decide) ?_
      refine lv_istore_n (lv' := [(2, .int 0), (0, .ref (G.2.2.1 0))]) hx hb dX10_run_128 rfl hl (by decide) rfl (fun ls hl => ?_)
      refine lv_aload_n hx hb dX10_run_129 rfl (lv_at hl 1 rfl) ?_
      obtain ⟨r28, hg, hf⟩ := ob_inv hf
      refine g_cVi hC hW (o := 0) (ci := 10) (As := []) (rest := []) zm_k0 zm_b0 rfl (c_X10_lowestBelow l G  hg) (cwV 0 hts gX10_run_X10_lowestBelow rfl rfl rfl (by decide +kernel) ⟨Nat.le_of_ble_eq_true rfl, Nat.le_of_ble_eq_true rfl⟩) rfl hl.1 rfl (Nat.le_of_ble_eq_true rfl) dX10_run_130 ⟨Nat.le_of_ble_eq_true rfl, Nat.le_of_ble_eq_true rfl⟩ (fun H locs hW => ?_)
      refine lv_istore_n (lv' := [(3, .int r28), (2, .int 0), (0, .ref (G.2.2.1 0))]) hx hb dX10_run_133 rfl hl (by decide) rfl (fun ls hl => ?_)
      have hL134 : ∀ (n : Nat) (x29 : Int32) (x30 : Int32) (m31 : gM) (y32 : Int32) (y33 : Int32) (m34 : gM) (H : Heap) (locs : List Loc) (ls : Array Slot), f_X10_run_L134  n x29 x30 m31 = some (y32, y33, m34) → g_H ZM G s H locs m31 → lv_has ls 4 [(0, .ref (G.2.2.1 0)), (2, .int x29), (3, .int x30)] → (∀ (H : Heap) (locs : List Loc) (ls : Array Slot), g_H ZM G s H locs m34 → lv_has ls 4 [(2, .int y32)] → W p l e (headSpec wsX10_run rmX10_run).room s m ([.ref (G.2.2.1 0), .int p1] : List Value).toArray below meth c H locs 0 0 Q (F0 m 155 ls [])) → W p l e (headSpec wsX10_run rmX10_run).room s m ([.ref (G.2.2.1 0), .int p1] : List Value).toArray below meth c H locs 0 0 Q (F0 m 134 ls []) := by
        intro n
        induction n with
        | zero =>
          intro x29 x30 m31 y32 y33 m34 H locs ls hf hW hl hE
          cases hf
        | succ n ih =>
          intro x29 x30 m31 y32 y33 m34 H locs ls hf hW hl hE
          rw [f_X10_run_L134] at hf
          refine lv_iload_n hx hb dX10_run_134 rfl (lv_at hl 2 rfl) ?_
          refine lv_iconst (v := (-1)) hx hb dX10_run_135 (by decide) ?_
          refine lv_icmp_eq (tgt := 155) hx hb dX10_run_136 (by decide) (fun c35 => ?_) (fun c35 => ?_)
          · have hf := a_if_t c35 hf
            cases hf
            exact hE H locs ls hW (lv_sub hl [1] rfl)
          · have hf := a_if_f c35 hf
            refine lv_aload_n hx hb dX10_run_139 rfl (lv_at hl 0 rfl) ?_
            refine lv_iload_n hx hb dX10_run_140 rfl (lv_at hl 2 rfl) ?_
            obtain ⟨m36, hg, hf⟩ := ob_inv hf
            refine g_cVv hC hW (o := 0) (ci := 10) (As := [.int x30]) (rest := []) zm_k0 zm_b0 rfl (c_X10_fails l G  hg) (cwV 1 hts gX10_run_X10_fails rfl rfl rfl (by decide +kernel) ⟨Nat.le_of_ble_eq_true rfl, Nat.le_of_ble_eq_true rfl⟩) rfl hl.1 rfl (Nat.le_of_ble_eq_true rfl) dX10_run_141 ⟨Nat.le_of_ble_eq_true rfl, Nat.le_of_ble_eq_true rfl⟩ (fun H locs hW => ?_)
            refine lv_iinc (v := (x29 + 1)) (lv' := [(2, .int (x29 + 1)), (0, .ref (G.2.2.1 0)), (3, .int x30)]) hx hb dX10_run_144 hl (k := 1) rfl (congrArg (fun z => x29 + z) (by decide)) (by decide) rfl (fun ls hl => ?_)
            refine lv_aload_n hx hb dX10_run_147 rfl (lv_at hl 1 rfl) ?_
            obtain ⟨r37, hg, hf⟩ := ob_inv hf
            refine g_cVi hC hW (o := 0) (ci := 10) (As := []) (rest := []) zm_k0 zm_b0 rfl (c_X10_lowestBelow l G  hg) (cwV 0 hts gX10_run_X10_lowestBelow rfl rfl rfl (by decide +kernel) ⟨Nat.le_of_ble_eq_true rfl, Nat.le_of_ble_eq_true rfl⟩) rfl hl.1 rfl (Nat.le_of_ble_eq_true rfl) dX10_run_148 ⟨Nat.le_of_ble_eq_true rfl, Nat.le_of_ble_eq_true rfl⟩ (fun H locs hW => ?_)
            refine lv_istore_n (lv' := [(3, .int r37), (2, .int (x29 + 1)), (0, .ref (G.2.2.1 0))]) hx hb dX10_run_151 rfl hl (by decide) rfl (fun ls hl => ?_)
            refine lv_goto (tgt := 134) hx hb dX10_run_152 (by decide) ?_
            exact ih _ _ _ _ _ _ _ _ _ hf hW (lv_sub hl [2, 1, 0] rfl) hE
      obtain ⟨⟨y32, y33, m34⟩, hg, hf⟩ := ob_inv hf
      have hf := ob_inv3 hf
      refine hL134 _ _ _ _ _ _ _ _ _ _ hg hW (lv_sub hl [2, 1, 0] rfl) (fun H locs ls hW hl => ?_)
      refine lv_iload_n hx hb dX10_run_155 rfl (lv_at hl 0 rfl) ?_
      cases hf
      subst hQ
      exact g_iret hC hW hr hlocks rfl rfl dX10_run_156
    · have hf := a_if_f c7 hf
      refine lv_iconst (v := 0) hx hb dX10_run_38 (by decide) ?_
      cases hf
      subst hQ
      exact g_iret hC hW hr hlocks rfl rfl dX10_run_39
  replace hf := hg
  refine lv_if_ne (tgt := 13) hx hb dX10_run_6 (by decide) (fun c2 => ?_) (fun c2 => ?_)
  · have hf := a_if_f c2 hf
    refine lv_aload_n hx hb dX10_run_13 rfl (lv_at hl 0 rfl) ?_
    refine g_getr hC hW (o := 0) (ci := 10) (k := 54) zm_k0 zm_b0 rfl hi10 (by decide) rfl (t := 47) zm_r0_54 (by decide +kernel) dX10_run_14 ?_
    refine lv_iload_n hx hb dX10_run_17 rfl (lv_at hl 1 rfl) ?_
    obtain ⟨v4, h9, hf⟩ := ob_inv hf
    refine g_ild hC hW zm_k47 zm_b47 zm_n47 h9 dX10_run_18 ?_
    refine lv_iconst (v := 3) hx hb dX10_run_19 (by decide) ?_
    refine lv_icmp_ne (tgt := 27) hx hb dX10_run_20 (by decide) (fun c5 => ?_) (fun c5 => ?_)
    · have hf := a_if_f c5 hf
      refine lv_iconst (v := 0) hx hb dX10_run_27 (by decide) ?_
      cases hf
      exact hJ28 H locs ls hW (lv_sub hl [0, 1] rfl)
    · have hf := a_if_t c5 hf
      refine lv_iconst (v := 2) hx hb dX10_run_23 (by decide) ?_
      refine lv_goto (tgt := 28) hx hb dX10_run_24 (by decide) ?_
      cases hf
      exact hJ28 H locs ls hW (lv_sub hl [0, 1] rfl)
  · have hf := a_if_t c2 hf
    refine lv_iconst (v := 1) hx hb dX10_run_9 (by decide) ?_
    refine lv_goto (tgt := 28) hx hb dX10_run_10 (by decide) ?_
    cases hf
    exact hJ28 H locs ls hW (lv_sub hl [0, 1] rfl)
abbrev rmX10_day : Room := { frames := 0, cells := 0, slots := 0, locals := 0 }
set_option maxHeartbeats 4000000 in
set_option maxRecDepth 100000 in
theorem c_X10_day (l : Launch) (G : gG)  {me : gM} {r0 : Int32} {m0 : gM}  (hf : f_X10_day me = some (r0, m0)) : Met l yX10_day wsX10_day rmX10_day (va_Pc [.ref (G.2.2.1 0)] (g_W ZM G me)) (g_Qi ZM G r0 m0) 0 0 (g_A ZM G) := by
  refine Met.ofW (cc := cX10_day) (maxL := 1) (ret := (some .int)) (by decide) rfl ?_
  intro p e s m args below meth c s₁ B hml hv
  obtain ⟨rfl, hW0⟩ := hv
  have hC : CallFix p m c cX10_day 1 s ([.ref (G.2.2.1 0)] : List Value).toArray wsX10_day RX10 := ⟨B.exec, B.bytes, hml, findClass_of_methodNamed B.named, atoms_spec (ws := wsX10_day) B.pre⟩
  have hx := hC.1
  have hb := hC.2.1
  have hown := hC.2.2.2.1
  have hts := hC.2.2.2.2
  have hr := B.returns
  have hlocks := B.notSynchronized
  have hW := g_H_enter hW0
  have hi10 : ∀ w ∈ wsX100, w ∈ wsX10_day := by decide +kernel
  have hl := lv_entry ([.ref (G.2.2.1 0)]) (n := 1) (Nat.le_of_ble_eq_true rfl)
  rw [lg_entry_eq]
  generalize (lg_sl ([.ref (G.2.2.1 0)]) ++ List.replicate (1 - (lg_sl ([.ref (G.2.2.1 0)])).length) Slot.unset).toArray = ls at hl ⊢
  have hl : lv_has ls 1 [(0, .ref (G.2.2.1 0))] := hl
  obtain ⟨Q, hQ⟩ : ∃ Q, Q = MQ below (g_Qi ZM G r0 m0) ([.ref (G.2.2.1 0)] : List Value).toArray s 0 0 (g_A ZM G) := ⟨_, rfl⟩
  refine g_goQ hQ ?_
  unfold f_X10_day at hf
  refine g_start hW (fun H locs hW => ?_)
  refine lv_aload_n hx hb dX10_day_0 rfl (lv_at hl 0 rfl) ?_
  refine lv_iconst (v := 0) hx hb dX10_day_1 (by decide) ?_
  obtain ⟨m1, h9, hf⟩ := ob_inv hf
  refine g_puti hC hW (o := 0) (ci := 10) (k := 67) zm_k0 zm_b0 rfl hi10 tyX10_ok nmX10 (by decide) rfl rfl rfl (by decide +kernel) dX10_day_2 (fun H locs hW => ?_)
  rw [Option.some.inj h9] at hW
  refine lv_aload_n hx hb dX10_day_5 rfl (lv_at hl 0 rfl) ?_
  refine g_geti hC hW (o := 0) (ci := 10) (k := 0) zm_k0 zm_b0 rfl hi10 (by decide) rfl (by decide +kernel) dX10_day_6 ?_
  cases hf
  subst hQ
  exact g_iret hC hW hr hlocks rfl rfl dX10_day_9
abbrev rmX10_phase : Room := { frames := 0, cells := 0, slots := 0, locals := 0 }
set_option maxHeartbeats 4000000 in
set_option maxRecDepth 100000 in
theorem c_X10_phase (l : Launch) (G : gG)  {me : gM} {r0 : Int32} {m0 : gM}  (hf : f_X10_phase me = some (r0, m0)) : Met l yX10_phase wsX10_phase rmX10_phase (va_Pc [.ref (G.2.2.1 0)] (g_W ZM G me)) (g_Qi ZM G r0 m0) 0 0 (g_A ZM G) := by
  refine Met.ofW (cc := cX10_phase) (maxL := 1) (ret := (some .int)) (by decide) rfl ?_
  intro p e s m args below meth c s₁ B hml hv
  obtain ⟨rfl, hW0⟩ := hv
  have hC : CallFix p m c cX10_phase 1 s ([.ref (G.2.2.1 0)] : List Value).toArray wsX10_phase RX10 := ⟨B.exec, B.bytes, hml, findClass_of_methodNamed B.named, atoms_spec (ws := wsX10_phase) B.pre⟩
  have hx := hC.1
  have hb := hC.2.1
  have hown := hC.2.2.2.1
  have hts := hC.2.2.2.2
  have hr := B.returns
  have hlocks := B.notSynchronized
  have hW := g_H_enter hW0
  have hi10 : ∀ w ∈ wsX100, w ∈ wsX10_phase := by decide +kernel
  have hl := lv_entry ([.ref (G.2.2.1 0)]) (n := 1) (Nat.le_of_ble_eq_true rfl)
  rw [lg_entry_eq]
  generalize (lg_sl ([.ref (G.2.2.1 0)]) ++ List.replicate (1 - (lg_sl ([.ref (G.2.2.1 0)])).length) Slot.unset).toArray = ls at hl ⊢
  have hl : lv_has ls 1 [(0, .ref (G.2.2.1 0))] := hl
  obtain ⟨Q, hQ⟩ : ∃ Q, Q = MQ below (g_Qi ZM G r0 m0) ([.ref (G.2.2.1 0)] : List Value).toArray s 0 0 (g_A ZM G) := ⟨_, rfl⟩
  refine g_goQ hQ ?_
  unfold f_X10_phase at hf
  refine g_start hW (fun H locs hW => ?_)
  refine lv_aload_n hx hb dX10_phase_0 rfl (lv_at hl 0 rfl) ?_
  refine lv_iconst (v := 0) hx hb dX10_phase_1 (by decide) ?_
  obtain ⟨m1, h9, hf⟩ := ob_inv hf
  refine g_puti hC hW (o := 0) (ci := 10) (k := 67) zm_k0 zm_b0 rfl hi10 tyX10_ok nmX10 (by decide) rfl rfl rfl (by decide +kernel) dX10_phase_2 (fun H locs hW => ?_)
  rw [Option.some.inj h9] at hW
  refine lv_aload_n hx hb dX10_phase_5 rfl (lv_at hl 0 rfl) ?_
  refine g_geti hC hW (o := 0) (ci := 10) (k := 1) zm_k0 zm_b0 rfl hi10 (by decide) rfl (by decide +kernel) dX10_phase_6 ?_
  cases hf
  subst hQ
  exact g_iret hC hW hr hlocks rfl rfl dX10_phase_9
abbrev rmX10_isThere : Room := { frames := 0, cells := 0, slots := 0, locals := 0 }
set_option maxHeartbeats 4000000 in
set_option maxRecDepth 100000 in
theorem c_X10_isThere (l : Launch) (G : gG) {p1 : Int32} {me : gM} {r0 : Int32} {m0 : gM}  (hf : f_X10_isThere p1 me = some (r0, m0)) : Met l yX10_isThere wsX10_isThere rmX10_isThere (va_Pc [.ref (G.2.2.1 0), .int p1] (g_W ZM G me)) (g_Qi ZM G r0 m0) 0 0 (g_A ZM G) := by
  refine Met.ofW (cc := cX10_isThere) (maxL := 2) (ret := (some .boolean)) (by decide) rfl ?_
  intro p e s m args below meth c s₁ B hml hv
  obtain ⟨rfl, hW0⟩ := hv
  have hC : CallFix p m c cX10_isThere 2 s ([.ref (G.2.2.1 0), .int p1] : List Value).toArray wsX10_isThere RX10 := ⟨B.exec, B.bytes, hml, findClass_of_methodNamed B.named, atoms_spec (ws := wsX10_isThere) B.pre⟩
  have hx := hC.1
  have hb := hC.2.1
  have hown := hC.2.2.2.1
  have hts := hC.2.2.2.2
  have hr := B.returns
  have hlocks := B.notSynchronized
  have hW := g_H_enter hW0
  have hi10 : ∀ w ∈ wsX100, w ∈ wsX10_isThere := by decide +kernel
  have hl := lv_entry ([.ref (G.2.2.1 0), .int p1]) (n := 2) (Nat.le_of_ble_eq_true rfl)
  rw [lg_entry_eq]
  generalize (lg_sl ([.ref (G.2.2.1 0), .int p1]) ++ List.replicate (2 - (lg_sl ([.ref (G.2.2.1 0), .int p1])).length) Slot.unset).toArray = ls at hl ⊢
  have hl : lv_has ls 2 [(0, .ref (G.2.2.1 0)), (1, .int p1)] := hl
  obtain ⟨Q, hQ⟩ : ∃ Q, Q = MQ below (g_Qi ZM G r0 m0) ([.ref (G.2.2.1 0), .int p1] : List Value).toArray s 0 0 (g_A ZM G) := ⟨_, rfl⟩
  refine g_goQ hQ ?_
  unfold f_X10_isThere at hf
  refine g_start hW (fun H locs hW => ?_)
  refine lv_aload_n hx hb dX10_isThere_0 rfl (lv_at hl 0 rfl) ?_
  refine lv_iload_n hx hb dX10_isThere_1 rfl (lv_at hl 1 rfl) ?_
  obtain ⟨z2, hg, hf⟩ := ob_inv hf
  have hJ21 : ∀ (H : Heap) (locs : List Loc) (ls : Array Slot), g_H ZM G s H locs me → lv_has ls 2 [(0, .ref (G.2.2.1 0))] → W p l e (headSpec wsX10_isThere rmX10_isThere).room s m ([.ref (G.2.2.1 0), .int p1] : List Value).toArray below meth c H locs 0 0 Q (F0 m 21 ls [.int z2, .ref (G.2.2.1 0)]) := by
    intro H locs ls hW hl
    obtain ⟨m4, h9, hf⟩ := ob_inv hf
    refine g_puti hC hW (o := 0) (ci := 10) (k := 67) zm_k0 zm_b0 rfl hi10 tyX10_ok nmX10 (by decide) rfl rfl rfl (by decide +kernel) dX10_isThere_21 (fun H locs hW => ?_)
    rw [Option.some.inj h9] at hW
    refine lv_aload_n hx hb dX10_isThere_24 rfl (lv_at hl 0 rfl) ?_
    refine g_geti hC hW (o := 0) (ci := 10) (k := 67) zm_k0 zm_b0 rfl hi10 (by decide) rfl (by decide +kernel) dX10_isThere_25 ?_
    obtain ⟨z6, hg, hf⟩ := ob_inv hf
    have hJ36 : ∀ (H : Heap) (locs : List Loc) (ls : Array Slot), g_H ZM G s H locs m4 → lv_has ls 2 [] → W p l e (headSpec wsX10_isThere rmX10_isThere).room s m ([.ref (G.2.2.1 0), .int p1] : List Value).toArray below meth c H locs 0 0 Q (F0 m 36 ls [.int z6]) := by
      intro H locs ls hW hl
      obtain ⟨b7, h9, hf⟩ := ob_inv hf
      obtain ⟨h9, hn9⟩ := a_zc_inv h9
      refine g_nmi h9 ?_
      cases hf
      subst hQ
      exact g_zret hC hW hr hlocks hn9 rfl rfl dX10_isThere_36
    replace hf := hg
    refine lv_if_ne (tgt := 35) hx hb dX10_isThere_28 (by decide) (fun c5 => ?_) (fun c5 => ?_)
    · have hf := a_if_f c5 hf
      refine lv_iconst (v := 0) hx hb dX10_isThere_35 (by decide) ?_
      cases hf
      exact hJ36 H locs ls hW (lv_sub hl [] rfl)
    · have hf := a_if_t c5 hf
      refine lv_iconst (v := 1) hx hb dX10_isThere_31 (by decide) ?_
      refine lv_goto (tgt := 36) hx hb dX10_isThere_32 (by decide) ?_
      cases hf
      exact hJ36 H locs ls hW (lv_sub hl [] rfl)
  replace hf := hg
  refine lv_if_ne (tgt := 9) hx hb dX10_isThere_2 (by decide) (fun c1 => ?_) (fun c1 => ?_)
  · have hf := a_if_f c1 hf
    refine lv_aload_n hx hb dX10_isThere_9 rfl (lv_at hl 0 rfl) ?_
    refine g_geti hC hW (o := 0) (ci := 10) (k := 1) zm_k0 zm_b0 rfl hi10 (by decide) rfl (by decide +kernel) dX10_isThere_10 ?_
    refine lv_if_ne (tgt := 20) hx hb dX10_isThere_13 (by decide) (fun c3 => ?_) (fun c3 => ?_)
    · have hf := a_if_f c3 hf
      refine lv_iconst (v := 0) hx hb dX10_isThere_20 (by decide) ?_
      cases hf
      exact hJ21 H locs ls hW (lv_sub hl [0] rfl)
    · have hf := a_if_t c3 hf
      refine lv_iconst (v := 2) hx hb dX10_isThere_16 (by decide) ?_
      refine lv_goto (tgt := 21) hx hb dX10_isThere_17 (by decide) ?_
      cases hf
      exact hJ21 H locs ls hW (lv_sub hl [0] rfl)
  · have hf := a_if_t c1 hf
    refine lv_iconst (v := 1) hx hb dX10_isThere_5 (by decide) ?_
    refine lv_goto (tgt := 21) hx hb dX10_isThere_6 (by decide) ?_
    cases hf
    exact hJ21 H locs ls hW (lv_sub hl [0] rfl)
abbrev rmX10_price : Room := { frames := 2, cells := 0, slots := 0, locals := 42 }
set_option maxHeartbeats 4000000 in
set_option maxRecDepth 100000 in
theorem c_X10_price (l : Launch) (G : gG) {p1 : Int32} {p2 : Int32} {me : gM} {r0 : Int32} {m0 : gM}  (hf : f_X10_price p1 p2 me = some (r0, m0)) : Met l yX10_price wsX10_price rmX10_price (va_Pc [.ref (G.2.2.1 0), .int p1, .int p2] (g_W ZM G me)) (g_Qi ZM G r0 m0) 0 0 (g_A ZM G) := by
  refine Met.ofW (cc := cX10_price) (maxL := 3) (ret := (some .int)) (by decide) rfl ?_
  intro p e s m args below meth c s₁ B hml hv
  obtain ⟨rfl, hW0⟩ := hv
  have hC : CallFix p m c cX10_price 3 s ([.ref (G.2.2.1 0), .int p1, .int p2] : List Value).toArray wsX10_price RX10 := ⟨B.exec, B.bytes, hml, findClass_of_methodNamed B.named, atoms_spec (ws := wsX10_price) B.pre⟩
  have hx := hC.1
  have hb := hC.2.1
  have hown := hC.2.2.2.1
  have hts := hC.2.2.2.2
  have hr := B.returns
  have hlocks := B.notSynchronized
  have hW := g_H_enter hW0
  have hi10 : ∀ w ∈ wsX100, w ∈ wsX10_price := by decide +kernel
  have hl := lv_entry ([.ref (G.2.2.1 0), .int p1, .int p2]) (n := 3) (Nat.le_of_ble_eq_true rfl)
  rw [lg_entry_eq]
  generalize (lg_sl ([.ref (G.2.2.1 0), .int p1, .int p2]) ++ List.replicate (3 - (lg_sl ([.ref (G.2.2.1 0), .int p1, .int p2])).length) Slot.unset).toArray = ls at hl ⊢
  have hl : lv_has ls 3 [(0, .ref (G.2.2.1 0)), (1, .int p1), (2, .int p2)] := hl
  obtain ⟨Q, hQ⟩ : ∃ Q, Q = MQ below (g_Qi ZM G r0 m0) ([.ref (G.2.2.1 0), .int p1, .int p2] : List Value).toArray s 0 0 (g_A ZM G) := ⟨_, rfl⟩
  refine g_goQ hQ ?_
  unfold f_X10_price at hf
  refine g_start hW (fun H locs hW => ?_)
  refine lv_aload_n hx hb dX10_price_0 rfl (lv_at hl 0 rfl) ?_
  refine lv_iload_n hx hb dX10_price_1 rfl (lv_at hl 1 rfl) ?_
  obtain ⟨r1, hg, hf⟩ := ob_inv hf
  refine g_cSi hC hW (As := [.int p1]) (rest := [.ref (G.2.2.1 0)]) (c_X10_isZone l G  hg) (va_cwS 1 hts gX10_price_X10_isZone rfl rfl rfl (by decide +kernel) ⟨Nat.le_of_ble_eq_true rfl, Nat.le_of_ble_eq_true rfl⟩) rfl hl.1 rfl (Nat.le_of_ble_eq_true rfl) dX10_price_2 ⟨Nat.le_of_ble_eq_true rfl, Nat.le_of_ble_eq_true rfl⟩ (fun H locs hW => ?_)
  obtain ⟨z3, hg, hf⟩ := ob_inv hf
  have hJ20 : ∀ (H : Heap) (locs : List Loc) (ls : Array Slot), g_H ZM G s H locs me → lv_has ls 3 [(0, .ref (G.2.2.1 0)), (1, .int p1), (2, .int p2)] → W p l e (headSpec wsX10_price rmX10_price).room s m ([.ref (G.2.2.1 0), .int p1, .int p2] : List Value).toArray below meth c H locs 0 0 Q (F0 m 20 ls [.int z3, .ref (G.2.2.1 0)]) := by
    intro H locs ls hW hl
    obtain ⟨⟨r6, m7⟩, hg, hf⟩ := ob_inv hf
    have hf := ob_inv2 hf
    refine g_cVi hC hW (o := 0) (ci := 10) (As := [.int z3]) (rest := []) zm_k0 zm_b0 rfl (c_X10_isThere l G  hg) (cwV 1 hts gX10_price_X10_isThere rfl rfl rfl (by decide +kernel) ⟨Nat.le_of_ble_eq_true rfl, Nat.le_of_ble_eq_true rfl⟩) rfl hl.1 rfl (Nat.le_of_ble_eq_true rfl) dX10_price_20 ⟨Nat.le_of_ble_eq_true rfl, Nat.le_of_ble_eq_true rfl⟩ (fun H locs hW => ?_)
    obtain ⟨z10, hg, hf⟩ := ob_inv hf
    have hJ48 : ∀ (H : Heap) (locs : List Loc) (ls : Array Slot), g_H ZM G s H locs m7 → lv_has ls 3 [] → W p l e (headSpec wsX10_price rmX10_price).room s m ([.ref (G.2.2.1 0), .int p1, .int p2] : List Value).toArray below meth c H locs 0 0 Q (F0 m 48 ls [.int z10]) := by
      intro H locs ls hW hl
      cases hf
      subst hQ
      exact g_iret hC hW hr hlocks rfl rfl dX10_price_48
    replace hf := hg
    refine lv_if_eq (tgt := 47) hx hb dX10_price_23 (by decide) (fun c9 => ?_) (fun c9 => ?_)
    · have hf := a_if_t c9 hf
      refine lv_iconst (v := 0) hx hb dX10_price_47 (by decide) ?_
      cases hf
      exact hJ48 H locs ls hW (lv_sub hl [] rfl)
    · have hf := a_if_f c9 hf
      refine lv_aload_n hx hb dX10_price_26 rfl (lv_at hl 0 rfl) ?_
      refine g_getr hC hW (o := 0) (ci := 10) (k := 48) zm_k0 zm_b0 rfl hi10 (by decide) rfl (t := 41) zm_r0_48 (by decide +kernel) dX10_price_27 ?_
      refine lv_bipush (v := 12) hx hb dX10_price_30 (by decide) ?_
      refine lv_aload_n hx hb dX10_price_32 rfl (lv_at hl 0 rfl) ?_
      refine g_geti hC hW (o := 0) (ci := 10) (k := 0) zm_k0 zm_b0 rfl hi10 (by decide) rfl (by decide +kernel) dX10_price_33 ?_
      refine lv_imul hx hb dX10_price_36 ?_
      refine lv_iconst (v := 4) hx hb dX10_price_37 (by decide) ?_
      refine lv_iload_n hx hb dX10_price_38 rfl (lv_at hl 1 rfl) ?_
      refine lv_imul hx hb dX10_price_39 ?_
      refine lv_iadd hx hb dX10_price_40 ?_
      refine lv_iload_n hx hb dX10_price_41 rfl (lv_at hl 2 rfl) ?_
      refine lv_iadd hx hb dX10_price_42 ?_
      obtain ⟨v11, h9, hf⟩ := ob_inv hf
      refine g_ild hC hW zm_k41 zm_b41 zm_n41 h9 dX10_price_43 ?_
      refine lv_goto (tgt := 48) hx hb dX10_price_44 (by decide) ?_
      cases hf
      exact hJ48 H locs ls hW (lv_sub hl [] rfl)
  replace hf := hg
  refine lv_if_eq (tgt := 19) hx hb dX10_price_5 (by decide) (fun c2 => ?_) (fun c2 => ?_)
  · have hf := a_if_t c2 hf
    refine lv_iconst (v := 0) hx hb dX10_price_19 (by decide) ?_
    cases hf
    exact hJ20 H locs ls hW (lv_sub hl [0, 1, 2] rfl)
  · have hf := a_if_f c2 hf
    refine lv_iload_n hx hb dX10_price_8 rfl (lv_at hl 2 rfl) ?_
    obtain ⟨r4, hg, hf⟩ := ob_inv hf
    refine g_cSi hC hW (As := [.int p2]) (rest := [.ref (G.2.2.1 0)]) (c_X10_isHour l G  hg) (va_cwS 1 hts gX10_price_X10_isHour rfl rfl rfl (by decide +kernel) ⟨Nat.le_of_ble_eq_true rfl, Nat.le_of_ble_eq_true rfl⟩) rfl hl.1 rfl (Nat.le_of_ble_eq_true rfl) dX10_price_9 ⟨Nat.le_of_ble_eq_true rfl, Nat.le_of_ble_eq_true rfl⟩ (fun H locs hW => ?_)
    refine lv_if_eq (tgt := 19) hx hb dX10_price_12 (by decide) (fun c5 => ?_) (fun c5 => ?_)
    · have hf := a_if_t c5 hf
      refine lv_iconst (v := 0) hx hb dX10_price_19 (by decide) ?_
      cases hf
      exact hJ20 H locs ls hW (lv_sub hl [0, 1, 2] rfl)
    · have hf := a_if_f c5 hf
      refine lv_iconst (v := 1) hx hb dX10_price_15 (by decide) ?_
      refine lv_goto (tgt := 20) hx hb dX10_price_16 (by decide) ?_
      cases hf
      exact hJ20 H locs ls hW (lv_sub hl [0, 1, 2] rfl)
abbrev rmX10_net : Room := { frames := 2, cells := 0, slots := 0, locals := 42 }
set_option maxHeartbeats 4000000 in
set_option maxRecDepth 100000 in
theorem c_X10_net (l : Launch) (G : gG) {p1 : Int32} {p2 : Int32} {me : gM} {r0 : Int32} {m0 : gM}  (hf : f_X10_net p1 p2 me = some (r0, m0)) : Met l yX10_net wsX10_net rmX10_net (va_Pc [.ref (G.2.2.1 0), .int p1, .int p2] (g_W ZM G me)) (g_Qi ZM G r0 m0) 0 0 (g_A ZM G) := by
  refine Met.ofW (cc := cX10_net) (maxL := 3) (ret := (some .int)) (by decide) rfl ?_
  intro p e s m args below meth c s₁ B hml hv
  obtain ⟨rfl, hW0⟩ := hv
  have hC : CallFix p m c cX10_net 3 s ([.ref (G.2.2.1 0), .int p1, .int p2] : List Value).toArray wsX10_net RX10 := ⟨B.exec, B.bytes, hml, findClass_of_methodNamed B.named, atoms_spec (ws := wsX10_net) B.pre⟩
  have hx := hC.1
  have hb := hC.2.1
  have hown := hC.2.2.2.1
  have hts := hC.2.2.2.2
  have hr := B.returns
  have hlocks := B.notSynchronized
  have hW := g_H_enter hW0
  have hi10 : ∀ w ∈ wsX100, w ∈ wsX10_net := by decide +kernel
  have hl := lv_entry ([.ref (G.2.2.1 0), .int p1, .int p2]) (n := 3) (Nat.le_of_ble_eq_true rfl)
  rw [lg_entry_eq]
  generalize (lg_sl ([.ref (G.2.2.1 0), .int p1, .int p2]) ++ List.replicate (3 - (lg_sl ([.ref (G.2.2.1 0), .int p1, .int p2])).length) Slot.unset).toArray = ls at hl ⊢
  have hl : lv_has ls 3 [(0, .ref (G.2.2.1 0)), (1, .int p1), (2, .int p2)] := hl
  obtain ⟨Q, hQ⟩ : ∃ Q, Q = MQ below (g_Qi ZM G r0 m0) ([.ref (G.2.2.1 0), .int p1, .int p2] : List Value).toArray s 0 0 (g_A ZM G) := ⟨_, rfl⟩
  refine g_goQ hQ ?_
  unfold f_X10_net at hf
  refine g_start hW (fun H locs hW => ?_)
  refine lv_aload_n hx hb dX10_net_0 rfl (lv_at hl 0 rfl) ?_
  refine lv_iload_n hx hb dX10_net_1 rfl (lv_at hl 1 rfl) ?_
  obtain ⟨r1, hg, hf⟩ := ob_inv hf
  refine g_cSi hC hW (As := [.int p1]) (rest := [.ref (G.2.2.1 0)]) (c_X10_isZone l G  hg) (va_cwS 1 hts gX10_net_X10_isZone rfl rfl rfl (by decide +kernel) ⟨Nat.le_of_ble_eq_true rfl, Nat.le_of_ble_eq_true rfl⟩) rfl hl.1 rfl (Nat.le_of_ble_eq_true rfl) dX10_net_2 ⟨Nat.le_of_ble_eq_true rfl, Nat.le_of_ble_eq_true rfl⟩ (fun H locs hW => ?_)
  obtain ⟨z3, hg, hf⟩ := ob_inv hf
  have hJ20 : ∀ (H : Heap) (locs : List Loc) (ls : Array Slot), g_H ZM G s H locs me → lv_has ls 3 [(0, .ref (G.2.2.1 0)), (1, .int p1), (2, .int p2)] → W p l e (headSpec wsX10_net rmX10_net).room s m ([.ref (G.2.2.1 0), .int p1, .int p2] : List Value).toArray below meth c H locs 0 0 Q (F0 m 20 ls [.int z3, .ref (G.2.2.1 0)]) := by
    intro H locs ls hW hl
    obtain ⟨⟨r6, m7⟩, hg, hf⟩ := ob_inv hf
    have hf := ob_inv2 hf
    refine g_cVi hC hW (o := 0) (ci := 10) (As := [.int z3]) (rest := []) zm_k0 zm_b0 rfl (c_X10_isThere l G  hg) (cwV 1 hts gX10_net_X10_isThere rfl rfl rfl (by decide +kernel) ⟨Nat.le_of_ble_eq_true rfl, Nat.le_of_ble_eq_true rfl⟩) rfl hl.1 rfl (Nat.le_of_ble_eq_true rfl) dX10_net_20 ⟨Nat.le_of_ble_eq_true rfl, Nat.le_of_ble_eq_true rfl⟩ (fun H locs hW => ?_)
    obtain ⟨z10, hg, hf⟩ := ob_inv hf
    have hJ40 : ∀ (H : Heap) (locs : List Loc) (ls : Array Slot), g_H ZM G s H locs m7 → lv_has ls 3 [] → W p l e (headSpec wsX10_net rmX10_net).room s m ([.ref (G.2.2.1 0), .int p1, .int p2] : List Value).toArray below meth c H locs 0 0 Q (F0 m 40 ls [.int z10]) := by
      intro H locs ls hW hl
      cases hf
      subst hQ
      exact g_iret hC hW hr hlocks rfl rfl dX10_net_40
    replace hf := hg
    refine lv_if_eq (tgt := 39) hx hb dX10_net_23 (by decide) (fun c9 => ?_) (fun c9 => ?_)
    · have hf := a_if_t c9 hf
      refine lv_iconst (v := 0) hx hb dX10_net_39 (by decide) ?_
      cases hf
      exact hJ40 H locs ls hW (lv_sub hl [] rfl)
    · have hf := a_if_f c9 hf
      refine lv_aload_n hx hb dX10_net_26 rfl (lv_at hl 0 rfl) ?_
      refine g_getr hC hW (o := 0) (ci := 10) (k := 55) zm_k0 zm_b0 rfl hi10 (by decide) rfl (t := 48) zm_r0_55 (by decide +kernel) dX10_net_27 ?_
      refine lv_iconst (v := 4) hx hb dX10_net_30 (by decide) ?_
      refine lv_iload_n hx hb dX10_net_31 rfl (lv_at hl 1 rfl) ?_
      refine lv_imul hx hb dX10_net_32 ?_
      refine lv_iload_n hx hb dX10_net_33 rfl (lv_at hl 2 rfl) ?_
      refine lv_iadd hx hb dX10_net_34 ?_
      obtain ⟨v11, h9, hf⟩ := ob_inv hf
      refine g_ild hC hW zm_k48 zm_b48 zm_n48 h9 dX10_net_35 ?_
      refine lv_goto (tgt := 40) hx hb dX10_net_36 (by decide) ?_
      cases hf
      exact hJ40 H locs ls hW (lv_sub hl [] rfl)
  replace hf := hg
  refine lv_if_eq (tgt := 19) hx hb dX10_net_5 (by decide) (fun c2 => ?_) (fun c2 => ?_)
  · have hf := a_if_t c2 hf
    refine lv_iconst (v := 0) hx hb dX10_net_19 (by decide) ?_
    cases hf
    exact hJ20 H locs ls hW (lv_sub hl [0, 1, 2] rfl)
  · have hf := a_if_f c2 hf
    refine lv_iload_n hx hb dX10_net_8 rfl (lv_at hl 2 rfl) ?_
    obtain ⟨r4, hg, hf⟩ := ob_inv hf
    refine g_cSi hC hW (As := [.int p2]) (rest := [.ref (G.2.2.1 0)]) (c_X10_isHour l G  hg) (va_cwS 1 hts gX10_net_X10_isHour rfl rfl rfl (by decide +kernel) ⟨Nat.le_of_ble_eq_true rfl, Nat.le_of_ble_eq_true rfl⟩) rfl hl.1 rfl (Nat.le_of_ble_eq_true rfl) dX10_net_9 ⟨Nat.le_of_ble_eq_true rfl, Nat.le_of_ble_eq_true rfl⟩ (fun H locs hW => ?_)
    refine lv_if_eq (tgt := 19) hx hb dX10_net_12 (by decide) (fun c5 => ?_) (fun c5 => ?_)
    · have hf := a_if_t c5 hf
      refine lv_iconst (v := 0) hx hb dX10_net_19 (by decide) ?_
      cases hf
      exact hJ20 H locs ls hW (lv_sub hl [0, 1, 2] rfl)
    · have hf := a_if_f c5 hf
      refine lv_iconst (v := 1) hx hb dX10_net_15 (by decide) ?_
      refine lv_goto (tgt := 20) hx hb dX10_net_16 (by decide) ?_
      cases hf
      exact hJ20 H locs ls hW (lv_sub hl [0, 1, 2] rfl)
abbrev rmX10_flow : Room := { frames := 2, cells := 0, slots := 0, locals := 42 }
set_option maxHeartbeats 4000000 in
set_option maxRecDepth 100000 in
theorem c_X10_flow (l : Launch) (G : gG) {p1 : Int32} {p2 : Int32} {me : gM} {r0 : Int32} {m0 : gM}  (hf : f_X10_flow p1 p2 me = some (r0, m0)) : Met l yX10_flow wsX10_flow rmX10_flow (va_Pc [.ref (G.2.2.1 0), .int p1, .int p2] (g_W ZM G me)) (g_Qi ZM G r0 m0) 0 0 (g_A ZM G) := by
  refine Met.ofW (cc := cX10_flow) (maxL := 3) (ret := (some .int)) (by decide) rfl ?_
  intro p e s m args below meth c s₁ B hml hv
  obtain ⟨rfl, hW0⟩ := hv
  have hC : CallFix p m c cX10_flow 3 s ([.ref (G.2.2.1 0), .int p1, .int p2] : List Value).toArray wsX10_flow RX10 := ⟨B.exec, B.bytes, hml, findClass_of_methodNamed B.named, atoms_spec (ws := wsX10_flow) B.pre⟩
  have hx := hC.1
  have hb := hC.2.1
  have hown := hC.2.2.2.1
  have hts := hC.2.2.2.2
  have hr := B.returns
  have hlocks := B.notSynchronized
  have hW := g_H_enter hW0
  have hi10 : ∀ w ∈ wsX100, w ∈ wsX10_flow := by decide +kernel
  have hl := lv_entry ([.ref (G.2.2.1 0), .int p1, .int p2]) (n := 3) (Nat.le_of_ble_eq_true rfl)
  rw [lg_entry_eq]
  generalize (lg_sl ([.ref (G.2.2.1 0), .int p1, .int p2]) ++ List.replicate (3 - (lg_sl ([.ref (G.2.2.1 0), .int p1, .int p2])).length) Slot.unset).toArray = ls at hl ⊢
  have hl : lv_has ls 3 [(0, .ref (G.2.2.1 0)), (1, .int p1), (2, .int p2)] := hl
  obtain ⟨Q, hQ⟩ : ∃ Q, Q = MQ below (g_Qi ZM G r0 m0) ([.ref (G.2.2.1 0), .int p1, .int p2] : List Value).toArray s 0 0 (g_A ZM G) := ⟨_, rfl⟩
  refine g_goQ hQ ?_
  unfold f_X10_flow at hf
  refine g_start hW (fun H locs hW => ?_)
  refine lv_aload_n hx hb dX10_flow_0 rfl (lv_at hl 0 rfl) ?_
  refine lv_iload_n hx hb dX10_flow_1 rfl (lv_at hl 1 rfl) ?_
  refine lv_iconst (v := 0) hx hb dX10_flow_2 (by decide) ?_
  refine lv_iconst (v := 2) hx hb dX10_flow_3 (by decide) ?_
  obtain ⟨r1, hg, hf⟩ := ob_inv hf
  refine g_cSi hC hW (As := [.int p1, .int 0, .int 2]) (rest := [.ref (G.2.2.1 0)]) (c_X10_in l G  hg) (va_cwS 3 hts gX10_flow_X10_in rfl rfl rfl (by decide +kernel) ⟨Nat.le_of_ble_eq_true rfl, Nat.le_of_ble_eq_true rfl⟩) rfl hl.1 rfl (Nat.le_of_ble_eq_true rfl) dX10_flow_4 ⟨Nat.le_of_ble_eq_true rfl, Nat.le_of_ble_eq_true rfl⟩ (fun H locs hW => ?_)
  obtain ⟨z3, hg, hf⟩ := ob_inv hf
  have hJ22 : ∀ (H : Heap) (locs : List Loc) (ls : Array Slot), g_H ZM G s H locs me → lv_has ls 3 [(0, .ref (G.2.2.1 0)), (1, .int p1), (2, .int p2)] → W p l e (headSpec wsX10_flow rmX10_flow).room s m ([.ref (G.2.2.1 0), .int p1, .int p2] : List Value).toArray below meth c H locs 0 0 Q (F0 m 22 ls [.int z3, .ref (G.2.2.1 0)]) := by
    intro H locs ls hW hl
    obtain ⟨⟨r6, m7⟩, hg, hf⟩ := ob_inv hf
    have hf := ob_inv2 hf
    refine g_cVi hC hW (o := 0) (ci := 10) (As := [.int z3]) (rest := []) zm_k0 zm_b0 rfl (c_X10_isThere l G  hg) (cwV 1 hts gX10_flow_X10_isThere rfl rfl rfl (by decide +kernel) ⟨Nat.le_of_ble_eq_true rfl, Nat.le_of_ble_eq_true rfl⟩) rfl hl.1 rfl (Nat.le_of_ble_eq_true rfl) dX10_flow_22 ⟨Nat.le_of_ble_eq_true rfl, Nat.le_of_ble_eq_true rfl⟩ (fun H locs hW => ?_)
    refine lv_if_ne (tgt := 30) hx hb dX10_flow_25 (by decide) (fun c9 => ?_) (fun c9 => ?_)
    · have hf := a_if_f c9 hf
      refine lv_aload_n hx hb dX10_flow_30 rfl (lv_at hl 0 rfl) ?_
      refine g_getr hC hW (o := 0) (ci := 10) (k := 55) zm_k0 zm_b0 rfl hi10 (by decide) rfl (t := 48) zm_r0_55 (by decide +kernel) dX10_flow_31 ?_
      refine lv_iload_n hx hb dX10_flow_34 rfl (lv_at hl 1 rfl) ?_
      refine lv_iconst (v := 1) hx hb dX10_flow_35 (by decide) ?_
      obtain ⟨z11, hg, hf⟩ := ob_inv hf
      have hJ44 : ∀ (H : Heap) (locs : List Loc) (ls : Array Slot), g_H ZM G s H locs m7 → lv_has ls 3 [(0, .ref (G.2.2.1 0)), (1, .int p1), (2, .int p2)] → W p l e (headSpec wsX10_flow rmX10_flow).room s m ([.ref (G.2.2.1 0), .int p1, .int p2] : List Value).toArray below meth c H locs 0 0 Q (F0 m 44 ls [.int z11, .ref (G.2.2.1 48)]) := by
        intro H locs ls hW hl
        refine lv_iload_n hx hb dX10_flow_44 rfl (lv_at hl 2 rfl) ?_
        refine lv_iadd hx hb dX10_flow_45 ?_
        obtain ⟨v12, h9, hf⟩ := ob_inv hf
        refine g_ild hC hW zm_k48 zm_b48 zm_n48 h9 dX10_flow_46 ?_
        refine lv_aload_n hx hb dX10_flow_47 rfl (lv_at hl 0 rfl) ?_
        refine g_getr hC hW (o := 0) (ci := 10) (k := 55) zm_k0 zm_b0 rfl hi10 (by decide) rfl (t := 48) zm_r0_55 (by decide +kernel) dX10_flow_48 ?_
        refine lv_iload_n hx hb dX10_flow_51 rfl (lv_at hl 1 rfl) ?_
        obtain ⟨z14, hg, hf⟩ := ob_inv hf
        have hJ61 : ∀ (H : Heap) (locs : List Loc) (ls : Array Slot), g_H ZM G s H locs m7 → lv_has ls 3 [(2, .int p2)] → W p l e (headSpec wsX10_flow rmX10_flow).room s m ([.ref (G.2.2.1 0), .int p1, .int p2] : List Value).toArray below meth c H locs 0 0 Q (F0 m 61 ls [.int z14, .ref (G.2.2.1 48), .int v12]) := by
          intro H locs ls hW hl
          refine lv_iload_n hx hb dX10_flow_61 rfl (lv_at hl 0 rfl) ?_
          refine lv_iadd hx hb dX10_flow_62 ?_
          obtain ⟨v15, h9, hf⟩ := ob_inv hf
          refine g_ild hC hW zm_k48 zm_b48 zm_n48 h9 dX10_flow_63 ?_
          refine lv_isub hx hb dX10_flow_64 ?_
          cases hf
          subst hQ
          exact g_iret hC hW hr hlocks rfl rfl dX10_flow_65
        replace hf := hg
        refine lv_if_ne (tgt := 59) hx hb dX10_flow_52 (by decide) (fun c13 => ?_) (fun c13 => ?_)
        · have hf := a_if_f c13 hf
          refine lv_bipush (v := 8) hx hb dX10_flow_59 (by decide) ?_
          cases hf
          exact hJ61 H locs ls hW (lv_sub hl [2] rfl)
        · have hf := a_if_t c13 hf
          refine lv_iconst (v := 4) hx hb dX10_flow_55 (by decide) ?_
          refine lv_goto (tgt := 61) hx hb dX10_flow_56 (by decide) ?_
          cases hf
          exact hJ61 H locs ls hW (lv_sub hl [2] rfl)
      replace hf := hg
      refine lv_icmp_ne (tgt := 43) hx hb dX10_flow_36 (by decide) (fun c10 => ?_) (fun c10 => ?_)
      · have hf := a_if_f c10 hf
        refine lv_iconst (v := 0) hx hb dX10_flow_43 (by decide) ?_
        cases hf
        exact hJ44 H locs ls hW (lv_sub hl [0, 1, 2] rfl)
      · have hf := a_if_t c10 hf
        refine lv_iconst (v := 4) hx hb dX10_flow_39 (by decide) ?_
        refine lv_goto (tgt := 44) hx hb dX10_flow_40 (by decide) ?_
        cases hf
        exact hJ44 H locs ls hW (lv_sub hl [0, 1, 2] rfl)
    · have hf := a_if_t c9 hf
      refine lv_iconst (v := 0) hx hb dX10_flow_28 (by decide) ?_
      cases hf
      subst hQ
      exact g_iret hC hW hr hlocks rfl rfl dX10_flow_29
  replace hf := hg
  refine lv_if_eq (tgt := 21) hx hb dX10_flow_7 (by decide) (fun c2 => ?_) (fun c2 => ?_)
  · have hf := a_if_t c2 hf
    refine lv_iconst (v := 0) hx hb dX10_flow_21 (by decide) ?_
    cases hf
    exact hJ22 H locs ls hW (lv_sub hl [0, 1, 2] rfl)
  · have hf := a_if_f c2 hf
    refine lv_iload_n hx hb dX10_flow_10 rfl (lv_at hl 2 rfl) ?_
    obtain ⟨r4, hg, hf⟩ := ob_inv hf
    refine g_cSi hC hW (As := [.int p2]) (rest := [.ref (G.2.2.1 0)]) (c_X10_isHour l G  hg) (va_cwS 1 hts gX10_flow_X10_isHour rfl rfl rfl (by decide +kernel) ⟨Nat.le_of_ble_eq_true rfl, Nat.le_of_ble_eq_true rfl⟩) rfl hl.1 rfl (Nat.le_of_ble_eq_true rfl) dX10_flow_11 ⟨Nat.le_of_ble_eq_true rfl, Nat.le_of_ble_eq_true rfl⟩ (fun H locs hW => ?_)
    refine lv_if_eq (tgt := 21) hx hb dX10_flow_14 (by decide) (fun c5 => ?_) (fun c5 => ?_)
    · have hf := a_if_t c5 hf
      refine lv_iconst (v := 0) hx hb dX10_flow_21 (by decide) ?_
      cases hf
      exact hJ22 H locs ls hW (lv_sub hl [0, 1, 2] rfl)
    · have hf := a_if_f c5 hf
      refine lv_iconst (v := 1) hx hb dX10_flow_17 (by decide) ?_
      refine lv_goto (tgt := 22) hx hb dX10_flow_18 (by decide) ?_
      cases hf
      exact hJ22 H locs ls hW (lv_sub hl [0, 1, 2] rfl)
abbrev rmX10_taken : Room := { frames := 1, cells := 0, slots := 0, locals := 22 }
set_option maxHeartbeats 4000000 in
set_option maxRecDepth 100000 in
theorem c_X10_taken (l : Launch) (G : gG) {p1 : Int32} {me : gM} {r0 : Int32} {m0 : gM}  (hf : f_X10_taken p1 me = some (r0, m0)) : Met l yX10_taken wsX10_taken rmX10_taken (va_Pc [.ref (G.2.2.1 0), .int p1] (g_W ZM G me)) (g_Qi ZM G r0 m0) 0 0 (g_A ZM G) := by
  refine Met.ofW (cc := cX10_taken) (maxL := 2) (ret := (some .int)) (by decide) rfl ?_
  intro p e s m args below meth c s₁ B hml hv
  obtain ⟨rfl, hW0⟩ := hv
  have hC : CallFix p m c cX10_taken 2 s ([.ref (G.2.2.1 0), .int p1] : List Value).toArray wsX10_taken RX10 := ⟨B.exec, B.bytes, hml, findClass_of_methodNamed B.named, atoms_spec (ws := wsX10_taken) B.pre⟩
  have hx := hC.1
  have hb := hC.2.1
  have hown := hC.2.2.2.1
  have hts := hC.2.2.2.2
  have hr := B.returns
  have hlocks := B.notSynchronized
  have hW := g_H_enter hW0
  have hi10 : ∀ w ∈ wsX100, w ∈ wsX10_taken := by decide +kernel
  have hl := lv_entry ([.ref (G.2.2.1 0), .int p1]) (n := 2) (Nat.le_of_ble_eq_true rfl)
  rw [lg_entry_eq]
  generalize (lg_sl ([.ref (G.2.2.1 0), .int p1]) ++ List.replicate (2 - (lg_sl ([.ref (G.2.2.1 0), .int p1])).length) Slot.unset).toArray = ls at hl ⊢
  have hl : lv_has ls 2 [(0, .ref (G.2.2.1 0)), (1, .int p1)] := hl
  obtain ⟨Q, hQ⟩ : ∃ Q, Q = MQ below (g_Qi ZM G r0 m0) ([.ref (G.2.2.1 0), .int p1] : List Value).toArray s 0 0 (g_A ZM G) := ⟨_, rfl⟩
  refine g_goQ hQ ?_
  unfold f_X10_taken at hf
  refine g_start hW (fun H locs hW => ?_)
  refine lv_aload_n hx hb dX10_taken_0 rfl (lv_at hl 0 rfl) ?_
  refine lv_iload_n hx hb dX10_taken_1 rfl (lv_at hl 1 rfl) ?_
  refine lv_iconst (v := 0) hx hb dX10_taken_2 (by decide) ?_
  refine lv_aload_n hx hb dX10_taken_3 rfl (lv_at hl 0 rfl) ?_
  refine g_geti hC hW (o := 0) (ci := 10) (k := 7) zm_k0 zm_b0 rfl hi10 (by decide) rfl (by decide +kernel) dX10_taken_4 ?_
  refine lv_iconst (v := 1) hx hb dX10_taken_7 (by decide) ?_
  refine lv_isub hx hb dX10_taken_8 ?_
  obtain ⟨r1, hg, hf⟩ := ob_inv hf
  refine g_cSi hC hW (As := [.int p1, .int 0, .int ((me 0 7) - 1)]) (rest := [.ref (G.2.2.1 0)]) (c_X10_in l G  hg) (va_cwS 3 hts gX10_taken_X10_in rfl rfl rfl (by decide +kernel) ⟨Nat.le_of_ble_eq_true rfl, Nat.le_of_ble_eq_true rfl⟩) rfl hl.1 rfl (Nat.le_of_ble_eq_true rfl) dX10_taken_9 ⟨Nat.le_of_ble_eq_true rfl, Nat.le_of_ble_eq_true rfl⟩ (fun H locs hW => ?_)
  obtain ⟨⟨r2, m3⟩, hg, hf⟩ := ob_inv hf
  have hf := ob_inv2 hf
  refine g_cVi hC hW (o := 0) (ci := 10) (As := [.int r1]) (rest := []) zm_k0 zm_b0 rfl (c_X10_isThere l G  hg) (cwV 1 hts gX10_taken_X10_isThere rfl rfl rfl (by decide +kernel) ⟨Nat.le_of_ble_eq_true rfl, Nat.le_of_ble_eq_true rfl⟩) rfl hl.1 rfl (Nat.le_of_ble_eq_true rfl) dX10_taken_12 ⟨Nat.le_of_ble_eq_true rfl, Nat.le_of_ble_eq_true rfl⟩ (fun H locs hW => ?_)
  obtain ⟨z6, hg, hf⟩ := ob_inv hf
  have hJ28 : ∀ (H : Heap) (locs : List Loc) (ls : Array Slot), g_H ZM G s H locs m3 → lv_has ls 2 [] → W p l e (headSpec wsX10_taken rmX10_taken).room s m ([.ref (G.2.2.1 0), .int p1] : List Value).toArray below meth c H locs 0 0 Q (F0 m 28 ls [.int z6]) := by
    intro H locs ls hW hl
    cases hf
    subst hQ
    exact g_iret hC hW hr hlocks rfl rfl dX10_taken_28
  replace hf := hg
  refine lv_if_eq (tgt := 27) hx hb dX10_taken_15 (by decide) (fun c5 => ?_) (fun c5 => ?_)
  · have hf := a_if_t c5 hf
    refine lv_iconst (v := 0) hx hb dX10_taken_27 (by decide) ?_
    cases hf
    exact hJ28 H locs ls hW (lv_sub hl [] rfl)
  · have hf := a_if_f c5 hf
    refine lv_aload_n hx hb dX10_taken_18 rfl (lv_at hl 0 rfl) ?_
    refine g_getr hC hW (o := 0) (ci := 10) (k := 14) zm_k0 zm_b0 rfl hi10 (by decide) rfl (t := 11) zm_r0_14 (by decide +kernel) dX10_taken_19 ?_
    refine lv_iload_n hx hb dX10_taken_22 rfl (lv_at hl 1 rfl) ?_
    obtain ⟨v7, h9, hf⟩ := ob_inv hf
    refine g_ild hC hW zm_k11 zm_b11 zm_n11 h9 dX10_taken_23 ?_
    refine lv_goto (tgt := 28) hx hb dX10_taken_24 (by decide) ?_
    cases hf
    exact hJ28 H locs ls hW (lv_sub hl [] rfl)
abbrev rmX10_isTaken : Room := { frames := 1, cells := 0, slots := 0, locals := 22 }
set_option maxHeartbeats 4000000 in
set_option maxRecDepth 100000 in
theorem c_X10_isTaken (l : Launch) (G : gG) {p1 : Int32} {me : gM} {r0 : Int32} {m0 : gM}  (hf : f_X10_isTaken p1 me = some (r0, m0)) : Met l yX10_isTaken wsX10_isTaken rmX10_isTaken (va_Pc [.ref (G.2.2.1 0), .int p1] (g_W ZM G me)) (g_Qi ZM G r0 m0) 0 0 (g_A ZM G) := by
  refine Met.ofW (cc := cX10_isTaken) (maxL := 2) (ret := (some .boolean)) (by decide) rfl ?_
  intro p e s m args below meth c s₁ B hml hv
  obtain ⟨rfl, hW0⟩ := hv
  have hC : CallFix p m c cX10_isTaken 2 s ([.ref (G.2.2.1 0), .int p1] : List Value).toArray wsX10_isTaken RX10 := ⟨B.exec, B.bytes, hml, findClass_of_methodNamed B.named, atoms_spec (ws := wsX10_isTaken) B.pre⟩
  have hx := hC.1
  have hb := hC.2.1
  have hown := hC.2.2.2.1
  have hts := hC.2.2.2.2
  have hr := B.returns
  have hlocks := B.notSynchronized
  have hW := g_H_enter hW0
  have hi10 : ∀ w ∈ wsX100, w ∈ wsX10_isTaken := by decide +kernel
  have hl := lv_entry ([.ref (G.2.2.1 0), .int p1]) (n := 2) (Nat.le_of_ble_eq_true rfl)
  rw [lg_entry_eq]
  generalize (lg_sl ([.ref (G.2.2.1 0), .int p1]) ++ List.replicate (2 - (lg_sl ([.ref (G.2.2.1 0), .int p1])).length) Slot.unset).toArray = ls at hl ⊢
  have hl : lv_has ls 2 [(0, .ref (G.2.2.1 0)), (1, .int p1)] := hl
  obtain ⟨Q, hQ⟩ : ∃ Q, Q = MQ below (g_Qi ZM G r0 m0) ([.ref (G.2.2.1 0), .int p1] : List Value).toArray s 0 0 (g_A ZM G) := ⟨_, rfl⟩
  refine g_goQ hQ ?_
  unfold f_X10_isTaken at hf
  refine g_start hW (fun H locs hW => ?_)
  refine lv_aload_n hx hb dX10_isTaken_0 rfl (lv_at hl 0 rfl) ?_
  refine lv_iload_n hx hb dX10_isTaken_1 rfl (lv_at hl 1 rfl) ?_
  refine lv_iconst (v := 0) hx hb dX10_isTaken_2 (by decide) ?_
  refine lv_aload_n hx hb dX10_isTaken_3 rfl (lv_at hl 0 rfl) ?_
  refine g_geti hC hW (o := 0) (ci := 10) (k := 16) zm_k0 zm_b0 rfl hi10 (by decide) rfl (by decide +kernel) dX10_isTaken_4 ?_
  refine lv_iconst (v := 1) hx hb dX10_isTaken_7 (by decide) ?_
  refine lv_isub hx hb dX10_isTaken_8 ?_
  obtain ⟨r1, hg, hf⟩ := ob_inv hf
  refine g_cSi hC hW (As := [.int p1, .int 0, .int ((me 0 16) - 1)]) (rest := [.ref (G.2.2.1 0)]) (c_X10_in l G  hg) (va_cwS 3 hts gX10_isTaken_X10_in rfl rfl rfl (by decide +kernel) ⟨Nat.le_of_ble_eq_true rfl, Nat.le_of_ble_eq_true rfl⟩) rfl hl.1 rfl (Nat.le_of_ble_eq_true rfl) dX10_isTaken_9 ⟨Nat.le_of_ble_eq_true rfl, Nat.le_of_ble_eq_true rfl⟩ (fun H locs hW => ?_)
  obtain ⟨⟨r2, m3⟩, hg, hf⟩ := ob_inv hf
  have hf := ob_inv2 hf
  refine g_cVi hC hW (o := 0) (ci := 10) (As := [.int r1]) (rest := []) zm_k0 zm_b0 rfl (c_X10_isThere l G  hg) (cwV 1 hts gX10_isTaken_X10_isThere rfl rfl rfl (by decide +kernel) ⟨Nat.le_of_ble_eq_true rfl, Nat.le_of_ble_eq_true rfl⟩) rfl hl.1 rfl (Nat.le_of_ble_eq_true rfl) dX10_isTaken_12 ⟨Nat.le_of_ble_eq_true rfl, Nat.le_of_ble_eq_true rfl⟩ (fun H locs hW => ?_)
  obtain ⟨z6, hg, hf⟩ := ob_inv hf
  have hJ35 : ∀ (H : Heap) (locs : List Loc) (ls : Array Slot), g_H ZM G s H locs m3 → lv_has ls 2 [] → W p l e (headSpec wsX10_isTaken rmX10_isTaken).room s m ([.ref (G.2.2.1 0), .int p1] : List Value).toArray below meth c H locs 0 0 Q (F0 m 35 ls [.int z6]) := by
    intro H locs ls hW hl
    obtain ⟨b8, h9, hf⟩ := ob_inv hf
    obtain ⟨h9, hn9⟩ := a_zc_inv h9
    refine g_nmi h9 ?_
    cases hf
    subst hQ
    exact g_zret hC hW hr hlocks hn9 rfl rfl dX10_isTaken_35
  replace hf := hg
  refine lv_if_eq (tgt := 34) hx hb dX10_isTaken_15 (by decide) (fun c5 => ?_) (fun c5 => ?_)
  · have hf := a_if_t c5 hf
    refine lv_iconst (v := 0) hx hb dX10_isTaken_34 (by decide) ?_
    cases hf
    exact hJ35 H locs ls hW (lv_sub hl [] rfl)
  · have hf := a_if_f c5 hf
    refine lv_aload_n hx hb dX10_isTaken_18 rfl (lv_at hl 0 rfl) ?_
    refine g_geti hC hW (o := 0) (ci := 10) (k := 25) zm_k0 zm_b0 rfl hi10 (by decide) rfl (by decide +kernel) dX10_isTaken_19 ?_
    refine lv_iload_n hx hb dX10_isTaken_22 rfl (lv_at hl 1 rfl) ?_
    refine lv_ishr hx hb dX10_isTaken_23 ?_
    refine lv_iconst (v := 1) hx hb dX10_isTaken_24 (by decide) ?_
    refine lv_iand hx hb dX10_isTaken_25 ?_
    refine lv_iconst (v := 1) hx hb dX10_isTaken_26 (by decide) ?_
    refine lv_icmp_ne (tgt := 34) hx hb dX10_isTaken_27 (by decide) (fun c7 => ?_) (fun c7 => ?_)
    · have hf := a_if_f c7 hf
      refine lv_iconst (v := 0) hx hb dX10_isTaken_34 (by decide) ?_
      cases hf
      exact hJ35 H locs ls hW (lv_sub hl [] rfl)
    · have hf := a_if_t c7 hf
      refine lv_iconst (v := 1) hx hb dX10_isTaken_30 (by decide) ?_
      refine lv_goto (tgt := 35) hx hb dX10_isTaken_31 (by decide) ?_
      cases hf
      exact hJ35 H locs ls hW (lv_sub hl [] rfl)
abbrev rmX10_gain : Room := { frames := 2, cells := 0, slots := 0, locals := 49 }
set_option maxHeartbeats 4000000 in
set_option maxRecDepth 100000 in
theorem c_X10_gain (l : Launch) (G : gG) {p1 : Int32} {me : gM} {r0 : Int32} {m0 : gM}  (hf : f_X10_gain p1 me = some (r0, m0)) : Met l yX10_gain wsX10_gain rmX10_gain (va_Pc [.ref (G.2.2.1 0), .int p1] (g_W ZM G me)) (g_Qi ZM G r0 m0) 0 0 (g_A ZM G) := by
  refine Met.ofW (cc := cX10_gain) (maxL := 2) (ret := (some .int)) (by decide) rfl ?_
  intro p e s m args below meth c s₁ B hml hv
  obtain ⟨rfl, hW0⟩ := hv
  have hC : CallFix p m c cX10_gain 2 s ([.ref (G.2.2.1 0), .int p1] : List Value).toArray wsX10_gain RX10 := ⟨B.exec, B.bytes, hml, findClass_of_methodNamed B.named, atoms_spec (ws := wsX10_gain) B.pre⟩
  have hx := hC.1
  have hb := hC.2.1
  have hown := hC.2.2.2.1
  have hts := hC.2.2.2.2
  have hr := B.returns
  have hlocks := B.notSynchronized
  have hW := g_H_enter hW0
  have hi10 : ∀ w ∈ wsX100, w ∈ wsX10_gain := by decide +kernel
  have hl := lv_entry ([.ref (G.2.2.1 0), .int p1]) (n := 2) (Nat.le_of_ble_eq_true rfl)
  rw [lg_entry_eq]
  generalize (lg_sl ([.ref (G.2.2.1 0), .int p1]) ++ List.replicate (2 - (lg_sl ([.ref (G.2.2.1 0), .int p1])).length) Slot.unset).toArray = ls at hl ⊢
  have hl : lv_has ls 2 [(0, .ref (G.2.2.1 0)), (1, .int p1)] := hl
  obtain ⟨Q, hQ⟩ : ∃ Q, Q = MQ below (g_Qi ZM G r0 m0) ([.ref (G.2.2.1 0), .int p1] : List Value).toArray s 0 0 (g_A ZM G) := ⟨_, rfl⟩
  refine g_goQ hQ ?_
  unfold f_X10_gain at hf
  refine g_start hW (fun H locs hW => ?_)
  refine lv_aload_n hx hb dX10_gain_0 rfl (lv_at hl 0 rfl) ?_
  refine lv_iload_n hx hb dX10_gain_1 rfl (lv_at hl 1 rfl) ?_
  refine lv_iconst (v := 0) hx hb dX10_gain_2 (by decide) ?_
  refine lv_aload_n hx hb dX10_gain_3 rfl (lv_at hl 0 rfl) ?_
  refine g_geti hC hW (o := 0) (ci := 10) (k := 16) zm_k0 zm_b0 rfl hi10 (by decide) rfl (by decide +kernel) dX10_gain_4 ?_
  refine lv_iconst (v := 1) hx hb dX10_gain_7 (by decide) ?_
  refine lv_isub hx hb dX10_gain_8 ?_
  obtain ⟨r1, hg, hf⟩ := ob_inv hf
  refine g_cSi hC hW (As := [.int p1, .int 0, .int ((me 0 16) - 1)]) (rest := [.ref (G.2.2.1 0)]) (c_X10_in l G  hg) (va_cwS 3 hts gX10_gain_X10_in rfl rfl rfl (by decide +kernel) ⟨Nat.le_of_ble_eq_true rfl, Nat.le_of_ble_eq_true rfl⟩) rfl hl.1 rfl (Nat.le_of_ble_eq_true rfl) dX10_gain_9 ⟨Nat.le_of_ble_eq_true rfl, Nat.le_of_ble_eq_true rfl⟩ (fun H locs hW => ?_)
  obtain ⟨⟨r2, m3⟩, hg, hf⟩ := ob_inv hf
  have hf := ob_inv2 hf
  refine g_cVi hC hW (o := 0) (ci := 10) (As := [.int r1]) (rest := []) zm_k0 zm_b0 rfl (c_X10_isThere l G  hg) (cwV 1 hts gX10_gain_X10_isThere rfl rfl rfl (by decide +kernel) ⟨Nat.le_of_ble_eq_true rfl, Nat.le_of_ble_eq_true rfl⟩) rfl hl.1 rfl (Nat.le_of_ble_eq_true rfl) dX10_gain_12 ⟨Nat.le_of_ble_eq_true rfl, Nat.le_of_ble_eq_true rfl⟩ (fun H locs hW => ?_)
  obtain ⟨z6, hg, hf⟩ := ob_inv hf
  have hJ38 : ∀ (H : Heap) (locs : List Loc) (ls : Array Slot), g_H ZM G s H locs m3 → lv_has ls 2 [] → W p l e (headSpec wsX10_gain rmX10_gain).room s m ([.ref (G.2.2.1 0), .int p1] : List Value).toArray below meth c H locs 0 0 Q (F0 m 38 ls [.int z6]) := by
    intro H locs ls hW hl
    cases hf
    subst hQ
    exact g_iret hC hW hr hlocks rfl rfl dX10_gain_38
  replace hf := hg
  refine lv_if_eq (tgt := 37) hx hb dX10_gain_15 (by decide) (fun c5 => ?_) (fun c5 => ?_)
  · have hf := a_if_t c5 hf
    refine lv_iconst (v := 0) hx hb dX10_gain_37 (by decide) ?_
    cases hf
    exact hJ38 H locs ls hW (lv_sub hl [] rfl)
  · have hf := a_if_f c5 hf
    refine lv_aload_n hx hb dX10_gain_18 rfl (lv_at hl 0 rfl) ?_
    refine lv_iload_n hx hb dX10_gain_19 rfl (lv_at hl 1 rfl) ?_
    refine lv_aload_n hx hb dX10_gain_20 rfl (lv_at hl 0 rfl) ?_
    refine g_getr hC hW (o := 0) (ci := 10) (k := 48) zm_k0 zm_b0 rfl hi10 (by decide) rfl (t := 41) zm_r0_48 (by decide +kernel) dX10_gain_21 ?_
    refine lv_bipush (v := 12) hx hb dX10_gain_24 (by decide) ?_
    refine lv_aload_n hx hb dX10_gain_26 rfl (lv_at hl 0 rfl) ?_
    refine g_geti hC hW (o := 0) (ci := 10) (k := 0) zm_k0 zm_b0 rfl hi10 (by decide) rfl (by decide +kernel) dX10_gain_27 ?_
    refine lv_imul hx hb dX10_gain_30 ?_
    obtain ⟨r7, hg, hf⟩ := ob_inv hf
    refine g_cVi hC hW (o := 0) (ci := 10) (As := [.int p1, .ref (G.2.2.1 41), .int (12 * (m3 0 0))]) (rest := []) zm_k0 zm_b0 rfl (c_X10_gainOf l G zm_k41 zm_n41 hg) (cwV 3 hts gX10_gain_X10_gainOf rfl rfl rfl (by decide +kernel) ⟨Nat.le_of_ble_eq_true rfl, Nat.le_of_ble_eq_true rfl⟩) rfl hl.1 rfl (Nat.le_of_ble_eq_true rfl) dX10_gain_31 ⟨Nat.le_of_ble_eq_true rfl, Nat.le_of_ble_eq_true rfl⟩ (fun H locs hW => ?_)
    refine lv_goto (tgt := 38) hx hb dX10_gain_34 (by decide) ?_
    cases hf
    exact hJ38 H locs ls hW (lv_sub hl [] rfl)
abbrev rmX10_worthAnew : Room := { frames := 2, cells := 0, slots := 0, locals := 47 }
set_option maxHeartbeats 4000000 in
set_option maxRecDepth 100000 in
theorem c_X10_worthAnew (l : Launch) (G : gG)  {me : gM} {r0 : Int32} {m0 : gM}  (hf : f_X10_worthAnew me = some (r0, m0)) : Met l yX10_worthAnew wsX10_worthAnew rmX10_worthAnew (va_Pc [.ref (G.2.2.1 0)] (g_W ZM G me)) (g_Qi ZM G r0 m0) 0 0 (g_A ZM G) := by
  refine Met.ofW (cc := cX10_worthAnew) (maxL := 3) (ret := (some .int)) (by decide) rfl ?_
  intro p e s m args below meth c s₁ B hml hv
  obtain ⟨rfl, hW0⟩ := hv
  have hC : CallFix p m c cX10_worthAnew 3 s ([.ref (G.2.2.1 0)] : List Value).toArray wsX10_worthAnew RX10 := ⟨B.exec, B.bytes, hml, findClass_of_methodNamed B.named, atoms_spec (ws := wsX10_worthAnew) B.pre⟩
  have hx := hC.1
  have hb := hC.2.1
  have hown := hC.2.2.2.1
  have hts := hC.2.2.2.2
  have hr := B.returns
  have hlocks := B.notSynchronized
  have hW := g_H_enter hW0
  have hi10 : ∀ w ∈ wsX100, w ∈ wsX10_worthAnew := by decide +kernel
  have hl := lv_entry ([.ref (G.2.2.1 0)]) (n := 3) (Nat.le_of_ble_eq_true rfl)
  rw [lg_entry_eq]
  generalize (lg_sl ([.ref (G.2.2.1 0)]) ++ List.replicate (3 - (lg_sl ([.ref (G.2.2.1 0)])).length) Slot.unset).toArray = ls at hl ⊢
  have hl : lv_has ls 3 [(0, .ref (G.2.2.1 0))] := hl
  obtain ⟨Q, hQ⟩ : ∃ Q, Q = MQ below (g_Qi ZM G r0 m0) ([.ref (G.2.2.1 0)] : List Value).toArray s 0 0 (g_A ZM G) := ⟨_, rfl⟩
  refine g_goQ hQ ?_
  unfold f_X10_worthAnew at hf
  refine g_start hW (fun H locs hW => ?_)
  refine lv_aload_n hx hb dX10_worthAnew_0 rfl (lv_at hl 0 rfl) ?_
  refine lv_aload_n hx hb dX10_worthAnew_1 rfl (lv_at hl 0 rfl) ?_
  refine g_geti hC hW (o := 0) (ci := 10) (k := 1) zm_k0 zm_b0 rfl hi10 (by decide) rfl (by decide +kernel) dX10_worthAnew_2 ?_
  obtain ⟨z2, hg, hf⟩ := ob_inv hf
  have hJ13 : ∀ (H : Heap) (locs : List Loc) (ls : Array Slot), g_H ZM G s H locs me → lv_has ls 3 [(0, .ref (G.2.2.1 0))] → W p l e (headSpec wsX10_worthAnew rmX10_worthAnew).room s m ([.ref (G.2.2.1 0)] : List Value).toArray below meth c H locs 0 0 Q (F0 m 13 ls [.int z2, .ref (G.2.2.1 0)]) := by
    intro H locs ls hW hl
    obtain ⟨m3, h9, hf⟩ := ob_inv hf
    refine g_puti hC hW (o := 0) (ci := 10) (k := 67) zm_k0 zm_b0 rfl hi10 tyX10_ok nmX10 (by decide) rfl rfl rfl (by decide +kernel) dX10_worthAnew_13 (fun H locs hW => ?_)
    rw [Option.some.inj h9] at hW
    refine lv_aload_n hx hb dX10_worthAnew_16 rfl (lv_at hl 0 rfl) ?_
    refine g_geti hC hW (o := 0) (ci := 10) (k := 67) zm_k0 zm_b0 rfl hi10 (by decide) rfl (by decide +kernel) dX10_worthAnew_17 ?_
    obtain ⟨z5, hg, hf⟩ := ob_inv hf
    have hJ35 : ∀ (H : Heap) (locs : List Loc) (ls : Array Slot), g_H ZM G s H locs m3 → lv_has ls 3 [(0, .ref (G.2.2.1 0))] → W p l e (headSpec wsX10_worthAnew rmX10_worthAnew).room s m ([.ref (G.2.2.1 0)] : List Value).toArray below meth c H locs 0 0 Q (F0 m 35 ls [.int z5]) := by
      intro H locs ls hW hl
      refine lv_istore_n (lv' := [(1, .int z5), (0, .ref (G.2.2.1 0))]) hx hb dX10_worthAnew_35 rfl hl (by decide) rfl (fun ls hl => ?_)
      refine lv_iconst (v := 0) hx hb dX10_worthAnew_36 (by decide) ?_
      refine lv_istore_n (lv' := [(2, .int 0), (1, .int z5), (0, .ref (G.2.2.1 0))]) hx hb dX10_worthAnew_37 rfl hl (by decide) rfl (fun ls hl => ?_)
      have hL38 : ∀ (n : Nat) (x7 : Int32) (x8 : Int32) (y9 : Int32) (y10 : Int32) (H : Heap) (locs : List Loc) (ls : Array Slot), f_X10_worthAnew_L38 m3 n x7 x8 = some (y9, y10) → g_H ZM G s H locs m3 → lv_has ls 3 [(0, .ref (G.2.2.1 0)), (1, .int x7), (2, .int x8)] → (∀ (H : Heap) (locs : List Loc) (ls : Array Slot), g_H ZM G s H locs m3 → lv_has ls 3 [(1, .int y9)] → W p l e (headSpec wsX10_worthAnew rmX10_worthAnew).room s m ([.ref (G.2.2.1 0)] : List Value).toArray below meth c H locs 0 0 Q (F0 m 95 ls [])) → W p l e (headSpec wsX10_worthAnew rmX10_worthAnew).room s m ([.ref (G.2.2.1 0)] : List Value).toArray below meth c H locs 0 0 Q (F0 m 38 ls []) := by
        intro n
        induction n with
        | zero =>
          intro x7 x8 y9 y10 H locs ls hf hW hl hE
          cases hf
        | succ n ih =>
          intro x7 x8 y9 y10 H locs ls hf hW hl hE
          rw [f_X10_worthAnew_L38] at hf
          refine lv_iload_n hx hb dX10_worthAnew_38 rfl (lv_at hl 2 rfl) ?_
          refine lv_aload_n hx hb dX10_worthAnew_39 rfl (lv_at hl 0 rfl) ?_
          refine g_geti hC hW (o := 0) (ci := 10) (k := 7) zm_k0 zm_b0 rfl hi10 (by decide) rfl (by decide +kernel) dX10_worthAnew_40 ?_
          refine lv_icmp_ge (tgt := 95) hx hb dX10_worthAnew_43 (by decide) (fun c11 => ?_) (fun c11 => ?_)
          · have hf := a_if_t c11 hf
            cases hf
            exact hE H locs ls hW (lv_sub hl [1] rfl)
          · have hf := a_if_f c11 hf
            refine lv_aload_n hx hb dX10_worthAnew_46 rfl (lv_at hl 0 rfl) ?_
            refine g_geti hC hW (o := 0) (ci := 10) (k := 67) zm_k0 zm_b0 rfl hi10 (by decide) rfl (by decide +kernel) dX10_worthAnew_47 ?_
            refine lv_if_ne (tgt := 95) hx hb dX10_worthAnew_50 (by decide) (fun c12 => ?_) (fun c12 => ?_)
            · have hf := a_if_f c12 hf
              cases hf
              exact hE H locs ls hW (lv_sub hl [1] rfl)
            · have hf := a_if_t c12 hf
              refine lv_iload_n hx hb dX10_worthAnew_53 rfl (lv_at hl 1 rfl) ?_
              refine lv_aload_n hx hb dX10_worthAnew_54 rfl (lv_at hl 0 rfl) ?_
              refine g_getr hC hW (o := 0) (ci := 10) (k := 11) zm_k0 zm_b0 rfl hi10 (by decide) rfl (t := 8) zm_r0_11 (by decide +kernel) dX10_worthAnew_55 ?_
              refine lv_iload_n hx hb dX10_worthAnew_58 rfl (lv_at hl 2 rfl) ?_
              obtain ⟨v13, h9, hf⟩ := ob_inv hf
              refine g_ild hC hW zm_k8 zm_b8 zm_n8 h9 dX10_worthAnew_59 ?_
              refine lv_iconst (v := 1) hx hb dX10_worthAnew_60 (by decide) ?_
              obtain ⟨z15, hg, hf⟩ := ob_inv hf
              have hJ80 : ∀ (H : Heap) (locs : List Loc) (ls : Array Slot), g_H ZM G s H locs m3 → lv_has ls 3 [(0, .ref (G.2.2.1 0)), (2, .int x8)] → W p l e (headSpec wsX10_worthAnew rmX10_worthAnew).room s m ([.ref (G.2.2.1 0)] : List Value).toArray below meth c H locs 0 0 Q (F0 m 80 ls [.int z15, .int x7]) := by
                intro H locs ls hW hl
                refine lv_aload_n hx hb dX10_worthAnew_80 rfl (lv_at hl 0 rfl) ?_
                refine g_getr hC hW (o := 0) (ci := 10) (k := 12) zm_k0 zm_b0 rfl hi10 (by decide) rfl (t := 9) zm_r0_12 (by decide +kernel) dX10_worthAnew_81 ?_
                refine lv_iload_n hx hb dX10_worthAnew_84 rfl (lv_at hl 1 rfl) ?_
                obtain ⟨v18, h9, hf⟩ := ob_inv hf
                refine g_ild hC hW zm_k9 zm_b9 zm_n9 h9 dX10_worthAnew_85 ?_
                refine lv_imul hx hb dX10_worthAnew_86 ?_
                refine lv_iadd hx hb dX10_worthAnew_87 ?_
                obtain ⟨x19, h9, hf⟩ := ob_inv hf
                refine g_nmi (Option.some.inj h9) ?_
                refine lv_istore_n (lv' := [(1, .int x19), (0, .ref (G.2.2.1 0)), (2, .int x8)]) hx hb dX10_worthAnew_88 rfl hl (by decide) rfl (fun ls hl => ?_)
                refine lv_iinc (v := (x8 + 1)) (lv' := [(2, .int (x8 + 1)), (1, .int x19), (0, .ref (G.2.2.1 0))]) hx hb dX10_worthAnew_89 hl (k := 2) rfl (congrArg (fun z => x8 + z) (by decide)) (by decide) rfl (fun ls hl => ?_)
                refine lv_goto (tgt := 38) hx hb dX10_worthAnew_92 (by decide) ?_
                exact ih _ _ _ _ _ _ _ hf hW (lv_sub hl [2, 1, 0] rfl) hE
              replace hf := hg
              refine lv_icmp_ne (tgt := 73) hx hb dX10_worthAnew_61 (by decide) (fun c14 => ?_) (fun c14 => ?_)
              · have hf := a_if_f c14 hf
                refine lv_aload_n hx hb dX10_worthAnew_73 rfl (lv_at hl 0 rfl) ?_
                refine g_getr hC hW (o := 0) (ci := 10) (k := 14) zm_k0 zm_b0 rfl hi10 (by decide) rfl (t := 11) zm_r0_14 (by decide +kernel) dX10_worthAnew_74 ?_
                refine lv_iload_n hx hb dX10_worthAnew_77 rfl (lv_at hl 2 rfl) ?_
                obtain ⟨v16, h9, hf⟩ := ob_inv hf
                refine g_ild hC hW zm_k11 zm_b11 zm_n11 h9 dX10_worthAnew_78 ?_
                refine lv_ineg hx hb dX10_worthAnew_79 ?_
                cases hf
                exact hJ80 H locs ls hW (lv_sub hl [0, 2] rfl)
              · have hf := a_if_t c14 hf
                refine lv_aload_n hx hb dX10_worthAnew_64 rfl (lv_at hl 0 rfl) ?_
                refine g_getr hC hW (o := 0) (ci := 10) (k := 14) zm_k0 zm_b0 rfl hi10 (by decide) rfl (t := 11) zm_r0_14 (by decide +kernel) dX10_worthAnew_65 ?_
                refine lv_iload_n hx hb dX10_worthAnew_68 rfl (lv_at hl 2 rfl) ?_
                obtain ⟨v17, h9, hf⟩ := ob_inv hf
                refine g_ild hC hW zm_k11 zm_b11 zm_n11 h9 dX10_worthAnew_69 ?_
                refine lv_goto (tgt := 80) hx hb dX10_worthAnew_70 (by decide) ?_
                cases hf
                exact hJ80 H locs ls hW (lv_sub hl [0, 2] rfl)
      obtain ⟨⟨y9, y10⟩, hg, hf⟩ := ob_inv hf
      have hf := ob_inv2 hf
      refine hL38 _ _ _ _ _ _ _ _ hg hW (lv_sub hl [2, 1, 0] rfl) (fun H locs ls hW hl => ?_)
      refine lv_iload_n hx hb dX10_worthAnew_95 rfl (lv_at hl 0 rfl) ?_
      cases hf
      subst hQ
      exact g_iret hC hW hr hlocks rfl rfl dX10_worthAnew_96
    replace hf := hg
    refine lv_if_ne (tgt := 34) hx hb dX10_worthAnew_20 (by decide) (fun c4 => ?_) (fun c4 => ?_)
    · have hf := a_if_f c4 hf
      refine lv_iconst (v := 0) hx hb dX10_worthAnew_34 (by decide) ?_
      cases hf
      exact hJ35 H locs ls hW (lv_sub hl [0] rfl)
    · have hf := a_if_t c4 hf
      refine lv_aload_n hx hb dX10_worthAnew_23 rfl (lv_at hl 0 rfl) ?_
      refine lv_aload_n hx hb dX10_worthAnew_24 rfl (lv_at hl 0 rfl) ?_
      refine g_geti hC hW (o := 0) (ci := 10) (k := 25) zm_k0 zm_b0 rfl hi10 (by decide) rfl (by decide +kernel) dX10_worthAnew_25 ?_
      obtain ⟨r6, hg, hf⟩ := ob_inv hf
      refine g_cVi hC hW (o := 0) (ci := 10) (As := [.int (m3 0 25)]) (rest := []) zm_k0 zm_b0 rfl (c_X10_worthOfBlocks l G  hg) (cwV 1 hts gX10_worthAnew_X10_worthOfBlocks rfl rfl rfl (by decide +kernel) ⟨Nat.le_of_ble_eq_true rfl, Nat.le_of_ble_eq_true rfl⟩) rfl hl.1 rfl (Nat.le_of_ble_eq_true rfl) dX10_worthAnew_28 ⟨Nat.le_of_ble_eq_true rfl, Nat.le_of_ble_eq_true rfl⟩ (fun H locs hW => ?_)
      refine lv_goto (tgt := 35) hx hb dX10_worthAnew_31 (by decide) ?_
      cases hf
      exact hJ35 H locs ls hW (lv_sub hl [0] rfl)
  replace hf := hg
  refine lv_if_ne (tgt := 12) hx hb dX10_worthAnew_5 (by decide) (fun c1 => ?_) (fun c1 => ?_)
  · have hf := a_if_f c1 hf
    refine lv_iconst (v := 0) hx hb dX10_worthAnew_12 (by decide) ?_
    cases hf
    exact hJ13 H locs ls hW (lv_sub hl [0] rfl)
  · have hf := a_if_t c1 hf
    refine lv_iconst (v := 1) hx hb dX10_worthAnew_8 (by decide) ?_
    refine lv_goto (tgt := 13) hx hb dX10_worthAnew_9 (by decide) ?_
    cases hf
    exact hJ13 H locs ls hW (lv_sub hl [0] rfl)
abbrev rmX10_given : Room := { frames := 1, cells := 0, slots := 0, locals := 22 }
set_option maxHeartbeats 4000000 in
set_option maxRecDepth 100000 in
theorem c_X10_given (l : Launch) (G : gG) {p1 : Int32} {me : gM} {r0 : Int32} {m0 : gM}  (hf : f_X10_given p1 me = some (r0, m0)) : Met l yX10_given wsX10_given rmX10_given (va_Pc [.ref (G.2.2.1 0), .int p1] (g_W ZM G me)) (g_Qi ZM G r0 m0) 0 0 (g_A ZM G) := by
  refine Met.ofW (cc := cX10_given) (maxL := 2) (ret := (some .int)) (by decide) rfl ?_
  intro p e s m args below meth c s₁ B hml hv
  obtain ⟨rfl, hW0⟩ := hv
  have hC : CallFix p m c cX10_given 2 s ([.ref (G.2.2.1 0), .int p1] : List Value).toArray wsX10_given RX10 := ⟨B.exec, B.bytes, hml, findClass_of_methodNamed B.named, atoms_spec (ws := wsX10_given) B.pre⟩
  have hx := hC.1
  have hb := hC.2.1
  have hown := hC.2.2.2.1
  have hts := hC.2.2.2.2
  have hr := B.returns
  have hlocks := B.notSynchronized
  have hW := g_H_enter hW0
  have hi10 : ∀ w ∈ wsX100, w ∈ wsX10_given := by decide +kernel
  have hl := lv_entry ([.ref (G.2.2.1 0), .int p1]) (n := 2) (Nat.le_of_ble_eq_true rfl)
  rw [lg_entry_eq]
  generalize (lg_sl ([.ref (G.2.2.1 0), .int p1]) ++ List.replicate (2 - (lg_sl ([.ref (G.2.2.1 0), .int p1])).length) Slot.unset).toArray = ls at hl ⊢
  have hl : lv_has ls 2 [(0, .ref (G.2.2.1 0)), (1, .int p1)] := hl
  obtain ⟨Q, hQ⟩ : ∃ Q, Q = MQ below (g_Qi ZM G r0 m0) ([.ref (G.2.2.1 0), .int p1] : List Value).toArray s 0 0 (g_A ZM G) := ⟨_, rfl⟩
  refine g_goQ hQ ?_
  unfold f_X10_given at hf
  refine g_start hW (fun H locs hW => ?_)
  refine lv_aload_n hx hb dX10_given_0 rfl (lv_at hl 0 rfl) ?_
  refine lv_iload_n hx hb dX10_given_1 rfl (lv_at hl 1 rfl) ?_
  refine lv_iconst (v := 0) hx hb dX10_given_2 (by decide) ?_
  refine lv_aload_n hx hb dX10_given_3 rfl (lv_at hl 0 rfl) ?_
  refine g_geti hC hW (o := 0) (ci := 10) (k := 26) zm_k0 zm_b0 rfl hi10 (by decide) rfl (by decide +kernel) dX10_given_4 ?_
  refine lv_iconst (v := 1) hx hb dX10_given_7 (by decide) ?_
  refine lv_isub hx hb dX10_given_8 ?_
  obtain ⟨r1, hg, hf⟩ := ob_inv hf
  refine g_cSi hC hW (As := [.int p1, .int 0, .int ((me 0 26) - 1)]) (rest := [.ref (G.2.2.1 0)]) (c_X10_in l G  hg) (va_cwS 3 hts gX10_given_X10_in rfl rfl rfl (by decide +kernel) ⟨Nat.le_of_ble_eq_true rfl, Nat.le_of_ble_eq_true rfl⟩) rfl hl.1 rfl (Nat.le_of_ble_eq_true rfl) dX10_given_9 ⟨Nat.le_of_ble_eq_true rfl, Nat.le_of_ble_eq_true rfl⟩ (fun H locs hW => ?_)
  obtain ⟨⟨r2, m3⟩, hg, hf⟩ := ob_inv hf
  have hf := ob_inv2 hf
  refine g_cVi hC hW (o := 0) (ci := 10) (As := [.int r1]) (rest := []) zm_k0 zm_b0 rfl (c_X10_isThere l G  hg) (cwV 1 hts gX10_given_X10_isThere rfl rfl rfl (by decide +kernel) ⟨Nat.le_of_ble_eq_true rfl, Nat.le_of_ble_eq_true rfl⟩) rfl hl.1 rfl (Nat.le_of_ble_eq_true rfl) dX10_given_12 ⟨Nat.le_of_ble_eq_true rfl, Nat.le_of_ble_eq_true rfl⟩ (fun H locs hW => ?_)
  obtain ⟨z6, hg, hf⟩ := ob_inv hf
  have hJ28 : ∀ (H : Heap) (locs : List Loc) (ls : Array Slot), g_H ZM G s H locs m3 → lv_has ls 2 [] → W p l e (headSpec wsX10_given rmX10_given).room s m ([.ref (G.2.2.1 0), .int p1] : List Value).toArray below meth c H locs 0 0 Q (F0 m 28 ls [.int z6]) := by
    intro H locs ls hW hl
    cases hf
    subst hQ
    exact g_iret hC hW hr hlocks rfl rfl dX10_given_28
  replace hf := hg
  refine lv_if_eq (tgt := 27) hx hb dX10_given_15 (by decide) (fun c5 => ?_) (fun c5 => ?_)
  · have hf := a_if_t c5 hf
    refine lv_iconst (v := 0) hx hb dX10_given_27 (by decide) ?_
    cases hf
    exact hJ28 H locs ls hW (lv_sub hl [] rfl)
  · have hf := a_if_f c5 hf
    refine lv_aload_n hx hb dX10_given_18 rfl (lv_at hl 0 rfl) ?_
    refine g_getr hC hW (o := 0) (ci := 10) (k := 32) zm_k0 zm_b0 rfl hi10 (by decide) rfl (t := 26) zm_r0_32 (by decide +kernel) dX10_given_19 ?_
    refine lv_iload_n hx hb dX10_given_22 rfl (lv_at hl 1 rfl) ?_
    obtain ⟨v7, h9, hf⟩ := ob_inv hf
    refine g_ild hC hW zm_k26 zm_b26 zm_n26 h9 dX10_given_23 ?_
    refine lv_goto (tgt := 28) hx hb dX10_given_24 (by decide) ?_
    cases hf
    exact hJ28 H locs ls hW (lv_sub hl [] rfl)
abbrev rmX10_left : Room := { frames := 1, cells := 0, slots := 0, locals := 22 }
set_option maxHeartbeats 4000000 in
set_option maxRecDepth 100000 in
theorem c_X10_left (l : Launch) (G : gG) {p1 : Int32} {me : gM} {r0 : Int32} {m0 : gM}  (hf : f_X10_left p1 me = some (r0, m0)) : Met l yX10_left wsX10_left rmX10_left (va_Pc [.ref (G.2.2.1 0), .int p1] (g_W ZM G me)) (g_Qi ZM G r0 m0) 0 0 (g_A ZM G) := by
  refine Met.ofW (cc := cX10_left) (maxL := 2) (ret := (some .int)) (by decide) rfl ?_
  intro p e s m args below meth c s₁ B hml hv
  obtain ⟨rfl, hW0⟩ := hv
  have hC : CallFix p m c cX10_left 2 s ([.ref (G.2.2.1 0), .int p1] : List Value).toArray wsX10_left RX10 := ⟨B.exec, B.bytes, hml, findClass_of_methodNamed B.named, atoms_spec (ws := wsX10_left) B.pre⟩
  have hx := hC.1
  have hb := hC.2.1
  have hown := hC.2.2.2.1
  have hts := hC.2.2.2.2
  have hr := B.returns
  have hlocks := B.notSynchronized
  have hW := g_H_enter hW0
  have hi10 : ∀ w ∈ wsX100, w ∈ wsX10_left := by decide +kernel
  have hl := lv_entry ([.ref (G.2.2.1 0), .int p1]) (n := 2) (Nat.le_of_ble_eq_true rfl)
  rw [lg_entry_eq]
  generalize (lg_sl ([.ref (G.2.2.1 0), .int p1]) ++ List.replicate (2 - (lg_sl ([.ref (G.2.2.1 0), .int p1])).length) Slot.unset).toArray = ls at hl ⊢
  have hl : lv_has ls 2 [(0, .ref (G.2.2.1 0)), (1, .int p1)] := hl
  obtain ⟨Q, hQ⟩ : ∃ Q, Q = MQ below (g_Qi ZM G r0 m0) ([.ref (G.2.2.1 0), .int p1] : List Value).toArray s 0 0 (g_A ZM G) := ⟨_, rfl⟩
  refine g_goQ hQ ?_
  unfold f_X10_left at hf
  refine g_start hW (fun H locs hW => ?_)
  refine lv_aload_n hx hb dX10_left_0 rfl (lv_at hl 0 rfl) ?_
  refine lv_iload_n hx hb dX10_left_1 rfl (lv_at hl 1 rfl) ?_
  refine lv_iconst (v := 0) hx hb dX10_left_2 (by decide) ?_
  refine lv_aload_n hx hb dX10_left_3 rfl (lv_at hl 0 rfl) ?_
  refine g_geti hC hW (o := 0) (ci := 10) (k := 33) zm_k0 zm_b0 rfl hi10 (by decide) rfl (by decide +kernel) dX10_left_4 ?_
  refine lv_iconst (v := 1) hx hb dX10_left_7 (by decide) ?_
  refine lv_isub hx hb dX10_left_8 ?_
  obtain ⟨r1, hg, hf⟩ := ob_inv hf
  refine g_cSi hC hW (As := [.int p1, .int 0, .int ((me 0 33) - 1)]) (rest := [.ref (G.2.2.1 0)]) (c_X10_in l G  hg) (va_cwS 3 hts gX10_left_X10_in rfl rfl rfl (by decide +kernel) ⟨Nat.le_of_ble_eq_true rfl, Nat.le_of_ble_eq_true rfl⟩) rfl hl.1 rfl (Nat.le_of_ble_eq_true rfl) dX10_left_9 ⟨Nat.le_of_ble_eq_true rfl, Nat.le_of_ble_eq_true rfl⟩ (fun H locs hW => ?_)
  obtain ⟨z3, hg, hf⟩ := ob_inv hf
  have hJ20 : ∀ (H : Heap) (locs : List Loc) (ls : Array Slot), g_H ZM G s H locs me → lv_has ls 2 [(0, .ref (G.2.2.1 0)), (1, .int p1)] → W p l e (headSpec wsX10_left rmX10_left).room s m ([.ref (G.2.2.1 0), .int p1] : List Value).toArray below meth c H locs 0 0 Q (F0 m 20 ls [.int z3, .ref (G.2.2.1 0)]) := by
    intro H locs ls hW hl
    obtain ⟨m4, h9, hf⟩ := ob_inv hf
    refine g_puti hC hW (o := 0) (ci := 10) (k := 67) zm_k0 zm_b0 rfl hi10 tyX10_ok nmX10 (by decide) rfl rfl rfl (by decide +kernel) dX10_left_20 (fun H locs hW => ?_)
    rw [Option.some.inj h9] at hW
    refine lv_aload_n hx hb dX10_left_23 rfl (lv_at hl 0 rfl) ?_
    refine g_geti hC hW (o := 0) (ci := 10) (k := 67) zm_k0 zm_b0 rfl hi10 (by decide) rfl (by decide +kernel) dX10_left_24 ?_
    obtain ⟨z6, hg, hf⟩ := ob_inv hf
    have hJ40 : ∀ (H : Heap) (locs : List Loc) (ls : Array Slot), g_H ZM G s H locs m4 → lv_has ls 2 [] → W p l e (headSpec wsX10_left rmX10_left).room s m ([.ref (G.2.2.1 0), .int p1] : List Value).toArray below meth c H locs 0 0 Q (F0 m 40 ls [.int z6]) := by
      intro H locs ls hW hl
      cases hf
      subst hQ
      exact g_iret hC hW hr hlocks rfl rfl dX10_left_40
    replace hf := hg
    refine lv_if_ne (tgt := 39) hx hb dX10_left_27 (by decide) (fun c5 => ?_) (fun c5 => ?_)
    · have hf := a_if_f c5 hf
      refine lv_iconst (v := 0) hx hb dX10_left_39 (by decide) ?_
      cases hf
      exact hJ40 H locs ls hW (lv_sub hl [] rfl)
    · have hf := a_if_t c5 hf
      refine lv_aload_n hx hb dX10_left_30 rfl (lv_at hl 0 rfl) ?_
      refine g_getr hC hW (o := 0) (ci := 10) (k := 39) zm_k0 zm_b0 rfl hi10 (by decide) rfl (t := 32) zm_r0_39 (by decide +kernel) dX10_left_31 ?_
      refine lv_iload_n hx hb dX10_left_34 rfl (lv_at hl 1 rfl) ?_
      obtain ⟨v7, h9, hf⟩ := ob_inv hf
      refine g_ild hC hW zm_k32 zm_b32 zm_n32 h9 dX10_left_35 ?_
      refine lv_goto (tgt := 40) hx hb dX10_left_36 (by decide) ?_
      cases hf
      exact hJ40 H locs ls hW (lv_sub hl [] rfl)
  replace hf := hg
  refine lv_if_eq (tgt := 19) hx hb dX10_left_12 (by decide) (fun c2 => ?_) (fun c2 => ?_)
  · have hf := a_if_t c2 hf
    refine lv_iconst (v := 1) hx hb dX10_left_19 (by decide) ?_
    cases hf
    exact hJ20 H locs ls hW (lv_sub hl [0, 1] rfl)
  · have hf := a_if_f c2 hf
    refine lv_iconst (v := 0) hx hb dX10_left_15 (by decide) ?_
    refine lv_goto (tgt := 20) hx hb dX10_left_16 (by decide) ?_
    cases hf
    exact hJ20 H locs ls hW (lv_sub hl [0, 1] rfl)
abbrev rmX10_plan : Room := { frames := 2, cells := 0, slots := 0, locals := 42 }
set_option maxHeartbeats 4000000 in
set_option maxRecDepth 100000 in
theorem c_X10_plan (l : Launch) (G : gG) {p1 : Int32} {p2 : Int32} {p3 : Int32} {p4 : Int32} {me : gM} {r0 : Int32} {m0 : gM}  (hf : f_X10_plan p1 p2 p3 p4 me = some (r0, m0)) : Met l yX10_plan wsX10_plan rmX10_plan (va_Pc [.ref (G.2.2.1 0), .int p1, .int p2, .int p3, .int p4] (g_W ZM G me)) (g_Qi ZM G r0 m0) 0 0 (g_A ZM G) := by
  refine Met.ofW (cc := cX10_plan) (maxL := 5) (ret := (some .int)) (by decide) rfl ?_
  intro p e s m args below meth c s₁ B hml hv
  obtain ⟨rfl, hW0⟩ := hv
  have hC : CallFix p m c cX10_plan 5 s ([.ref (G.2.2.1 0), .int p1, .int p2, .int p3, .int p4] : List Value).toArray wsX10_plan RX10 := ⟨B.exec, B.bytes, hml, findClass_of_methodNamed B.named, atoms_spec (ws := wsX10_plan) B.pre⟩
  have hx := hC.1
  have hb := hC.2.1
  have hown := hC.2.2.2.1
  have hts := hC.2.2.2.2
  have hr := B.returns
  have hlocks := B.notSynchronized
  have hW := g_H_enter hW0
  have hi10 : ∀ w ∈ wsX100, w ∈ wsX10_plan := by decide +kernel
  have hl := lv_entry ([.ref (G.2.2.1 0), .int p1, .int p2, .int p3, .int p4]) (n := 5) (Nat.le_of_ble_eq_true rfl)
  rw [lg_entry_eq]
  generalize (lg_sl ([.ref (G.2.2.1 0), .int p1, .int p2, .int p3, .int p4]) ++ List.replicate (5 - (lg_sl ([.ref (G.2.2.1 0), .int p1, .int p2, .int p3, .int p4])).length) Slot.unset).toArray = ls at hl ⊢
  have hl : lv_has ls 5 [(0, .ref (G.2.2.1 0)), (1, .int p1), (2, .int p2), (3, .int p3), (4, .int p4)] := hl
  obtain ⟨Q, hQ⟩ : ∃ Q, Q = MQ below (g_Qi ZM G r0 m0) ([.ref (G.2.2.1 0), .int p1, .int p2, .int p3, .int p4] : List Value).toArray s 0 0 (g_A ZM G) := ⟨_, rfl⟩
  refine g_goQ hQ ?_
  unfold f_X10_plan at hf
  refine g_start hW (fun H locs hW => ?_)
  refine lv_aload_n hx hb dX10_plan_0 rfl (lv_at hl 0 rfl) ?_
  refine lv_iload_n hx hb dX10_plan_1 rfl (lv_at hl 1 rfl) ?_
  refine lv_iconst (v := 0) hx hb dX10_plan_2 (by decide) ?_
  refine lv_aload_n hx hb dX10_plan_3 rfl (lv_at hl 0 rfl) ?_
  refine g_geti hC hW (o := 0) (ci := 10) (k := 0) zm_k0 zm_b0 rfl hi10 (by decide) rfl (by decide +kernel) dX10_plan_4 ?_
  obtain ⟨r1, hg, hf⟩ := ob_inv hf
  refine g_cSi hC hW (As := [.int p1, .int 0, .int (me 0 0)]) (rest := [.ref (G.2.2.1 0)]) (c_X10_in l G  hg) (va_cwS 3 hts gX10_plan_X10_in rfl rfl rfl (by decide +kernel) ⟨Nat.le_of_ble_eq_true rfl, Nat.le_of_ble_eq_true rfl⟩) rfl hl.1 rfl (Nat.le_of_ble_eq_true rfl) dX10_plan_7 ⟨Nat.le_of_ble_eq_true rfl, Nat.le_of_ble_eq_true rfl⟩ (fun H locs hW => ?_)
  obtain ⟨z3, hg, hf⟩ := ob_inv hf
  have hJ40 : ∀ (H : Heap) (locs : List Loc) (ls : Array Slot), g_H ZM G s H locs me → lv_has ls 5 [(0, .ref (G.2.2.1 0)), (1, .int p1), (2, .int p2), (3, .int p3), (4, .int p4)] → W p l e (headSpec wsX10_plan rmX10_plan).room s m ([.ref (G.2.2.1 0), .int p1, .int p2, .int p3, .int p4] : List Value).toArray below meth c H locs 0 0 Q (F0 m 40 ls [.int z3, .ref (G.2.2.1 0)]) := by
    intro H locs ls hW hl
    obtain ⟨m10, h9, hf⟩ := ob_inv hf
    refine g_puti hC hW (o := 0) (ci := 10) (k := 67) zm_k0 zm_b0 rfl hi10 tyX10_ok nmX10 (by decide) rfl rfl rfl (by decide +kernel) dX10_plan_40 (fun H locs hW => ?_)
    rw [Option.some.inj h9] at hW
    refine lv_aload_n hx hb dX10_plan_43 rfl (lv_at hl 0 rfl) ?_
    refine g_geti hC hW (o := 0) (ci := 10) (k := 67) zm_k0 zm_b0 rfl hi10 (by decide) rfl (by decide +kernel) dX10_plan_44 ?_
    obtain ⟨z12, hg, hf⟩ := ob_inv hf
    have hJ67 : ∀ (H : Heap) (locs : List Loc) (ls : Array Slot), g_H ZM G s H locs m10 → lv_has ls 5 [] → W p l e (headSpec wsX10_plan rmX10_plan).room s m ([.ref (G.2.2.1 0), .int p1, .int p2, .int p3, .int p4] : List Value).toArray below meth c H locs 0 0 Q (F0 m 67 ls [.int z12]) := by
      intro H locs ls hW hl
      cases hf
      subst hQ
      exact g_iret hC hW hr hlocks rfl rfl dX10_plan_67
    replace hf := hg
    refine lv_if_ne (tgt := 66) hx hb dX10_plan_47 (by decide) (fun c11 => ?_) (fun c11 => ?_)
    · have hf := a_if_f c11 hf
      refine lv_iconst (v := 0) hx hb dX10_plan_66 (by decide) ?_
      cases hf
      exact hJ67 H locs ls hW (lv_sub hl [] rfl)
    · have hf := a_if_t c11 hf
      refine lv_aload_n hx hb dX10_plan_50 rfl (lv_at hl 0 rfl) ?_
      refine g_getr hC hW (o := 0) (ci := 10) (k := 49) zm_k0 zm_b0 rfl hi10 (by decide) rfl (t := 42) zm_r0_49 (by decide +kernel) dX10_plan_51 ?_
      refine lv_iload_n hx hb dX10_plan_54 rfl (lv_at hl 1 rfl) ?_
      refine lv_iload_n hx hb dX10_plan_55 rfl (lv_at hl 2 rfl) ?_
      refine lv_iload_n hx hb dX10_plan_56 rfl (lv_at hl 3 rfl) ?_
      refine lv_iload hx hb dX10_plan_57 (lv_at hl 4 rfl) ?_
      obtain ⟨r13, hg, hf⟩ := ob_inv hf
      refine g_cSi hC hW (As := [.int p1, .int p2, .int p3, .int p4]) (rest := [.ref (G.2.2.1 42)]) (c_X10_placeOf l G  hg) (va_cwS 4 hts gX10_plan_X10_placeOf rfl rfl rfl (by decide +kernel) ⟨Nat.le_of_ble_eq_true rfl, Nat.le_of_ble_eq_true rfl⟩) rfl hl.1 rfl (Nat.le_of_ble_eq_true rfl) dX10_plan_59 ⟨Nat.le_of_ble_eq_true rfl, Nat.le_of_ble_eq_true rfl⟩ (fun H locs hW => ?_)
      obtain ⟨v14, h9, hf⟩ := ob_inv hf
      refine g_ild hC hW zm_k42 zm_b42 zm_n42 h9 dX10_plan_62 ?_
      refine lv_goto (tgt := 67) hx hb dX10_plan_63 (by decide) ?_
      cases hf
      exact hJ67 H locs ls hW (lv_sub hl [] rfl)
  replace hf := hg
  refine lv_if_eq (tgt := 35) hx hb dX10_plan_10 (by decide) (fun c2 => ?_) (fun c2 => ?_)
  · have hf := a_if_t c2 hf
    refine lv_iconst (v := 1) hx hb dX10_plan_35 (by decide) ?_
    refine lv_goto (tgt := 40) hx hb dX10_plan_36 (by decide) ?_
    cases hf
    exact hJ40 H locs ls hW (lv_sub hl [0, 1, 2, 3, 4] rfl)
  · have hf := a_if_f c2 hf
    refine lv_iload_n hx hb dX10_plan_13 rfl (lv_at hl 2 rfl) ?_
    obtain ⟨r4, hg, hf⟩ := ob_inv hf
    refine g_cSi hC hW (As := [.int p2]) (rest := [.ref (G.2.2.1 0)]) (c_X10_isFirm l G  hg) (va_cwS 1 hts gX10_plan_X10_isFirm rfl rfl rfl (by decide +kernel) ⟨Nat.le_of_ble_eq_true rfl, Nat.le_of_ble_eq_true rfl⟩) rfl hl.1 rfl (Nat.le_of_ble_eq_true rfl) dX10_plan_14 ⟨Nat.le_of_ble_eq_true rfl, Nat.le_of_ble_eq_true rfl⟩ (fun H locs hW => ?_)
    refine lv_if_eq (tgt := 35) hx hb dX10_plan_17 (by decide) (fun c5 => ?_) (fun c5 => ?_)
    · have hf := a_if_t c5 hf
      refine lv_iconst (v := 1) hx hb dX10_plan_35 (by decide) ?_
      refine lv_goto (tgt := 40) hx hb dX10_plan_36 (by decide) ?_
      cases hf
      exact hJ40 H locs ls hW (lv_sub hl [0, 1, 2, 3, 4] rfl)
    · have hf := a_if_f c5 hf
      refine lv_iload_n hx hb dX10_plan_20 rfl (lv_at hl 3 rfl) ?_
      obtain ⟨r6, hg, hf⟩ := ob_inv hf
      refine g_cSi hC hW (As := [.int p3]) (rest := [.ref (G.2.2.1 0)]) (c_X10_isZone l G  hg) (va_cwS 1 hts gX10_plan_X10_isZone rfl rfl rfl (by decide +kernel) ⟨Nat.le_of_ble_eq_true rfl, Nat.le_of_ble_eq_true rfl⟩) rfl hl.1 rfl (Nat.le_of_ble_eq_true rfl) dX10_plan_21 ⟨Nat.le_of_ble_eq_true rfl, Nat.le_of_ble_eq_true rfl⟩ (fun H locs hW => ?_)
      refine lv_if_eq (tgt := 35) hx hb dX10_plan_24 (by decide) (fun c7 => ?_) (fun c7 => ?_)
      · have hf := a_if_t c7 hf
        refine lv_iconst (v := 1) hx hb dX10_plan_35 (by decide) ?_
        refine lv_goto (tgt := 40) hx hb dX10_plan_36 (by decide) ?_
        cases hf
        exact hJ40 H locs ls hW (lv_sub hl [0, 1, 2, 3, 4] rfl)
      · have hf := a_if_f c7 hf
        refine lv_iload hx hb dX10_plan_27 (lv_at hl 4 rfl) ?_
        obtain ⟨r8, hg, hf⟩ := ob_inv hf
        refine g_cSi hC hW (As := [.int p4]) (rest := [.ref (G.2.2.1 0)]) (c_X10_isHour l G  hg) (va_cwS 1 hts gX10_plan_X10_isHour rfl rfl rfl (by decide +kernel) ⟨Nat.le_of_ble_eq_true rfl, Nat.le_of_ble_eq_true rfl⟩) rfl hl.1 rfl (Nat.le_of_ble_eq_true rfl) dX10_plan_29 ⟨Nat.le_of_ble_eq_true rfl, Nat.le_of_ble_eq_true rfl⟩ (fun H locs hW => ?_)
        refine lv_if_ne (tgt := 39) hx hb dX10_plan_32 (by decide) (fun c9 => ?_) (fun c9 => ?_)
        · have hf := a_if_f c9 hf
          refine lv_iconst (v := 0) hx hb dX10_plan_39 (by decide) ?_
          cases hf
          exact hJ40 H locs ls hW (lv_sub hl [0, 1, 2, 3, 4] rfl)
        · have hf := a_if_t c9 hf
          refine lv_iconst (v := 1) hx hb dX10_plan_35 (by decide) ?_
          refine lv_goto (tgt := 40) hx hb dX10_plan_36 (by decide) ?_
          cases hf
          exact hJ40 H locs ls hW (lv_sub hl [0, 1, 2, 3, 4] rfl)
abbrev rmX10_gap : Room := { frames := 3, cells := 0, slots := 0, locals := 73 }
set_option maxHeartbeats 4000000 in
set_option maxRecDepth 100000 in
theorem c_X10_gap (l : Launch) (G : gG) {p1 : Int32} {p2 : Int32} {me : gM} {r0 : Int32} {m0 : gM}  (hf : f_X10_gap p1 p2 me = some (r0, m0)) : Met l yX10_gap wsX10_gap rmX10_gap (va_Pc [.ref (G.2.2.1 0), .int p1, .int p2] (g_W ZM G me)) (g_Qi ZM G r0 m0) 0 0 (g_A ZM G) := by
  refine Met.ofW (cc := cX10_gap) (maxL := 3) (ret := (some .int)) (by decide) rfl ?_
  intro p e s m args below meth c s₁ B hml hv
  obtain ⟨rfl, hW0⟩ := hv
  have hC : CallFix p m c cX10_gap 3 s ([.ref (G.2.2.1 0), .int p1, .int p2] : List Value).toArray wsX10_gap RX10 := ⟨B.exec, B.bytes, hml, findClass_of_methodNamed B.named, atoms_spec (ws := wsX10_gap) B.pre⟩
  have hx := hC.1
  have hb := hC.2.1
  have hown := hC.2.2.2.1
  have hts := hC.2.2.2.2
  have hr := B.returns
  have hlocks := B.notSynchronized
  have hW := g_H_enter hW0
  have hi10 : ∀ w ∈ wsX100, w ∈ wsX10_gap := by decide +kernel
  have hl := lv_entry ([.ref (G.2.2.1 0), .int p1, .int p2]) (n := 3) (Nat.le_of_ble_eq_true rfl)
  rw [lg_entry_eq]
  generalize (lg_sl ([.ref (G.2.2.1 0), .int p1, .int p2]) ++ List.replicate (3 - (lg_sl ([.ref (G.2.2.1 0), .int p1, .int p2])).length) Slot.unset).toArray = ls at hl ⊢
  have hl : lv_has ls 3 [(0, .ref (G.2.2.1 0)), (1, .int p1), (2, .int p2)] := hl
  obtain ⟨Q, hQ⟩ : ∃ Q, Q = MQ below (g_Qi ZM G r0 m0) ([.ref (G.2.2.1 0), .int p1, .int p2] : List Value).toArray s 0 0 (g_A ZM G) := ⟨_, rfl⟩
  refine g_goQ hQ ?_
  unfold f_X10_gap at hf
  refine g_start hW (fun H locs hW => ?_)
  refine lv_aload_n hx hb dX10_gap_0 rfl (lv_at hl 0 rfl) ?_
  refine lv_aload_n hx hb dX10_gap_1 rfl (lv_at hl 0 rfl) ?_
  refine lv_iload_n hx hb dX10_gap_2 rfl (lv_at hl 1 rfl) ?_
  obtain ⟨r1, hg, hf⟩ := ob_inv hf
  refine g_cVi hC hW (o := 0) (ci := 10) (As := [.int p1]) (rest := [.ref (G.2.2.1 0)]) zm_k0 zm_b0 rfl (c_X10_isClosed l G  hg) (cwV 1 hts gX10_gap_X10_isClosed rfl rfl rfl (by decide +kernel) ⟨Nat.le_of_ble_eq_true rfl, Nat.le_of_ble_eq_true rfl⟩) rfl hl.1 rfl (Nat.le_of_ble_eq_true rfl) dX10_gap_3 ⟨Nat.le_of_ble_eq_true rfl, Nat.le_of_ble_eq_true rfl⟩ (fun H locs hW => ?_)
  obtain ⟨z3, hg, hf⟩ := ob_inv hf
  have hJ21 : ∀ (H : Heap) (locs : List Loc) (ls : Array Slot), g_H ZM G s H locs me → lv_has ls 3 [(0, .ref (G.2.2.1 0)), (1, .int p1), (2, .int p2)] → W p l e (headSpec wsX10_gap rmX10_gap).room s m ([.ref (G.2.2.1 0), .int p1, .int p2] : List Value).toArray below meth c H locs 0 0 Q (F0 m 21 ls [.int z3, .ref (G.2.2.1 0)]) := by
    intro H locs ls hW hl
    obtain ⟨m6, h9, hf⟩ := ob_inv hf
    refine g_puti hC hW (o := 0) (ci := 10) (k := 67) zm_k0 zm_b0 rfl hi10 tyX10_ok nmX10 (by decide) rfl rfl rfl (by decide +kernel) dX10_gap_21 (fun H locs hW => ?_)
    rw [Option.some.inj h9] at hW
    refine lv_aload_n hx hb dX10_gap_24 rfl (lv_at hl 0 rfl) ?_
    refine g_geti hC hW (o := 0) (ci := 10) (k := 67) zm_k0 zm_b0 rfl hi10 (by decide) rfl (by decide +kernel) dX10_gap_25 ?_
    obtain ⟨z8, hg, hf⟩ := ob_inv hf
    have hJ41 : ∀ (H : Heap) (locs : List Loc) (ls : Array Slot), g_H ZM G s H locs m6 → lv_has ls 3 [] → W p l e (headSpec wsX10_gap rmX10_gap).room s m ([.ref (G.2.2.1 0), .int p1, .int p2] : List Value).toArray below meth c H locs 0 0 Q (F0 m 41 ls [.int z8]) := by
      intro H locs ls hW hl
      cases hf
      subst hQ
      exact g_iret hC hW hr hlocks rfl rfl dX10_gap_41
    replace hf := hg
    refine lv_if_ne (tgt := 40) hx hb dX10_gap_28 (by decide) (fun c7 => ?_) (fun c7 => ?_)
    · have hf := a_if_f c7 hf
      refine lv_iconst (v := 0) hx hb dX10_gap_40 (by decide) ?_
      cases hf
      exact hJ41 H locs ls hW (lv_sub hl [] rfl)
    · have hf := a_if_t c7 hf
      refine lv_aload_n hx hb dX10_gap_31 rfl (lv_at hl 0 rfl) ?_
      refine lv_iload_n hx hb dX10_gap_32 rfl (lv_at hl 1 rfl) ?_
      refine lv_iload_n hx hb dX10_gap_33 rfl (lv_at hl 2 rfl) ?_
      obtain ⟨r9, hg, hf⟩ := ob_inv hf
      refine g_cVi hC hW (o := 0) (ci := 10) (As := [.int p1, .int p2]) (rest := []) zm_k0 zm_b0 rfl (c_X10_gapIn l G  hg) (cwV 2 hts gX10_gap_X10_gapIn rfl rfl rfl (by decide +kernel) ⟨Nat.le_of_ble_eq_true rfl, Nat.le_of_ble_eq_true rfl⟩) rfl hl.1 rfl (Nat.le_of_ble_eq_true rfl) dX10_gap_34 ⟨Nat.le_of_ble_eq_true rfl, Nat.le_of_ble_eq_true rfl⟩ (fun H locs hW => ?_)
      refine lv_goto (tgt := 41) hx hb dX10_gap_37 (by decide) ?_
      cases hf
      exact hJ41 H locs ls hW (lv_sub hl [] rfl)
  replace hf := hg
  refine lv_if_eq (tgt := 20) hx hb dX10_gap_6 (by decide) (fun c2 => ?_) (fun c2 => ?_)
  · have hf := a_if_t c2 hf
    refine lv_iconst (v := 1) hx hb dX10_gap_20 (by decide) ?_
    cases hf
    exact hJ21 H locs ls hW (lv_sub hl [0, 1, 2] rfl)
  · have hf := a_if_f c2 hf
    refine lv_iload_n hx hb dX10_gap_9 rfl (lv_at hl 2 rfl) ?_
    obtain ⟨r4, hg, hf⟩ := ob_inv hf
    refine g_cSi hC hW (As := [.int p2]) (rest := [.ref (G.2.2.1 0)]) (c_X10_isHour l G  hg) (va_cwS 1 hts gX10_gap_X10_isHour rfl rfl rfl (by decide +kernel) ⟨Nat.le_of_ble_eq_true rfl, Nat.le_of_ble_eq_true rfl⟩) rfl hl.1 rfl (Nat.le_of_ble_eq_true rfl) dX10_gap_10 ⟨Nat.le_of_ble_eq_true rfl, Nat.le_of_ble_eq_true rfl⟩ (fun H locs hW => ?_)
    refine lv_if_eq (tgt := 20) hx hb dX10_gap_13 (by decide) (fun c5 => ?_) (fun c5 => ?_)
    · have hf := a_if_t c5 hf
      refine lv_iconst (v := 1) hx hb dX10_gap_20 (by decide) ?_
      cases hf
      exact hJ21 H locs ls hW (lv_sub hl [0, 1, 2] rfl)
    · have hf := a_if_f c5 hf
      refine lv_iconst (v := 0) hx hb dX10_gap_16 (by decide) ?_
      refine lv_goto (tgt := 21) hx hb dX10_gap_17 (by decide) ?_
      cases hf
      exact hJ21 H locs ls hW (lv_sub hl [0, 1, 2] rfl)
abbrev rmX10_gapPrice : Room := { frames := 4, cells := 0, slots := 0, locals := 103 }
set_option maxHeartbeats 4000000 in
set_option maxRecDepth 100000 in
theorem c_X10_gapPrice (l : Launch) (G : gG) {p1 : Int32} {p2 : Int32} {me : gM} {r0 : Int32} {m0 : gM}  (hf : f_X10_gapPrice p1 p2 me = some (r0, m0)) : Met l yX10_gapPrice wsX10_gapPrice rmX10_gapPrice (va_Pc [.ref (G.2.2.1 0), .int p1, .int p2] (g_W ZM G me)) (g_Qi ZM G r0 m0) 0 0 (g_A ZM G) := by
  refine Met.ofW (cc := cX10_gapPrice) (maxL := 3) (ret := (some .int)) (by decide) rfl ?_
  intro p e s m args below meth c s₁ B hml hv
  obtain ⟨rfl, hW0⟩ := hv
  have hC : CallFix p m c cX10_gapPrice 3 s ([.ref (G.2.2.1 0), .int p1, .int p2] : List Value).toArray wsX10_gapPrice RX10 := ⟨B.exec, B.bytes, hml, findClass_of_methodNamed B.named, atoms_spec (ws := wsX10_gapPrice) B.pre⟩
  have hx := hC.1
  have hb := hC.2.1
  have hown := hC.2.2.2.1
  have hts := hC.2.2.2.2
  have hr := B.returns
  have hlocks := B.notSynchronized
  have hW := g_H_enter hW0
  have hi10 : ∀ w ∈ wsX100, w ∈ wsX10_gapPrice := by decide +kernel
  have hl := lv_entry ([.ref (G.2.2.1 0), .int p1, .int p2]) (n := 3) (Nat.le_of_ble_eq_true rfl)
  rw [lg_entry_eq]
  generalize (lg_sl ([.ref (G.2.2.1 0), .int p1, .int p2]) ++ List.replicate (3 - (lg_sl ([.ref (G.2.2.1 0), .int p1, .int p2])).length) Slot.unset).toArray = ls at hl ⊢
  have hl : lv_has ls 3 [(0, .ref (G.2.2.1 0)), (1, .int p1), (2, .int p2)] := hl
  obtain ⟨Q, hQ⟩ : ∃ Q, Q = MQ below (g_Qi ZM G r0 m0) ([.ref (G.2.2.1 0), .int p1, .int p2] : List Value).toArray s 0 0 (g_A ZM G) := ⟨_, rfl⟩
  refine g_goQ hQ ?_
  unfold f_X10_gapPrice at hf
  refine g_start hW (fun H locs hW => ?_)
  refine lv_aload_n hx hb dX10_gapPrice_0 rfl (lv_at hl 0 rfl) ?_
  refine lv_aload_n hx hb dX10_gapPrice_1 rfl (lv_at hl 0 rfl) ?_
  refine lv_iload_n hx hb dX10_gapPrice_2 rfl (lv_at hl 1 rfl) ?_
  obtain ⟨r1, hg, hf⟩ := ob_inv hf
  refine g_cVi hC hW (o := 0) (ci := 10) (As := [.int p1]) (rest := [.ref (G.2.2.1 0)]) zm_k0 zm_b0 rfl (c_X10_isClosed l G  hg) (cwV 1 hts gX10_gapPrice_X10_isClosed rfl rfl rfl (by decide +kernel) ⟨Nat.le_of_ble_eq_true rfl, Nat.le_of_ble_eq_true rfl⟩) rfl hl.1 rfl (Nat.le_of_ble_eq_true rfl) dX10_gapPrice_3 ⟨Nat.le_of_ble_eq_true rfl, Nat.le_of_ble_eq_true rfl⟩ (fun H locs hW => ?_)
  obtain ⟨z3, hg, hf⟩ := ob_inv hf
  have hJ21 : ∀ (H : Heap) (locs : List Loc) (ls : Array Slot), g_H ZM G s H locs me → lv_has ls 3 [(0, .ref (G.2.2.1 0)), (1, .int p1), (2, .int p2)] → W p l e (headSpec wsX10_gapPrice rmX10_gapPrice).room s m ([.ref (G.2.2.1 0), .int p1, .int p2] : List Value).toArray below meth c H locs 0 0 Q (F0 m 21 ls [.int z3, .ref (G.2.2.1 0)]) := by
    intro H locs ls hW hl
    obtain ⟨m6, h9, hf⟩ := ob_inv hf
    refine g_puti hC hW (o := 0) (ci := 10) (k := 67) zm_k0 zm_b0 rfl hi10 tyX10_ok nmX10 (by decide) rfl rfl rfl (by decide +kernel) dX10_gapPrice_21 (fun H locs hW => ?_)
    rw [Option.some.inj h9] at hW
    refine lv_aload_n hx hb dX10_gapPrice_24 rfl (lv_at hl 0 rfl) ?_
    refine g_geti hC hW (o := 0) (ci := 10) (k := 67) zm_k0 zm_b0 rfl hi10 (by decide) rfl (by decide +kernel) dX10_gapPrice_25 ?_
    obtain ⟨⟨z8, m9⟩, hg, hf⟩ := ob_inv hf
    have hf := ob_inv2 hf
    have hJ41 : ∀ (H : Heap) (locs : List Loc) (ls : Array Slot), g_H ZM G s H locs m9 → lv_has ls 3 [] → W p l e (headSpec wsX10_gapPrice rmX10_gapPrice).room s m ([.ref (G.2.2.1 0), .int p1, .int p2] : List Value).toArray below meth c H locs 0 0 Q (F0 m 41 ls [.int z8]) := by
      intro H locs ls hW hl
      cases hf
      subst hQ
      exact g_iret hC hW hr hlocks rfl rfl dX10_gapPrice_41
    replace hf := hg
    refine lv_if_ne (tgt := 40) hx hb dX10_gapPrice_28 (by decide) (fun c7 => ?_) (fun c7 => ?_)
    · have hf := a_if_f c7 hf
      refine lv_iconst (v := 0) hx hb dX10_gapPrice_40 (by decide) ?_
      cases hf
      exact hJ41 H locs ls hW (lv_sub hl [] rfl)
    · have hf := a_if_t c7 hf
      refine lv_aload_n hx hb dX10_gapPrice_31 rfl (lv_at hl 0 rfl) ?_
      refine lv_iload_n hx hb dX10_gapPrice_32 rfl (lv_at hl 1 rfl) ?_
      refine lv_iload_n hx hb dX10_gapPrice_33 rfl (lv_at hl 2 rfl) ?_
      obtain ⟨⟨r10, m11⟩, hg, hf⟩ := ob_inv hf
      have hf := ob_inv2 hf
      refine g_cVi hC hW (o := 0) (ci := 10) (As := [.int p1, .int p2]) (rest := []) zm_k0 zm_b0 rfl (c_X10_helps l G  hg) (cwV 2 hts gX10_gapPrice_X10_helps rfl rfl rfl (by decide +kernel) ⟨Nat.le_of_ble_eq_true rfl, Nat.le_of_ble_eq_true rfl⟩) rfl hl.1 rfl (Nat.le_of_ble_eq_true rfl) dX10_gapPrice_34 ⟨Nat.le_of_ble_eq_true rfl, Nat.le_of_ble_eq_true rfl⟩ (fun H locs hW => ?_)
      refine lv_goto (tgt := 41) hx hb dX10_gapPrice_37 (by decide) ?_
      cases hf
      exact hJ41 H locs ls hW (lv_sub hl [] rfl)
  replace hf := hg
  refine lv_if_eq (tgt := 20) hx hb dX10_gapPrice_6 (by decide) (fun c2 => ?_) (fun c2 => ?_)
  · have hf := a_if_t c2 hf
    refine lv_iconst (v := 1) hx hb dX10_gapPrice_20 (by decide) ?_
    cases hf
    exact hJ21 H locs ls hW (lv_sub hl [0, 1, 2] rfl)
  · have hf := a_if_f c2 hf
    refine lv_iload_n hx hb dX10_gapPrice_9 rfl (lv_at hl 2 rfl) ?_
    obtain ⟨r4, hg, hf⟩ := ob_inv hf
    refine g_cSi hC hW (As := [.int p2]) (rest := [.ref (G.2.2.1 0)]) (c_X10_isHour l G  hg) (va_cwS 1 hts gX10_gapPrice_X10_isHour rfl rfl rfl (by decide +kernel) ⟨Nat.le_of_ble_eq_true rfl, Nat.le_of_ble_eq_true rfl⟩) rfl hl.1 rfl (Nat.le_of_ble_eq_true rfl) dX10_gapPrice_10 ⟨Nat.le_of_ble_eq_true rfl, Nat.le_of_ble_eq_true rfl⟩ (fun H locs hW => ?_)
    refine lv_if_eq (tgt := 20) hx hb dX10_gapPrice_13 (by decide) (fun c5 => ?_) (fun c5 => ?_)
    · have hf := a_if_t c5 hf
      refine lv_iconst (v := 1) hx hb dX10_gapPrice_20 (by decide) ?_
      cases hf
      exact hJ21 H locs ls hW (lv_sub hl [0, 1, 2] rfl)
    · have hf := a_if_f c5 hf
      refine lv_iconst (v := 0) hx hb dX10_gapPrice_16 (by decide) ?_
      refine lv_goto (tgt := 21) hx hb dX10_gapPrice_17 (by decide) ?_
      cases hf
      exact hJ21 H locs ls hW (lv_sub hl [0, 1, 2] rfl)
abbrev rmX10_isBill : Room := { frames := 2, cells := 0, slots := 0, locals := 43 }
set_option maxHeartbeats 4000000 in
set_option maxRecDepth 100000 in
theorem c_X10_isBill (l : Launch) (G : gG) {p1 : Int32} {p2 : Int32} {me : gM} {r0 : Int32} {m0 : gM}  (hf : f_X10_isBill p1 p2 me = some (r0, m0)) : Met l yX10_isBill wsX10_isBill rmX10_isBill (va_Pc [.ref (G.2.2.1 0), .int p1, .int p2] (g_W ZM G me)) (g_Qi ZM G r0 m0) 0 0 (g_A ZM G) := by
  refine Met.ofW (cc := cX10_isBill) (maxL := 3) (ret := (some .boolean)) (by decide) rfl ?_
  intro p e s m args below meth c s₁ B hml hv
  obtain ⟨rfl, hW0⟩ := hv
  have hC : CallFix p m c cX10_isBill 3 s ([.ref (G.2.2.1 0), .int p1, .int p2] : List Value).toArray wsX10_isBill RX10 := ⟨B.exec, B.bytes, hml, findClass_of_methodNamed B.named, atoms_spec (ws := wsX10_isBill) B.pre⟩
  have hx := hC.1
  have hb := hC.2.1
  have hown := hC.2.2.2.1
  have hts := hC.2.2.2.2
  have hr := B.returns
  have hlocks := B.notSynchronized
  have hW := g_H_enter hW0
  have hi10 : ∀ w ∈ wsX100, w ∈ wsX10_isBill := by decide +kernel
  have hl := lv_entry ([.ref (G.2.2.1 0), .int p1, .int p2]) (n := 3) (Nat.le_of_ble_eq_true rfl)
  rw [lg_entry_eq]
  generalize (lg_sl ([.ref (G.2.2.1 0), .int p1, .int p2]) ++ List.replicate (3 - (lg_sl ([.ref (G.2.2.1 0), .int p1, .int p2])).length) Slot.unset).toArray = ls at hl ⊢
  have hl : lv_has ls 3 [(0, .ref (G.2.2.1 0)), (1, .int p1), (2, .int p2)] := hl
  obtain ⟨Q, hQ⟩ : ∃ Q, Q = MQ below (g_Qi ZM G r0 m0) ([.ref (G.2.2.1 0), .int p1, .int p2] : List Value).toArray s 0 0 (g_A ZM G) := ⟨_, rfl⟩
  refine g_goQ hQ ?_
  unfold f_X10_isBill at hf
  refine g_start hW (fun H locs hW => ?_)
  refine lv_aload_n hx hb dX10_isBill_0 rfl (lv_at hl 0 rfl) ?_
  refine lv_aload_n hx hb dX10_isBill_1 rfl (lv_at hl 0 rfl) ?_
  refine lv_iload_n hx hb dX10_isBill_2 rfl (lv_at hl 1 rfl) ?_
  obtain ⟨r1, hg, hf⟩ := ob_inv hf
  refine g_cVi hC hW (o := 0) (ci := 10) (As := [.int p1]) (rest := [.ref (G.2.2.1 0)]) zm_k0 zm_b0 rfl (c_X10_isClosed l G  hg) (cwV 1 hts gX10_isBill_X10_isClosed rfl rfl rfl (by decide +kernel) ⟨Nat.le_of_ble_eq_true rfl, Nat.le_of_ble_eq_true rfl⟩) rfl hl.1 rfl (Nat.le_of_ble_eq_true rfl) dX10_isBill_3 ⟨Nat.le_of_ble_eq_true rfl, Nat.le_of_ble_eq_true rfl⟩ (fun H locs hW => ?_)
  obtain ⟨z3, hg, hf⟩ := ob_inv hf
  have hJ21 : ∀ (H : Heap) (locs : List Loc) (ls : Array Slot), g_H ZM G s H locs me → lv_has ls 3 [(0, .ref (G.2.2.1 0))] → W p l e (headSpec wsX10_isBill rmX10_isBill).room s m ([.ref (G.2.2.1 0), .int p1, .int p2] : List Value).toArray below meth c H locs 0 0 Q (F0 m 21 ls [.int z3, .ref (G.2.2.1 0)]) := by
    intro H locs ls hW hl
    obtain ⟨m6, h9, hf⟩ := ob_inv hf
    refine g_puti hC hW (o := 0) (ci := 10) (k := 67) zm_k0 zm_b0 rfl hi10 tyX10_ok nmX10 (by decide) rfl rfl rfl (by decide +kernel) dX10_isBill_21 (fun H locs hW => ?_)
    rw [Option.some.inj h9] at hW
    refine lv_aload_n hx hb dX10_isBill_24 rfl (lv_at hl 0 rfl) ?_
    refine g_geti hC hW (o := 0) (ci := 10) (k := 67) zm_k0 zm_b0 rfl hi10 (by decide) rfl (by decide +kernel) dX10_isBill_25 ?_
    obtain ⟨z8, hg, hf⟩ := ob_inv hf
    have hJ36 : ∀ (H : Heap) (locs : List Loc) (ls : Array Slot), g_H ZM G s H locs m6 → lv_has ls 3 [] → W p l e (headSpec wsX10_isBill rmX10_isBill).room s m ([.ref (G.2.2.1 0), .int p1, .int p2] : List Value).toArray below meth c H locs 0 0 Q (F0 m 36 ls [.int z8]) := by
      intro H locs ls hW hl
      obtain ⟨b9, h9, hf⟩ := ob_inv hf
      obtain ⟨h9, hn9⟩ := a_zc_inv h9
      refine g_nmi h9 ?_
      cases hf
      subst hQ
      exact g_zret hC hW hr hlocks hn9 rfl rfl dX10_isBill_36
    replace hf := hg
    refine lv_if_ne (tgt := 35) hx hb dX10_isBill_28 (by decide) (fun c7 => ?_) (fun c7 => ?_)
    · have hf := a_if_f c7 hf
      refine lv_iconst (v := 0) hx hb dX10_isBill_35 (by decide) ?_
      cases hf
      exact hJ36 H locs ls hW (lv_sub hl [] rfl)
    · have hf := a_if_t c7 hf
      refine lv_iconst (v := 1) hx hb dX10_isBill_31 (by decide) ?_
      refine lv_goto (tgt := 36) hx hb dX10_isBill_32 (by decide) ?_
      cases hf
      exact hJ36 H locs ls hW (lv_sub hl [] rfl)
  replace hf := hg
  refine lv_if_eq (tgt := 20) hx hb dX10_isBill_6 (by decide) (fun c2 => ?_) (fun c2 => ?_)
  · have hf := a_if_t c2 hf
    refine lv_iconst (v := 1) hx hb dX10_isBill_20 (by decide) ?_
    cases hf
    exact hJ21 H locs ls hW (lv_sub hl [0] rfl)
  · have hf := a_if_f c2 hf
    refine lv_iload_n hx hb dX10_isBill_9 rfl (lv_at hl 2 rfl) ?_
    obtain ⟨r4, hg, hf⟩ := ob_inv hf
    refine g_cSi hC hW (As := [.int p2]) (rest := [.ref (G.2.2.1 0)]) (c_X10_isFirm l G  hg) (va_cwS 1 hts gX10_isBill_X10_isFirm rfl rfl rfl (by decide +kernel) ⟨Nat.le_of_ble_eq_true rfl, Nat.le_of_ble_eq_true rfl⟩) rfl hl.1 rfl (Nat.le_of_ble_eq_true rfl) dX10_isBill_10 ⟨Nat.le_of_ble_eq_true rfl, Nat.le_of_ble_eq_true rfl⟩ (fun H locs hW => ?_)
    refine lv_if_eq (tgt := 20) hx hb dX10_isBill_13 (by decide) (fun c5 => ?_) (fun c5 => ?_)
    · have hf := a_if_t c5 hf
      refine lv_iconst (v := 1) hx hb dX10_isBill_20 (by decide) ?_
      cases hf
      exact hJ21 H locs ls hW (lv_sub hl [0] rfl)
    · have hf := a_if_f c5 hf
      refine lv_iconst (v := 0) hx hb dX10_isBill_16 (by decide) ?_
      refine lv_goto (tgt := 21) hx hb dX10_isBill_17 (by decide) ?_
      cases hf
      exact hJ21 H locs ls hW (lv_sub hl [0] rfl)
abbrev rmX10_bill : Room := { frames := 6, cells := 0, slots := 0, locals := 156 }
set_option maxHeartbeats 4000000 in
set_option maxRecDepth 100000 in
theorem c_X10_bill (l : Launch) (G : gG) {p1 : Int32} {p2 : Int32} {me : gM} {r0 : Int32} {m0 : gM}  (hf : f_X10_bill p1 p2 me = some (r0, m0)) : Met l yX10_bill wsX10_bill rmX10_bill (va_Pc [.ref (G.2.2.1 0), .int p1, .int p2] (g_W ZM G me)) (g_Qi ZM G r0 m0) 0 0 (g_A ZM G) := by
  refine Met.ofW (cc := cX10_bill) (maxL := 3) (ret := (some .int)) (by decide) rfl ?_
  intro p e s m args below meth c s₁ B hml hv
  obtain ⟨rfl, hW0⟩ := hv
  have hC : CallFix p m c cX10_bill 3 s ([.ref (G.2.2.1 0), .int p1, .int p2] : List Value).toArray wsX10_bill RX10 := ⟨B.exec, B.bytes, hml, findClass_of_methodNamed B.named, atoms_spec (ws := wsX10_bill) B.pre⟩
  have hx := hC.1
  have hb := hC.2.1
  have hown := hC.2.2.2.1
  have hts := hC.2.2.2.2
  have hr := B.returns
  have hlocks := B.notSynchronized
  have hW := g_H_enter hW0
  have hl := lv_entry ([.ref (G.2.2.1 0), .int p1, .int p2]) (n := 3) (Nat.le_of_ble_eq_true rfl)
  rw [lg_entry_eq]
  generalize (lg_sl ([.ref (G.2.2.1 0), .int p1, .int p2]) ++ List.replicate (3 - (lg_sl ([.ref (G.2.2.1 0), .int p1, .int p2])).length) Slot.unset).toArray = ls at hl ⊢
  have hl : lv_has ls 3 [(0, .ref (G.2.2.1 0)), (1, .int p1), (2, .int p2)] := hl
  obtain ⟨Q, hQ⟩ : ∃ Q, Q = MQ below (g_Qi ZM G r0 m0) ([.ref (G.2.2.1 0), .int p1, .int p2] : List Value).toArray s 0 0 (g_A ZM G) := ⟨_, rfl⟩
  refine g_goQ hQ ?_
  unfold f_X10_bill at hf
  refine g_start hW (fun H locs hW => ?_)
  refine lv_aload_n hx hb dX10_bill_0 rfl (lv_at hl 0 rfl) ?_
  refine lv_iload_n hx hb dX10_bill_1 rfl (lv_at hl 1 rfl) ?_
  refine lv_iload_n hx hb dX10_bill_2 rfl (lv_at hl 2 rfl) ?_
  obtain ⟨⟨r1, m2⟩, hg, hf⟩ := ob_inv hf
  have hf := ob_inv2 hf
  refine g_cVi hC hW (o := 0) (ci := 10) (As := [.int p1, .int p2]) (rest := []) zm_k0 zm_b0 rfl (c_X10_isBill l G  hg) (cwV 2 hts gX10_bill_X10_isBill rfl rfl rfl (by decide +kernel) ⟨Nat.le_of_ble_eq_true rfl, Nat.le_of_ble_eq_true rfl⟩) rfl hl.1 rfl (Nat.le_of_ble_eq_true rfl) dX10_bill_3 ⟨Nat.le_of_ble_eq_true rfl, Nat.le_of_ble_eq_true rfl⟩ (fun H locs hW => ?_)
  obtain ⟨⟨z5, m6⟩, hg, hf⟩ := ob_inv hf
  have hf := ob_inv2 hf
  have hJ19 : ∀ (H : Heap) (locs : List Loc) (ls : Array Slot), g_H ZM G s H locs m6 → lv_has ls 3 [] → W p l e (headSpec wsX10_bill rmX10_bill).room s m ([.ref (G.2.2.1 0), .int p1, .int p2] : List Value).toArray below meth c H locs 0 0 Q (F0 m 19 ls [.int z5]) := by
    intro H locs ls hW hl
    cases hf
    subst hQ
    exact g_iret hC hW hr hlocks rfl rfl dX10_bill_19
  replace hf := hg
  refine lv_if_eq (tgt := 18) hx hb dX10_bill_6 (by decide) (fun c4 => ?_) (fun c4 => ?_)
  · have hf := a_if_t c4 hf
    refine lv_iconst (v := 0) hx hb dX10_bill_18 (by decide) ?_
    cases hf
    exact hJ19 H locs ls hW (lv_sub hl [] rfl)
  · have hf := a_if_f c4 hf
    refine lv_aload_n hx hb dX10_bill_9 rfl (lv_at hl 0 rfl) ?_
    refine lv_iload_n hx hb dX10_bill_10 rfl (lv_at hl 1 rfl) ?_
    refine lv_iload_n hx hb dX10_bill_11 rfl (lv_at hl 2 rfl) ?_
    obtain ⟨⟨r7, m8⟩, hg, hf⟩ := ob_inv hf
    have hf := ob_inv2 hf
    refine g_cVi hC hW (o := 0) (ci := 10) (As := [.int p1, .int p2]) (rest := []) zm_k0 zm_b0 rfl (c_X10_billOf l G  hg) (cwV 2 hts gX10_bill_X10_billOf rfl rfl rfl (by decide +kernel) ⟨Nat.le_of_ble_eq_true rfl, Nat.le_of_ble_eq_true rfl⟩) rfl hl.1 rfl (Nat.le_of_ble_eq_true rfl) dX10_bill_12 ⟨Nat.le_of_ble_eq_true rfl, Nat.le_of_ble_eq_true rfl⟩ (fun H locs hW => ?_)
    refine lv_goto (tgt := 19) hx hb dX10_bill_15 (by decide) ?_
    cases hf
    exact hJ19 H locs ls hW (lv_sub hl [] rfl)
abbrev rmX10_settled : Room := { frames := 3, cells := 0, slots := 0, locals := 65 }
set_option maxHeartbeats 4000000 in
set_option maxRecDepth 100000 in
theorem c_X10_settled (l : Launch) (G : gG) {p1 : Int32} {p2 : Int32} {me : gM} {r0 : Int32} {m0 : gM}  (hf : f_X10_settled p1 p2 me = some (r0, m0)) : Met l yX10_settled wsX10_settled rmX10_settled (va_Pc [.ref (G.2.2.1 0), .int p1, .int p2] (g_W ZM G me)) (g_Qi ZM G r0 m0) 0 0 (g_A ZM G) := by
  refine Met.ofW (cc := cX10_settled) (maxL := 3) (ret := (some .int)) (by decide) rfl ?_
  intro p e s m args below meth c s₁ B hml hv
  obtain ⟨rfl, hW0⟩ := hv
  have hC : CallFix p m c cX10_settled 3 s ([.ref (G.2.2.1 0), .int p1, .int p2] : List Value).toArray wsX10_settled RX10 := ⟨B.exec, B.bytes, hml, findClass_of_methodNamed B.named, atoms_spec (ws := wsX10_settled) B.pre⟩
  have hx := hC.1
  have hb := hC.2.1
  have hown := hC.2.2.2.1
  have hts := hC.2.2.2.2
  have hr := B.returns
  have hlocks := B.notSynchronized
  have hW := g_H_enter hW0
  have hi10 : ∀ w ∈ wsX100, w ∈ wsX10_settled := by decide +kernel
  have hl := lv_entry ([.ref (G.2.2.1 0), .int p1, .int p2]) (n := 3) (Nat.le_of_ble_eq_true rfl)
  rw [lg_entry_eq]
  generalize (lg_sl ([.ref (G.2.2.1 0), .int p1, .int p2]) ++ List.replicate (3 - (lg_sl ([.ref (G.2.2.1 0), .int p1, .int p2])).length) Slot.unset).toArray = ls at hl ⊢
  have hl : lv_has ls 3 [(0, .ref (G.2.2.1 0)), (1, .int p1), (2, .int p2)] := hl
  obtain ⟨Q, hQ⟩ : ∃ Q, Q = MQ below (g_Qi ZM G r0 m0) ([.ref (G.2.2.1 0), .int p1, .int p2] : List Value).toArray s 0 0 (g_A ZM G) := ⟨_, rfl⟩
  refine g_goQ hQ ?_
  unfold f_X10_settled at hf
  refine g_start hW (fun H locs hW => ?_)
  refine lv_aload_n hx hb dX10_settled_0 rfl (lv_at hl 0 rfl) ?_
  refine lv_iload_n hx hb dX10_settled_1 rfl (lv_at hl 1 rfl) ?_
  refine lv_iload_n hx hb dX10_settled_2 rfl (lv_at hl 2 rfl) ?_
  obtain ⟨⟨r1, m2⟩, hg, hf⟩ := ob_inv hf
  have hf := ob_inv2 hf
  refine g_cVi hC hW (o := 0) (ci := 10) (As := [.int p1, .int p2]) (rest := []) zm_k0 zm_b0 rfl (c_X10_isBill l G  hg) (cwV 2 hts gX10_settled_X10_isBill rfl rfl rfl (by decide +kernel) ⟨Nat.le_of_ble_eq_true rfl, Nat.le_of_ble_eq_true rfl⟩) rfl hl.1 rfl (Nat.le_of_ble_eq_true rfl) dX10_settled_3 ⟨Nat.le_of_ble_eq_true rfl, Nat.le_of_ble_eq_true rfl⟩ (fun H locs hW => ?_)
  obtain ⟨z5, hg, hf⟩ := ob_inv hf
  have hJ24 : ∀ (H : Heap) (locs : List Loc) (ls : Array Slot), g_H ZM G s H locs m2 → lv_has ls 3 [] → W p l e (headSpec wsX10_settled rmX10_settled).room s m ([.ref (G.2.2.1 0), .int p1, .int p2] : List Value).toArray below meth c H locs 0 0 Q (F0 m 24 ls [.int z5]) := by
    intro H locs ls hW hl
    cases hf
    subst hQ
    exact g_iret hC hW hr hlocks rfl rfl dX10_settled_24
  replace hf := hg
  refine lv_if_eq (tgt := 23) hx hb dX10_settled_6 (by decide) (fun c4 => ?_) (fun c4 => ?_)
  · have hf := a_if_t c4 hf
    refine lv_iconst (v := 0) hx hb dX10_settled_23 (by decide) ?_
    cases hf
    exact hJ24 H locs ls hW (lv_sub hl [] rfl)
  · have hf := a_if_f c4 hf
    refine lv_aload_n hx hb dX10_settled_9 rfl (lv_at hl 0 rfl) ?_
    refine g_getr hC hW (o := 0) (ci := 10) (k := 53) zm_k0 zm_b0 rfl hi10 (by decide) rfl (t := 46) zm_r0_53 (by decide +kernel) dX10_settled_10 ?_
    refine lv_bipush (v := 6) hx hb dX10_settled_13 (by decide) ?_
    refine lv_iload_n hx hb dX10_settled_15 rfl (lv_at hl 1 rfl) ?_
    refine lv_imul hx hb dX10_settled_16 ?_
    refine lv_iload_n hx hb dX10_settled_17 rfl (lv_at hl 2 rfl) ?_
    refine lv_iadd hx hb dX10_settled_18 ?_
    obtain ⟨v6, h9, hf⟩ := ob_inv hf
    refine g_ild hC hW zm_k46 zm_b46 zm_n46 h9 dX10_settled_19 ?_
    refine lv_goto (tgt := 24) hx hb dX10_settled_20 (by decide) ?_
    cases hf
    exact hJ24 H locs ls hW (lv_sub hl [] rfl)
abbrev rmX10_account : Room := { frames := 2, cells := 0, slots := 0, locals := 42 }
set_option maxHeartbeats 4000000 in
set_option maxRecDepth 100000 in
theorem c_X10_account (l : Launch) (G : gG) {p1 : Int32} {me : gM} {r0 : Int32} {m0 : gM}  (hf : f_X10_account p1 me = some (r0, m0)) : Met l yX10_account wsX10_account rmX10_account (va_Pc [.ref (G.2.2.1 0), .int p1] (g_W ZM G me)) (g_Qi ZM G r0 m0) 0 0 (g_A ZM G) := by
  refine Met.ofW (cc := cX10_account) (maxL := 2) (ret := (some .int)) (by decide) rfl ?_
  intro p e s m args below meth c s₁ B hml hv
  obtain ⟨rfl, hW0⟩ := hv
  have hC : CallFix p m c cX10_account 2 s ([.ref (G.2.2.1 0), .int p1] : List Value).toArray wsX10_account RX10 := ⟨B.exec, B.bytes, hml, findClass_of_methodNamed B.named, atoms_spec (ws := wsX10_account) B.pre⟩
  have hx := hC.1
  have hb := hC.2.1
  have hown := hC.2.2.2.1
  have hts := hC.2.2.2.2
  have hr := B.returns
  have hlocks := B.notSynchronized
  have hW := g_H_enter hW0
  have hi10 : ∀ w ∈ wsX100, w ∈ wsX10_account := by decide +kernel
  have hl := lv_entry ([.ref (G.2.2.1 0), .int p1]) (n := 2) (Nat.le_of_ble_eq_true rfl)
  rw [lg_entry_eq]
  generalize (lg_sl ([.ref (G.2.2.1 0), .int p1]) ++ List.replicate (2 - (lg_sl ([.ref (G.2.2.1 0), .int p1])).length) Slot.unset).toArray = ls at hl ⊢
  have hl : lv_has ls 2 [(0, .ref (G.2.2.1 0)), (1, .int p1)] := hl
  obtain ⟨Q, hQ⟩ : ∃ Q, Q = MQ below (g_Qi ZM G r0 m0) ([.ref (G.2.2.1 0), .int p1] : List Value).toArray s 0 0 (g_A ZM G) := ⟨_, rfl⟩
  refine g_goQ hQ ?_
  unfold f_X10_account at hf
  refine g_start hW (fun H locs hW => ?_)
  refine lv_aload_n hx hb dX10_account_0 rfl (lv_at hl 0 rfl) ?_
  refine lv_iload_n hx hb dX10_account_1 rfl (lv_at hl 1 rfl) ?_
  obtain ⟨r1, hg, hf⟩ := ob_inv hf
  refine g_cSi hC hW (As := [.int p1]) (rest := [.ref (G.2.2.1 0)]) (c_X10_isFirm l G  hg) (va_cwS 1 hts gX10_account_X10_isFirm rfl rfl rfl (by decide +kernel) ⟨Nat.le_of_ble_eq_true rfl, Nat.le_of_ble_eq_true rfl⟩) rfl hl.1 rfl (Nat.le_of_ble_eq_true rfl) dX10_account_2 ⟨Nat.le_of_ble_eq_true rfl, Nat.le_of_ble_eq_true rfl⟩ (fun H locs hW => ?_)
  obtain ⟨z3, hg, hf⟩ := ob_inv hf
  have hJ13 : ∀ (H : Heap) (locs : List Loc) (ls : Array Slot), g_H ZM G s H locs me → lv_has ls 2 [(0, .ref (G.2.2.1 0)), (1, .int p1)] → W p l e (headSpec wsX10_account rmX10_account).room s m ([.ref (G.2.2.1 0), .int p1] : List Value).toArray below meth c H locs 0 0 Q (F0 m 13 ls [.int z3, .ref (G.2.2.1 0)]) := by
    intro H locs ls hW hl
    obtain ⟨m4, h9, hf⟩ := ob_inv hf
    refine g_puti hC hW (o := 0) (ci := 10) (k := 67) zm_k0 zm_b0 rfl hi10 tyX10_ok nmX10 (by decide) rfl rfl rfl (by decide +kernel) dX10_account_13 (fun H locs hW => ?_)
    rw [Option.some.inj h9] at hW
    refine lv_aload_n hx hb dX10_account_16 rfl (lv_at hl 0 rfl) ?_
    refine g_geti hC hW (o := 0) (ci := 10) (k := 67) zm_k0 zm_b0 rfl hi10 (by decide) rfl (by decide +kernel) dX10_account_17 ?_
    obtain ⟨z6, hg, hf⟩ := ob_inv hf
    have hJ33 : ∀ (H : Heap) (locs : List Loc) (ls : Array Slot), g_H ZM G s H locs m4 → lv_has ls 2 [] → W p l e (headSpec wsX10_account rmX10_account).room s m ([.ref (G.2.2.1 0), .int p1] : List Value).toArray below meth c H locs 0 0 Q (F0 m 33 ls [.int z6]) := by
      intro H locs ls hW hl
      cases hf
      subst hQ
      exact g_iret hC hW hr hlocks rfl rfl dX10_account_33
    replace hf := hg
    refine lv_if_ne (tgt := 32) hx hb dX10_account_20 (by decide) (fun c5 => ?_) (fun c5 => ?_)
    · have hf := a_if_f c5 hf
      refine lv_iconst (v := 0) hx hb dX10_account_32 (by decide) ?_
      cases hf
      exact hJ33 H locs ls hW (lv_sub hl [] rfl)
    · have hf := a_if_t c5 hf
      refine lv_aload_n hx hb dX10_account_23 rfl (lv_at hl 0 rfl) ?_
      refine g_getr hC hW (o := 0) (ci := 10) (k := 3) zm_k0 zm_b0 rfl hi10 (by decide) rfl (t := 2) zm_r0_3 (by decide +kernel) dX10_account_24 ?_
      refine lv_iload_n hx hb dX10_account_27 rfl (lv_at hl 1 rfl) ?_
      obtain ⟨v7, h9, hf⟩ := ob_inv hf
      refine g_ild hC hW zm_k2 zm_b2 zm_n2 h9 dX10_account_28 ?_
      refine lv_goto (tgt := 33) hx hb dX10_account_29 (by decide) ?_
      cases hf
      exact hJ33 H locs ls hW (lv_sub hl [] rfl)
  replace hf := hg
  refine lv_if_eq (tgt := 12) hx hb dX10_account_5 (by decide) (fun c2 => ?_) (fun c2 => ?_)
  · have hf := a_if_t c2 hf
    refine lv_iconst (v := 1) hx hb dX10_account_12 (by decide) ?_
    cases hf
    exact hJ13 H locs ls hW (lv_sub hl [0, 1] rfl)
  · have hf := a_if_f c2 hf
    refine lv_iconst (v := 0) hx hb dX10_account_8 (by decide) ?_
    refine lv_goto (tgt := 13) hx hb dX10_account_9 (by decide) ?_
    cases hf
    exact hJ13 H locs ls hW (lv_sub hl [0, 1] rfl)
abbrev rmX10_hasFailed : Room := { frames := 2, cells := 0, slots := 0, locals := 42 }
set_option maxHeartbeats 4000000 in
set_option maxRecDepth 100000 in
theorem c_X10_hasFailed (l : Launch) (G : gG) {p1 : Int32} {me : gM} {r0 : Int32} {m0 : gM}  (hf : f_X10_hasFailed p1 me = some (r0, m0)) : Met l yX10_hasFailed wsX10_hasFailed rmX10_hasFailed (va_Pc [.ref (G.2.2.1 0), .int p1] (g_W ZM G me)) (g_Qi ZM G r0 m0) 0 0 (g_A ZM G) := by
  refine Met.ofW (cc := cX10_hasFailed) (maxL := 2) (ret := (some .boolean)) (by decide) rfl ?_
  intro p e s m args below meth c s₁ B hml hv
  obtain ⟨rfl, hW0⟩ := hv
  have hC : CallFix p m c cX10_hasFailed 2 s ([.ref (G.2.2.1 0), .int p1] : List Value).toArray wsX10_hasFailed RX10 := ⟨B.exec, B.bytes, hml, findClass_of_methodNamed B.named, atoms_spec (ws := wsX10_hasFailed) B.pre⟩
  have hx := hC.1
  have hb := hC.2.1
  have hown := hC.2.2.2.1
  have hts := hC.2.2.2.2
  have hr := B.returns
  have hlocks := B.notSynchronized
  have hW := g_H_enter hW0
  have hi10 : ∀ w ∈ wsX100, w ∈ wsX10_hasFailed := by decide +kernel
  have hl := lv_entry ([.ref (G.2.2.1 0), .int p1]) (n := 2) (Nat.le_of_ble_eq_true rfl)
  rw [lg_entry_eq]
  generalize (lg_sl ([.ref (G.2.2.1 0), .int p1]) ++ List.replicate (2 - (lg_sl ([.ref (G.2.2.1 0), .int p1])).length) Slot.unset).toArray = ls at hl ⊢
  have hl : lv_has ls 2 [(0, .ref (G.2.2.1 0)), (1, .int p1)] := hl
  obtain ⟨Q, hQ⟩ : ∃ Q, Q = MQ below (g_Qi ZM G r0 m0) ([.ref (G.2.2.1 0), .int p1] : List Value).toArray s 0 0 (g_A ZM G) := ⟨_, rfl⟩
  refine g_goQ hQ ?_
  unfold f_X10_hasFailed at hf
  refine g_start hW (fun H locs hW => ?_)
  refine lv_aload_n hx hb dX10_hasFailed_0 rfl (lv_at hl 0 rfl) ?_
  refine lv_iload_n hx hb dX10_hasFailed_1 rfl (lv_at hl 1 rfl) ?_
  obtain ⟨r1, hg, hf⟩ := ob_inv hf
  refine g_cSi hC hW (As := [.int p1]) (rest := [.ref (G.2.2.1 0)]) (c_X10_isFirm l G  hg) (va_cwS 1 hts gX10_hasFailed_X10_isFirm rfl rfl rfl (by decide +kernel) ⟨Nat.le_of_ble_eq_true rfl, Nat.le_of_ble_eq_true rfl⟩) rfl hl.1 rfl (Nat.le_of_ble_eq_true rfl) dX10_hasFailed_2 ⟨Nat.le_of_ble_eq_true rfl, Nat.le_of_ble_eq_true rfl⟩ (fun H locs hW => ?_)
  obtain ⟨z3, hg, hf⟩ := ob_inv hf
  have hJ13 : ∀ (H : Heap) (locs : List Loc) (ls : Array Slot), g_H ZM G s H locs me → lv_has ls 2 [(0, .ref (G.2.2.1 0)), (1, .int p1)] → W p l e (headSpec wsX10_hasFailed rmX10_hasFailed).room s m ([.ref (G.2.2.1 0), .int p1] : List Value).toArray below meth c H locs 0 0 Q (F0 m 13 ls [.int z3, .ref (G.2.2.1 0)]) := by
    intro H locs ls hW hl
    obtain ⟨m4, h9, hf⟩ := ob_inv hf
    refine g_puti hC hW (o := 0) (ci := 10) (k := 67) zm_k0 zm_b0 rfl hi10 tyX10_ok nmX10 (by decide) rfl rfl rfl (by decide +kernel) dX10_hasFailed_13 (fun H locs hW => ?_)
    rw [Option.some.inj h9] at hW
    refine lv_aload_n hx hb dX10_hasFailed_16 rfl (lv_at hl 0 rfl) ?_
    refine g_geti hC hW (o := 0) (ci := 10) (k := 67) zm_k0 zm_b0 rfl hi10 (by decide) rfl (by decide +kernel) dX10_hasFailed_17 ?_
    obtain ⟨z6, hg, hf⟩ := ob_inv hf
    have hJ38 : ∀ (H : Heap) (locs : List Loc) (ls : Array Slot), g_H ZM G s H locs m4 → lv_has ls 2 [] → W p l e (headSpec wsX10_hasFailed rmX10_hasFailed).room s m ([.ref (G.2.2.1 0), .int p1] : List Value).toArray below meth c H locs 0 0 Q (F0 m 38 ls [.int z6]) := by
      intro H locs ls hW hl
      obtain ⟨b9, h9, hf⟩ := ob_inv hf
      obtain ⟨h9, hn9⟩ := a_zc_inv h9
      refine g_nmi h9 ?_
      cases hf
      subst hQ
      exact g_zret hC hW hr hlocks hn9 rfl rfl dX10_hasFailed_38
    replace hf := hg
    refine lv_if_ne (tgt := 37) hx hb dX10_hasFailed_20 (by decide) (fun c5 => ?_) (fun c5 => ?_)
    · have hf := a_if_f c5 hf
      refine lv_iconst (v := 0) hx hb dX10_hasFailed_37 (by decide) ?_
      cases hf
      exact hJ38 H locs ls hW (lv_sub hl [] rfl)
    · have hf := a_if_t c5 hf
      refine lv_aload_n hx hb dX10_hasFailed_23 rfl (lv_at hl 0 rfl) ?_
      refine g_getr hC hW (o := 0) (ci := 10) (k := 5) zm_k0 zm_b0 rfl hi10 (by decide) rfl (t := 4) zm_r0_5 (by decide +kernel) dX10_hasFailed_24 ?_
      refine lv_iload_n hx hb dX10_hasFailed_27 rfl (lv_at hl 1 rfl) ?_
      obtain ⟨v7, h9, hf⟩ := ob_inv hf
      refine g_ild hC hW zm_k4 zm_b4 zm_n4 h9 dX10_hasFailed_28 ?_
      refine lv_iconst (v := 1) hx hb dX10_hasFailed_29 (by decide) ?_
      refine lv_icmp_ne (tgt := 37) hx hb dX10_hasFailed_30 (by decide) (fun c8 => ?_) (fun c8 => ?_)
      · have hf := a_if_f c8 hf
        refine lv_iconst (v := 0) hx hb dX10_hasFailed_37 (by decide) ?_
        cases hf
        exact hJ38 H locs ls hW (lv_sub hl [] rfl)
      · have hf := a_if_t c8 hf
        refine lv_iconst (v := 1) hx hb dX10_hasFailed_33 (by decide) ?_
        refine lv_goto (tgt := 38) hx hb dX10_hasFailed_34 (by decide) ?_
        cases hf
        exact hJ38 H locs ls hW (lv_sub hl [] rfl)
  replace hf := hg
  refine lv_if_eq (tgt := 12) hx hb dX10_hasFailed_5 (by decide) (fun c2 => ?_) (fun c2 => ?_)
  · have hf := a_if_t c2 hf
    refine lv_iconst (v := 1) hx hb dX10_hasFailed_12 (by decide) ?_
    cases hf
    exact hJ13 H locs ls hW (lv_sub hl [0, 1] rfl)
  · have hf := a_if_f c2 hf
    refine lv_iconst (v := 0) hx hb dX10_hasFailed_8 (by decide) ?_
    refine lv_goto (tgt := 13) hx hb dX10_hasFailed_9 (by decide) ?_
    cases hf
    exact hJ13 H locs ls hW (lv_sub hl [0, 1] rfl)
abbrev rmX10_house : Room := { frames := 0, cells := 0, slots := 0, locals := 0 }
set_option maxHeartbeats 4000000 in
set_option maxRecDepth 100000 in
theorem c_X10_house (l : Launch) (G : gG)  {me : gM} {r0 : Int32} {m0 : gM}  (hf : f_X10_house me = some (r0, m0)) : Met l yX10_house wsX10_house rmX10_house (va_Pc [.ref (G.2.2.1 0)] (g_W ZM G me)) (g_Qi ZM G r0 m0) 0 0 (g_A ZM G) := by
  refine Met.ofW (cc := cX10_house) (maxL := 1) (ret := (some .int)) (by decide) rfl ?_
  intro p e s m args below meth c s₁ B hml hv
  obtain ⟨rfl, hW0⟩ := hv
  have hC : CallFix p m c cX10_house 1 s ([.ref (G.2.2.1 0)] : List Value).toArray wsX10_house RX10 := ⟨B.exec, B.bytes, hml, findClass_of_methodNamed B.named, atoms_spec (ws := wsX10_house) B.pre⟩
  have hx := hC.1
  have hb := hC.2.1
  have hown := hC.2.2.2.1
  have hts := hC.2.2.2.2
  have hr := B.returns
  have hlocks := B.notSynchronized
  have hW := g_H_enter hW0
  have hi10 : ∀ w ∈ wsX100, w ∈ wsX10_house := by decide +kernel
  have hl := lv_entry ([.ref (G.2.2.1 0)]) (n := 1) (Nat.le_of_ble_eq_true rfl)
  rw [lg_entry_eq]
  generalize (lg_sl ([.ref (G.2.2.1 0)]) ++ List.replicate (1 - (lg_sl ([.ref (G.2.2.1 0)])).length) Slot.unset).toArray = ls at hl ⊢
  have hl : lv_has ls 1 [(0, .ref (G.2.2.1 0))] := hl
  obtain ⟨Q, hQ⟩ : ∃ Q, Q = MQ below (g_Qi ZM G r0 m0) ([.ref (G.2.2.1 0)] : List Value).toArray s 0 0 (g_A ZM G) := ⟨_, rfl⟩
  refine g_goQ hQ ?_
  unfold f_X10_house at hf
  refine g_start hW (fun H locs hW => ?_)
  refine lv_aload_n hx hb dX10_house_0 rfl (lv_at hl 0 rfl) ?_
  refine lv_iconst (v := 0) hx hb dX10_house_1 (by decide) ?_
  obtain ⟨m1, h9, hf⟩ := ob_inv hf
  refine g_puti hC hW (o := 0) (ci := 10) (k := 67) zm_k0 zm_b0 rfl hi10 tyX10_ok nmX10 (by decide) rfl rfl rfl (by decide +kernel) dX10_house_2 (fun H locs hW => ?_)
  rw [Option.some.inj h9] at hW
  refine lv_aload_n hx hb dX10_house_5 rfl (lv_at hl 0 rfl) ?_
  refine g_geti hC hW (o := 0) (ci := 10) (k := 6) zm_k0 zm_b0 rfl hi10 (by decide) rfl (by decide +kernel) dX10_house_6 ?_
  cases hf
  subst hQ
  exact g_iret hC hW hr hlocks rfl rfl dX10_house_9
