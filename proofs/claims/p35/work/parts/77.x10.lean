def f_X9_taken (p1 : Int32) (me : gM) : Option (Nat ⊕ (Int32)) :=
  ox (f_X9_checkIndex p1 (me 4 8)) fun _u =>
  ob (if (me 0 9) = 1 then
      some 1
    else
      some 0) fun (z2 : Int32) =>
  ox (f_X9_checkState z2) fun _u =>
  ob (f_X8_used 4 p1 me) fun r3 =>
  some (.inr r3)
def f_X9_takeBack (p1 : Int32) (me : gM) : Option (Nat ⊕ (Int32 × gM)) :=
  ox (f_X9_checkIndex p1 (me 55 8)) fun _u =>
  ob (a_ld 60 62 p1 me) fun v1 =>
  ob (if v1 ≤ 0 then
      some 0
    else
      some 1) fun (z3 : Int32) =>
  ox (f_X9_checkState z3) fun _u =>
  ob (a_st 60 62 p1 0 me) fun m4 =>
  some (.inr (v1, m4))
def f_X10_thrown (me : gM) : Option (Int32) :=
  some (me 0 67)
def f_X10_in (p0 : Int32) (p1 : Int32) (p2 : Int32) : Option (Int32) :=
  ob (if p0 < p1 then
      some 0
    else
      if p2 < p0 then
        some 0
      else
        some 1) fun (z2 : Int32) =>
  ob (a_zc z2) fun b4 =>
  some b4
def f_X10_isFirm (p0 : Int32) : Option (Int32) :=
  ob (f_X10_in p0 0 5) fun r1 =>
  ob (a_zc r1) fun b2 =>
  some b2
def f_X10_isZone (p0 : Int32) : Option (Int32) :=
  ob (f_X10_in p0 0 2) fun r1 =>
  ob (a_zc r1) fun b2 =>
  some b2
def f_X10_isHour (p0 : Int32) : Option (Int32) :=
  ob (f_X10_in p0 0 3) fun r1 =>
  ob (a_zc r1) fun b2 =>
  some b2
def f_X10_isClosed (p1 : Int32) (me : gM) : Option (Int32) :=
  ob (f_X10_in p1 0 ((me 0 0) - 1)) fun r1 =>
  ob (a_zc r1) fun b2 =>
  some b2
def f_X10_deposit (p1 : Int32) (p2 : Int32) (me : gM) : Option (Int32 × gM) :=
  ob (f_X10_isFirm p1) fun r1 =>
  ob (if r1 = 0 then
      some 1
    else
      ob (f_X10_in p2 1 100000) fun r4 =>
      if r4 = 0 then
        some 2
      else
        ob (a_ld 6 4 p1 me) fun v6 =>
        if v6 = 1 then
          some 3
        else
          ob (a_ld 6 3 p1 me) fun v8 =>
          if (v8 + p2) ≤ 10000000 then
            some 0
          else
            some 3) fun (z3 : Int32) =>
  ob (some (g_up me 0 (upd (me 0) 67 z3))) fun m10 =>
  if (m10 0 67) ≤ 0 then
    ob (a_ld 6 3 p1 m10) fun v12 =>
    ob (a_st 6 3 p1 (v12 + p2) m10) fun m13 =>
    ob (a_ld 6 2 p1 m13) fun v14 =>
    ob (a_st 6 2 p1 (v14 + p2) m13) fun m15 =>
    ob (a_ld 6 2 p1 m15) fun v16 =>
    some (v16, m15)
  else
    some (0, m10)
def f_X10_setLimit (p1 : Int32) (p2 : Int32) (me : gM) : Option (Int32 × gM) :=
  ob (f_X10_in p1 0 2) fun r1 =>
  ob (if r1 = 0 then
      some 1
    else
      ob (f_X10_in p2 0 10) fun r4 =>
      if r4 = 0 then
        some 2
      else
        if (me 0 1) = 1 then
          some 3
        else
          some 0) fun (z3 : Int32) =>
  ob (some (g_up me 0 (upd (me 0) 67 z3))) fun m7 =>
  if (m7 0 67) ≤ 0 then
    ob (a_ld 3 1 p1 m7) fun v9 =>
    ob (a_st 3 1 p1 p2 m7) fun m10 =>
    some (v9, m10)
  else
    some (0, m7)
def f_X10_bid (p1 : Int32) (p2 : Int32) (p3 : Int32) (p4 : Int32) (p5 : Int32) (p6 : Int32) (me : gM) : Option (Int32 × gM) :=
  ob (f_X10_isFirm p1) fun r1 =>
  ob (if r1 = 0 then
      some 1
    else
      ob (f_X10_isZone p2) fun r4 =>
      if r4 = 0 then
        some 1
      else
        ob (f_X10_isHour p3) fun r6 =>
        if r6 = 0 then
          some 1
        else
          ob (f_X10_in p5 0 200) fun r8 =>
          if r8 = 0 then
            some 2
          else
            ob (f_X10_in p6 1 10) fun r10 =>
            if r10 = 0 then
              some 2
            else
              some 0) fun (z3 : Int32) =>
  ob (some (g_up me 0 (upd (me 0) 67 z3))) fun m12 =>
  ob (if (m12 0 67) = 0 then
      ob (a_ld 6 4 p1 m12) fun v15 =>
      ob (if v15 = 1 then
          some 3
        else
          if (m12 0 1) = 1 then
            some 3
          else
            if (m12 0 7) = 40 then
              some 3
            else
              some 0) fun (z17 : Int32) =>
      ob (some (g_up m12 0 (upd (m12 0) 67 z17))) fun m20 =>
      some m20
    else
      some m12) fun (m14 : gM) =>
  if (m14 0 67) ≤ 0 then
    ob (a_st 40 5 (m14 0 7) p1 m14) fun m22 =>
    ob (a_st 40 6 (m22 0 7) p2 m22) fun m23 =>
    ob (a_st 40 7 (m23 0 7) p3 m23) fun m24 =>
    ob (if p4 = 0 then
        some 0
      else
        some 1) fun (z26 : Int32) =>
    ob (a_st 40 8 (m24 0 7) z26 m24) fun m27 =>
    ob (a_st 40 9 (m27 0 7) p5 m27) fun m28 =>
    ob (a_st 40 10 (m28 0 7) p6 m28) fun m29 =>
    ob (some (g_up m29 0 (upd (m29 0) 7 ((m29 0 7) + 1)))) fun m30 =>
    some (((m30 0 7) - 1), m30)
  else
    some (0, m14)
def f_X10_block (p1 : Int32) (p2 : Int32) (p3 : Int32) (p4 : Int32) (p5 : Int32) (p6 : Int32) (me : gM) : Option (Int32 × gM) :=
  ob (f_X10_isFirm p1) fun r1 =>
  ob (if r1 = 0 then
      some 1
    else
      ob (f_X10_isZone p2) fun r4 =>
      if r4 = 0 then
        some 1
      else
        ob (f_X10_in p3 1 15) fun r6 =>
        if r6 = 0 then
          some 2
        else
          ob (f_X10_in p5 0 200) fun r8 =>
          if r8 = 0 then
            some 2
          else
            ob (f_X10_in p6 1 10) fun r10 =>
            if r10 = 0 then
              some 2
            else
              some 0) fun (z3 : Int32) =>
  ob (some (g_up me 0 (upd (me 0) 67 z3))) fun m12 =>
  ob (if (m12 0 67) = 0 then
      ob (a_ld 6 4 p1 m12) fun v15 =>
      ob (if v15 = 1 then
          some 3
        else
          if (m12 0 1) = 1 then
            some 3
          else
            if (m12 0 16) = 5 then
              some 3
            else
              some 0) fun (z17 : Int32) =>
      ob (some (g_up m12 0 (upd (m12 0) 67 z17))) fun m20 =>
      some m20
    else
      some m12) fun (m14 : gM) =>
  if (m14 0 67) ≤ 0 then
    ob (a_st 5 13 (m14 0 16) p1 m14) fun m22 =>
    ob (a_st 5 14 (m22 0 16) p2 m22) fun m23 =>
    ob (a_st 5 15 (m23 0 16) p3 m23) fun m24 =>
    ob (if p4 = 0 then
        some 0
      else
        some 1) fun (z26 : Int32) =>
    ob (a_st 5 16 (m24 0 16) z26 m24) fun m27 =>
    ob (a_st 5 17 (m27 0 16) p5 m27) fun m28 =>
    ob (a_st 5 18 (m28 0 16) p6 m28) fun m29 =>
    ob (a_st 5 19 (m29 0 16) 0 m29) fun m30 =>
    ob (a_st 5 20 (m30 0 16) 0 m30) fun m31 =>
    ob (some (g_up m31 0 (upd (m31 0) 16 ((m31 0 16) + 1)))) fun m32 =>
    some (((m32 0 16) - 1), m32)
  else
    some (0, m14)
def f_X10_link (p1 : Int32) (p2 : Int32) (p3 : Int32) (me : gM) : Option (gM) :=
  ob (f_X10_in p1 0 ((me 0 16) - 1)) fun r1 =>
  ob (if r1 = 0 then
      some 1
    else
      ob (f_X10_in p2 (-1) (p1 - 1)) fun r4 =>
      if r4 = 0 then
        some 2
      else
        ob (f_X10_in p3 (-1) 2) fun r6 =>
        if r6 = 0 then
          some 2
        else
          if (me 0 1) = 1 then
            some 3
          else
            some 0) fun (z3 : Int32) =>
  ob (some (g_up me 0 (upd (me 0) 67 z3))) fun m9 =>
  ob (if (m9 0 67) = 0 then
      ob (a_st 5 19 p1 (p2 + 1) m9) fun m12 =>
      ob (a_st 5 20 p1 (p3 + 1) m12) fun m13 =>
      some m13
    else
      some m9) fun (m11 : gM) =>
  some m11
def f_X10_ask (p1 : Int32) (p2 : Int32) (p3 : Int32) (p4 : Int32) (p5 : Int32) (me : gM) : Option (Int32 × gM) :=
  ob (f_X10_isFirm p1) fun r1 =>
  ob (if r1 = 0 then
      some 1
    else
      ob (f_X10_isZone p2) fun r4 =>
      if r4 = 0 then
        some 1
      else
        ob (f_X10_isZone p3) fun r6 =>
        if r6 = 0 then
          some 1
        else
          if p2 = p3 then
            some 2
          else
            ob (f_X10_in p4 1 10) fun r9 =>
            if r9 = 0 then
              some 2
            else
              ob (f_X10_in p5 0 500) fun r11 =>
              if r11 = 0 then
                some 2
              else
                some 0) fun (z3 : Int32) =>
  ob (some (g_up me 0 (upd (me 0) 67 z3))) fun m13 =>
  ob (if (m13 0 67) = 0 then
      ob (a_ld 6 4 p1 m13) fun v16 =>
      ob (if v16 = 1 then
          some 3
        else
          if (m13 0 1) = 1 then
            some 3
          else
            if (m13 0 26) = 20 then
              some 3
            else
              some 0) fun (z18 : Int32) =>
      ob (some (g_up m13 0 (upd (m13 0) 67 z18))) fun m21 =>
      some m21
    else
      some m13) fun (m15 : gM) =>
  if (m15 0 67) ≤ 0 then
    ob (a_st 20 21 (m15 0 26) p1 m15) fun m23 =>
    ob (a_st 20 22 (m23 0 26) p2 m23) fun m24 =>
    ob (a_st 20 23 (m24 0 26) p3 m24) fun m25 =>
    ob (a_st 20 24 (m25 0 26) p4 m25) fun m26 =>
    ob (a_st 20 25 (m26 0 26) p5 m26) fun m27 =>
    ob (some (g_up m27 0 (upd (m27 0) 26 ((m27 0 26) + 1)))) fun m28 =>
    some (((m28 0 26) - 1), m28)
  else
    some (0, m15)
def f_X10_nextBid_L6 (me : gM) (p1 : Int32) (p2 : Int32) (p3 : Int32) : Nat → Int32 → Int32 → Option (Int32 × Int32)
  | 0, _, _ => none
  | n + 1, x1, x2 =>
    if (me 0 7) ≤ x2 then
      some (x1, x2)
    else
      ob (a_ld 40 12 x2 me) fun v6 =>
      ob (if v6 = 0 then
          ob (a_ld 40 6 x2 me) fun v9 =>
          if v9 = p1 then
            ob (a_ld 40 7 x2 me) fun v11 =>
            if v11 = p2 then
              ob (a_ld 40 8 x2 me) fun v13 =>
              if v13 = p3 then
                some 1
              else
                some 0
            else
              some 0
          else
            some 0
        else
          some 0) fun (z8 : Int32) =>
      ob (if x1 = (-1) then
          some 1
        else
          if p3 = 1 then
            ob (a_ld 40 9 x2 me) fun v21 =>
            ob (a_ld 40 9 x1 me) fun v22 =>
            if v21 ≤ v22 then
              some 0
            else
              some 1
          else
            ob (a_ld 40 9 x2 me) fun v18 =>
            ob (a_ld 40 9 x1 me) fun v19 =>
            if v19 ≤ v18 then
              some 0
            else
              some 1) fun (z16 : Int32) =>
      ob (if z8 = 0 then
          some x1
        else
          if z16 = 0 then
            some x1
          else
            some x2) fun (z25 : Int32) =>
      f_X10_nextBid_L6 me p1 p2 p3 n z25 (x2 + 1)
def f_X10_nextBid (p1 : Int32) (p2 : Int32) (p3 : Int32) (me : gM) : Option (Int32) :=
  ob (f_X10_nextBid_L6 me p1 p2 p3 f_fuel (-1) 0) fun t27 =>
  ob (some t27.1) fun y3 =>
  ob (some t27.2) fun y4 =>
  some y3
def f_X10_forgets_L2  : Nat → Int32 → gM → Option (Int32 × gM)
  | 0, _, _ => none
  | n + 1, x1, m2 =>
    if 40 ≤ x1 then
      some (x1, m2)
    else
      ob (a_st 40 12 x1 0 m2) fun m6 =>
      f_X10_forgets_L2  n (x1 + 1) m6
def f_X10_forgets (me : gM) : Option (gM) :=
  ob (f_X10_forgets_L2  f_fuel 0 me) fun t7 =>
  ob (some t7.1) fun y3 =>
  ob (some t7.2) fun m4 =>
  some m4
def f_X10_sums_L29 (p3 : Int32) (x3 : Int32) : Nat → Int32 → Int32 → gM → Option (Int32 × Int32 × gM)
  | 0, _, _, _ => none
  | n + 1, x10, x11, m12 =>
    ob (a_ld 40 10 x3 m12) fun v16 =>
    if v16 ≤ x11 then
      some (x10, x11, m12)
    else
      ob (if p3 = 1 then
          ob (a_ld 401 50 ((x10 + 1) - 1) m12) fun v23 =>
          ob (a_ld 40 9 x3 m12) fun v24 =>
          ob (a_st 401 50 (x10 + 1) (v23 + v24) m12) fun m25 =>
          some m25
        else
          ob (a_ld 401 49 ((x10 + 1) - 1) m12) fun v20 =>
          ob (a_ld 40 9 x3 m12) fun v21 =>
          ob (a_st 401 49 (x10 + 1) (v20 + v21) m12) fun m22 =>
          some m22) fun (m19 : gM) =>
      f_X10_sums_L29 p3 x3 n (x10 + 1) (x11 + 1) m19
def f_X10_sums_L12 (p1 : Int32) (p2 : Int32) (p3 : Int32) : Nat → Int32 → Int32 → gM → Option (Int32 × Int32 × gM)
  | 0, _, _, _ => none
  | n + 1, x2, x3, m4 =>
    if x3 = (-1) then
      some (x2, x3, m4)
    else
      ob (a_st 40 12 x3 1 m4) fun m9 =>
      ob (f_X10_sums_L29 p3 x3 f_fuel x2 0 m9) fun t27 =>
      ob (some t27.1) fun y13 =>
      ob (some t27.2.1) fun y14 =>
      ob (some t27.2.2) fun m15 =>
      ob (f_X10_nextBid p1 p2 p3 m15) fun r26 =>
      f_X10_sums_L12 p1 p2 p3 n y13 r26 m15
def f_X10_sums (p1 : Int32) (p2 : Int32) (p3 : Int32) (me : gM) : Option (Int32 × gM) :=
  ob (f_X10_nextBid p1 p2 p3 me) fun r1 =>
  ob (f_X10_sums_L12 p1 p2 p3 f_fuel 0 r1 me) fun t28 =>
  ob (some t28.1) fun y5 =>
  ob (some t28.2.1) fun y6 =>
  ob (some t28.2.2) fun m7 =>
  some (y5, m7)
def f_X10_weighs_L81 (x14 : Int32) (x15 : Int32) : Nat → Int32 → gM → Option (Int32 × gM)
  | 0, _, _ => none
  | n + 1, x20, m21 =>
    if (m21 0 59) < x20 then
      some (x20, m21)
    else
      if (m21 0 58) < (x15 + x20) then
        some (x20, m21)
      else
        ob (a_ld 401 50 x20 m21) fun v26 =>
        ob (a_ld 401 49 (x15 + x20) m21) fun v27 =>
        ob (some (v26 - v27)) fun (x28 : Int32) =>
        ob (a_ld 1932 51 x14 m21) fun v29 =>
        ob (if x28 ≤ v29 then
            some m21
          else
            ob (a_st 1932 51 x14 x28 m21) fun m32 =>
            ob (a_st 1932 52 x14 x20 m32) fun m33 =>
            some m33) fun (m31 : gM) =>
        f_X10_weighs_L81 x14 x15 n (x20 + 1) m31
def f_X10_weighs_L24 (p1 : Int32) (p2 : Int32) : Nat → Int32 → gM → Option (Int32 × gM)
  | 0, _, _ => none
  | n + 1, x9, m10 =>
    if 161 ≤ x9 then
      some (x9, m10)
    else
      ob (some ((161 * ((4 * p1) + p2)) + x9)) fun (x14 : Int32) =>
      ob (some (x9 - 80)) fun (x15 : Int32) =>
      ob (a_st 1932 51 x14 (-1000000000) m10) fun m16 =>
      ob (a_st 1932 52 x14 0 m16) fun m17 =>
      ob (if 0 ≤ x15 then
          some 0
        else
          some (-x15)) fun (z19 : Int32) =>
      ob (f_X10_weighs_L81 x14 x15 f_fuel z19 m17) fun t34 =>
      ob (some t34.1) fun y22 =>
      ob (some t34.2) fun m23 =>
      f_X10_weighs_L24 p1 p2 n (x9 + 1) m23
def f_X10_weighs (p1 : Int32) (p2 : Int32) (me : gM) : Option (gM) :=
  ob (f_X10_sums p1 p2 0 me) fun w3 =>
  ob (some w3.1) fun r1 =>
  ob (some w3.2) fun m2 =>
  ob (some (g_up m2 0 (upd (m2 0) 58 r1))) fun m4 =>
  ob (f_X10_sums p1 p2 1 m4) fun w7 =>
  ob (some w7.1) fun r5 =>
  ob (some w7.2) fun m6 =>
  ob (some (g_up m6 0 (upd (m6 0) 59 r5))) fun m8 =>
  ob (f_X10_weighs_L24 p1 p2 f_fuel 0 m8) fun t35 =>
  ob (some t35.1) fun y11 =>
  ob (some t35.2) fun m12 =>
  some m12
def f_X10_away (p0 : Int32) : Option (Int32) :=
  ob (if 0 ≤ p0 then
      some p0
    else
      some (-p0)) fun (z2 : Int32) =>
  some z2
def f_X10_fits (p1 : Int32) (p2 : Int32) (p3 : Int32) (me : gM) : Option (Int32) :=
  ob (f_X10_away (p1 - p2)) fun r1 =>
  ob (a_ld 3 1 0 me) fun v2 =>
  ob (if (3 * v2) < r1 then
      some 0
    else
      ob (f_X10_away (p2 - p3)) fun r5 =>
      ob (a_ld 3 1 1 me) fun v6 =>
      if (3 * v6) < r5 then
        some 0
      else
        ob (f_X10_away (p1 - p3)) fun r8 =>
        ob (a_ld 3 1 2 me) fun v9 =>
        if (3 * v9) < r8 then
          some 0
        else
          some 1) fun (z4 : Int32) =>
  ob (a_zc z4) fun b11 =>
  some b11
def f_X10_worthOf (p1 : Int32) (p2 : Int32) (p3 : Int32) (me : gM) : Option (Int32) :=
  ob (a_ld 12 53 ((4 * p1) + p2) me) fun v1 =>
  ob (a_ld 1932 51 ((((161 * ((4 * p1) + p2)) + 80) + p3) - v1) me) fun v2 =>
  some v2
def f_X10_goes (p0 : Int32) (p1 : Int32) : Option (Int32) :=
  ob (some ((-p0) - p1)) fun (x1 : Int32) =>
  ob (f_X10_away (p0 - p1)) fun r2 =>
  ob (f_X10_away (p1 - x1)) fun r3 =>
  ob (f_X10_away (p0 - x1)) fun r4 =>
  some ((r2 + r3) + r4)
def f_X10_most_L18 (p1 : Int32) (p2 : Int32) (x2 : Int32) : Nat → Int32 → Int32 → gM → Option (Int32 × Int32 × gM)
  | 0, _, _, _ => none
  | n + 1, x8, x9, m10 =>
    if 20 < x9 then
      some (x8, x9, m10)
    else
      ob (some ((-x2) - x9)) fun (x15 : Int32) =>
      ob (f_X10_fits x2 x9 x15 m10) fun r16 =>
      ob (if r16 = 0 then
          some (x8, m10)
        else
          ob (if p2 = 0 then
              some (x2 - 1)
            else
              some x2) fun (z21 : Int32) =>
          ob (f_X10_worthOf 0 p1 z21 m10) fun r22 =>
          ob (if p2 = 1 then
              some (x9 - 1)
            else
              some x9) fun (z24 : Int32) =>
          ob (f_X10_worthOf 1 p1 z24 m10) fun r25 =>
          ob (if p2 = 2 then
              some (x15 - 1)
            else
              some x15) fun (z27 : Int32) =>
          ob (f_X10_worthOf 2 p1 z27 m10) fun r28 =>
          ob (if r22 = (-1000000000) then
              some (-1000000000)
            else
              if r25 = (-1000000000) then
                some (-1000000000)
              else
                if r28 = (-1000000000) then
                  some (-1000000000)
                else
                  some ((r22 + r25) + r28)) fun (z30 : Int32) =>
          ob (if z30 ≤ (-1000000000) then
              some 0
            else
              if z30 = x8 then
                ob (f_X10_goes x2 x9) fun r36 =>
                ob (f_X10_goes (m10 0 65) (m10 0 66)) fun r37 =>
                if r37 ≤ r36 then
                  some 0
                else
                  some 1
              else
                some 0) fun (z34 : Int32) =>
          if x8 < z30 then
            ob (some (g_up m10 0 (upd (m10 0) 65 x2))) fun m40 =>
            ob (some (g_up m40 0 (upd (m40 0) 66 x9))) fun m41 =>
            some (z30, m41)
          else
            if z34 = 0 then
              some (x8, m10)
            else
              ob (some (g_up m10 0 (upd (m10 0) 65 x2))) fun m43 =>
              ob (some (g_up m43 0 (upd (m43 0) 66 x9))) fun m44 =>
              some (z30, m44)) fun (t45 : Int32 × gM) =>
      ob (some t45.1) fun x18 =>
      ob (some t45.2) fun m19 =>
      f_X10_most_L18 p1 p2 x2 n x18 (x9 + 1) m19
def f_X10_most_L7 (p1 : Int32) (p2 : Int32) : Nat → Int32 → Int32 → gM → Option (Int32 × Int32 × gM)
  | 0, _, _, _ => none
  | n + 1, x1, x2, m3 =>
    if 20 < x2 then
      some (x1, x2, m3)
    else
      ob (f_X10_most_L18 p1 p2 x2 f_fuel x1 (-20) m3) fun t46 =>
      ob (some t46.1) fun y11 =>
      ob (some t46.2.1) fun y12 =>
      ob (some t46.2.2) fun m13 =>
      f_X10_most_L7 p1 p2 n y11 (x2 + 1) m13
def f_X10_most (p1 : Int32) (p2 : Int32) (me : gM) : Option (Int32 × gM) :=
  ob (f_X10_most_L7 p1 p2 f_fuel (-1000000000) (-20) me) fun t47 =>
  ob (some t47.1) fun y4 =>
  ob (some t47.2.1) fun y5 =>
  ob (some t47.2.2) fun m6 =>
  some (y4, m6)
def f_X10_isAllowed_L71 (me : gM) (p1 : Int32) (x2 : Int32) (z7 : Int32) : Nat → Int32 → Int32 → Option (Int32 × Int32)
  | 0, _, _ => none
  | n + 1, x15, x16 =>
    if x2 ≤ x16 then
      some (x15, x16)
    else
      ob (if x15 = 0 then
          some 0
        else
          if z7 = 0 then
            some 1
          else
            if ((p1 >>> (x16 &&& 31)) &&& 1) = 1 then
              ob (a_ld 5 20 x2 me) fun v24 =>
              if v24 ≤ 0 then
                some 1
              else
                ob (a_ld 5 20 x2 me) fun v26 =>
                ob (a_ld 5 20 x16 me) fun v27 =>
                if v26 = v27 then
                  some 0
                else
                  some 1
            else
              some 1) fun (z21 : Int32) =>
      f_X10_isAllowed_L71 me p1 x2 z7 n z21 (x16 + 1)
def f_X10_isAllowed_L4 (me : gM) (p1 : Int32) : Nat → Int32 → Int32 → Option (Int32 × Int32)
  | 0, _, _ => none
  | n + 1, x1, x2 =>
    if (me 0 16) ≤ x2 then
      some (x1, x2)
    else
      ob (if ((p1 >>> (x2 &&& 31)) &&& 1) = 1 then
          some 1
        else
          some 0) fun (z7 : Int32) =>
      ob (if x1 = 0 then
          some 0
        else
          if z7 = 0 then
            some 1
          else
            ob (a_ld 5 19 x2 me) fun v11 =>
            if v11 = 0 then
              some 1
            else
              ob (a_ld 5 19 x2 me) fun v13 =>
              if ((p1 >>> ((v13 - 1) &&& 31)) &&& 1) = 1 then
                some 1
              else
                some 0) fun (z9 : Int32) =>
      ob (f_X10_isAllowed_L71 me p1 x2 z7 f_fuel z9 0) fun t29 =>
      ob (some t29.1) fun y17 =>
      ob (some t29.2) fun y18 =>
      f_X10_isAllowed_L4 me p1 n y17 (x2 + 1)
def f_X10_isAllowed (p1 : Int32) (me : gM) : Option (Int32) :=
  ob (f_X10_isAllowed_L4 me p1 f_fuel 1 0) fun t31 =>
  ob (some t31.1) fun y3 =>
  ob (some t31.2) fun y4 =>
  ob (a_zc y3) fun b30 =>
  some b30
def f_X10_pricesOf_L6 (a2 : Nat) (n2 : Nat) (me : gM) (p1 : Int32) (p3 : Int32) : Nat → Int32 → Int32 → Option (Int32 × Int32)
  | 0, _, _ => none
  | n + 1, x1, x2 =>
    if 4 ≤ x2 then
      some (x1, x2)
    else
      ob (a_ld 5 15 p1 me) fun v6 =>
      ob (if ((v6 >>> (x2 &&& 31)) &&& 1) = 1 then
          ob (a_ld 5 14 p1 me) fun v9 =>
          ob (a_ld n2 a2 ((p3 + (4 * v9)) + x2) me) fun v10 =>
          some v10
        else
          some 0) fun (z8 : Int32) =>
      ob (some (x1 + z8)) fun (x11 : Int32) =>
      f_X10_pricesOf_L6 a2 n2 me p1 p3 n x11 (x2 + 1)
def f_X10_pricesOf (p1 : Int32) (n2 : Nat) (a2 : Nat) (p3 : Int32) (me : gM) : Option (Int32) :=
  ob (f_X10_pricesOf_L6 a2 n2 me p1 p3 f_fuel 0 0) fun t12 =>
  ob (some t12.1) fun y3 =>
  ob (some t12.2) fun y4 =>
  some y3
def f_X10_hoursOf_L4 (me : gM) (p1 : Int32) : Nat → Int32 → Int32 → Option (Int32 × Int32)
  | 0, _, _ => none
  | n + 1, x1, x2 =>
    if 4 ≤ x2 then
      some (x1, x2)
    else
      ob (a_ld 5 15 p1 me) fun v6 =>
      ob (some (x1 + ((v6 >>> (x2 &&& 31)) &&& 1))) fun (x7 : Int32) =>
      f_X10_hoursOf_L4 me p1 n x7 (x2 + 1)
def f_X10_hoursOf (p1 : Int32) (me : gM) : Option (Int32) :=
  ob (f_X10_hoursOf_L4 me p1 f_fuel 0 0) fun t8 =>
  ob (some t8.1) fun y3 =>
  ob (some t8.2) fun y4 =>
  some y3
def f_X10_gainOf (p1 : Int32) (n2 : Nat) (a2 : Nat) (p3 : Int32) (me : gM) : Option (Int32) :=
  ob (f_X10_pricesOf p1 n2 a2 p3 me) fun r1 =>
  ob (a_ld 5 17 p1 me) fun v2 =>
  ob (f_X10_hoursOf p1 me) fun r3 =>
  ob (some (r1 - (v2 * r3))) fun (x4 : Int32) =>
  ob (a_ld 5 16 p1 me) fun v5 =>
  ob (if v5 = 1 then
      some (-x4)
    else
      some x4) fun (z7 : Int32) =>
  some z7
def f_X10_lays_L2  : Nat → Int32 → gM → Option (Int32 × gM)
  | 0, _, _ => none
  | n + 1, x1, m2 =>
    if 12 ≤ x1 then
      some (x1, m2)
    else
      ob (a_st 12 53 x1 0 m2) fun m6 =>
      f_X10_lays_L2  n (x1 + 1) m6
def f_X10_lays_L33 (p1 : Int32) (x7 : Int32) : Nat → Int32 → gM → Option (Int32 × gM)
  | 0, _, _ => none
  | n + 1, x12, m13 =>
    if 4 ≤ x12 then
      some (x12, m13)
    else
      ob (if ((p1 >>> (x7 &&& 31)) &&& 1) = 1 then
          ob (a_ld 5 15 x7 m13) fun v19 =>
          if ((v19 >>> (x12 &&& 31)) &&& 1) = 1 then
            some 1
          else
            some 0
        else
          some 0) fun (z18 : Int32) =>
      ob (a_ld 5 14 x7 m13) fun v21 =>
      ob (a_ld 12 53 ((4 * v21) + x12) m13) fun v22 =>
      ob (if z18 = 0 then
          some 0
        else
          ob (a_ld 5 16 x7 m13) fun v25 =>
          if v25 = 1 then
            ob (a_ld 5 18 x7 m13) fun v28 =>
            some (-v28)
          else
            ob (a_ld 5 18 x7 m13) fun v27 =>
            some v27) fun (z24 : Int32) =>
      ob (a_st 12 53 ((4 * v21) + x12) (v22 + z24) m13) fun m29 =>
      f_X10_lays_L33 p1 x7 n (x12 + 1) m29
def f_X10_lays_L23 (p1 : Int32) : Nat → Int32 → gM → Option (Int32 × gM)
  | 0, _, _ => none
  | n + 1, x7, m8 =>
    if (m8 0 16) ≤ x7 then
      some (x7, m8)
    else
      ob (f_X10_lays_L33 p1 x7 f_fuel 0 m8) fun t30 =>
      ob (some t30.1) fun y14 =>
      ob (some t30.2) fun m15 =>
      f_X10_lays_L23 p1 n (x7 + 1) m15
def f_X10_lays (p1 : Int32) (me : gM) : Option (gM) :=
  ob (f_X10_lays_L2  f_fuel 0 me) fun t32 =>
  ob (some t32.1) fun y3 =>
  ob (some t32.2) fun m4 =>
  ob (f_X10_lays_L23 p1 f_fuel 0 m4) fun t31 =>
  ob (some t31.1) fun y9 =>
  ob (some t31.2) fun m10 =>
  some m10
def f_X10_worthOfBlocks_L4 (me : gM) (p1 : Int32) : Nat → Int32 → Int32 → Option (Int32 × Int32)
  | 0, _, _ => none
  | n + 1, x1, x2 =>
    if (me 0 16) ≤ x2 then
      some (x1, x2)
    else
      ob (a_ld 5 17 x2 me) fun v6 =>
      ob (a_ld 5 18 x2 me) fun v7 =>
      ob (f_X10_hoursOf x2 me) fun r8 =>
      ob (some ((v6 * v7) * r8)) fun (x9 : Int32) =>
      ob (if ((p1 >>> (x2 &&& 31)) &&& 1) = 0 then
          some 0
        else
          ob (a_ld 5 16 x2 me) fun v12 =>
          if v12 = 1 then
            some x9
          else
            some (-x9)) fun (z11 : Int32) =>
      ob (some (x1 + z11)) fun (x14 : Int32) =>
      f_X10_worthOfBlocks_L4 me p1 n x14 (x2 + 1)
def f_X10_worthOfBlocks (p1 : Int32) (me : gM) : Option (Int32) :=
  ob (f_X10_worthOfBlocks_L4 me p1 f_fuel 0 0) fun t15 =>
  ob (some t15.1) fun y3 =>
  ob (some t15.2) fun y4 =>
  some y3
def f_X10_tries_L85 (r10 : Int32) (x4 : Int32) : Nat → Int32 → gM → Option (Int32 × gM)
  | 0, _, _ => none
  | n + 1, x18, m19 =>
    if 3 ≤ x18 then
      some (x18, m19)
    else
      ob (f_X10_most x4 x18 m19) fun w25 =>
      ob (some w25.1) fun r23 =>
      ob (some w25.2) fun m24 =>
      ob (if r23 ≤ r10 then
          some 0
        else
          some (r23 - r10)) fun (z27 : Int32) =>
      ob (a_st 12 55 ((4 * x18) + x4) z27 m24) fun m28 =>
      f_X10_tries_L85 r10 x4 n (x18 + 1) m28
def f_X10_tries_L13  : Nat → Int32 → Int32 → gM → Option ((Int32 × Int32 × gM) ⊕ (Int32 × gM))
  | 0, _, _, _ => none
  | n + 1, x3, x4, m5 =>
    if 4 ≤ x4 then
      some (.inl (x3, x4, m5))
    else
      ob (f_X10_most x4 (-1) m5) fun w12 =>
      ob (some w12.1) fun r10 =>
      ob (some w12.2) fun m11 =>
      if r10 = (-1000000000) then
        some (.inr ((-1000000000), m11))
      else
        ob (some (x3 + r10)) fun (x14 : Int32) =>
        ob (a_st 12 54 x4 (m11 0 65) m11) fun m15 =>
        ob (a_st 12 54 (4 + x4) (m15 0 66) m15) fun m16 =>
        ob (a_st 12 54 (8 + x4) ((-(m16 0 65)) - (m16 0 66)) m16) fun m17 =>
        ob (f_X10_tries_L85 r10 x4 f_fuel 0 m17) fun t29 =>
        ob (some t29.1) fun y20 =>
        ob (some t29.2) fun m21 =>
        f_X10_tries_L13  n x14 (x4 + 1) m21
def f_X10_tries_L141 (m8 : gM) (p1 : Int32) : Nat → Int32 → Option ((Int32) ⊕ (Int32 × gM))
  | 0, _ => none
  | n + 1, x30 =>
    if (m8 0 16) ≤ x30 then
      some (.inl x30)
    else
      if ((p1 >>> (x30 &&& 31)) &&& 1) = 1 then
        ob (f_X10_gainOf x30 12 55 0 m8) fun r34 =>
        if 0 ≤ r34 then
          f_X10_tries_L141 m8 p1 n (x30 + 1)
        else
          some (.inr ((-1000000000), m8))
      else
        f_X10_tries_L141 m8 p1 n (x30 + 1)
def f_X10_tries (p1 : Int32) (me : gM) : Option (Int32 × gM) :=
  ob (f_X10_lays p1 me) fun m1 =>
  ob (f_X10_worthOfBlocks p1 m1) fun r2 =>
  oz (f_X10_tries_L13  f_fuel r2 0 m1) (fun w9 => some w9) fun t36 =>
  ob (some t36.1) fun y6 =>
  ob (some t36.2.1) fun y7 =>
  ob (some t36.2.2) fun m8 =>
  oz (f_X10_tries_L141 m8 p1 f_fuel 0) (fun w9 => some w9) fun y31 =>
  some (y6, m8)
def f_X10_takes_L8 (p1 : Int32) (p2 : Int32) (p3 : Int32) : Nat → Int32 → gM → Option (Int32 × gM)
  | 0, _, _ => none
  | n + 1, x2, m3 =>
    if x2 ≤ 0 then
      some (x2, m3)
    else
      ob (f_X10_nextBid p1 p2 p3 m3) fun r7 =>
      ob (a_st 40 12 r7 1 m3) fun m8 =>
      ob (a_ld 40 10 r7 m8) fun v9 =>
      ob (if x2 ≤ v9 then
          some x2
        else
          ob (a_ld 40 10 r7 m8) fun v12 =>
          some v12) fun (z11 : Int32) =>
      ob (a_st 40 11 r7 z11 m8) fun m13 =>
      ob (a_ld 40 11 r7 m13) fun v14 =>
      ob (some (x2 - v14)) fun (x15 : Int32) =>
      f_X10_takes_L8 p1 p2 p3 n x15 m13
def f_X10_takes (p1 : Int32) (p2 : Int32) (p3 : Int32) (p4 : Int32) (me : gM) : Option (gM) :=
  ob (f_X10_forgets me) fun m1 =>
  ob (f_X10_takes_L8 p1 p2 p3 f_fuel p4 m1) fun t16 =>
  ob (some t16.1) fun y4 =>
  ob (some t16.2) fun m5 =>
  some m5
def f_X10_trades (p1 : Int32) (p2 : Int32) (p3 : Int32) (p4 : Int32) (p5 : Int32) (me : gM) : Option (gM) :=
  ob (a_ld 720 42 ((((72 * (me 0 0)) + (12 * p1)) + (4 * p2)) + p3) me) fun v1 =>
  ob (a_st 720 42 ((((72 * (me 0 0)) + (12 * p1)) + (4 * p2)) + p3) (v1 + p4) me) fun m2 =>
  ob (a_ld 60 45 ((6 * (m2 0 0)) + p1) m2) fun v3 =>
  ob (a_st 60 45 ((6 * (m2 0 0)) + p1) (v3 + (p4 * p5)) m2) fun m4 =>
  some m4
def f_X10_givesRights_L41 (me : gM) (p1 : Int32) (p2 : Int32) : Nat → Int32 → Int32 → Option (Int32 × Int32)
  | 0, _, _ => none
  | n + 1, x5, x6 =>
    if 4 ≤ x6 then
      some (x5, x6)
    else
      ob (a_ld 120 41 (((12 * (me 0 0)) + (4 * p2)) + x6) me) fun v10 =>
      ob (a_ld 120 41 (((12 * (me 0 0)) + (4 * p1)) + x6) me) fun v11 =>
      ob (some (v10 - v11)) fun (x12 : Int32) =>
      ob (if x12 ≤ 0 then
          some 0
        else
          some x12) fun (z14 : Int32) =>
      ob (some (x5 + z14)) fun (x15 : Int32) =>
      f_X10_givesRights_L41 me p1 p2 n x15 (x6 + 1)
def f_X10_givesRights_L123 (p1 : Int32) (p2 : Int32) (x19 : Int32) : Nat → Int32 → Int32 → Int32 → Int32 → gM → Option (Int32 × Int32 × Int32 × Int32 × gM)
  | 0, _, _, _, _, _ => none
  | n + 1, x27, x28, x29, x30, m31 =>
    if (m31 0 26) ≤ x30 then
      some (x27, x28, x29, x30, m31)
    else
      ob (a_ld 20 22 x30 m31) fun v38 =>
      ob (if v38 = p1 then
          ob (a_ld 20 23 x30 m31) fun v44 =>
          if v44 = p2 then
            ob (a_ld 20 25 x30 m31) fun v46 =>
            if v46 = x19 then
              ob (a_ld 20 24 x30 m31) fun v48 =>
              ob (if x27 ≤ v48 then
                  some x27
                else
                  ob (a_ld 20 24 x30 m31) fun v51 =>
                  some v51) fun (z50 : Int32) =>
              ob (a_st 20 26 x30 z50 m31) fun m52 =>
              ob (a_ld 20 26 x30 m52) fun v53 =>
              ob (some (x27 - v53)) fun (x54 : Int32) =>
              ob (a_ld 20 24 x30 m52) fun v55 =>
              ob (a_ld 20 26 x30 m52) fun v56 =>
              ob (some (x28 + (v55 - v56))) fun (x57 : Int32) =>
              ob (a_ld 20 26 x30 m52) fun v58 =>
              ob (if v58 ≤ 0 then
                  some x29
                else
                  some x19) fun (z60 : Int32) =>
              some (x54, x57, z60, m52)
            else
              some (x27, x28, x29, m31)
          else
            some (x27, x28, x29, m31)
        else
          some (x27, x28, x29, m31)) fun (t61 : Int32 × Int32 × Int32 × gM) =>
      ob (some t61.1) fun x40 =>
      ob (some t61.2.1) fun x41 =>
      ob (some t61.2.2.1) fun x42 =>
      ob (some t61.2.2.2) fun m43 =>
      f_X10_givesRights_L123 p1 p2 x19 n x40 x41 x42 (x30 + 1) m43
def f_X10_givesRights_L115 (p1 : Int32) (p2 : Int32) : Nat → Int32 → Int32 → Int32 → Int32 → gM → Option (Int32 × Int32 × Int32 × Int32 × gM)
  | 0, _, _, _, _, _ => none
  | n + 1, x16, x17, x18, x19, m20 =>
    if x19 < 0 then
      some (x16, x17, x18, x19, m20)
    else
      ob (f_X10_givesRights_L123 p1 p2 x19 f_fuel x16 x17 x18 0 m20) fun t62 =>
      ob (some t62.1) fun y32 =>
      ob (some t62.2.1) fun y33 =>
      ob (some t62.2.2.1) fun y34 =>
      ob (some t62.2.2.2.1) fun y35 =>
      ob (some t62.2.2.2.2) fun m36 =>
      f_X10_givesRights_L115 p1 p2 n y32 y33 y34 (x19 + (-1)) m36
def f_X10_givesRights_L259 (p1 : Int32) (p2 : Int32) (y22 : Int32) (y23 : Int32) (y7 : Int32) : Nat → Int32 → gM → Option (Int32 × gM)
  | 0, _, _ => none
  | n + 1, x63, m64 =>
    if (m64 0 26) ≤ x63 then
      some (x63, m64)
    else
      ob (a_ld 20 22 x63 m64) fun v68 =>
      ob (if v68 = p1 then
          ob (a_ld 20 23 x63 m64) fun v71 =>
          if v71 = p2 then
            ob (a_ld 20 21 x63 m64) fun v73 =>
            ob (a_ld 60 45 ((6 * (m64 0 0)) + v73) m64) fun v74 =>
            ob (a_ld 20 26 x63 m64) fun v75 =>
            ob (if y22 ≤ 0 then
                some 0
              else
                some y23) fun (z77 : Int32) =>
            ob (a_st 60 45 ((6 * (m64 0 0)) + v73) (v74 + (v75 * (y7 - z77))) m64) fun m78 =>
            some m78
          else
            some m64
        else
          some m64) fun (m70 : gM) =>
      f_X10_givesRights_L259 p1 p2 y22 y23 y7 n (x63 + 1) m70
def f_X10_givesRights (p1 : Int32) (p2 : Int32) (me : gM) : Option (gM) :=
  ob (if (p1 + p2) = 1 then
      some 0
    else
      if (p1 + p2) = 3 then
        some 1
      else
        some 2) fun (z2 : Int32) =>
  ob (a_ld 3 1 z2 me) fun v4 =>
  ob (f_X10_givesRights_L41 me p1 p2 f_fuel 0 0) fun t81 =>
  ob (some t81.1) fun y7 =>
  ob (some t81.2) fun y8 =>
  ob (f_X10_givesRights_L115 p1 p2 f_fuel v4 0 0 500 me) fun t80 =>
  ob (some t80.1) fun y21 =>
  ob (some t80.2.1) fun y22 =>
  ob (some t80.2.2.1) fun y23 =>
  ob (some t80.2.2.2.1) fun y24 =>
  ob (some t80.2.2.2.2) fun m25 =>
  ob (f_X10_givesRights_L259 p1 p2 y22 y23 y7 f_fuel 0 m25) fun t79 =>
  ob (some t79.1) fun y65 =>
  ob (some t79.2) fun m66 =>
  some m66
def f_X10_takesHour (p1 : Int32) (p2 : Int32) (me : gM) : Option (gM) :=
  ob (some ((4 * p1) + p2)) fun (x1 : Int32) =>
  ob (a_ld 12 54 x1 me) fun v2 =>
  ob (a_st 12 48 x1 v2 me) fun m3 =>
  ob (a_ld 12 55 x1 m3) fun v4 =>
  ob (a_st 120 41 ((12 * (m3 0 0)) + x1) v4 m3) fun m5 =>
  ob (a_ld 12 54 x1 m5) fun v6 =>
  ob (a_ld 12 53 x1 m5) fun v7 =>
  ob (some (v6 - v7)) fun (x8 : Int32) =>
  ob (a_ld 1932 52 (((161 * x1) + 80) + x8) m5) fun v9 =>
  ob (f_X10_takes p1 p2 1 v9 m5) fun m10 =>
  ob (f_X10_takes p1 p2 0 (x8 + v9) m10) fun m11 =>
  some m11
def f_X10_clear_L35 (x5 : Int32) : Nat → Int32 → gM → Option (Int32 × gM)
  | 0, _, _ => none
  | n + 1, x10, m11 =>
    if 4 ≤ x10 then
      some (x10, m11)
    else
      ob (f_X10_forgets m11) fun m15 =>
      ob (f_X10_weighs x5 x10 m15) fun m16 =>
      f_X10_clear_L35 x5 n (x10 + 1) m16
def f_X10_clear_L28  : Nat → Int32 → gM → Option (Int32 × gM)
  | 0, _, _ => none
  | n + 1, x5, m6 =>
    if 3 ≤ x5 then
      some (x5, m6)
    else
      ob (f_X10_clear_L35 x5 f_fuel 0 m6) fun t17 =>
      ob (some t17.1) fun y12 =>
      ob (some t17.2) fun m13 =>
      f_X10_clear_L28  n (x5 + 1) m13
def f_X10_clear_L72  : Nat → Int32 → Int32 → gM → Option (Int32 × Int32 × gM)
  | 0, _, _, _ => none
  | n + 1, x19, x20, m21 =>
    if (1 <<< ((m21 0 16) &&& 31)) ≤ x20 then
      some (x19, x20, m21)
    else
      ob (f_X10_isAllowed x20 m21) fun r26 =>
      ob (if r26 = 0 then
          some ((-1000000000), m21)
        else
          ob (f_X10_tries x20 m21) fun w32 =>
          ob (some w32.1) fun r30 =>
          ob (some w32.2) fun m31 =>
          some (r30, m31)) fun (t38 : Int32 × gM) =>
      ob (some t38.1) fun z28 =>
      ob (some t38.2) fun m29 =>
      ob (if z28 ≤ x19 then
          some (x19, m29)
        else
          ob (some (g_up m29 0 (upd (m29 0) 25 x20))) fun m36 =>
          some (z28, m36)) fun (t37 : Int32 × gM) =>
      ob (some t37.1) fun x34 =>
      ob (some t37.2) fun m35 =>
      f_X10_clear_L72  n x34 (x20 + 1) m35
def f_X10_clear_L130  : Nat → Int32 → gM → Option (Int32 × gM)
  | 0, _, _ => none
  | n + 1, x42, m43 =>
    if 40 ≤ x42 then
      some (x42, m43)
    else
      ob (a_st 40 11 x42 0 m43) fun m47 =>
      f_X10_clear_L130  n (x42 + 1) m47
def f_X10_clear_L158 (x48 : Int32) : Nat → Int32 → gM → Option (Int32 × gM)
  | 0, _, _ => none
  | n + 1, x53, m54 =>
    if 4 ≤ x53 then
      some (x53, m54)
    else
      ob (f_X10_takesHour x48 x53 m54) fun m58 =>
      f_X10_clear_L158 x48 n (x53 + 1) m58
def f_X10_clear_L151  : Nat → Int32 → gM → Option (Int32 × gM)
  | 0, _, _ => none
  | n + 1, x48, m49 =>
    if 3 ≤ x48 then
      some (x48, m49)
    else
      ob (f_X10_clear_L158 x48 f_fuel 0 m49) fun t59 =>
      ob (some t59.1) fun y55 =>
      ob (some t59.2) fun m56 =>
      f_X10_clear_L151  n (x48 + 1) m56
def f_X10_clear_L183  : Nat → Int32 → gM → Option (Int32 × gM)
  | 0, _, _ => none
  | n + 1, x60, m61 =>
    if (m61 0 7) ≤ x60 then
      some (x60, m61)
    else
      ob (a_ld 40 8 x60 m61) fun v65 =>
      ob (if v65 = 1 then
          ob (a_ld 40 11 x60 m61) fun v69 =>
          some (-v69)
        else
          ob (a_ld 40 11 x60 m61) fun v68 =>
          some v68) fun (z67 : Int32) =>
      ob (a_ld 40 5 x60 m61) fun v70 =>
      ob (a_ld 40 6 x60 m61) fun v71 =>
      ob (a_ld 40 7 x60 m61) fun v72 =>
      ob (a_ld 40 6 x60 m61) fun v73 =>
      ob (a_ld 40 7 x60 m61) fun v74 =>
      ob (a_ld 120 41 (((12 * (m61 0 0)) + (4 * v73)) + v74) m61) fun v75 =>
      ob (f_X10_trades v70 v71 v72 z67 v75 m61) fun m76 =>
      f_X10_clear_L183  n (x60 + 1) m76
def f_X10_clear_L287 (x77 : Int32) : Nat → Int32 → gM → Option (Int32 × gM)
  | 0, _, _ => none
  | n + 1, x82, m83 =>
    if 4 ≤ x82 then
      some (x82, m83)
    else
      ob (if (((m83 0 25) >>> (x77 &&& 31)) &&& 1) = 1 then
          ob (a_ld 5 15 x77 m83) fun v89 =>
          if ((v89 >>> (x82 &&& 31)) &&& 1) = 1 then
            some 1
          else
            some 0
        else
          some 0) fun (z88 : Int32) =>
      ob (if z88 = 0 then
          some 0
        else
          ob (a_ld 5 16 x77 m83) fun v93 =>
          if v93 = 1 then
            ob (a_ld 5 18 x77 m83) fun v96 =>
            some (-v96)
          else
            ob (a_ld 5 18 x77 m83) fun v95 =>
            some v95) fun (z92 : Int32) =>
      ob (a_ld 5 13 x77 m83) fun v97 =>
      ob (a_ld 5 14 x77 m83) fun v98 =>
      ob (a_ld 5 14 x77 m83) fun v99 =>
      ob (a_ld 120 41 (((12 * (m83 0 0)) + (4 * v99)) + x82) m83) fun v100 =>
      ob (f_X10_trades v97 v98 x82 z92 v100 m83) fun m101 =>
      f_X10_clear_L287 x77 n (x82 + 1) m101
def f_X10_clear_L277  : Nat → Int32 → gM → Option (Int32 × gM)
  | 0, _, _ => none
  | n + 1, x77, m78 =>
    if (m78 0 16) ≤ x77 then
      some (x77, m78)
    else
      ob (f_X10_clear_L287 x77 f_fuel 0 m78) fun t102 =>
      ob (some t102.1) fun y84 =>
      ob (some t102.2) fun m85 =>
      f_X10_clear_L277  n (x77 + 1) m85
def f_X10_clear_L425 (x103 : Int32) : Nat → Int32 → gM → Option (Int32 × gM)
  | 0, _, _ => none
  | n + 1, x108, m109 =>
    if 3 ≤ x108 then
      some (x108, m109)
    else
      ob (if x103 = x108 then
          some m109
        else
          ob (f_X10_givesRights x103 x108 m109) fun m115 =>
          some m115) fun (m114 : gM) =>
      f_X10_clear_L425 x103 n (x108 + 1) m114
def f_X10_clear_L418  : Nat → Int32 → gM → Option (Int32 × gM)
  | 0, _, _ => none
  | n + 1, x103, m104 =>
    if 3 ≤ x103 then
      some (x103, m104)
    else
      ob (f_X10_clear_L425 x103 f_fuel 0 m104) fun t116 =>
      ob (some t116.1) fun y110 =>
      ob (some t116.2) fun m111 =>
      f_X10_clear_L418  n (x103 + 1) m111
def f_X10_clear (me : gM) : Option (Int32 × gM) :=
  ob (if (me 0 1) = 1 then
      some 1
    else
      some 0) fun (z2 : Int32) =>
  ob (some (g_up me 0 (upd (me 0) 67 z2))) fun m3 =>
  if (m3 0 67) ≤ 0 then
    ob (f_X10_clear_L28  f_fuel 0 m3) fun t124 =>
    ob (some t124.1) fun y7 =>
    ob (some t124.2) fun m8 =>
    ob (some (g_up m8 0 (upd (m8 0) 25 0))) fun m18 =>
    ob (f_X10_clear_L72  f_fuel (-1000000000) 0 m18) fun t123 =>
    ob (some t123.1) fun y22 =>
    ob (some t123.2.1) fun y23 =>
    ob (some t123.2.2) fun m24 =>
    ob (f_X10_tries (m24 0 25) m24) fun w41 =>
    ob (some w41.1) fun r39 =>
    ob (some w41.2) fun m40 =>
    ob (f_X10_clear_L130  f_fuel 0 m40) fun t122 =>
    ob (some t122.1) fun y44 =>
    ob (some t122.2) fun m45 =>
    ob (f_X10_clear_L151  f_fuel 0 m45) fun t121 =>
    ob (some t121.1) fun y50 =>
    ob (some t121.2) fun m51 =>
    ob (f_X10_clear_L183  f_fuel 0 m51) fun t120 =>
    ob (some t120.1) fun y62 =>
    ob (some t120.2) fun m63 =>
    ob (f_X10_clear_L277  f_fuel 0 m63) fun t119 =>
    ob (some t119.1) fun y79 =>
    ob (some t119.2) fun m80 =>
    ob (f_X10_clear_L418  f_fuel 0 m80) fun t118 =>
    ob (some t118.1) fun y105 =>
    ob (some t118.2) fun m106 =>
    ob (some (g_up m106 0 (upd (m106 0) 1 1))) fun m117 =>
    some (y22, m117)
  else
    some (0, m3)
def f_X10_room_L14 (p1 : Int32) (p2 : Int32) (p3 : Int32) (p4 : Int32) : Nat → Int32 → Int32 → gM → Option (Int32 × Int32 × gM)
  | 0, _, _, _ => none
  | n + 1, x2, x3, m4 =>
    if x3 = 0 then
      some (x2, x3, m4)
    else
      if p4 ≤ x2 then
        some (x2, x3, m4)
      else
        ob (a_ld 12 48 ((4 * p1) + p3) m4) fun v10 =>
        ob (a_st 12 48 ((4 * p1) + p3) (v10 + 1) m4) fun m11 =>
        ob (a_ld 12 48 ((4 * p2) + p3) m11) fun v12 =>
        ob (a_st 12 48 ((4 * p2) + p3) (v12 - 1) m11) fun m13 =>
        ob (a_ld 12 48 p3 m13) fun v14 =>
        ob (a_ld 12 48 (4 + p3) m13) fun v15 =>
        ob (a_ld 12 48 (8 + p3) m13) fun v16 =>
        ob (f_X10_fits v14 v15 v16 m13) fun r17 =>
        ob (if r17 = 0 then
            some 0
          else
            some 1) fun (z19 : Int32) =>
        ob (some (x2 + z19)) fun (x20 : Int32) =>
        ob (a_ld 12 48 ((4 * p1) + p3) m13) fun v21 =>
        ob (if r17 = 0 then
            some 1
          else
            some 0) fun (z23 : Int32) =>
        ob (a_st 12 48 ((4 * p1) + p3) (v21 - z23) m13) fun m24 =>
        ob (a_ld 12 48 ((4 * p2) + p3) m24) fun v25 =>
        ob (if r17 = 0 then
            some 1
          else
            some 0) fun (z27 : Int32) =>
        ob (a_st 12 48 ((4 * p2) + p3) (v25 + z27) m24) fun m28 =>
        f_X10_room_L14 p1 p2 p3 p4 n x20 r17 m28
def f_X10_room (p1 : Int32) (p2 : Int32) (p3 : Int32) (p4 : Int32) (me : gM) : Option (Int32 × gM) :=
  if p1 = p2 then
    some (p4, me)
  else
    ob (f_X10_room_L14 p1 p2 p3 p4 f_fuel 0 1 me) fun t33 =>
    ob (some t33.1) fun y5 =>
    ob (some t33.2.1) fun y6 =>
    ob (some t33.2.2) fun m7 =>
    ob (a_ld 12 48 ((4 * p1) + p3) m7) fun v29 =>
    ob (a_st 12 48 ((4 * p1) + p3) (v29 - y5) m7) fun m30 =>
    ob (a_ld 12 48 ((4 * p2) + p3) m30) fun v31 =>
    ob (a_st 12 48 ((4 * p2) + p3) (v31 + y5) m30) fun m32 =>
    some (y5, m32)
def f_X10_restFor_L4 (me : gM) (p1 : Int32) : Nat → Int32 → Int32 → Option (Int32 × Int32)
  | 0, _, _ => none
  | n + 1, x1, x2 =>
    if p1 ≤ x2 then
      some (x1, x2)
    else
      ob (a_ld 60 33 x2 me) fun v6 =>
      ob (if v6 = 0 then
          ob (a_ld 60 32 x2 me) fun v9 =>
          if v9 ≤ 0 then
            some 0
          else
            ob (a_ld 60 29 x2 me) fun v11 =>
            ob (a_ld 60 29 p1 me) fun v12 =>
            if v11 = v12 then
              ob (a_ld 60 30 x2 me) fun v14 =>
              ob (a_ld 60 30 p1 me) fun v15 =>
              if v14 = v15 then
                some 0
              else
                some 1
            else
              some 0
        else
          some 0) fun (z8 : Int32) =>
      ob (if z8 = 0 then
          some 0
        else
          ob (a_ld 60 30 p1 me) fun v19 =>
          if v19 = 1 then
            ob (a_ld 60 31 x2 me) fun v24 =>
            ob (a_ld 60 31 p1 me) fun v25 =>
            if v25 < v24 then
              some 0
            else
              some 1
          else
            ob (a_ld 60 31 x2 me) fun v21 =>
            ob (a_ld 60 31 p1 me) fun v22 =>
            if v21 < v22 then
              some 0
            else
              some 1) fun (z18 : Int32) =>
      ob (if x1 = (-1) then
          some 1
        else
          ob (a_ld 60 30 p1 me) fun v29 =>
          if v29 = 1 then
            ob (a_ld 60 31 x2 me) fun v34 =>
            ob (a_ld 60 31 x1 me) fun v35 =>
            if v35 ≤ v34 then
              some 0
            else
              some 1
          else
            ob (a_ld 60 31 x2 me) fun v31 =>
            ob (a_ld 60 31 x1 me) fun v32 =>
            if v31 ≤ v32 then
              some 0
            else
              some 1) fun (z28 : Int32) =>
      ob (if z18 = 0 then
          some x1
        else
          if z28 = 0 then
            some x1
          else
            some x2) fun (z38 : Int32) =>
      f_X10_restFor_L4 me p1 n z38 (x2 + 1)
def f_X10_restFor (p1 : Int32) (me : gM) : Option (Int32) :=
  ob (f_X10_restFor_L4 me p1 f_fuel (-1) 0) fun t40 =>
  ob (some t40.1) fun y3 =>
  ob (some t40.2) fun y4 =>
  some y3
def f_X10_meets (p1 : Int32) (p2 : Int32) (me : gM) : Option (gM) :=
  ob (a_ld 60 29 p1 me) fun v1 =>
  ob (a_ld 60 30 p1 me) fun v2 =>
  ob (if v2 = 1 then
      some p2
    else
      some p1) fun (z4 : Int32) =>
  ob (a_ld 60 30 p1 me) fun v5 =>
  ob (if v5 = 1 then
      some p1
    else
      some p2) fun (z7 : Int32) =>
  ob (a_ld 60 32 p1 me) fun v8 =>
  ob (a_ld 60 32 p2 me) fun v9 =>
  ob (if v9 ≤ v8 then
      ob (a_ld 60 32 p2 me) fun v12 =>
      some v12
    else
      ob (a_ld 60 32 p1 me) fun v13 =>
      some v13) fun (z11 : Int32) =>
  ob (a_ld 60 27 p1 me) fun v14 =>
  ob (a_ld 60 27 p2 me) fun v15 =>
  ob (if v14 = v15 then
      some (0, me)
    else
      ob (a_ld 60 28 z4 me) fun v19 =>
      ob (a_ld 60 28 z7 me) fun v20 =>
      ob (f_X10_room v19 v20 v1 z11 me) fun w23 =>
      ob (some w23.1) fun r21 =>
      ob (some w23.2) fun m22 =>
      some (r21, m22)) fun (t42 : Int32 × gM) =>
  ob (some t42.1) fun z17 =>
  ob (some t42.2) fun m18 =>
  ob (a_ld 60 32 p1 m18) fun v24 =>
  ob (a_st 60 32 p1 (v24 - z17) m18) fun m25 =>
  ob (a_ld 60 32 p2 m25) fun v26 =>
  ob (a_st 60 32 p2 (v26 - z17) m25) fun m27 =>
  ob (a_ld 60 28 z4 m27) fun v28 =>
  ob (a_ld 12 48 ((4 * v28) + v1) m27) fun v29 =>
  ob (a_st 12 48 ((4 * v28) + v1) (v29 + z17) m27) fun m30 =>
  ob (a_ld 60 28 z7 m30) fun v31 =>
  ob (a_ld 12 48 ((4 * v31) + v1) m30) fun v32 =>
  ob (a_st 12 48 ((4 * v31) + v1) (v32 - z17) m30) fun m33 =>
  ob (a_ld 60 27 z4 m33) fun v34 =>
  ob (a_ld 60 28 z4 m33) fun v35 =>
  ob (a_ld 60 31 p2 m33) fun v36 =>
  ob (f_X10_trades v34 v35 v1 z17 v36 m33) fun m37 =>
  ob (a_ld 60 27 z7 m37) fun v38 =>
  ob (a_ld 60 28 z7 m37) fun v39 =>
  ob (a_ld 60 31 p2 m37) fun v40 =>
  ob (f_X10_trades v38 v39 v1 (-z17) v40 m37) fun m41 =>
  some m41
def f_X10_offer_L186  : Nat → Int32 → gM → Option (Int32 × gM)
  | 0, _, _ => none
  | n + 1, x32, m33 =>
    if 60 ≤ x32 then
      some (x32, m33)
    else
      ob (a_st 60 33 x32 0 m33) fun m37 =>
      f_X10_offer_L186  n (x32 + 1) m37
def f_X10_offer_L215 (x22 : Int32) : Nat → Int32 → gM → Option (Int32 × gM)
  | 0, _, _ => none
  | n + 1, x39, m40 =>
    if x39 = (-1) then
      some (x39, m40)
    else
      ob (a_ld 60 32 x22 m40) fun v44 =>
      if v44 ≤ 0 then
        some (x39, m40)
      else
        ob (a_st 60 33 x39 1 m40) fun m46 =>
        ob (f_X10_meets x22 x39 m46) fun m47 =>
        ob (f_X10_restFor x22 m47) fun r48 =>
        f_X10_offer_L215 x22 n r48 m47
def f_X10_offer (p1 : Int32) (p2 : Int32) (p3 : Int32) (p4 : Int32) (p5 : Int32) (p6 : Int32) (me : gM) : Option (Int32 × gM) :=
  ob (f_X10_isFirm p1) fun r1 =>
  ob (if r1 = 0 then
      some 1
    else
      ob (f_X10_isZone p2) fun r4 =>
      if r4 = 0 then
        some 1
      else
        ob (f_X10_isHour p3) fun r6 =>
        if r6 = 0 then
          some 1
        else
          ob (f_X10_in p5 0 300) fun r8 =>
          if r8 = 0 then
            some 2
          else
            ob (f_X10_in p6 1 10) fun r10 =>
            if r10 = 0 then
              some 2
            else
              some 0) fun (z3 : Int32) =>
  ob (some (g_up me 0 (upd (me 0) 67 z3))) fun m12 =>
  ob (if (m12 0 67) = 0 then
      ob (a_ld 6 4 p1 m12) fun v15 =>
      ob (if v15 = 1 then
          some 3
        else
          if (m12 0 1) = 0 then
            some 3
          else
            if (m12 0 33) = 60 then
              some 3
            else
              some 0) fun (z17 : Int32) =>
      ob (some (g_up m12 0 (upd (m12 0) 67 z17))) fun m20 =>
      some m20
    else
      some m12) fun (m14 : gM) =>
  if (m14 0 67) ≤ 0 then
    ob (some (m14 0 33)) fun (x22 : Int32) =>
    ob (some (g_up m14 0 (upd (m14 0) 33 ((m14 0 33) + 1)))) fun m23 =>
    ob (a_st 60 27 x22 p1 m23) fun m24 =>
    ob (a_st 60 28 x22 p2 m24) fun m25 =>
    ob (a_st 60 29 x22 p3 m25) fun m26 =>
    ob (if p4 = 0 then
        some 0
      else
        some 1) fun (z28 : Int32) =>
    ob (a_st 60 30 x22 z28 m26) fun m29 =>
    ob (a_st 60 31 x22 p5 m29) fun m30 =>
    ob (a_st 60 32 x22 p6 m30) fun m31 =>
    ob (f_X10_offer_L186  f_fuel 0 m31) fun t50 =>
    ob (some t50.1) fun y34 =>
    ob (some t50.2) fun m35 =>
    ob (f_X10_restFor x22 m35) fun r38 =>
    ob (f_X10_offer_L215 x22 f_fuel r38 m35) fun t49 =>
    ob (some t49.1) fun y41 =>
    ob (some t49.2) fun m42 =>
    some (x22, m42)
  else
    some (0, m14)
def f_X10_takeBack (p1 : Int32) (me : gM) : Option (Int32 × gM) :=
  ob (f_X10_in p1 0 ((me 0 33) - 1)) fun r1 =>
  ob (if r1 = 0 then
      some 1
    else
      ob (a_ld 60 32 p1 me) fun v4 =>
      if v4 = 0 then
        some 2
      else
        some 0) fun (z3 : Int32) =>
  ob (some (g_up me 0 (upd (me 0) 67 z3))) fun m6 =>
  if (m6 0 67) ≤ 0 then
    ob (a_ld 60 32 p1 m6) fun v8 =>
    ob (a_st 60 32 p1 0 m6) fun m9 =>
    some (v8, m9)
  else
    some (0, m6)
def f_X10_aid (p1 : Int32) (p2 : Int32) (p3 : Int32) (p4 : Int32) (p5 : Int32) (me : gM) : Option (Int32 × gM) :=
  ob (f_X10_isFirm p1) fun r1 =>
  ob (if r1 = 0 then
      some 1
    else
      ob (f_X10_isHour p2) fun r4 =>
      if r4 = 0 then
        some 1
      else
        ob (f_X10_in p4 0 300) fun r6 =>
        if r6 = 0 then
          some 2
        else
          ob (f_X10_in p5 1 10) fun r8 =>
          if r8 = 0 then
            some 2
          else
            ob (a_ld 6 4 p1 me) fun v10 =>
            if v10 = 1 then
              some 3
            else
              ob (a_ld 10 34 (me 0 0) me) fun v12 =>
              if v12 = 30 then
                some 3
              else
                some 0) fun (z3 : Int32) =>
  ob (some (g_up me 0 (upd (me 0) 67 z3))) fun m14 =>
  if (m14 0 67) ≤ 0 then
    ob (a_ld 10 34 (m14 0 0) m14) fun v16 =>
    ob (some ((30 * (m14 0 0)) + v16)) fun (x17 : Int32) =>
    ob (a_st 300 35 x17 p1 m14) fun m18 =>
    ob (a_st 300 36 x17 p2 m18) fun m19 =>
    ob (if p3 = 0 then
        some 0
      else
        some 1) fun (z21 : Int32) =>
    ob (a_st 300 37 x17 z21 m19) fun m22 =>
    ob (a_st 300 38 x17 p4 m22) fun m23 =>
    ob (a_st 300 39 x17 p5 m23) fun m24 =>
    ob (a_ld 10 34 (m24 0 0) m24) fun v25 =>
    ob (a_st 10 34 (m24 0 0) (v25 + 1) m24) fun m26 =>
    ob (a_ld 10 34 (m26 0 0) m26) fun v27 =>
    some ((v27 - 1), m26)
  else
    some (0, m14)
def f_X10_close (me : gM) : Option (Int32 × gM) :=
  ob (if (me 0 1) = 0 then
      some 1
    else
      if (me 0 0) = 9 then
        some 1
      else
        some 0) fun (z2 : Int32) =>
  ob (some (g_up me 0 (upd (me 0) 67 z2))) fun m4 =>
  if (m4 0 67) ≤ 0 then
    ob (some (g_up m4 0 (upd (m4 0) 0 ((m4 0 0) + 1)))) fun m6 =>
    ob (some (g_up m6 0 (upd (m6 0) 1 0))) fun m7 =>
    ob (some (g_up m7 0 (upd (m7 0) 7 0))) fun m8 =>
    ob (some (g_up m8 0 (upd (m8 0) 16 0))) fun m9 =>
    ob (some (g_up m9 0 (upd (m9 0) 26 0))) fun m10 =>
    ob (some (g_up m10 0 (upd (m10 0) 33 0))) fun m11 =>
    some ((m11 0 0), m11)
  else
    some (0, m4)
def f_X10_placeOf (p0 : Int32) (p1 : Int32) (p2 : Int32) (p3 : Int32) : Option (Int32) :=
  some ((((72 * p0) + (12 * p1)) + (4 * p2)) + p3)
def f_X10_gapOf (p1 : Int32) (p2 : Int32) (p3 : Int32) (p4 : Int32) (me : gM) : Option (Int32) :=
  ob (f_X10_placeOf p1 p2 p3 p4) fun r1 =>
  ob (a_ld 720 44 r1 me) fun v2 =>
  ob (if v2 = 1 then
      ob (a_ld 720 43 r1 me) fun v5 =>
      ob (a_ld 720 42 r1 me) fun v6 =>
      some (v5 - v6)
    else
      some 0) fun (z4 : Int32) =>
  some z4
def f_X10_read (p1 : Int32) (p2 : Int32) (p3 : Int32) (p4 : Int32) (p5 : Int32) (me : gM) : Option (Int32 × gM) :=
  ob (f_X10_isClosed p1 me) fun r1 =>
  ob (if r1 = 0 then
      some 1
    else
      ob (f_X10_isFirm p2) fun r4 =>
      if r4 = 0 then
        some 1
      else
        ob (f_X10_isZone p3) fun r6 =>
        if r6 = 0 then
          some 1
        else
          ob (f_X10_isHour p4) fun r8 =>
          if r8 = 0 then
            some 1
          else
            ob (f_X10_in p5 (-200) 200) fun r10 =>
            if r10 = 0 then
              some 2
            else
              some 0) fun (z3 : Int32) =>
  ob (some (g_up me 0 (upd (me 0) 67 z3))) fun m12 =>
  if (m12 0 67) ≤ 0 then
    ob (f_X10_placeOf p1 p2 p3 p4) fun r14 =>
    ob (a_st 720 43 r14 p5 m12) fun m15 =>
    ob (f_X10_placeOf p1 p2 p3 p4) fun r16 =>
    ob (a_st 720 44 r16 1 m15) fun m17 =>
    ob (f_X10_gapOf p1 p2 p3 p4 m17) fun r18 =>
    some (r18, m17)
  else
    some (0, m12)
def f_X10_gapIn_L15 (me : gM) (p1 : Int32) (p2 : Int32) (x2 : Int32) : Nat → Int32 → Int32 → Option (Int32 × Int32)
  | 0, _, _ => none
  | n + 1, x6, x7 =>
    if 3 ≤ x7 then
      some (x6, x7)
    else
      ob (f_X10_gapOf p1 x2 x7 p2 me) fun r11 =>
      ob (some (x6 + r11)) fun (x12 : Int32) =>
      f_X10_gapIn_L15 me p1 p2 x2 n x12 (x7 + 1)
def f_X10_gapIn_L5 (me : gM) (p1 : Int32) (p2 : Int32) : Nat → Int32 → Int32 → Option (Int32 × Int32)
  | 0, _, _ => none
  | n + 1, x1, x2 =>
    if 6 ≤ x2 then
      some (x1, x2)
    else
      ob (f_X10_gapIn_L15 me p1 p2 x2 f_fuel x1 0) fun t13 =>
      ob (some t13.1) fun y8 =>
      ob (some t13.2) fun y9 =>
      f_X10_gapIn_L5 me p1 p2 n y8 (x2 + 1)
def f_X10_gapIn (p1 : Int32) (p2 : Int32) (me : gM) : Option (Int32) :=
  ob (f_X10_gapIn_L5 me p1 p2 f_fuel 0 0) fun t14 =>
  ob (some t14.1) fun y3 =>
  ob (some t14.2) fun y4 =>
  some y3
def f_X10_lesser (p0 : Int32) (p1 : Int32) : Option (Int32) :=
  ob (if p1 ≤ p0 then
      some p1
    else
      some p0) fun (z2 : Int32) =>
  some z2
def f_X10_greater (p0 : Int32) (p1 : Int32) : Option (Int32) :=
  ob (if p0 ≤ p1 then
      some p1
    else
      some p0) fun (z2 : Int32) =>
  some z2
def f_X10_helps_L37 (x5 : Int32) : Nat → Int32 → gM → Option (Int32 × gM)
  | 0, _, _ => none
  | n + 1, x6, m7 =>
    if (x5 + 30) ≤ x6 then
      some (x6, m7)
    else
      ob (a_st 300 40 x6 0 m7) fun m11 =>
      f_X10_helps_L37 x5 n (x6 + 1) m11
def f_X10_helps_L95 (p1 : Int32) (p2 : Int32) (x5 : Int32) (z22 : Int32) (z4 : Int32) : Nat → Int32 → Int32 → Int32 → gM → Option (Int32 × Int32 × Int32 × gM)
  | 0, _, _, _, _ => none
  | n + 1, x23, x24, x25, m26 =>
    ob (a_ld 10 34 p1 m26) fun v31 =>
    if (x5 + v31) ≤ x25 then
      some (x23, x24, x25, m26)
    else
      ob (if x23 ≤ 0 then
          some (x23, x24, m26)
        else
          ob (a_ld 300 36 x25 m26) fun v37 =>
          if v37 = p2 then
            ob (a_ld 300 37 x25 m26) fun v39 =>
            if v39 = z4 then
              ob (a_ld 300 38 x25 m26) fun v41 =>
              if v41 = z22 then
                ob (a_ld 300 39 x25 m26) fun v43 =>
                ob (f_X10_lesser v43 x23) fun r44 =>
                ob (a_st 300 40 x25 r44 m26) fun m45 =>
                ob (a_ld 300 40 x25 m45) fun v46 =>
                ob (some (x23 - v46)) fun (x47 : Int32) =>
                some (x47, z22, m45)
              else
                some (x23, x24, m26)
            else
              some (x23, x24, m26)
          else
            some (x23, x24, m26)) fun (t48 : Int32 × Int32 × gM) =>
      ob (some t48.1) fun x34 =>
      ob (some t48.2.1) fun x35 =>
      ob (some t48.2.2) fun m36 =>
      f_X10_helps_L95 p1 p2 x5 z22 z4 n x34 x35 (x25 + 1) m36
def f_X10_helps_L64 (p1 : Int32) (p2 : Int32) (x5 : Int32) (z4 : Int32) : Nat → Int32 → Int32 → Int32 → gM → Option (Int32 × Int32 × Int32 × gM)
  | 0, _, _, _, _ => none
  | n + 1, x12, x13, x14, m15 =>
    if 300 < x14 then
      some (x12, x13, x14, m15)
    else
      ob (if z4 = 1 then
          some x14
        else
          some (300 - x14)) fun (z22 : Int32) =>
      ob (f_X10_helps_L95 p1 p2 x5 z22 z4 f_fuel x12 x13 x5 m15) fun t49 =>
      ob (some t49.1) fun y27 =>
      ob (some t49.2.1) fun y28 =>
      ob (some t49.2.2.1) fun y29 =>
      ob (some t49.2.2.2) fun m30 =>
      f_X10_helps_L64 p1 p2 x5 z4 n y27 y28 (x14 + 1) m30
def f_X10_helps (p1 : Int32) (p2 : Int32) (me : gM) : Option (Int32 × gM) :=
  ob (f_X10_gapIn p1 p2 me) fun r1 =>
  ob (f_X10_away r1) fun r2 =>
  ob (if 0 ≤ r1 then
      some 0
    else
      some 1) fun (z4 : Int32) =>
  ob (some (30 * p1)) fun (x5 : Int32) =>
  ob (f_X10_helps_L37 x5 f_fuel x5 me) fun t69 =>
  ob (some t69.1) fun y8 =>
  ob (some t69.2) fun m9 =>
  ob (f_X10_helps_L64 p1 p2 x5 z4 f_fuel r2 (-1) 0 m9) fun t68 =>
  ob (some t68.1) fun y16 =>
  ob (some t68.2.1) fun y17 =>
  ob (some t68.2.2.1) fun y18 =>
  ob (some t68.2.2.2) fun m19 =>
  if r1 = 0 then
    some ((-1), m19)
  else
    ob (a_ld 120 41 ((12 * p1) + p2) m19) fun v51 =>
    ob (a_ld 120 41 (((12 * p1) + 4) + p2) m19) fun v52 =>
    ob (a_ld 120 41 (((12 * p1) + 8) + p2) m19) fun v53 =>
    ob (f_X10_lesser v52 v53) fun r54 =>
    ob (f_X10_lesser v51 r54) fun r55 =>
    ob (a_ld 120 41 ((12 * p1) + p2) m19) fun v56 =>
    ob (a_ld 120 41 (((12 * p1) + 4) + p2) m19) fun v57 =>
    ob (a_ld 120 41 (((12 * p1) + 8) + p2) m19) fun v58 =>
    ob (f_X10_greater v57 v58) fun r59 =>
    ob (f_X10_greater v56 r59) fun r60 =>
    if z4 = 1 then
      ob (if y16 ≤ 0 then
          some y17
        else
          some 300) fun (z66 : Int32) =>
      ob (f_X10_greater z66 r60) fun r67 =>
      some (r67, m19)
    else
      ob (if y16 ≤ 0 then
          some y17
        else
          some 0) fun (z63 : Int32) =>
      ob (f_X10_lesser z63 r55) fun r64 =>
      some (r64, m19)
def f_X10_balances_L22 (m2 : gM) (p1 : Int32) (p2 : Int32) (p3 : Int32) (r1 : Int32) (r4 : Int32) : Nat → Int32 → Int32 → Option (Int32 × Int32)
  | 0, _, _ => none
  | n + 1, x5, x6 =>
    if 3 ≤ x6 then
      some (x5, x6)
    else
      ob (f_X10_gapOf p1 p2 x6 p3 m2) fun r10 =>
      ob (if 0 ≤ r4 then
          if r4 ≤ 0 then
            some 0
          else
            if r10 ≤ 0 then
              some 0
            else
              some 1
        else
          if 0 ≤ r10 then
            some 0
          else
            some 1) fun (z12 : Int32) =>
      ob (if z12 = 0 then
          ob (a_ld 120 41 (((12 * p1) + (4 * x6)) + p3) m2) fun v18 =>
          some v18
        else
          some r1) fun (z17 : Int32) =>
      ob (some (x5 + (r10 * z17))) fun (x19 : Int32) =>
      f_X10_balances_L22 m2 p1 p2 p3 r1 r4 n x19 (x6 + 1)
def f_X10_balances_L120 (m2 : gM) (p1 : Int32) (p2 : Int32) (r1 : Int32) (r4 : Int32) : Nat → Int32 → Int32 → Option (Int32 × Int32)
  | 0, _, _ => none
  | n + 1, x21, x22 =>
    ob (a_ld 10 34 p1 m2) fun v25 =>
    if ((30 * p1) + v25) ≤ x22 then
      some (x21, x22)
    else
      ob (a_ld 300 35 x22 m2) fun v27 =>
      ob (if v27 = p2 then
          ob (a_ld 300 40 x22 m2) fun v30 =>
          some v30
        else
          some 0) fun (z29 : Int32) =>
      ob (if 0 ≤ r4 then
          some ((-z29) * r1)
        else
          some (z29 * r1)) fun (z32 : Int32) =>
      ob (some (x21 + z32)) fun (x33 : Int32) =>
      f_X10_balances_L120 m2 p1 p2 r1 r4 n x33 (x22 + 1)
def f_X10_balances (p1 : Int32) (p2 : Int32) (p3 : Int32) (me : gM) : Option (Int32 × gM) :=
  ob (f_X10_helps p1 p3 me) fun w3 =>
  ob (some w3.1) fun r1 =>
  ob (some w3.2) fun m2 =>
  ob (f_X10_gapIn p1 p3 m2) fun r4 =>
  ob (f_X10_balances_L22 m2 p1 p2 p3 r1 r4 f_fuel 0 0) fun t35 =>
  ob (some t35.1) fun y7 =>
  ob (some t35.2) fun y8 =>
  ob (some (30 * p1)) fun (x20 : Int32) =>
  ob (f_X10_balances_L120 m2 p1 p2 r1 r4 f_fuel y7 x20) fun t34 =>
  ob (some t34.1) fun y23 =>
  ob (some t34.2) fun y24 =>
  some (y23, m2)
def f_X10_billOf_L15 (p1 : Int32) (p2 : Int32) : Nat → Int32 → Int32 → gM → Option (Int32 × Int32 × gM)
  | 0, _, _, _ => none
  | n + 1, x2, x3, m4 =>
    if 4 ≤ x3 then
      some (x2, x3, m4)
    else
      ob (f_X10_balances p1 p2 x3 m4) fun w11 =>
      ob (some w11.1) fun r9 =>
      ob (some w11.2) fun m10 =>
      ob (some (x2 + r9)) fun (x12 : Int32) =>
      f_X10_billOf_L15 p1 p2 n x12 (x3 + 1) m10
def f_X10_billOf (p1 : Int32) (p2 : Int32) (me : gM) : Option (Int32 × gM) :=
  ob (a_ld 60 45 ((6 * p1) + p2) me) fun v1 =>
  ob (f_X10_billOf_L15 p1 p2 f_fuel v1 0 me) fun t13 =>
  ob (some t13.1) fun y5 =>
  ob (some t13.2.1) fun y6 =>
  ob (some t13.2.2) fun m7 =>
  some (y5, m7)
def f_X10_lowestBelow_L2 (me : gM) : Nat → Int32 → Option ((Int32) ⊕ (Int32))
  | 0, _ => none
  | n + 1, x1 =>
    if 6 ≤ x1 then
      some (.inl x1)
    else
      ob (a_ld 6 4 x1 me) fun v4 =>
      if v4 = 0 then
        ob (a_ld 6 2 x1 me) fun v6 =>
        if 0 ≤ v6 then
          f_X10_lowestBelow_L2 me n (x1 + 1)
        else
          some (.inr x1)
      else
        f_X10_lowestBelow_L2 me n (x1 + 1)
def f_X10_lowestBelow (me : gM) : Option (Int32) :=
  oz (f_X10_lowestBelow_L2 me f_fuel 0) (fun w9 => some w9) fun y2 =>
  some (-1)
def f_X10_fails_L29 (m4 : gM) : Nat → Int64 → Int32 → Option (Int64 × Int32)
  | 0, _, _ => none
  | n + 1, x5, x6 =>
    if 6 ≤ x6 then
      some (x5, x6)
    else
      ob (a_ld 6 4 x6 m4) fun v10 =>
      ob (if v10 = 0 then
          ob (a_ld 6 3 x6 m4) fun v13 =>
          some ((v13).toInt64)
        else
          some 0) fun (z12 : Int64) =>
      ob (some (x5 + z12)) fun (x14 : Int64) =>
      f_X10_fails_L29 m4 n x14 (x6 + 1)
def f_X10_fails_L75 (x2 : Int64) (y7 : Int64) : Nat → Int64 → Int32 → gM → Option (Int64 × Int32 × gM)
  | 0, _, _, _ => none
  | n + 1, x15, x16, m17 =>
    if 6 ≤ x16 then
      some (x15, x16, m17)
    else
      ob (a_ld 6 4 x16 m17) fun v22 =>
      ob (if v22 = 0 then
          if (lg_cmp y7 0) ≤ 0 then
            some 0
          else
            ob (a_ld 6 3 x16 m17) fun v26 =>
            ob (a_dv (x2 * (v26).toInt64) y7) fun q27 =>
            some ((q27).toInt32)
        else
          some 0) fun (z24 : Int32) =>
      ob (a_ld 6 2 x16 m17) fun v28 =>
      ob (a_st 6 2 x16 (v28 - z24) m17) fun m29 =>
      ob (some (x15 - (z24).toInt64)) fun (x30 : Int64) =>
      f_X10_fails_L75 x2 y7 n x30 (x16 + 1) m29
def f_X10_fails (p1 : Int32) (me : gM) : Option (gM) :=
  ob (a_ld 6 2 p1 me) fun v1 =>
  ob (some (((-v1)).toInt64)) fun (x2 : Int64) =>
  ob (a_st 6 4 p1 1 me) fun m3 =>
  ob (a_st 6 2 p1 0 m3) fun m4 =>
  ob (f_X10_fails_L29 m4 f_fuel 0 0) fun t33 =>
  ob (some t33.1) fun y7 =>
  ob (some t33.2) fun y8 =>
  ob (f_X10_fails_L75 x2 y7 f_fuel x2 0 m4) fun t32 =>
  ob (some t32.1) fun y18 =>
  ob (some t32.2.1) fun y19 =>
  ob (some t32.2.2) fun m20 =>
  ob (some (g_up m20 0 (upd (m20 0) 6 ((m20 0 6) - (y18).toInt32)))) fun m31 =>
  some m31
def f_X10_run_L52 (p1 : Int32) : Nat → Int32 → gM → Option (Int32 × gM)
  | 0, _, _ => none
  | n + 1, x10, m11 =>
    if 6 ≤ x10 then
      some (x10, m11)
    else
      ob (a_ld 6 4 x10 m11) fun v15 =>
      ob (if v15 = 0 then
          ob (f_X10_billOf p1 x10 m11) fun w20 =>
          ob (some w20.1) fun r18 =>
          ob (some w20.2) fun m19 =>
          ob (a_ld 60 46 ((6 * p1) + x10) m19) fun v21 =>
          ob (some (r18 - v21)) fun (x22 : Int32) =>
          ob (a_ld 60 46 ((6 * p1) + x10) m19) fun v23 =>
          ob (a_st 60 46 ((6 * p1) + x10) (v23 + x22) m19) fun m24 =>
          ob (a_ld 6 2 x10 m24) fun v25 =>
          ob (a_st 6 2 x10 (v25 + x22) m24) fun m26 =>
          ob (some (g_up m26 0 (upd (m26 0) 6 ((m26 0 6) - x22)))) fun m27 =>
          some m27
        else
          some m11) fun (m17 : gM) =>
      f_X10_run_L52 p1 n (x10 + 1) m17
def f_X10_run_L134  : Nat → Int32 → Int32 → gM → Option (Int32 × Int32 × gM)
  | 0, _, _, _ => none
  | n + 1, x29, x30, m31 =>
    if x30 = (-1) then
      some (x29, x30, m31)
    else
      ob (f_X10_fails x30 m31) fun m36 =>
      ob (f_X10_lowestBelow m36) fun r37 =>
      f_X10_run_L134  n (x29 + 1) r37 m36
def f_X10_run (p1 : Int32) (me : gM) : Option (Int32 × gM) :=
  ob (f_X10_isClosed p1 me) fun r1 =>
  ob (if r1 = 0 then
      some 1
    else
      ob (a_ld 10 47 p1 me) fun v4 =>
      if v4 = 3 then
        some 2
      else
        some 0) fun (z3 : Int32) =>
  ob (some (g_up me 0 (upd (me 0) 67 z3))) fun m6 =>
  if (m6 0 67) ≤ 0 then
    ob (a_ld 10 47 p1 m6) fun v8 =>
    ob (a_st 10 47 p1 (v8 + 1) m6) fun m9 =>
    ob (f_X10_run_L52 p1 f_fuel 0 m9) fun t39 =>
    ob (some t39.1) fun y12 =>
    ob (some t39.2) fun m13 =>
    ob (f_X10_lowestBelow m13) fun r28 =>
    ob (f_X10_run_L134  f_fuel 0 r28 m13) fun t38 =>
    ob (some t38.1) fun y32 =>
    ob (some t38.2.1) fun y33 =>
    ob (some t38.2.2) fun m34 =>
    some (y32, m34)
  else
    some (0, m6)
def f_X10_day (me : gM) : Option (Int32 × gM) :=
  ob (some (g_up me 0 (upd (me 0) 67 0))) fun m1 =>
  some ((m1 0 0), m1)
def f_X10_phase (me : gM) : Option (Int32 × gM) :=
  ob (some (g_up me 0 (upd (me 0) 67 0))) fun m1 =>
  some ((m1 0 1), m1)
def f_X10_isThere (p1 : Int32) (me : gM) : Option (Int32 × gM) :=
  ob (if p1 = 0 then
      some 1
    else
      if (me 0 1) = 0 then
        some 2
      else
        some 0) fun (z2 : Int32) =>
  ob (some (g_up me 0 (upd (me 0) 67 z2))) fun m4 =>
  ob (if (m4 0 67) = 0 then
      some 1
    else
      some 0) fun (z6 : Int32) =>
  ob (a_zc z6) fun b7 =>
  some (b7, m4)
def f_X10_price (p1 : Int32) (p2 : Int32) (me : gM) : Option (Int32 × gM) :=
  ob (f_X10_isZone p1) fun r1 =>
  ob (if r1 = 0 then
      some 0
    else
      ob (f_X10_isHour p2) fun r4 =>
      if r4 = 0 then
        some 0
      else
        some 1) fun (z3 : Int32) =>
  ob (f_X10_isThere z3 me) fun w8 =>
  ob (some w8.1) fun r6 =>
  ob (some w8.2) fun m7 =>
  ob (if r6 = 0 then
      some 0
    else
      ob (a_ld 120 41 (((12 * (m7 0 0)) + (4 * p1)) + p2) m7) fun v11 =>
      some v11) fun (z10 : Int32) =>
  some (z10, m7)
def f_X10_net (p1 : Int32) (p2 : Int32) (me : gM) : Option (Int32 × gM) :=
  ob (f_X10_isZone p1) fun r1 =>
  ob (if r1 = 0 then
      some 0
    else
      ob (f_X10_isHour p2) fun r4 =>
      if r4 = 0 then
        some 0
      else
        some 1) fun (z3 : Int32) =>
  ob (f_X10_isThere z3 me) fun w8 =>
  ob (some w8.1) fun r6 =>
  ob (some w8.2) fun m7 =>
  ob (if r6 = 0 then
      some 0
    else
      ob (a_ld 12 48 ((4 * p1) + p2) m7) fun v11 =>
      some v11) fun (z10 : Int32) =>
  some (z10, m7)
def f_X10_flow (p1 : Int32) (p2 : Int32) (me : gM) : Option (Int32 × gM) :=
  ob (f_X10_in p1 0 2) fun r1 =>
  ob (if r1 = 0 then
      some 0
    else
      ob (f_X10_isHour p2) fun r4 =>
      if r4 = 0 then
        some 0
      else
        some 1) fun (z3 : Int32) =>
  ob (f_X10_isThere z3 me) fun w8 =>
  ob (some w8.1) fun r6 =>
  ob (some w8.2) fun m7 =>
  if r6 = 0 then
    some (0, m7)
  else
    ob (if p1 = 1 then
        some 4
      else
        some 0) fun (z11 : Int32) =>
    ob (a_ld 12 48 (z11 + p2) m7) fun v12 =>
    ob (if p1 = 0 then
        some 4
      else
        some 8) fun (z14 : Int32) =>
    ob (a_ld 12 48 (z14 + p2) m7) fun v15 =>
    some ((v12 - v15), m7)
def f_X10_taken (p1 : Int32) (me : gM) : Option (Int32 × gM) :=
  ob (f_X10_in p1 0 ((me 0 7) - 1)) fun r1 =>
  ob (f_X10_isThere r1 me) fun w4 =>
  ob (some w4.1) fun r2 =>
  ob (some w4.2) fun m3 =>
  ob (if r2 = 0 then
      some 0
    else
      ob (a_ld 40 11 p1 m3) fun v7 =>
      some v7) fun (z6 : Int32) =>
  some (z6, m3)
def f_X10_isTaken (p1 : Int32) (me : gM) : Option (Int32 × gM) :=
  ob (f_X10_in p1 0 ((me 0 16) - 1)) fun r1 =>
  ob (f_X10_isThere r1 me) fun w4 =>
  ob (some w4.1) fun r2 =>
  ob (some w4.2) fun m3 =>
  ob (if r2 = 0 then
      some 0
    else
      if (((m3 0 25) >>> (p1 &&& 31)) &&& 1) = 1 then
        some 1
      else
        some 0) fun (z6 : Int32) =>
  ob (a_zc z6) fun b8 =>
  some (b8, m3)
def f_X10_gain (p1 : Int32) (me : gM) : Option (Int32 × gM) :=
  ob (f_X10_in p1 0 ((me 0 16) - 1)) fun r1 =>
  ob (f_X10_isThere r1 me) fun w4 =>
  ob (some w4.1) fun r2 =>
  ob (some w4.2) fun m3 =>
  ob (if r2 = 0 then
      some 0
    else
      ob (f_X10_gainOf p1 120 41 (12 * (m3 0 0)) m3) fun r7 =>
      some r7) fun (z6 : Int32) =>
  some (z6, m3)
def f_X10_worthAnew_L38 (m3 : gM) : Nat → Int32 → Int32 → Option (Int32 × Int32)
  | 0, _, _ => none
  | n + 1, x7, x8 =>
    if (m3 0 7) ≤ x8 then
      some (x7, x8)
    else
      if (m3 0 67) = 0 then
        ob (a_ld 40 8 x8 m3) fun v13 =>
        ob (if v13 = 1 then
            ob (a_ld 40 11 x8 m3) fun v17 =>
            some v17
          else
            ob (a_ld 40 11 x8 m3) fun v16 =>
            some (-v16)) fun (z15 : Int32) =>
        ob (a_ld 40 9 x8 m3) fun v18 =>
        ob (some (x7 + (z15 * v18))) fun (x19 : Int32) =>
        f_X10_worthAnew_L38 m3 n x19 (x8 + 1)
      else
        some (x7, x8)
def f_X10_worthAnew (me : gM) : Option (Int32 × gM) :=
  ob (if (me 0 1) = 0 then
      some 1
    else
      some 0) fun (z2 : Int32) =>
  ob (some (g_up me 0 (upd (me 0) 67 z2))) fun m3 =>
  ob (if (m3 0 67) = 0 then
      ob (f_X10_worthOfBlocks (m3 0 25) m3) fun r6 =>
      some r6
    else
      some 0) fun (z5 : Int32) =>
  ob (f_X10_worthAnew_L38 m3 f_fuel z5 0) fun t20 =>
  ob (some t20.1) fun y9 =>
  ob (some t20.2) fun y10 =>
  some (y9, m3)
def f_X10_given (p1 : Int32) (me : gM) : Option (Int32 × gM) :=
  ob (f_X10_in p1 0 ((me 0 26) - 1)) fun r1 =>
  ob (f_X10_isThere r1 me) fun w4 =>
  ob (some w4.1) fun r2 =>
  ob (some w4.2) fun m3 =>
  ob (if r2 = 0 then
      some 0
    else
      ob (a_ld 20 26 p1 m3) fun v7 =>
      some v7) fun (z6 : Int32) =>
  some (z6, m3)
def f_X10_left (p1 : Int32) (me : gM) : Option (Int32 × gM) :=
  ob (f_X10_in p1 0 ((me 0 33) - 1)) fun r1 =>
  ob (if r1 = 0 then
      some 1
    else
      some 0) fun (z3 : Int32) =>
  ob (some (g_up me 0 (upd (me 0) 67 z3))) fun m4 =>
  ob (if (m4 0 67) = 0 then
      ob (a_ld 60 32 p1 m4) fun v7 =>
      some v7
    else
      some 0) fun (z6 : Int32) =>
  some (z6, m4)
def f_X10_plan (p1 : Int32) (p2 : Int32) (p3 : Int32) (p4 : Int32) (me : gM) : Option (Int32 × gM) :=
  ob (f_X10_in p1 0 (me 0 0)) fun r1 =>
  ob (if r1 = 0 then
      some 1
    else
      ob (f_X10_isFirm p2) fun r4 =>
      if r4 = 0 then
        some 1
      else
        ob (f_X10_isZone p3) fun r6 =>
        if r6 = 0 then
          some 1
        else
          ob (f_X10_isHour p4) fun r8 =>
          if r8 = 0 then
            some 1
          else
            some 0) fun (z3 : Int32) =>
  ob (some (g_up me 0 (upd (me 0) 67 z3))) fun m10 =>
  ob (if (m10 0 67) = 0 then
      ob (f_X10_placeOf p1 p2 p3 p4) fun r13 =>
      ob (a_ld 720 42 r13 m10) fun v14 =>
      some v14
    else
      some 0) fun (z12 : Int32) =>
  some (z12, m10)
def f_X10_gap (p1 : Int32) (p2 : Int32) (me : gM) : Option (Int32 × gM) :=
  ob (f_X10_isClosed p1 me) fun r1 =>
  ob (if r1 = 0 then
      some 1
    else
      ob (f_X10_isHour p2) fun r4 =>
      if r4 = 0 then
        some 1
      else
        some 0) fun (z3 : Int32) =>
  ob (some (g_up me 0 (upd (me 0) 67 z3))) fun m6 =>
  ob (if (m6 0 67) = 0 then
      ob (f_X10_gapIn p1 p2 m6) fun r9 =>
      some r9
    else
      some 0) fun (z8 : Int32) =>
  some (z8, m6)
def f_X10_gapPrice (p1 : Int32) (p2 : Int32) (me : gM) : Option (Int32 × gM) :=
  ob (f_X10_isClosed p1 me) fun r1 =>
  ob (if r1 = 0 then
      some 1
    else
      ob (f_X10_isHour p2) fun r4 =>
      if r4 = 0 then
        some 1
      else
        some 0) fun (z3 : Int32) =>
  ob (some (g_up me 0 (upd (me 0) 67 z3))) fun m6 =>
  ob (if (m6 0 67) = 0 then
      ob (f_X10_helps p1 p2 m6) fun w12 =>
      ob (some w12.1) fun r10 =>
      ob (some w12.2) fun m11 =>
      some (r10, m11)
    else
      some (0, m6)) fun (t13 : Int32 × gM) =>
  ob (some t13.1) fun z8 =>
  ob (some t13.2) fun m9 =>
  some (z8, m9)
def f_X10_isBill (p1 : Int32) (p2 : Int32) (me : gM) : Option (Int32 × gM) :=
  ob (f_X10_isClosed p1 me) fun r1 =>
  ob (if r1 = 0 then
      some 1
    else
      ob (f_X10_isFirm p2) fun r4 =>
      if r4 = 0 then
        some 1
      else
        some 0) fun (z3 : Int32) =>
  ob (some (g_up me 0 (upd (me 0) 67 z3))) fun m6 =>
  ob (if (m6 0 67) = 0 then
      some 1
    else
      some 0) fun (z8 : Int32) =>
  ob (a_zc z8) fun b9 =>
  some (b9, m6)
def f_X10_bill (p1 : Int32) (p2 : Int32) (me : gM) : Option (Int32 × gM) :=
  ob (f_X10_isBill p1 p2 me) fun w3 =>
  ob (some w3.1) fun r1 =>
  ob (some w3.2) fun m2 =>
  ob (if r1 = 0 then
      some (0, m2)
    else
      ob (f_X10_billOf p1 p2 m2) fun w9 =>
      ob (some w9.1) fun r7 =>
      ob (some w9.2) fun m8 =>
      some (r7, m8)) fun (t10 : Int32 × gM) =>
  ob (some t10.1) fun z5 =>
  ob (some t10.2) fun m6 =>
  some (z5, m6)
def f_X10_settled (p1 : Int32) (p2 : Int32) (me : gM) : Option (Int32 × gM) :=
  ob (f_X10_isBill p1 p2 me) fun w3 =>
  ob (some w3.1) fun r1 =>
  ob (some w3.2) fun m2 =>
  ob (if r1 = 0 then
      some 0
    else
      ob (a_ld 60 46 ((6 * p1) + p2) m2) fun v6 =>
      some v6) fun (z5 : Int32) =>
  some (z5, m2)
def f_X10_account (p1 : Int32) (me : gM) : Option (Int32 × gM) :=
  ob (f_X10_isFirm p1) fun r1 =>
  ob (if r1 = 0 then
      some 1
    else
      some 0) fun (z3 : Int32) =>
  ob (some (g_up me 0 (upd (me 0) 67 z3))) fun m4 =>
  ob (if (m4 0 67) = 0 then
      ob (a_ld 6 2 p1 m4) fun v7 =>
      some v7
    else
      some 0) fun (z6 : Int32) =>
  some (z6, m4)
def f_X10_hasFailed (p1 : Int32) (me : gM) : Option (Int32 × gM) :=
  ob (f_X10_isFirm p1) fun r1 =>
  ob (if r1 = 0 then
      some 1
    else
      some 0) fun (z3 : Int32) =>
  ob (some (g_up me 0 (upd (me 0) 67 z3))) fun m4 =>
  ob (if (m4 0 67) = 0 then
      ob (a_ld 6 4 p1 m4) fun v7 =>
      if v7 = 1 then
        some 1
      else
        some 0
    else
      some 0) fun (z6 : Int32) =>
  ob (a_zc z6) fun b9 =>
  some (b9, m4)
def f_X10_house (me : gM) : Option (Int32 × gM) :=
  ob (some (g_up me 0 (upd (me 0) 67 0))) fun m1 =>
  some ((m1 0 6), m1)
def f_Q_deposit (p1 : Int32) (p2 : Int32) (me : gM) : Option (Int32 × gM) :=
  os (f_X9_deposit p1 p2 me) (fun k9 => if k9 = 1 then some (1, me) else if k9 = 2 then some (2, me) else if k9 = 3 then some (3, me) else none) fun w1 =>
  ob (some w1.1) fun r3 =>
  ob (some w1.2) fun m2 =>
  ob (a_lst 1 229 0 ((r3).toInt64) m2) fun m4 =>
  some (0, m4)
def f_Q_setLimit (p1 : Int32) (p2 : Int32) (me : gM) : Option (Int32 × gM) :=
  os (f_X9_setLimit p1 p2 me) (fun k9 => if k9 = 1 then some (1, me) else if k9 = 2 then some (2, me) else if k9 = 3 then some (3, me) else none) fun w1 =>
  ob (some w1.1) fun r3 =>
  ob (some w1.2) fun m2 =>
  ob (a_lst 1 229 0 ((r3).toInt64) m2) fun m4 =>
  some (0, m4)
def f_Q_bid (p1 : Int32) (p2 : Int32) (p3 : Int32) (p4 : Int32) (p5 : Int32) (p6 : Int32) (me : gM) : Option (Int32 × gM) :=
  os (f_X9_bid p1 p2 p3 p4 p5 p6 me) (fun k9 => if k9 = 1 then some (1, me) else if k9 = 2 then some (2, me) else if k9 = 3 then some (3, me) else none) fun w1 =>
  ob (some w1.1) fun r3 =>
  ob (some w1.2) fun m2 =>
  ob (a_lst 1 229 0 ((r3).toInt64) m2) fun m4 =>
  some (0, m4)
def f_Q_block (p1 : Int32) (p2 : Int32) (p3 : Int32) (p4 : Int32) (p5 : Int32) (p6 : Int32) (me : gM) : Option (Int32 × gM) :=
  os (f_X9_block p1 p2 p3 p4 p5 p6 me) (fun k9 => if k9 = 1 then some (1, me) else if k9 = 2 then some (2, me) else if k9 = 3 then some (3, me) else none) fun w1 =>
  ob (some w1.1) fun r3 =>
  ob (some w1.2) fun m2 =>
  ob (a_lst 1 229 0 ((r3).toInt64) m2) fun m4 =>
  some (0, m4)
def f_Q_link (p1 : Int32) (p2 : Int32) (p3 : Int32) (me : gM) : Option (Int32 × gM) :=
  os (f_X9_link p1 p2 p3 me) (fun k9 => if k9 = 1 then some (1, me) else if k9 = 2 then some (2, me) else if k9 = 3 then some (3, me) else none) fun w1 =>
  ob (some w1) fun m2 =>
  some (0, m2)
def f_Q_ask (p1 : Int32) (p2 : Int32) (p3 : Int32) (p4 : Int32) (p5 : Int32) (me : gM) : Option (Int32 × gM) :=
  os (f_X9_ask p1 p2 p3 p4 p5 me) (fun k9 => if k9 = 1 then some (1, me) else if k9 = 2 then some (2, me) else if k9 = 3 then some (3, me) else none) fun w1 =>
  ob (some w1.1) fun r3 =>
  ob (some w1.2) fun m2 =>
  ob (a_lst 1 229 0 ((r3).toInt64) m2) fun m4 =>
  some (0, m4)
def f_Q_clear (me : gM) : Option (Int32 × gM) :=
  os (f_X9_clear me) (fun k9 => if k9 = 3 then some (1, me) else none) fun w1 =>
  ob (some w1.1) fun r3 =>
  ob (some w1.2) fun m2 =>
  ob (a_lst 1 229 0 ((r3).toInt64) m2) fun m4 =>
  some (0, m4)
def f_Q_offer (p1 : Int32) (p2 : Int32) (p3 : Int32) (p4 : Int32) (p5 : Int32) (p6 : Int32) (me : gM) : Option (Int32 × gM) :=
  os (f_X9_offer p1 p2 p3 p4 p5 p6 me) (fun k9 => if k9 = 1 then some (1, me) else if k9 = 2 then some (2, me) else if k9 = 3 then some (3, me) else none) fun w1 =>
  ob (some w1.1) fun r3 =>
  ob (some w1.2) fun m2 =>
  ob (a_lst 1 229 0 ((r3).toInt64) m2) fun m4 =>
  some (0, m4)
def f_Q_takeBack (p1 : Int32) (me : gM) : Option (Int32 × gM) :=
  os (f_X9_takeBack p1 me) (fun k9 => if k9 = 1 then some (1, me) else if k9 = 3 then some (2, me) else none) fun w1 =>
  ob (some w1.1) fun r3 =>
  ob (some w1.2) fun m2 =>
  ob (a_lst 1 229 0 ((r3).toInt64) m2) fun m4 =>
  some (0, m4)
def f_Q_aid (p1 : Int32) (p2 : Int32) (p3 : Int32) (p4 : Int32) (p5 : Int32) (me : gM) : Option (Int32 × gM) :=
  os (f_X9_aid p1 p2 p3 p4 p5 me) (fun k9 => if k9 = 1 then some (1, me) else if k9 = 2 then some (2, me) else if k9 = 3 then some (3, me) else none) fun w1 =>
  ob (some w1.1) fun r3 =>
  ob (some w1.2) fun m2 =>
  ob (a_lst 1 229 0 ((r3).toInt64) m2) fun m4 =>
  some (0, m4)
def f_Q_close (me : gM) : Option (Int32 × gM) :=
  os (f_X9_close me) (fun k9 => if k9 = 3 then some (1, me) else none) fun w1 =>
  ob (some w1.1) fun r3 =>
  ob (some w1.2) fun m2 =>
  ob (a_lst 1 229 0 ((r3).toInt64) m2) fun m4 =>
  some (0, m4)
def f_Q_read (p1 : Int32) (p2 : Int32) (p3 : Int32) (p4 : Int32) (p5 : Int32) (me : gM) : Option (Int32 × gM) :=
  os (f_X9_read p1 p2 p3 p4 p5 me) (fun k9 => if k9 = 1 then some (1, me) else if k9 = 2 then some (2, me) else none) fun w1 =>
  ob (some w1.1) fun r3 =>
  ob (some w1.2) fun m2 =>
  ob (a_lst 1 229 0 ((r3).toInt64) m2) fun m4 =>
  some (0, m4)
def f_Q_run (p1 : Int32) (me : gM) : Option (Int32 × gM) :=
  os (f_X9_run p1 me) (fun k9 => if k9 = 1 then some (1, me) else if k9 = 3 then some (2, me) else none) fun w1 =>
  ob (some w1.1) fun r3 =>
  ob (some w1.2) fun m2 =>
  ob (a_lst 1 229 0 ((r3).toInt64) m2) fun m4 =>
  some (0, m4)
def f_Q_price (p1 : Int32) (p2 : Int32) (me : gM) : Option (Int32 × gM) :=
  os (f_X9_price p1 p2 me) (fun k9 => if k9 = 1 then some (1, me) else if k9 = 3 then some (2, me) else none) fun w1 =>
  ob (some w1) fun r3 =>
  ob (a_lst 1 229 0 ((r3).toInt64) me) fun m4 =>
  some (0, m4)
def f_Q_net (p1 : Int32) (p2 : Int32) (me : gM) : Option (Int32 × gM) :=
  os (f_X9_net p1 p2 me) (fun k9 => if k9 = 1 then some (1, me) else if k9 = 3 then some (2, me) else none) fun w1 =>
  ob (some w1) fun r3 =>
  ob (a_lst 1 229 0 ((r3).toInt64) me) fun m4 =>
  some (0, m4)
def f_Q_flow (p1 : Int32) (p2 : Int32) (me : gM) : Option (Int32 × gM) :=
  os (f_X9_flow p1 p2 me) (fun k9 => if k9 = 1 then some (1, me) else if k9 = 3 then some (2, me) else none) fun w1 =>
  ob (some w1) fun r3 =>
  ob (a_lst 1 229 0 ((r3).toInt64) me) fun m4 =>
  some (0, m4)
def f_Q_taken (p1 : Int32) (me : gM) : Option (Int32 × gM) :=
  os (f_X9_taken p1 me) (fun k9 => if k9 = 1 then some (1, me) else if k9 = 3 then some (2, me) else none) fun w1 =>
  ob (some w1) fun r3 =>
  ob (a_lst 1 229 0 ((r3).toInt64) me) fun m4 =>
  some (0, m4)
def f_Q_isTaken (p1 : Int32) (me : gM) : Option (Int32 × gM) :=
  os (f_X9_isTaken p1 me) (fun k9 => if k9 = 1 then some (1, me) else if k9 = 3 then some (2, me) else none) fun w1 =>
  ob (some w1) fun r3 =>
  ob (if r3 = 0 then
      some 0
    else
      some 1) fun (z5 : Int64) =>
  ob (a_lst 1 229 0 z5 me) fun m6 =>
  some (0, m6)
def f_Q_gain (p1 : Int32) (me : gM) : Option (Int32 × gM) :=
  os (f_X9_gain p1 me) (fun k9 => if k9 = 1 then some (1, me) else if k9 = 3 then some (2, me) else none) fun w1 =>
  ob (some w1) fun r3 =>
  ob (a_lst 1 229 0 ((r3).toInt64) me) fun m4 =>
  some (0, m4)
def f_Q_worthAnew (me : gM) : Option (Int32 × gM) :=
  os (f_X9_worthAnew me) (fun k9 => if k9 = 3 then some (1, me) else none) fun w1 =>
  ob (some w1) fun r3 =>
  ob (a_lst 1 229 0 ((r3).toInt64) me) fun m4 =>
  some (0, m4)
def f_Q_given (p1 : Int32) (me : gM) : Option (Int32 × gM) :=
  os (f_X9_given p1 me) (fun k9 => if k9 = 1 then some (1, me) else if k9 = 3 then some (2, me) else none) fun w1 =>
  ob (some w1) fun r3 =>
  ob (a_lst 1 229 0 ((r3).toInt64) me) fun m4 =>
  some (0, m4)
def f_Q_left (p1 : Int32) (me : gM) : Option (Int32 × gM) :=
  os (f_X9_left p1 me) (fun k9 => if k9 = 1 then some (1, me) else none) fun w1 =>
  ob (some w1) fun r3 =>
  ob (a_lst 1 229 0 ((r3).toInt64) me) fun m4 =>
  some (0, m4)
def f_Q_plan (p1 : Int32) (p2 : Int32) (p3 : Int32) (p4 : Int32) (me : gM) : Option (Int32 × gM) :=
  os (f_X9_plan p1 p2 p3 p4 me) (fun k9 => if k9 = 1 then some (1, me) else none) fun w1 =>
  ob (some w1) fun r3 =>
  ob (a_lst 1 229 0 ((r3).toInt64) me) fun m4 =>
  some (0, m4)
def f_Q_gap (p1 : Int32) (p2 : Int32) (me : gM) : Option (Int32 × gM) :=
  os (f_X9_gap p1 p2 me) (fun k9 => if k9 = 1 then some (1, me) else none) fun w1 =>
  ob (some w1) fun r3 =>
  ob (a_lst 1 229 0 ((r3).toInt64) me) fun m4 =>
  some (0, m4)
def f_Q_gapPrice (p1 : Int32) (p2 : Int32) (me : gM) : Option (Int32 × gM) :=
  os (f_X9_gapPrice p1 p2 me) (fun k9 => if k9 = 1 then some (1, me) else none) fun w1 =>
  ob (some w1) fun r3 =>
  ob (a_lst 1 229 0 ((r3).toInt64) me) fun m4 =>
  some (0, m4)
def f_Q_bill (p1 : Int32) (p2 : Int32) (me : gM) : Option (Int32 × gM) :=
  os (f_X9_bill p1 p2 me) (fun k9 => if k9 = 1 then some (1, me) else none) fun w1 =>
  ob (some w1) fun r3 =>
  ob (a_lst 1 229 0 ((r3).toInt64) me) fun m4 =>
  some (0, m4)
def f_Q_settled (p1 : Int32) (p2 : Int32) (me : gM) : Option (Int32 × gM) :=
  os (f_X9_settled p1 p2 me) (fun k9 => if k9 = 1 then some (1, me) else none) fun w1 =>
  ob (some w1) fun r3 =>
  ob (a_lst 1 229 0 ((r3).toInt64) me) fun m4 =>
  some (0, m4)
def f_Q_account (p1 : Int32) (me : gM) : Option (Int32 × gM) :=
  os (f_X9_account p1 me) (fun k9 => if k9 = 1 then some (1, me) else none) fun w1 =>
  ob (some w1) fun r3 =>
  ob (a_lst 1 229 0 ((r3).toInt64) me) fun m4 =>
  some (0, m4)
def f_Q_hasFailed (p1 : Int32) (me : gM) : Option (Int32 × gM) :=
  os (f_X9_hasFailed p1 me) (fun k9 => if k9 = 1 then some (1, me) else none) fun w1 =>
  ob (some w1) fun r3 =>
  ob (if r3 = 0 then
      some 0
    else
      some 1) fun (z5 : Int64) =>
  ob (a_lst 1 229 0 z5 me) fun m6 =>
  some (0, m6)
