def f_X10_thrown (me : gM) : Option (Int32) :=
  some (me 0 67)
def f_X10_in (p0 : Int32) (p1 : Int32) (p2 : Int32) : Option (Int32) :=
  ob (if p0 < p1 then
      some 0
    else
      if p2 < p0 then
        some 0
      else
        some 1) fun (z2 : Int32) =>
  ob (a_zc z2) fun b4 =>
  some b4
def f_X10_isFirm (p0 : Int32) : Option (Int32) :=
  ob (f_X10_in p0 0 5) fun r1 =>
  ob (a_zc r1) fun b2 =>
  some b2
def f_X10_isZone (p0 : Int32) : Option (Int32) :=
  ob (f_X10_in p0 0 2) fun r1 =>
  ob (a_zc r1) fun b2 =>
  some b2
def f_X10_isHour (p0 : Int32) : Option (Int32) :=
  ob (f_X10_in p0 0 3) fun r1 =>
  ob (a_zc r1) fun b2 =>
  some b2
def f_X10_isClosed (p1 : Int32) (me : gM) : Option (Int32) :=
  ob (f_X10_in p1 0 ((me 0 0) - 1)) fun r1 =>
  ob (a_zc r1) fun b2 =>
  some b2
def f_X10_deposit (p1 : Int32) (p2 : Int32) (me : gM) : Option (Int32 × gM) :=
  ob (f_X10_isFirm p1) fun r1 =>
  ob (if r1 = 0 then
      some 1
    else
      ob (f_X10_in p2 1 100000) fun r4 =>
      if r4 = 0 then
        some 2
      else
        ob (a_ld 6 4 p1 me) fun v6 =>
        if v6 = 1 then
          some 3
        else
          ob (a_ld 6 3 p1 me) fun v8 =>
          if (v8 + p2) ≤ 10000000 then
            some 0
          else
            some 3) fun (z3 : Int32) =>
  ob (some (g_up me 0 (upd (me 0) 67 z3))) fun m10 =>
  if (m10 0 67) ≤ 0 then
    ob (a_ld 6 3 p1 m10) fun v12 =>
    ob (a_st 6 3 p1 (v12 + p2) m10) fun m13 =>
    ob (a_ld 6 2 p1 m13) fun v14 =>
    ob (a_st 6 2 p1 (v14 + p2) m13) fun m15 =>
    ob (a_ld 6 2 p1 m15) fun v16 =>
    some (v16, m15)
  else
    some (0, m10)
def f_X10_setLimit (p1 : Int32) (p2 : Int32) (me : gM) : Option (Int32 × gM) :=
  ob (f_X10_in p1 0 2) fun r1 =>
  ob (if r1 = 0 then
      some 1
    else
      ob (f_X10_in p2 0 10) fun r4 =>
      if r4 = 0 then
        some 2
      else
        if (me 0 1) = 1 then
          some 3
        else
          some 0) fun (z3 : Int32) =>
  ob (some (g_up me 0 (upd (me 0) 67 z3))) fun m7 =>
  if (m7 0 67) ≤ 0 then
    ob (a_ld 3 1 p1 m7) fun v9 =>
    ob (a_st 3 1 p1 p2 m7) fun m10 =>
    some (v9, m10)
  else
    some (0, m7)
def f_X10_bid (p1 : Int32) (p2 : Int32) (p3 : Int32) (p4 : Int32) (p5 : Int32) (p6 : Int32) (me : gM) : Option (Int32 × gM) :=
  ob (f_X10_isFirm p1) fun r1 =>
  ob (if r1 = 0 then
      some 1
    else
      ob (f_X10_isZone p2) fun r4 =>
      if r4 = 0 then
        some 1
      else
        ob (f_X10_isHour p3) fun r6 =>
        if r6 = 0 then
          some 1
        else
          ob (f_X10_in p5 0 200) fun r8 =>
          if r8 = 0 then
            some 2
          else
            ob (f_X10_in p6 1 10) fun r10 =>
            if r10 = 0 then
              some 2
            else
              some 0) fun (z3 : Int32) =>
  ob (some (g_up me 0 (upd (me 0) 67 z3))) fun m12 =>
  ob (if (m12 0 67) = 0 then
      ob (a_ld 6 4 p1 m12) fun v15 =>
      ob (if v15 = 1 then
          some 3
        else
          if (m12 0 1) = 1 then
            some 3
          else
            if (m12 0 7) = 40 then
              some 3
            else
              some 0) fun (z17 : Int32) =>
      ob (some (g_up m12 0 (upd (m12 0) 67 z17))) fun m20 =>
      some m20
    else
      some m12) fun (m14 : gM) =>
  if (m14 0 67) ≤ 0 then
    ob (a_st 40 5 (m14 0 7) p1 m14) fun m22 =>
    ob (a_st 40 6 (m22 0 7) p2 m22) fun m23 =>
    ob (a_st 40 7 (m23 0 7) p3 m23) fun m24 =>
    ob (if p4 = 0 then
        some 0
      else
        some 1) fun (z26 : Int32) =>
    ob (a_st 40 8 (m24 0 7) z26 m24) fun m27 =>
    ob (a_st 40 9 (m27 0 7) p5 m27) fun m28 =>
    ob (a_st 40 10 (m28 0 7) p6 m28) fun m29 =>
    ob (some (g_up m29 0 (upd (m29 0) 7 ((m29 0 7) + 1)))) fun m30 =>
    some (((m30 0 7) - 1), m30)
  else
    some (0, m14)
def f_X10_block (p1 : Int32) (p2 : Int32) (p3 : Int32) (p4 : Int32) (p5 : Int32) (p6 : Int32) (me : gM) : Option (Int32 × gM) :=
  ob (f_X10_isFirm p1) fun r1 =>
  ob (if r1 = 0 then
      some 1
    else
      ob (f_X10_isZone p2) fun r4 =>
      if r4 = 0 then
        some 1
      else
        ob (f_X10_in p3 1 15) fun r6 =>
        if r6 = 0 then
          some 2
        else
          ob (f_X10_in p5 0 200) fun r8 =>
          if r8 = 0 then
            some 2
          else
            ob (f_X10_in p6 1 10) fun r10 =>
            if r10 = 0 then
              some 2
            else
              some 0) fun (z3 : Int32) =>
  ob (some (g_up me 0 (upd (me 0) 67 z3))) fun m12 =>
  ob (if (m12 0 67) = 0 then
      ob (a_ld 6 4 p1 m12) fun v15 =>
      ob (if v15 = 1 then
          some 3
        else
          if (m12 0 1) = 1 then
            some 3
          else
            if (m12 0 16) = 5 then
              some 3
            else
              some 0) fun (z17 : Int32) =>
      ob (some (g_up m12 0 (upd (m12 0) 67 z17))) fun m20 =>
      some m20
    else
      some m12) fun (m14 : gM) =>
  if (m14 0 67) ≤ 0 then
    ob (a_st 5 13 (m14 0 16) p1 m14) fun m22 =>
    ob (a_st 5 14 (m22 0 16) p2 m22) fun m23 =>
    ob (a_st 5 15 (m23 0 16) p3 m23) fun m24 =>
    ob (if p4 = 0 then
        some 0
      else
        some 1) fun (z26 : Int32) =>
    ob (a_st 5 16 (m24 0 16) z26 m24) fun m27 =>
    ob (a_st 5 17 (m27 0 16) p5 m27) fun m28 =>
    ob (a_st 5 18 (m28 0 16) p6 m28) fun m29 =>
    ob (a_st 5 19 (m29 0 16) 0 m29) fun m30 =>
    ob (a_st 5 20 (m30 0 16) 0 m30) fun m31 =>
    ob (some (g_up m31 0 (upd (m31 0) 16 ((m31 0 16) + 1)))) fun m32 =>
    some (((m32 0 16) - 1), m32)
  else
    some (0, m14)
def f_X10_link (p1 : Int32) (p2 : Int32) (p3 : Int32) (me : gM) : Option (gM) :=
  ob (f_X10_in p1 0 ((me 0 16) - 1)) fun r1 =>
  ob (if r1 = 0 then
      some 1
    else
      ob (f_X10_in p2 (-1) (p1 - 1)) fun r4 =>
      if r4 = 0 then
        some 2
      else
        ob (f_X10_in p3 (-1) 2) fun r6 =>
        if r6 = 0 then
          some 2
        else
          if (me 0 1) = 1 then
            some 3
          else
            some 0) fun (z3 : Int32) =>
  ob (some (g_up me 0 (upd (me 0) 67 z3))) fun m9 =>
  ob (if (m9 0 67) = 0 then
      ob (a_st 5 19 p1 (p2 + 1) m9) fun m12 =>
      ob (a_st 5 20 p1 (p3 + 1) m12) fun m13 =>
      some m13
    else
      some m9) fun (m11 : gM) =>
  some m11
def f_X10_ask (p1 : Int32) (p2 : Int32) (p3 : Int32) (p4 : Int32) (p5 : Int32) (me : gM) : Option (Int32 × gM) :=
  ob (f_X10_isFirm p1) fun r1 =>
  ob (if r1 = 0 then
      some 1
    else
      ob (f_X10_isZone p2) fun r4 =>
      if r4 = 0 then
        some 1
      else
        ob (f_X10_isZone p3) fun r6 =>
        if r6 = 0 then
          some 1
        else
          if p2 = p3 then
            some 2
          else
            ob (f_X10_in p4 1 10) fun r9 =>
            if r9 = 0 then
              some 2
            else
              ob (f_X10_in p5 0 500) fun r11 =>
              if r11 = 0 then
                some 2
              else
                some 0) fun (z3 : Int32) =>
  ob (some (g_up me 0 (upd (me 0) 67 z3))) fun m13 =>
  ob (if (m13 0 67) = 0 then
      ob (a_ld 6 4 p1 m13) fun v16 =>
      ob (if v16 = 1 then
          some 3
        else
          if (m13 0 1) = 1 then
            some 3
          else
            if (m13 0 26) = 20 then
              some 3
            else
              some 0) fun (z18 : Int32) =>
      ob (some (g_up m13 0 (upd (m13 0) 67 z18))) fun m21 =>
      some m21
    else
      some m13) fun (m15 : gM) =>
  if (m15 0 67) ≤ 0 then
    ob (a_st 20 21 (m15 0 26) p1 m15) fun m23 =>
    ob (a_st 20 22 (m23 0 26) p2 m23) fun m24 =>
    ob (a_st 20 23 (m24 0 26) p3 m24) fun m25 =>
    ob (a_st 20 24 (m25 0 26) p4 m25) fun m26 =>
    ob (a_st 20 25 (m26 0 26) p5 m26) fun m27 =>
    ob (some (g_up m27 0 (upd (m27 0) 26 ((m27 0 26) + 1)))) fun m28 =>
    some (((m28 0 26) - 1), m28)
  else
    some (0, m15)
def f_X10_nextBid_L6 (me : gM) (p1 : Int32) (p2 : Int32) (p3 : Int32) : Nat → Int32 → Int32 → Option (Int32 × Int32)
  | 0, _, _ => none
  | n + 1, x1, x2 =>
    if (me 0 7) ≤ x2 then
      some (x1, x2)
    else
      ob (a_ld 40 12 x2 me) fun v6 =>
      ob (if v6 = 0 then
          ob (a_ld 40 6 x2 me) fun v9 =>
          if v9 = p1 then
            ob (a_ld 40 7 x2 me) fun v11 =>
            if v11 = p2 then
              ob (a_ld 40 8 x2 me) fun v13 =>
              if v13 = p3 then
                some 1
              else
                some 0
            else
              some 0
          else
            some 0
        else
          some 0) fun (z8 : Int32) =>
      ob (if x1 = (-1) then
          some 1
        else
          if p3 = 1 then
            ob (a_ld 40 9 x2 me) fun v21 =>
            ob (a_ld 40 9 x1 me) fun v22 =>
            if v21 ≤ v22 then
              some 0
            else
              some 1
          else
            ob (a_ld 40 9 x2 me) fun v18 =>
            ob (a_ld 40 9 x1 me) fun v19 =>
            if v19 ≤ v18 then
              some 0
            else
              some 1) fun (z16 : Int32) =>
      ob (if z8 = 0 then
          some x1
        else
          if z16 = 0 then
            some x1
          else
            some x2) fun (z25 : Int32) =>
      f_X10_nextBid_L6 me p1 p2 p3 n z25 (x2 + 1)
def f_X10_nextBid (p1 : Int32) (p2 : Int32) (p3 : Int32) (me : gM) : Option (Int32) :=
  ob (f_X10_nextBid_L6 me p1 p2 p3 f_fuel (-1) 0) fun t27 =>
  ob (some t27.1) fun y3 =>
  ob (some t27.2) fun y4 =>
  some y3
def f_X10_forgets_L2  : Nat → Int32 → gM → Option (Int32 × gM)
  | 0, _, _ => none
  | n + 1, x1, m2 =>
    if 40 ≤ x1 then
      some (x1, m2)
    else
      ob (a_st 40 12 x1 0 m2) fun m6 =>
      f_X10_forgets_L2  n (x1 + 1) m6
def f_X10_forgets (me : gM) : Option (gM) :=
  ob (f_X10_forgets_L2  f_fuel 0 me) fun t7 =>
  ob (some t7.1) fun y3 =>
  ob (some t7.2) fun m4 =>
  some m4
def f_X10_sums_L29 (p3 : Int32) (x3 : Int32) : Nat → Int32 → Int32 → gM → Option (Int32 × Int32 × gM)
  | 0, _, _, _ => none
  | n + 1, x10, x11, m12 =>
    ob (a_ld 40 10 x3 m12) fun v16 =>
    if v16 ≤ x11 then
      some (x10, x11, m12)
    else
      ob (if p3 = 1 then
          ob (a_ld 401 50 ((x10 + 1) - 1) m12) fun v23 =>
          ob (a_ld 40 9 x3 m12) fun v24 =>
          ob (a_st 401 50 (x10 + 1) (v23 + v24) m12) fun m25 =>
          some m25
        else
          ob (a_ld 401 49 ((x10 + 1) - 1) m12) fun v20 =>
          ob (a_ld 40 9 x3 m12) fun v21 =>
          ob (a_st 401 49 (x10 + 1) (v20 + v21) m12) fun m22 =>
          some m22) fun (m19 : gM) =>
      f_X10_sums_L29 p3 x3 n (x10 + 1) (x11 + 1) m19
def f_X10_sums_L12 (p1 : Int32) (p2 : Int32) (p3 : Int32) : Nat → Int32 → Int32 → gM → Option (Int32 × Int32 × gM)
  | 0, _, _, _ => none
  | n + 1, x2, x3, m4 =>
    if x3 = (-1) then
      some (x2, x3, m4)
    else
      ob (a_st 40 12 x3 1 m4) fun m9 =>
      ob (f_X10_sums_L29 p3 x3 f_fuel x2 0 m9) fun t27 =>
      ob (some t27.1) fun y13 =>
      ob (some t27.2.1) fun y14 =>
      ob (some t27.2.2) fun m15 =>
      ob (f_X10_nextBid p1 p2 p3 m15) fun r26 =>
      f_X10_sums_L12 p1 p2 p3 n y13 r26 m15
def f_X10_sums (p1 : Int32) (p2 : Int32) (p3 : Int32) (me : gM) : Option (Int32 × gM) :=
  ob (f_X10_nextBid p1 p2 p3 me) fun r1 =>
  ob (f_X10_sums_L12 p1 p2 p3 f_fuel 0 r1 me) fun t28 =>
  ob (some t28.1) fun y5 =>
  ob (some t28.2.1) fun y6 =>
  ob (some t28.2.2) fun m7 =>
  some (y5, m7)
def f_X10_weighs_L81 (x14 : Int32) (x15 : Int32) : Nat → Int32 → gM → Option (Int32 × gM)
  | 0, _, _ => none
  | n + 1, x20, m21 =>
    if (m21 0 59) < x20 then
      some (x20, m21)
    else
      if (m21 0 58) < (x15 + x20) then
        some (x20, m21)
      else
        ob (a_ld 401 50 x20 m21) fun v26 =>
        ob (a_ld 401 49 (x15 + x20) m21) fun v27 =>
        ob (some (v26 - v27)) fun (x28 : Int32) =>
        ob (a_ld 1932 51 x14 m21) fun v29 =>
        ob (if x28 ≤ v29 then
            some m21
          else
            ob (a_st 1932 51 x14 x28 m21) fun m32 =>
            ob (a_st 1932 52 x14 x20 m32) fun m33 =>
            some m33) fun (m31 : gM) =>
        f_X10_weighs_L81 x14 x15 n (x20 + 1) m31
def f_X10_weighs_L24 (p1 : Int32) (p2 : Int32) : Nat → Int32 → gM → Option (Int32 × gM)
  | 0, _, _ => none
  | n + 1, x9, m10 =>
    if 161 ≤ x9 then
      some (x9, m10)
    else
      ob (some ((161 * ((4 * p1) + p2)) + x9)) fun (x14 : Int32) =>
      ob (some (x9 - 80)) fun (x15 : Int32) =>
      ob (a_st 1932 51 x14 (-1000000000) m10) fun m16 =>
      ob (a_st 1932 52 x14 0 m16) fun m17 =>
      ob (if 0 ≤ x15 then
          some 0
        else
          some (-x15)) fun (z19 : Int32) =>
      ob (f_X10_weighs_L81 x14 x15 f_fuel z19 m17) fun t34 =>
      ob (some t34.1) fun y22 =>
      ob (some t34.2) fun m23 =>
      f_X10_weighs_L24 p1 p2 n (x9 + 1) m23
def f_X10_weighs (p1 : Int32) (p2 : Int32) (me : gM) : Option (gM) :=
  ob (f_X10_sums p1 p2 0 me) fun w3 =>
  ob (some w3.1) fun r1 =>
  ob (some w3.2) fun m2 =>
  ob (some (g_up m2 0 (upd (m2 0) 58 r1))) fun m4 =>
  ob (f_X10_sums p1 p2 1 m4) fun w7 =>
  ob (some w7.1) fun r5 =>
  ob (some w7.2) fun m6 =>
  ob (some (g_up m6 0 (upd (m6 0) 59 r5))) fun m8 =>
  ob (f_X10_weighs_L24 p1 p2 f_fuel 0 m8) fun t35 =>
  ob (some t35.1) fun y11 =>
  ob (some t35.2) fun m12 =>
  some m12
def f_X10_away (p0 : Int32) : Option (Int32) :=
  ob (if 0 ≤ p0 then
      some p0
    else
      some (-p0)) fun (z2 : Int32) =>
  some z2
def f_X10_fits (p1 : Int32) (p2 : Int32) (p3 : Int32) (me : gM) : Option (Int32) :=
  ob (f_X10_away (p1 - p2)) fun r1 =>
  ob (a_ld 3 1 0 me) fun v2 =>
  ob (if (3 * v2) < r1 then
      some 0
    else
      ob (f_X10_away (p2 - p3)) fun r5 =>
      ob (a_ld 3 1 1 me) fun v6 =>
      if (3 * v6) < r5 then
        some 0
      else
        ob (f_X10_away (p1 - p3)) fun r8 =>
        ob (a_ld 3 1 2 me) fun v9 =>
        if (3 * v9) < r8 then
          some 0
        else
          some 1) fun (z4 : Int32) =>
  ob (a_zc z4) fun b11 =>
  some b11
def f_X10_worthOf (p1 : Int32) (p2 : Int32) (p3 : Int32) (me : gM) : Option (Int32) :=
  ob (a_ld 12 53 ((4 * p1) + p2) me) fun v1 =>
  ob (a_ld 1932 51 ((((161 * ((4 * p1) + p2)) + 80) + p3) - v1) me) fun v2 =>
  some v2
def f_X10_goes (p0 : Int32) (p1 : Int32) : Option (Int32) :=
  ob (some ((-p0) - p1)) fun (x1 : Int32) =>
  ob (f_X10_away (p0 - p1)) fun r2 =>
  ob (f_X10_away (p1 - x1)) fun r3 =>
  ob (f_X10_away (p0 - x1)) fun r4 =>
  some ((r2 + r3) + r4)
def f_X10_most_L18 (p1 : Int32) (p2 : Int32) (x2 : Int32) : Nat → Int32 → Int32 → gM → Option (Int32 × Int32 × gM)
  | 0, _, _, _ => none
  | n + 1, x8, x9, m10 =>
    if 20 < x9 then
      some (x8, x9, m10)
    else
      ob (some ((-x2) - x9)) fun (x15 : Int32) =>
      ob (f_X10_fits x2 x9 x15 m10) fun r16 =>
      ob (if r16 = 0 then
          some (x8, m10)
        else
          ob (if p2 = 0 then
              some (x2 - 1)
            else
              some x2) fun (z21 : Int32) =>
          ob (f_X10_worthOf 0 p1 z21 m10) fun r22 =>
          ob (if p2 = 1 then
              some (x9 - 1)
            else
              some x9) fun (z24 : Int32) =>
          ob (f_X10_worthOf 1 p1 z24 m10) fun r25 =>
          ob (if p2 = 2 then
              some (x15 - 1)
            else
              some x15) fun (z27 : Int32) =>
          ob (f_X10_worthOf 2 p1 z27 m10) fun r28 =>
          ob (if r22 = (-1000000000) then
              some (-1000000000)
            else
              if r25 = (-1000000000) then
                some (-1000000000)
              else
                if r28 = (-1000000000) then
                  some (-1000000000)
                else
                  some ((r22 + r25) + r28)) fun (z30 : Int32) =>
          ob (if z30 ≤ (-1000000000) then
              some 0
            else
              if z30 = x8 then
                ob (f_X10_goes x2 x9) fun r36 =>
                ob (f_X10_goes (m10 0 65) (m10 0 66)) fun r37 =>
                if r37 ≤ r36 then
                  some 0
                else
                  some 1
              else
                some 0) fun (z34 : Int32) =>
          if x8 < z30 then
            ob (some (g_up m10 0 (upd (m10 0) 65 x2))) fun m40 =>
            ob (some (g_up m40 0 (upd (m40 0) 66 x9))) fun m41 =>
            some (z30, m41)
          else
            if z34 = 0 then
              some (x8, m10)
            else
              ob (some (g_up m10 0 (upd (m10 0) 65 x2))) fun m43 =>
              ob (some (g_up m43 0 (upd (m43 0) 66 x9))) fun m44 =>
              some (z30, m44)) fun (t45 : Int32 × gM) =>
      ob (some t45.1) fun x18 =>
      ob (some t45.2) fun m19 =>
      f_X10_most_L18 p1 p2 x2 n x18 (x9 + 1) m19
def f_X10_most_L7 (p1 : Int32) (p2 : Int32) : Nat → Int32 → Int32 → gM → Option (Int32 × Int32 × gM)
  | 0, _, _, _ => none
  | n + 1, x1, x2, m3 =>
    if 20 < x2 then
      some (x1, x2, m3)
    else
      ob (f_X10_most_L18 p1 p2 x2 f_fuel x1 (-20) m3) fun t46 =>
      ob (some t46.1) fun y11 =>
      ob (some t46.2.1) fun y12 =>
      ob (some t46.2.2) fun m13 =>
      f_X10_most_L7 p1 p2 n y11 (x2 + 1) m13
def f_X10_most (p1 : Int32) (p2 : Int32) (me : gM) : Option (Int32 × gM) :=
  ob (f_X10_most_L7 p1 p2 f_fuel (-1000000000) (-20) me) fun t47 =>
  ob (some t47.1) fun y4 =>
  ob (some t47.2.1) fun y5 =>
  ob (some t47.2.2) fun m6 =>
  some (y4, m6)
def f_X10_isAllowed_L71 (me : gM) (p1 : Int32) (x2 : Int32) (z7 : Int32) : Nat → Int32 → Int32 → Option (Int32 × Int32)
  | 0, _, _ => none
  | n + 1, x15, x16 =>
    if x2 ≤ x16 then
      some (x15, x16)
    else
      ob (if x15 = 0 then
          some 0
        else
          if z7 = 0 then
            some 1
          else
            if ((p1 >>> (x16 &&& 31)) &&& 1) = 1 then
              ob (a_ld 5 20 x2 me) fun v24 =>
              if v24 ≤ 0 then
                some 1
              else
                ob (a_ld 5 20 x2 me) fun v26 =>
                ob (a_ld 5 20 x16 me) fun v27 =>
                if v26 = v27 then
                  some 0
                else
                  some 1
            else
              some 1) fun (z21 : Int32) =>
      f_X10_isAllowed_L71 me p1 x2 z7 n z21 (x16 + 1)
def f_X10_isAllowed_L4 (me : gM) (p1 : Int32) : Nat → Int32 → Int32 → Option (Int32 × Int32)
  | 0, _, _ => none
  | n + 1, x1, x2 =>
    if (me 0 16) ≤ x2 then
      some (x1, x2)
    else
      ob (if ((p1 >>> (x2 &&& 31)) &&& 1) = 1 then
          some 1
        else
          some 0) fun (z7 : Int32) =>
      ob (if x1 = 0 then
          some 0
        else
          if z7 = 0 then
            some 1
          else
            ob (a_ld 5 19 x2 me) fun v11 =>
            if v11 = 0 then
              some 1
            else
              ob (a_ld 5 19 x2 me) fun v13 =>
              if ((p1 >>> ((v13 - 1) &&& 31)) &&& 1) = 1 then
                some 1
              else
                some 0) fun (z9 : Int32) =>
      ob (f_X10_isAllowed_L71 me p1 x2 z7 f_fuel z9 0) fun t29 =>
      ob (some t29.1) fun y17 =>
      ob (some t29.2) fun y18 =>
      f_X10_isAllowed_L4 me p1 n y17 (x2 + 1)
def f_X10_isAllowed (p1 : Int32) (me : gM) : Option (Int32) :=
  ob (f_X10_isAllowed_L4 me p1 f_fuel 1 0) fun t31 =>
  ob (some t31.1) fun y3 =>
  ob (some t31.2) fun y4 =>
  ob (a_zc y3) fun b30 =>
  some b30
def f_X10_pricesOf_L6 (a2 : Nat) (n2 : Nat) (me : gM) (p1 : Int32) (p3 : Int32) : Nat → Int32 → Int32 → Option (Int32 × Int32)
  | 0, _, _ => none
  | n + 1, x1, x2 =>
    if 4 ≤ x2 then
      some (x1, x2)
    else
      ob (a_ld 5 15 p1 me) fun v6 =>
      ob (if ((v6 >>> (x2 &&& 31)) &&& 1) = 1 then
          ob (a_ld 5 14 p1 me) fun v9 =>
          ob (a_ld n2 a2 ((p3 + (4 * v9)) + x2) me) fun v10 =>
          some v10
        else
          some 0) fun (z8 : Int32) =>
      ob (some (x1 + z8)) fun (x11 : Int32) =>
      f_X10_pricesOf_L6 a2 n2 me p1 p3 n x11 (x2 + 1)
def f_X10_pricesOf (p1 : Int32) (n2 : Nat) (a2 : Nat) (p3 : Int32) (me : gM) : Option (Int32) :=
  ob (f_X10_pricesOf_L6 a2 n2 me p1 p3 f_fuel 0 0) fun t12 =>
  ob (some t12.1) fun y3 =>
  ob (some t12.2) fun y4 =>
  some y3
def f_X10_hoursOf_L4 (me : gM) (p1 : Int32) : Nat → Int32 → Int32 → Option (Int32 × Int32)
  | 0, _, _ => none
  | n + 1, x1, x2 =>
    if 4 ≤ x2 then
      some (x1, x2)
    else
      ob (a_ld 5 15 p1 me) fun v6 =>
      ob (some (x1 + ((v6 >>> (x2 &&& 31)) &&& 1))) fun (x7 : Int32) =>
      f_X10_hoursOf_L4 me p1 n x7 (x2 + 1)
def f_X10_hoursOf (p1 : Int32) (me : gM) : Option (Int32) :=
  ob (f_X10_hoursOf_L4 me p1 f_fuel 0 0) fun t8 =>
  ob (some t8.1) fun y3 =>
  ob (some t8.2) fun y4 =>
  some y3
def f_X10_gainOf (p1 : Int32) (n2 : Nat) (a2 : Nat) (p3 : Int32) (me : gM) : Option (Int32) :=
  ob (f_X10_pricesOf p1 n2 a2 p3 me) fun r1 =>
  ob (a_ld 5 17 p1 me) fun v2 =>
  ob (f_X10_hoursOf p1 me) fun r3 =>
  ob (some (r1 - (v2 * r3))) fun (x4 : Int32) =>
  ob (a_ld 5 16 p1 me) fun v5 =>
  ob (if v5 = 1 then
      some (-x4)
    else
      some x4) fun (z7 : Int32) =>
  some z7
def f_X10_lays_L2  : Nat → Int32 → gM → Option (Int32 × gM)
  | 0, _, _ => none
  | n + 1, x1, m2 =>
    if 12 ≤ x1 then
      some (x1, m2)
    else
      ob (a_st 12 53 x1 0 m2) fun m6 =>
      f_X10_lays_L2  n (x1 + 1) m6
def f_X10_lays_L33 (p1 : Int32) (x7 : Int32) : Nat → Int32 → gM → Option (Int32 × gM)
  | 0, _, _ => none
  | n + 1, x12, m13 =>
    if 4 ≤ x12 then
      some (x12, m13)
    else
      ob (if ((p1 >>> (x7 &&& 31)) &&& 1) = 1 then
          ob (a_ld 5 15 x7 m13) fun v19 =>
          if ((v19 >>> (x12 &&& 31)) &&& 1) = 1 then
            some 1
          else
            some 0
        else
          some 0) fun (z18 : Int32) =>
      ob (a_ld 5 14 x7 m13) fun v21 =>
      ob (a_ld 12 53 ((4 * v21) + x12) m13) fun v22 =>
      ob (if z18 = 0 then
          some 0
        else
          ob (a_ld 5 16 x7 m13) fun v25 =>
          if v25 = 1 then
            ob (a_ld 5 18 x7 m13) fun v28 =>
            some (-v28)
          else
            ob (a_ld 5 18 x7 m13) fun v27 =>
            some v27) fun (z24 : Int32) =>
      ob (a_st 12 53 ((4 * v21) + x12) (v22 + z24) m13) fun m29 =>
      f_X10_lays_L33 p1 x7 n (x12 + 1) m29
def f_X10_lays_L23 (p1 : Int32) : Nat → Int32 → gM → Option (Int32 × gM)
  | 0, _, _ => none
  | n + 1, x7, m8 =>
    if (m8 0 16) ≤ x7 then
      some (x7, m8)
    else
      ob (f_X10_lays_L33 p1 x7 f_fuel 0 m8) fun t30 =>
      ob (some t30.1) fun y14 =>
      ob (some t30.2) fun m15 =>
      f_X10_lays_L23 p1 n (x7 + 1) m15
def f_X10_lays (p1 : Int32) (me : gM) : Option (gM) :=
  ob (f_X10_lays_L2  f_fuel 0 me) fun t32 =>
  ob (some t32.1) fun y3 =>
  ob (some t32.2) fun m4 =>
  ob (f_X10_lays_L23 p1 f_fuel 0 m4) fun t31 =>
  ob (some t31.1) fun y9 =>
  ob (some t31.2) fun m10 =>
  some m10
def f_X10_worthOfBlocks_L4 (me : gM) (p1 : Int32) : Nat → Int32 → Int32 → Option (Int32 × Int32)
  | 0, _, _ => none
  | n + 1, x1, x2 =>
    if (me 0 16) ≤ x2 then
      some (x1, x2)
    else
      ob (a_ld 5 17 x2 me) fun v6 =>
      ob (a_ld 5 18 x2 me) fun v7 =>
      ob (f_X10_hoursOf x2 me) fun r8 =>
      ob (some ((v6 * v7) * r8)) fun (x9 : Int32) =>
      ob (if ((p1 >>> (x2 &&& 31)) &&& 1) = 0 then
          some 0
        else
          ob (a_ld 5 16 x2 me) fun v12 =>
          if v12 = 1 then
            some x9
          else
            some (-x9)) fun (z11 : Int32) =>
      ob (some (x1 + z11)) fun (x14 : Int32) =>
      f_X10_worthOfBlocks_L4 me p1 n x14 (x2 + 1)
def f_X10_worthOfBlocks (p1 : Int32) (me : gM) : Option (Int32) :=
  ob (f_X10_worthOfBlocks_L4 me p1 f_fuel 0 0) fun t15 =>
  ob (some t15.1) fun y3 =>
  ob (some t15.2) fun y4 =>
  some y3
def f_X10_tries_L85 (r10 : Int32) (x4 : Int32) : Nat → Int32 → gM → Option (Int32 × gM)
  | 0, _, _ => none
  | n + 1, x18, m19 =>
    if 3 ≤ x18 then
      some (x18, m19)
    else
      ob (f_X10_most x4 x18 m19) fun w25 =>
      ob (some w25.1) fun r23 =>
      ob (some w25.2) fun m24 =>
      ob (if r23 ≤ r10 then
          some 0
        else
          some (r23 - r10)) fun (z27 : Int32) =>
      ob (a_st 12 55 ((4 * x18) + x4) z27 m24) fun m28 =>
      f_X10_tries_L85 r10 x4 n (x18 + 1) m28
def f_X10_tries_L13  : Nat → Int32 → Int32 → gM → Option ((Int32 × Int32 × gM) ⊕ (Int32 × gM))
  | 0, _, _, _ => none
  | n + 1, x3, x4, m5 =>
    if 4 ≤ x4 then
      some (.inl (x3, x4, m5))
    else
      ob (f_X10_most x4 (-1) m5) fun w12 =>
      ob (some w12.1) fun r10 =>
      ob (some w12.2) fun m11 =>
      if r10 = (-1000000000) then
        some (.inr ((-1000000000), m11))
      else
        ob (some (x3 + r10)) fun (x14 : Int32) =>
        ob (a_st 12 54 x4 (m11 0 65) m11) fun m15 =>
        ob (a_st 12 54 (4 + x4) (m15 0 66) m15) fun m16 =>
        ob (a_st 12 54 (8 + x4) ((-(m16 0 65)) - (m16 0 66)) m16) fun m17 =>
        ob (f_X10_tries_L85 r10 x4 f_fuel 0 m17) fun t29 =>
        ob (some t29.1) fun y20 =>
        ob (some t29.2) fun m21 =>
        f_X10_tries_L13  n x14 (x4 + 1) m21
def f_X10_tries_L141 (m8 : gM) (p1 : Int32) : Nat → Int32 → Option ((Int32) ⊕ (Int32 × gM))
  | 0, _ => none
  | n + 1, x30 =>
    if (m8 0 16) ≤ x30 then
      some (.inl x30)
    else
      if ((p1 >>> (x30 &&& 31)) &&& 1) = 1 then
        ob (f_X10_gainOf x30 12 55 0 m8) fun r34 =>
        if 0 ≤ r34 then
          f_X10_tries_L141 m8 p1 n (x30 + 1)
        else
          some (.inr ((-1000000000), m8))
      else
        f_X10_tries_L141 m8 p1 n (x30 + 1)
def f_X10_tries (p1 : Int32) (me : gM) : Option (Int32 × gM) :=
  ob (f_X10_lays p1 me) fun m1 =>
  ob (f_X10_worthOfBlocks p1 m1) fun r2 =>
  oz (f_X10_tries_L13  f_fuel r2 0 m1) (fun w9 => some w9) fun t36 =>
  ob (some t36.1) fun y6 =>
  ob (some t36.2.1) fun y7 =>
  ob (some t36.2.2) fun m8 =>
  oz (f_X10_tries_L141 m8 p1 f_fuel 0) (fun w9 => some w9) fun y31 =>
  some (y6, m8)
def f_X10_takes_L8 (p1 : Int32) (p2 : Int32) (p3 : Int32) : Nat → Int32 → gM → Option (Int32 × gM)
  | 0, _, _ => none
  | n + 1, x2, m3 =>
    if x2 ≤ 0 then
      some (x2, m3)
    else
      ob (f_X10_nextBid p1 p2 p3 m3) fun r7 =>
      ob (a_st 40 12 r7 1 m3) fun m8 =>
      ob (a_ld 40 10 r7 m8) fun v9 =>
      ob (if x2 ≤ v9 then
          some x2
        else
          ob (a_ld 40 10 r7 m8) fun v12 =>
          some v12) fun (z11 : Int32) =>
      ob (a_st 40 11 r7 z11 m8) fun m13 =>
      ob (a_ld 40 11 r7 m13) fun v14 =>
      ob (some (x2 - v14)) fun (x15 : Int32) =>
      f_X10_takes_L8 p1 p2 p3 n x15 m13
def f_X10_takes (p1 : Int32) (p2 : Int32) (p3 : Int32) (p4 : Int32) (me : gM) : Option (gM) :=
  ob (f_X10_forgets me) fun m1 =>
  ob (f_X10_takes_L8 p1 p2 p3 f_fuel p4 m1) fun t16 =>
  ob (some t16.1) fun y4 =>
  ob (some t16.2) fun m5 =>
  some m5
abbrev rmX10_thrown : Room := { frames := 0, cells := 0, slots := 0, locals := 0 }
set_option maxHeartbeats 4000000 in
set_option maxRecDepth 100000 in
theorem c_X10_thrown (l : Launch) (G : gG)  {me : gM} {r0 : Int32}  (hf : f_X10_thrown me = some r0) : Met l yX10_thrown wsX10_thrown rmX10_thrown (va_Pc [.ref (G.2.2.1 0)] (g_W ZM G me)) (g_Qi ZM G r0 me) 0 0 (g_A ZM G) := by
  refine Met.ofW (cc := cX10_thrown) (maxL := 1) (ret := (some .int)) (by decide) rfl ?_
  intro p e s m args below meth c s₁ B hml hv
  obtain ⟨rfl, hW0⟩ := hv
  have hC : CallFix p m c cX10_thrown 1 s ([.ref (G.2.2.1 0)] : List Value).toArray wsX10_thrown RX10 := ⟨B.exec, B.bytes, hml, findClass_of_methodNamed B.named, atoms_spec (ws := wsX10_thrown) B.pre⟩
  have hx := hC.1
  have hb := hC.2.1
  have hown := hC.2.2.2.1
  have hts := hC.2.2.2.2
  have hr := B.returns
  have hlocks := B.notSynchronized
  have hW := g_H_enter hW0
  have hi10 : ∀ w ∈ wsX100, w ∈ wsX10_thrown := by decide +kernel
  have hl := lv_entry ([.ref (G.2.2.1 0)]) (n := 1) (Nat.le_of_ble_eq_true rfl)
  rw [lg_entry_eq]
  generalize (lg_sl ([.ref (G.2.2.1 0)]) ++ List.replicate (1 - (lg_sl ([.ref (G.2.2.1 0)])).length) Slot.unset).toArray = ls at hl ⊢
  have hl : lv_has ls 1 [(0, .ref (G.2.2.1 0))] := hl
  obtain ⟨Q, hQ⟩ : ∃ Q, Q = MQ below (g_Qi ZM G r0 me) ([.ref (G.2.2.1 0)] : List Value).toArray s 0 0 (g_A ZM G) := ⟨_, rfl⟩
  refine g_goQ hQ ?_
  unfold f_X10_thrown at hf
  refine g_start hW (fun H locs hW => ?_)
  refine lv_aload_n hx hb dX10_thrown_0 rfl (lv_at hl 0 rfl) ?_
  refine g_geti hC hW (o := 0) (ci := 10) (k := 67) zm_k0 zm_b0 rfl hi10 (by decide) rfl (by decide +kernel) dX10_thrown_1 ?_
  cases hf
  subst hQ
  exact g_iret hC hW hr hlocks rfl rfl dX10_thrown_4
abbrev rmX10_in : Room := { frames := 0, cells := 0, slots := 0, locals := 0 }
set_option maxHeartbeats 4000000 in
set_option maxRecDepth 100000 in
theorem c_X10_in (l : Launch) (G : gG) {p0 : Int32} {p1 : Int32} {p2 : Int32} {me : gM} {r0 : Int32}  (hf : f_X10_in p0 p1 p2 = some r0) : Met l yX10_in wsX10_in rmX10_in (va_Pc [.int p0, .int p1, .int p2] (g_W ZM G me)) (g_Qi ZM G r0 me) 0 0 (g_A ZM G) := by
  refine Met.ofW (cc := cX10_in) (maxL := 3) (ret := (some .boolean)) (by decide) rfl ?_
  intro p e s m args below meth c s₁ B hml hv
  obtain ⟨rfl, hW0⟩ := hv
  have hC : CallFix p m c cX10_in 3 s ([.int p0, .int p1, .int p2] : List Value).toArray wsX10_in RX10 := ⟨B.exec, B.bytes, hml, findClass_of_methodNamed B.named, atoms_spec (ws := wsX10_in) B.pre⟩
  have hx := hC.1
  have hb := hC.2.1
  have hown := hC.2.2.2.1
  have hts := hC.2.2.2.2
  have hr := B.returns
  have hlocks := B.notSynchronized
  have hW := g_H_enter hW0
  have hl := lv_entry ([.int p0, .int p1, .int p2]) (n := 3) (Nat.le_of_ble_eq_true rfl)
  rw [lg_entry_eq]
  generalize (lg_sl ([.int p0, .int p1, .int p2]) ++ List.replicate (3 - (lg_sl ([.int p0, .int p1, .int p2])).length) Slot.unset).toArray = ls at hl ⊢
  have hl : lv_has ls 3 [(0, .int p0), (1, .int p1), (2, .int p2)] := hl
  obtain ⟨Q, hQ⟩ : ∃ Q, Q = MQ below (g_Qi ZM G r0 me) ([.int p0, .int p1, .int p2] : List Value).toArray s 0 0 (g_A ZM G) := ⟨_, rfl⟩
  refine g_goQ hQ ?_
  unfold f_X10_in at hf
  refine g_start hW (fun H locs hW => ?_)
  refine lv_iload_n hx hb dX10_in_0 rfl (lv_at hl 0 rfl) ?_
  refine lv_iload_n hx hb dX10_in_1 rfl (lv_at hl 1 rfl) ?_
  obtain ⟨z2, hg, hf⟩ := ob_inv hf
  have hJ15 : ∀ (H : Heap) (locs : List Loc) (ls : Array Slot), g_H ZM G s H locs me → lv_has ls 3 [] → W p l e (headSpec wsX10_in rmX10_in).room s m ([.int p0, .int p1, .int p2] : List Value).toArray below meth c H locs 0 0 Q (F0 m 15 ls [.int z2]) := by
    intro H locs ls hW hl
    obtain ⟨b4, h9, hf⟩ := ob_inv hf
    obtain ⟨h9, hn9⟩ := a_zc_inv h9
    refine g_nmi h9 ?_
    cases hf
    subst hQ
    exact g_zret hC hW hr hlocks hn9 rfl rfl dX10_in_15
  replace hf := hg
  refine lv_icmp_lt (tgt := 14) hx hb dX10_in_2 (by decide) (fun c1 => ?_) (fun c1 => ?_)
  · have hf := a_if_t c1 hf
    refine lv_iconst (v := 0) hx hb dX10_in_14 (by decide) ?_
    cases hf
    exact hJ15 H locs ls hW (lv_sub hl [] rfl)
  · have hf := a_if_f c1 hf
    refine lv_iload_n hx hb dX10_in_5 rfl (lv_at hl 0 rfl) ?_
    refine lv_iload_n hx hb dX10_in_6 rfl (lv_at hl 2 rfl) ?_
    refine lv_icmp_gt (tgt := 14) hx hb dX10_in_7 (by decide) (fun c3 => ?_) (fun c3 => ?_)
    · have hf := a_if_t c3 hf
      refine lv_iconst (v := 0) hx hb dX10_in_14 (by decide) ?_
      cases hf
      exact hJ15 H locs ls hW (lv_sub hl [] rfl)
    · have hf := a_if_f c3 hf
      refine lv_iconst (v := 1) hx hb dX10_in_10 (by decide) ?_
      refine lv_goto (tgt := 15) hx hb dX10_in_11 (by decide) ?_
      cases hf
      exact hJ15 H locs ls hW (lv_sub hl [] rfl)
abbrev rmX10_isFirm : Room := { frames := 1, cells := 0, slots := 0, locals := 22 }
set_option maxHeartbeats 4000000 in
set_option maxRecDepth 100000 in
theorem c_X10_isFirm (l : Launch) (G : gG) {p0 : Int32} {me : gM} {r0 : Int32}  (hf : f_X10_isFirm p0 = some r0) : Met l yX10_isFirm wsX10_isFirm rmX10_isFirm (va_Pc [.int p0] (g_W ZM G me)) (g_Qi ZM G r0 me) 0 0 (g_A ZM G) := by
  refine Met.ofW (cc := cX10_isFirm) (maxL := 1) (ret := (some .boolean)) (by decide) rfl ?_
  intro p e s m args below meth c s₁ B hml hv
  obtain ⟨rfl, hW0⟩ := hv
  have hC : CallFix p m c cX10_isFirm 1 s ([.int p0] : List Value).toArray wsX10_isFirm RX10 := ⟨B.exec, B.bytes, hml, findClass_of_methodNamed B.named, atoms_spec (ws := wsX10_isFirm) B.pre⟩
  have hx := hC.1
  have hb := hC.2.1
  have hown := hC.2.2.2.1
  have hts := hC.2.2.2.2
  have hr := B.returns
  have hlocks := B.notSynchronized
  have hW := g_H_enter hW0
  have hl := lv_entry ([.int p0]) (n := 1) (Nat.le_of_ble_eq_true rfl)
  rw [lg_entry_eq]
  generalize (lg_sl ([.int p0]) ++ List.replicate (1 - (lg_sl ([.int p0])).length) Slot.unset).toArray = ls at hl ⊢
  have hl : lv_has ls 1 [(0, .int p0)] := hl
  obtain ⟨Q, hQ⟩ : ∃ Q, Q = MQ below (g_Qi ZM G r0 me) ([.int p0] : List Value).toArray s 0 0 (g_A ZM G) := ⟨_, rfl⟩
  refine g_goQ hQ ?_
  unfold f_X10_isFirm at hf
  refine g_start hW (fun H locs hW => ?_)
  refine lv_iload_n hx hb dX10_isFirm_0 rfl (lv_at hl 0 rfl) ?_
  refine lv_iconst (v := 0) hx hb dX10_isFirm_1 (by decide) ?_
  refine lv_iconst (v := 5) hx hb dX10_isFirm_2 (by decide) ?_
  obtain ⟨r1, hg, hf⟩ := ob_inv hf
  refine g_cSi hC hW (As := [.int p0, .int 0, .int 5]) (rest := []) (c_X10_in l G  hg) (va_cwS 3 hts gX10_isFirm_X10_in rfl rfl rfl (by decide +kernel) ⟨Nat.le_of_ble_eq_true rfl, Nat.le_of_ble_eq_true rfl⟩) rfl hl.1 rfl (Nat.le_of_ble_eq_true rfl) dX10_isFirm_3 ⟨Nat.le_of_ble_eq_true rfl, Nat.le_of_ble_eq_true rfl⟩ (fun H locs hW => ?_)
  obtain ⟨b2, h9, hf⟩ := ob_inv hf
  obtain ⟨h9, hn9⟩ := a_zc_inv h9
  refine g_nmi h9 ?_
  cases hf
  subst hQ
  exact g_zret hC hW hr hlocks hn9 rfl rfl dX10_isFirm_6
abbrev rmX10_isZone : Room := { frames := 1, cells := 0, slots := 0, locals := 22 }
set_option maxHeartbeats 4000000 in
set_option maxRecDepth 100000 in
theorem c_X10_isZone (l : Launch) (G : gG) {p0 : Int32} {me : gM} {r0 : Int32}  (hf : f_X10_isZone p0 = some r0) : Met l yX10_isZone wsX10_isZone rmX10_isZone (va_Pc [.int p0] (g_W ZM G me)) (g_Qi ZM G r0 me) 0 0 (g_A ZM G) := by
  refine Met.ofW (cc := cX10_isZone) (maxL := 1) (ret := (some .boolean)) (by decide) rfl ?_
  intro p e s m args below meth c s₁ B hml hv
  obtain ⟨rfl, hW0⟩ := hv
  have hC : CallFix p m c cX10_isZone 1 s ([.int p0] : List Value).toArray wsX10_isZone RX10 := ⟨B.exec, B.bytes, hml, findClass_of_methodNamed B.named, atoms_spec (ws := wsX10_isZone) B.pre⟩
  have hx := hC.1
  have hb := hC.2.1
  have hown := hC.2.2.2.1
  have hts := hC.2.2.2.2
  have hr := B.returns
  have hlocks := B.notSynchronized
  have hW := g_H_enter hW0
  have hl := lv_entry ([.int p0]) (n := 1) (Nat.le_of_ble_eq_true rfl)
  rw [lg_entry_eq]
  generalize (lg_sl ([.int p0]) ++ List.replicate (1 - (lg_sl ([.int p0])).length) Slot.unset).toArray = ls at hl ⊢
  have hl : lv_has ls 1 [(0, .int p0)] := hl
  obtain ⟨Q, hQ⟩ : ∃ Q, Q = MQ below (g_Qi ZM G r0 me) ([.int p0] : List Value).toArray s 0 0 (g_A ZM G) := ⟨_, rfl⟩
  refine g_goQ hQ ?_
  unfold f_X10_isZone at hf
  refine g_start hW (fun H locs hW => ?_)
  refine lv_iload_n hx hb dX10_isZone_0 rfl (lv_at hl 0 rfl) ?_
  refine lv_iconst (v := 0) hx hb dX10_isZone_1 (by decide) ?_
  refine lv_iconst (v := 2) hx hb dX10_isZone_2 (by decide) ?_
  obtain ⟨r1, hg, hf⟩ := ob_inv hf
  refine g_cSi hC hW (As := [.int p0, .int 0, .int 2]) (rest := []) (c_X10_in l G  hg) (va_cwS 3 hts gX10_isZone_X10_in rfl rfl rfl (by decide +kernel) ⟨Nat.le_of_ble_eq_true rfl, Nat.le_of_ble_eq_true rfl⟩) rfl hl.1 rfl (Nat.le_of_ble_eq_true rfl) dX10_isZone_3 ⟨Nat.le_of_ble_eq_true rfl, Nat.le_of_ble_eq_true rfl⟩ (fun H locs hW => ?_)
  obtain ⟨b2, h9, hf⟩ := ob_inv hf
  obtain ⟨h9, hn9⟩ := a_zc_inv h9
  refine g_nmi h9 ?_
  cases hf
  subst hQ
  exact g_zret hC hW hr hlocks hn9 rfl rfl dX10_isZone_6
abbrev rmX10_isHour : Room := { frames := 1, cells := 0, slots := 0, locals := 22 }
set_option maxHeartbeats 4000000 in
set_option maxRecDepth 100000 in
theorem c_X10_isHour (l : Launch) (G : gG) {p0 : Int32} {me : gM} {r0 : Int32}  (hf : f_X10_isHour p0 = some r0) : Met l yX10_isHour wsX10_isHour rmX10_isHour (va_Pc [.int p0] (g_W ZM G me)) (g_Qi ZM G r0 me) 0 0 (g_A ZM G) := by
  refine Met.ofW (cc := cX10_isHour) (maxL := 1) (ret := (some .boolean)) (by decide) rfl ?_
  intro p e s m args below meth c s₁ B hml hv
  obtain ⟨rfl, hW0⟩ := hv
  have hC : CallFix p m c cX10_isHour 1 s ([.int p0] : List Value).toArray wsX10_isHour RX10 := ⟨B.exec, B.bytes, hml, findClass_of_methodNamed B.named, atoms_spec (ws := wsX10_isHour) B.pre⟩
  have hx := hC.1
  have hb := hC.2.1
  have hown := hC.2.2.2.1
  have hts := hC.2.2.2.2
  have hr := B.returns
  have hlocks := B.notSynchronized
  have hW := g_H_enter hW0
  have hl := lv_entry ([.int p0]) (n := 1) (Nat.le_of_ble_eq_true rfl)
  rw [lg_entry_eq]
  generalize (lg_sl ([.int p0]) ++ List.replicate (1 - (lg_sl ([.int p0])).length) Slot.unset).toArray = ls at hl ⊢
  have hl : lv_has ls 1 [(0, .int p0)] := hl
  obtain ⟨Q, hQ⟩ : ∃ Q, Q = MQ below (g_Qi ZM G r0 me) ([.int p0] : List Value).toArray s 0 0 (g_A ZM G) := ⟨_, rfl⟩
  refine g_goQ hQ ?_
  unfold f_X10_isHour at hf
  refine g_start hW (fun H locs hW => ?_)
  refine lv_iload_n hx hb dX10_isHour_0 rfl (lv_at hl 0 rfl) ?_
  refine lv_iconst (v := 0) hx hb dX10_isHour_1 (by decide) ?_
  refine lv_iconst (v := 3) hx hb dX10_isHour_2 (by decide) ?_
  obtain ⟨r1, hg, hf⟩ := ob_inv hf
  refine g_cSi hC hW (As := [.int p0, .int 0, .int 3]) (rest := []) (c_X10_in l G  hg) (va_cwS 3 hts gX10_isHour_X10_in rfl rfl rfl (by decide +kernel) ⟨Nat.le_of_ble_eq_true rfl, Nat.le_of_ble_eq_true rfl⟩) rfl hl.1 rfl (Nat.le_of_ble_eq_true rfl) dX10_isHour_3 ⟨Nat.le_of_ble_eq_true rfl, Nat.le_of_ble_eq_true rfl⟩ (fun H locs hW => ?_)
  obtain ⟨b2, h9, hf⟩ := ob_inv hf
  obtain ⟨h9, hn9⟩ := a_zc_inv h9
  refine g_nmi h9 ?_
  cases hf
  subst hQ
  exact g_zret hC hW hr hlocks hn9 rfl rfl dX10_isHour_6
abbrev rmX10_isClosed : Room := { frames := 1, cells := 0, slots := 0, locals := 22 }
set_option maxHeartbeats 4000000 in
set_option maxRecDepth 100000 in
theorem c_X10_isClosed (l : Launch) (G : gG) {p1 : Int32} {me : gM} {r0 : Int32}  (hf : f_X10_isClosed p1 me = some r0) : Met l yX10_isClosed wsX10_isClosed rmX10_isClosed (va_Pc [.ref (G.2.2.1 0), .int p1] (g_W ZM G me)) (g_Qi ZM G r0 me) 0 0 (g_A ZM G) := by
  refine Met.ofW (cc := cX10_isClosed) (maxL := 2) (ret := (some .boolean)) (by decide) rfl ?_
  intro p e s m args below meth c s₁ B hml hv
  obtain ⟨rfl, hW0⟩ := hv
  have hC : CallFix p m c cX10_isClosed 2 s ([.ref (G.2.2.1 0), .int p1] : List Value).toArray wsX10_isClosed RX10 := ⟨B.exec, B.bytes, hml, findClass_of_methodNamed B.named, atoms_spec (ws := wsX10_isClosed) B.pre⟩
  have hx := hC.1
  have hb := hC.2.1
  have hown := hC.2.2.2.1
  have hts := hC.2.2.2.2
  have hr := B.returns
  have hlocks := B.notSynchronized
  have hW := g_H_enter hW0
  have hi10 : ∀ w ∈ wsX100, w ∈ wsX10_isClosed := by decide +kernel
  have hl := lv_entry ([.ref (G.2.2.1 0), .int p1]) (n := 2) (Nat.le_of_ble_eq_true rfl)
  rw [lg_entry_eq]
  generalize (lg_sl ([.ref (G.2.2.1 0), .int p1]) ++ List.replicate (2 - (lg_sl ([.ref (G.2.2.1 0), .int p1])).length) Slot.unset).toArray = ls at hl ⊢
  have hl : lv_has ls 2 [(0, .ref (G.2.2.1 0)), (1, .int p1)] := hl
  obtain ⟨Q, hQ⟩ : ∃ Q, Q = MQ below (g_Qi ZM G r0 me) ([.ref (G.2.2.1 0), .int p1] : List Value).toArray s 0 0 (g_A ZM G) := ⟨_, rfl⟩
  refine g_goQ hQ ?_
  unfold f_X10_isClosed at hf
  refine g_start hW (fun H locs hW => ?_)
  refine lv_iload_n hx hb dX10_isClosed_0 rfl (lv_at hl 1 rfl) ?_
  refine lv_iconst (v := 0) hx hb dX10_isClosed_1 (by decide) ?_
  refine lv_aload_n hx hb dX10_isClosed_2 rfl (lv_at hl 0 rfl) ?_
  refine g_geti hC hW (o := 0) (ci := 10) (k := 0) zm_k0 zm_b0 rfl hi10 (by decide) rfl (by decide +kernel) dX10_isClosed_3 ?_
  refine lv_iconst (v := 1) hx hb dX10_isClosed_6 (by decide) ?_
  refine lv_isub hx hb dX10_isClosed_7 ?_
  obtain ⟨r1, hg, hf⟩ := ob_inv hf
  refine g_cSi hC hW (As := [.int p1, .int 0, .int ((me 0 0) - 1)]) (rest := []) (c_X10_in l G  hg) (va_cwS 3 hts gX10_isClosed_X10_in rfl rfl rfl (by decide +kernel) ⟨Nat.le_of_ble_eq_true rfl, Nat.le_of_ble_eq_true rfl⟩) rfl hl.1 rfl (Nat.le_of_ble_eq_true rfl) dX10_isClosed_8 ⟨Nat.le_of_ble_eq_true rfl, Nat.le_of_ble_eq_true rfl⟩ (fun H locs hW => ?_)
  obtain ⟨b2, h9, hf⟩ := ob_inv hf
  obtain ⟨h9, hn9⟩ := a_zc_inv h9
  refine g_nmi h9 ?_
  cases hf
  subst hQ
  exact g_zret hC hW hr hlocks hn9 rfl rfl dX10_isClosed_11
abbrev rmX10_deposit : Room := { frames := 2, cells := 0, slots := 0, locals := 42 }
set_option maxHeartbeats 4000000 in
set_option maxRecDepth 100000 in
theorem c_X10_deposit (l : Launch) (G : gG) {p1 : Int32} {p2 : Int32} {me : gM} {r0 : Int32} {m0 : gM}  (hf : f_X10_deposit p1 p2 me = some (r0, m0)) : Met l yX10_deposit wsX10_deposit rmX10_deposit (va_Pc [.ref (G.2.2.1 0), .int p1, .int p2] (g_W ZM G me)) (g_Qi ZM G r0 m0) 0 0 (g_A ZM G) := by
  refine Met.ofW (cc := cX10_deposit) (maxL := 3) (ret := (some .int)) (by decide) rfl ?_
  intro p e s m args below meth c s₁ B hml hv
  obtain ⟨rfl, hW0⟩ := hv
  have hC : CallFix p m c cX10_deposit 3 s ([.ref (G.2.2.1 0), .int p1, .int p2] : List Value).toArray wsX10_deposit RX10 := ⟨B.exec, B.bytes, hml, findClass_of_methodNamed B.named, atoms_spec (ws := wsX10_deposit) B.pre⟩
  have hx := hC.1
  have hb := hC.2.1
  have hown := hC.2.2.2.1
  have hts := hC.2.2.2.2
  have hr := B.returns
  have hlocks := B.notSynchronized
  have hW := g_H_enter hW0
  have hi10 : ∀ w ∈ wsX100, w ∈ wsX10_deposit := by decide +kernel
  have hl := lv_entry ([.ref (G.2.2.1 0), .int p1, .int p2]) (n := 3) (Nat.le_of_ble_eq_true rfl)
  rw [lg_entry_eq]
  generalize (lg_sl ([.ref (G.2.2.1 0), .int p1, .int p2]) ++ List.replicate (3 - (lg_sl ([.ref (G.2.2.1 0), .int p1, .int p2])).length) Slot.unset).toArray = ls at hl ⊢
  have hl : lv_has ls 3 [(0, .ref (G.2.2.1 0)), (1, .int p1), (2, .int p2)] := hl
  obtain ⟨Q, hQ⟩ : ∃ Q, Q = MQ below (g_Qi ZM G r0 m0) ([.ref (G.2.2.1 0), .int p1, .int p2] : List Value).toArray s 0 0 (g_A ZM G) := ⟨_, rfl⟩
  refine g_goQ hQ ?_
  unfold f_X10_deposit at hf
  refine g_start hW (fun H locs hW => ?_)
  refine lv_aload_n hx hb dX10_deposit_0 rfl (lv_at hl 0 rfl) ?_
  refine lv_iload_n hx hb dX10_deposit_1 rfl (lv_at hl 1 rfl) ?_
  obtain ⟨r1, hg, hf⟩ := ob_inv hf
  refine g_cSi hC hW (As := [.int p1]) (rest := [.ref (G.2.2.1 0)]) (c_X10_isFirm l G  hg) (va_cwS 1 hts gX10_deposit_X10_isFirm rfl rfl rfl (by decide +kernel) ⟨Nat.le_of_ble_eq_true rfl, Nat.le_of_ble_eq_true rfl⟩) rfl hl.1 rfl (Nat.le_of_ble_eq_true rfl) dX10_deposit_2 ⟨Nat.le_of_ble_eq_true rfl, Nat.le_of_ble_eq_true rfl⟩ (fun H locs hW => ?_)
  obtain ⟨z3, hg, hf⟩ := ob_inv hf
  have hJ54 : ∀ (H : Heap) (locs : List Loc) (ls : Array Slot), g_H ZM G s H locs me → lv_has ls 3 [(0, .ref (G.2.2.1 0)), (1, .int p1), (2, .int p2)] → W p l e (headSpec wsX10_deposit rmX10_deposit).room s m ([.ref (G.2.2.1 0), .int p1, .int p2] : List Value).toArray below meth c H locs 0 0 Q (F0 m 54 ls [.int z3, .ref (G.2.2.1 0)]) := by
    intro H locs ls hW hl
    obtain ⟨m10, h9, hf⟩ := ob_inv hf
    refine g_puti hC hW (o := 0) (ci := 10) (k := 67) zm_k0 zm_b0 rfl hi10 tyX10_ok nmX10 (by decide) rfl rfl rfl (by decide +kernel) dX10_deposit_54 (fun H locs hW => ?_)
    rw [Option.some.inj h9] at hW
    refine lv_aload_n hx hb dX10_deposit_57 rfl (lv_at hl 0 rfl) ?_
    refine g_geti hC hW (o := 0) (ci := 10) (k := 67) zm_k0 zm_b0 rfl hi10 (by decide) rfl (by decide +kernel) dX10_deposit_58 ?_
    refine lv_if_le (tgt := 66) hx hb dX10_deposit_61 (by decide) (fun c11 => ?_) (fun c11 => ?_)
    · have hf := a_if_t c11 hf
      refine lv_aload_n hx hb dX10_deposit_66 rfl (lv_at hl 0 rfl) ?_
      refine g_getr hC hW (o := 0) (ci := 10) (k := 4) zm_k0 zm_b0 rfl hi10 (by decide) rfl (t := 3) zm_r0_4 (by decide +kernel) dX10_deposit_67 ?_
      refine lv_iload_n hx hb dX10_deposit_70 rfl (lv_at hl 1 rfl) ?_
      refine lv_dup2_11 hx hb dX10_deposit_71 rfl rfl ?_
      obtain ⟨v12, h9, hf⟩ := ob_inv hf
      refine g_ild hC hW zm_k3 zm_b3 zm_n3 h9 dX10_deposit_72 ?_
      refine lv_iload_n hx hb dX10_deposit_73 rfl (lv_at hl 2 rfl) ?_
      refine lv_iadd hx hb dX10_deposit_74 ?_
      obtain ⟨m13, h9, hf⟩ := ob_inv hf
      refine g_ist hC hW zm_k3 zm_b3 zm_n3 h9 dX10_deposit_75 (fun H locs hW => ?_)
      refine lv_aload_n hx hb dX10_deposit_76 rfl (lv_at hl 0 rfl) ?_
      refine g_getr hC hW (o := 0) (ci := 10) (k := 3) zm_k0 zm_b0 rfl hi10 (by decide) rfl (t := 2) zm_r0_3 (by decide +kernel) dX10_deposit_77 ?_
      refine lv_iload_n hx hb dX10_deposit_80 rfl (lv_at hl 1 rfl) ?_
      refine lv_dup2_11 hx hb dX10_deposit_81 rfl rfl ?_
      obtain ⟨v14, h9, hf⟩ := ob_inv hf
      refine g_ild hC hW zm_k2 zm_b2 zm_n2 h9 dX10_deposit_82 ?_
      refine lv_iload_n hx hb dX10_deposit_83 rfl (lv_at hl 2 rfl) ?_
      refine lv_iadd hx hb dX10_deposit_84 ?_
      obtain ⟨m15, h9, hf⟩ := ob_inv hf
      refine g_ist hC hW zm_k2 zm_b2 zm_n2 h9 dX10_deposit_85 (fun H locs hW => ?_)
      refine lv_aload_n hx hb dX10_deposit_86 rfl (lv_at hl 0 rfl) ?_
      refine g_getr hC hW (o := 0) (ci := 10) (k := 3) zm_k0 zm_b0 rfl hi10 (by decide) rfl (t := 2) zm_r0_3 (by decide +kernel) dX10_deposit_87 ?_
      refine lv_iload_n hx hb dX10_deposit_90 rfl (lv_at hl 1 rfl) ?_
      obtain ⟨v16, h9, hf⟩ := ob_inv hf
      refine g_ild hC hW zm_k2 zm_b2 zm_n2 h9 dX10_deposit_91 ?_
      cases hf
      subst hQ
      exact g_iret hC hW hr hlocks rfl rfl dX10_deposit_92
    · have hf := a_if_f c11 hf
      refine lv_iconst (v := 0) hx hb dX10_deposit_64 (by decide) ?_
      cases hf
      subst hQ
      exact g_iret hC hW hr hlocks rfl rfl dX10_deposit_65
  replace hf := hg
  refine lv_if_ne (tgt := 12) hx hb dX10_deposit_5 (by decide) (fun c2 => ?_) (fun c2 => ?_)
  · have hf := a_if_f c2 hf
    refine lv_iload_n hx hb dX10_deposit_12 rfl (lv_at hl 2 rfl) ?_
    refine lv_iconst (v := 1) hx hb dX10_deposit_13 (by decide) ?_
    refine lv_ldc (v := 100000) hx hb hown (hts _ (by decide +kernel : Cond.constant RX10 190 (100000) ∈ wsX10_deposit)) dX10_deposit_14 ?_
    obtain ⟨r4, hg, hf⟩ := ob_inv hf
    refine g_cSi hC hW (As := [.int p2, .int 1, .int 100000]) (rest := [.ref (G.2.2.1 0)]) (c_X10_in l G  hg) (va_cwS 3 hts gX10_deposit_X10_in rfl rfl rfl (by decide +kernel) ⟨Nat.le_of_ble_eq_true rfl, Nat.le_of_ble_eq_true rfl⟩) rfl hl.1 rfl (Nat.le_of_ble_eq_true rfl) dX10_deposit_16 ⟨Nat.le_of_ble_eq_true rfl, Nat.le_of_ble_eq_true rfl⟩ (fun H locs hW => ?_)
    refine lv_if_ne (tgt := 26) hx hb dX10_deposit_19 (by decide) (fun c5 => ?_) (fun c5 => ?_)
    · have hf := a_if_f c5 hf
      refine lv_aload_n hx hb dX10_deposit_26 rfl (lv_at hl 0 rfl) ?_
      refine g_getr hC hW (o := 0) (ci := 10) (k := 5) zm_k0 zm_b0 rfl hi10 (by decide) rfl (t := 4) zm_r0_5 (by decide +kernel) dX10_deposit_27 ?_
      refine lv_iload_n hx hb dX10_deposit_30 rfl (lv_at hl 1 rfl) ?_
      obtain ⟨v6, h9, hf⟩ := ob_inv hf
      refine g_ild hC hW zm_k4 zm_b4 zm_n4 h9 dX10_deposit_31 ?_
      refine lv_iconst (v := 1) hx hb dX10_deposit_32 (by decide) ?_
      refine lv_icmp_eq (tgt := 49) hx hb dX10_deposit_33 (by decide) (fun c7 => ?_) (fun c7 => ?_)
      · have hf := a_if_t c7 hf
        refine lv_iconst (v := 3) hx hb dX10_deposit_49 (by decide) ?_
        refine lv_goto (tgt := 54) hx hb dX10_deposit_50 (by decide) ?_
        cases hf
        exact hJ54 H locs ls hW (lv_sub hl [0, 1, 2] rfl)
      · have hf := a_if_f c7 hf
        refine lv_aload_n hx hb dX10_deposit_36 rfl (lv_at hl 0 rfl) ?_
        refine g_getr hC hW (o := 0) (ci := 10) (k := 4) zm_k0 zm_b0 rfl hi10 (by decide) rfl (t := 3) zm_r0_4 (by decide +kernel) dX10_deposit_37 ?_
        refine lv_iload_n hx hb dX10_deposit_40 rfl (lv_at hl 1 rfl) ?_
        obtain ⟨v8, h9, hf⟩ := ob_inv hf
        refine g_ild hC hW zm_k3 zm_b3 zm_n3 h9 dX10_deposit_41 ?_
        refine lv_iload_n hx hb dX10_deposit_42 rfl (lv_at hl 2 rfl) ?_
        refine lv_iadd hx hb dX10_deposit_43 ?_
        refine lv_ldc (v := 10000000) hx hb hown (hts _ (by decide +kernel : Cond.constant RX10 191 (10000000) ∈ wsX10_deposit)) dX10_deposit_44 ?_
        refine lv_icmp_le (tgt := 53) hx hb dX10_deposit_46 (by decide) (fun c9 => ?_) (fun c9 => ?_)
        · have hf := a_if_t c9 hf
          refine lv_iconst (v := 0) hx hb dX10_deposit_53 (by decide) ?_
          cases hf
          exact hJ54 H locs ls hW (lv_sub hl [0, 1, 2] rfl)
        · have hf := a_if_f c9 hf
          refine lv_iconst (v := 3) hx hb dX10_deposit_49 (by decide) ?_
          refine lv_goto (tgt := 54) hx hb dX10_deposit_50 (by decide) ?_
          cases hf
          exact hJ54 H locs ls hW (lv_sub hl [0, 1, 2] rfl)
    · have hf := a_if_t c5 hf
      refine lv_iconst (v := 2) hx hb dX10_deposit_22 (by decide) ?_
      refine lv_goto (tgt := 54) hx hb dX10_deposit_23 (by decide) ?_
      cases hf
      exact hJ54 H locs ls hW (lv_sub hl [0, 1, 2] rfl)
  · have hf := a_if_t c2 hf
    refine lv_iconst (v := 1) hx hb dX10_deposit_8 (by decide) ?_
    refine lv_goto (tgt := 54) hx hb dX10_deposit_9 (by decide) ?_
    cases hf
    exact hJ54 H locs ls hW (lv_sub hl [0, 1, 2] rfl)
abbrev rmX10_setLimit : Room := { frames := 1, cells := 0, slots := 0, locals := 22 }
set_option maxHeartbeats 4000000 in
set_option maxRecDepth 100000 in
theorem c_X10_setLimit (l : Launch) (G : gG) {p1 : Int32} {p2 : Int32} {me : gM} {r0 : Int32} {m0 : gM}  (hf : f_X10_setLimit p1 p2 me = some (r0, m0)) : Met l yX10_setLimit wsX10_setLimit rmX10_setLimit (va_Pc [.ref (G.2.2.1 0), .int p1, .int p2] (g_W ZM G me)) (g_Qi ZM G r0 m0) 0 0 (g_A ZM G) := by
  refine Met.ofW (cc := cX10_setLimit) (maxL := 4) (ret := (some .int)) (by decide) rfl ?_
  intro p e s m args below meth c s₁ B hml hv
  obtain ⟨rfl, hW0⟩ := hv
  have hC : CallFix p m c cX10_setLimit 4 s ([.ref (G.2.2.1 0), .int p1, .int p2] : List Value).toArray wsX10_setLimit RX10 := ⟨B.exec, B.bytes, hml, findClass_of_methodNamed B.named, atoms_spec (ws := wsX10_setLimit) B.pre⟩
  have hx := hC.1
  have hb := hC.2.1
  have hown := hC.2.2.2.1
  have hts := hC.2.2.2.2
  have hr := B.returns
  have hlocks := B.notSynchronized
  have hW := g_H_enter hW0
  have hi10 : ∀ w ∈ wsX100, w ∈ wsX10_setLimit := by decide +kernel
  have hl := lv_entry ([.ref (G.2.2.1 0), .int p1, .int p2]) (n := 4) (Nat.le_of_ble_eq_true rfl)
  rw [lg_entry_eq]
  generalize (lg_sl ([.ref (G.2.2.1 0), .int p1, .int p2]) ++ List.replicate (4 - (lg_sl ([.ref (G.2.2.1 0), .int p1, .int p2])).length) Slot.unset).toArray = ls at hl ⊢
  have hl : lv_has ls 4 [(0, .ref (G.2.2.1 0)), (1, .int p1), (2, .int p2)] := hl
  obtain ⟨Q, hQ⟩ : ∃ Q, Q = MQ below (g_Qi ZM G r0 m0) ([.ref (G.2.2.1 0), .int p1, .int p2] : List Value).toArray s 0 0 (g_A ZM G) := ⟨_, rfl⟩
  refine g_goQ hQ ?_
  unfold f_X10_setLimit at hf
  refine g_start hW (fun H locs hW => ?_)
  refine lv_aload_n hx hb dX10_setLimit_0 rfl (lv_at hl 0 rfl) ?_
  refine lv_iload_n hx hb dX10_setLimit_1 rfl (lv_at hl 1 rfl) ?_
  refine lv_iconst (v := 0) hx hb dX10_setLimit_2 (by decide) ?_
  refine lv_iconst (v := 2) hx hb dX10_setLimit_3 (by decide) ?_
  obtain ⟨r1, hg, hf⟩ := ob_inv hf
  refine g_cSi hC hW (As := [.int p1, .int 0, .int 2]) (rest := [.ref (G.2.2.1 0)]) (c_X10_in l G  hg) (va_cwS 3 hts gX10_setLimit_X10_in rfl rfl rfl (by decide +kernel) ⟨Nat.le_of_ble_eq_true rfl, Nat.le_of_ble_eq_true rfl⟩) rfl hl.1 rfl (Nat.le_of_ble_eq_true rfl) dX10_setLimit_4 ⟨Nat.le_of_ble_eq_true rfl, Nat.le_of_ble_eq_true rfl⟩ (fun H locs hW => ?_)
  obtain ⟨z3, hg, hf⟩ := ob_inv hf
  have hJ41 : ∀ (H : Heap) (locs : List Loc) (ls : Array Slot), g_H ZM G s H locs me → lv_has ls 4 [(0, .ref (G.2.2.1 0)), (1, .int p1), (2, .int p2)] → W p l e (headSpec wsX10_setLimit rmX10_setLimit).room s m ([.ref (G.2.2.1 0), .int p1, .int p2] : List Value).toArray below meth c H locs 0 0 Q (F0 m 41 ls [.int z3, .ref (G.2.2.1 0)]) := by
    intro H locs ls hW hl
    obtain ⟨m7, h9, hf⟩ := ob_inv hf
    refine g_puti hC hW (o := 0) (ci := 10) (k := 67) zm_k0 zm_b0 rfl hi10 tyX10_ok nmX10 (by decide) rfl rfl rfl (by decide +kernel) dX10_setLimit_41 (fun H locs hW => ?_)
    rw [Option.some.inj h9] at hW
    refine lv_aload_n hx hb dX10_setLimit_44 rfl (lv_at hl 0 rfl) ?_
    refine g_geti hC hW (o := 0) (ci := 10) (k := 67) zm_k0 zm_b0 rfl hi10 (by decide) rfl (by decide +kernel) dX10_setLimit_45 ?_
    refine lv_if_le (tgt := 53) hx hb dX10_setLimit_48 (by decide) (fun c8 => ?_) (fun c8 => ?_)
    · have hf := a_if_t c8 hf
      refine lv_aload_n hx hb dX10_setLimit_53 rfl (lv_at hl 0 rfl) ?_
      refine g_getr hC hW (o := 0) (ci := 10) (k := 2) zm_k0 zm_b0 rfl hi10 (by decide) rfl (t := 1) zm_r0_2 (by decide +kernel) dX10_setLimit_54 ?_
      refine lv_iload_n hx hb dX10_setLimit_57 rfl (lv_at hl 1 rfl) ?_
      obtain ⟨v9, h9, hf⟩ := ob_inv hf
      refine g_ild hC hW zm_k1 zm_b1 zm_n1 h9 dX10_setLimit_58 ?_
      refine lv_istore_n (lv' := [(3, .int v9), (0, .ref (G.2.2.1 0)), (1, .int p1), (2, .int p2)]) hx hb dX10_setLimit_59 rfl hl (by decide) rfl (fun ls hl => ?_)
      refine lv_aload_n hx hb dX10_setLimit_60 rfl (lv_at hl 1 rfl) ?_
      refine g_getr hC hW (o := 0) (ci := 10) (k := 2) zm_k0 zm_b0 rfl hi10 (by decide) rfl (t := 1) zm_r0_2 (by decide +kernel) dX10_setLimit_61 ?_
      refine lv_iload_n hx hb dX10_setLimit_64 rfl (lv_at hl 2 rfl) ?_
      refine lv_iload_n hx hb dX10_setLimit_65 rfl (lv_at hl 3 rfl) ?_
      obtain ⟨m10, h9, hf⟩ := ob_inv hf
      refine g_ist hC hW zm_k1 zm_b1 zm_n1 h9 dX10_setLimit_66 (fun H locs hW => ?_)
      refine lv_iload_n hx hb dX10_setLimit_67 rfl (lv_at hl 0 rfl) ?_
      cases hf
      subst hQ
      exact g_iret hC hW hr hlocks rfl rfl dX10_setLimit_68
    · have hf := a_if_f c8 hf
      refine lv_iconst (v := 0) hx hb dX10_setLimit_51 (by decide) ?_
      cases hf
      subst hQ
      exact g_iret hC hW hr hlocks rfl rfl dX10_setLimit_52
  replace hf := hg
  refine lv_if_ne (tgt := 14) hx hb dX10_setLimit_7 (by decide) (fun c2 => ?_) (fun c2 => ?_)
  · have hf := a_if_f c2 hf
    refine lv_iload_n hx hb dX10_setLimit_14 rfl (lv_at hl 2 rfl) ?_
    refine lv_iconst (v := 0) hx hb dX10_setLimit_15 (by decide) ?_
    refine lv_bipush (v := 10) hx hb dX10_setLimit_16 (by decide) ?_
    obtain ⟨r4, hg, hf⟩ := ob_inv hf
    refine g_cSi hC hW (As := [.int p2, .int 0, .int 10]) (rest := [.ref (G.2.2.1 0)]) (c_X10_in l G  hg) (va_cwS 3 hts gX10_setLimit_X10_in rfl rfl rfl (by decide +kernel) ⟨Nat.le_of_ble_eq_true rfl, Nat.le_of_ble_eq_true rfl⟩) rfl hl.1 rfl (Nat.le_of_ble_eq_true rfl) dX10_setLimit_18 ⟨Nat.le_of_ble_eq_true rfl, Nat.le_of_ble_eq_true rfl⟩ (fun H locs hW => ?_)
    refine lv_if_ne (tgt := 28) hx hb dX10_setLimit_21 (by decide) (fun c5 => ?_) (fun c5 => ?_)
    · have hf := a_if_f c5 hf
      refine lv_aload_n hx hb dX10_setLimit_28 rfl (lv_at hl 0 rfl) ?_
      refine g_geti hC hW (o := 0) (ci := 10) (k := 1) zm_k0 zm_b0 rfl hi10 (by decide) rfl (by decide +kernel) dX10_setLimit_29 ?_
      refine lv_iconst (v := 1) hx hb dX10_setLimit_32 (by decide) ?_
      refine lv_icmp_ne (tgt := 40) hx hb dX10_setLimit_33 (by decide) (fun c6 => ?_) (fun c6 => ?_)
      · have hf := a_if_f c6 hf
        refine lv_iconst (v := 0) hx hb dX10_setLimit_40 (by decide) ?_
        cases hf
        exact hJ41 H locs ls hW (lv_sub hl [0, 1, 2] rfl)
      · have hf := a_if_t c6 hf
        refine lv_iconst (v := 3) hx hb dX10_setLimit_36 (by decide) ?_
        refine lv_goto (tgt := 41) hx hb dX10_setLimit_37 (by decide) ?_
        cases hf
        exact hJ41 H locs ls hW (lv_sub hl [0, 1, 2] rfl)
    · have hf := a_if_t c5 hf
      refine lv_iconst (v := 2) hx hb dX10_setLimit_24 (by decide) ?_
      refine lv_goto (tgt := 41) hx hb dX10_setLimit_25 (by decide) ?_
      cases hf
      exact hJ41 H locs ls hW (lv_sub hl [0, 1, 2] rfl)
  · have hf := a_if_t c2 hf
    refine lv_iconst (v := 1) hx hb dX10_setLimit_10 (by decide) ?_
    refine lv_goto (tgt := 41) hx hb dX10_setLimit_11 (by decide) ?_
    cases hf
    exact hJ41 H locs ls hW (lv_sub hl [0, 1, 2] rfl)
abbrev rmX10_bid : Room := { frames := 2, cells := 0, slots := 0, locals := 42 }
set_option maxHeartbeats 4000000 in
set_option maxRecDepth 100000 in
theorem c_X10_bid (l : Launch) (G : gG) {p1 : Int32} {p2 : Int32} {p3 : Int32} {p4 : Int32} {p5 : Int32} {p6 : Int32} {me : gM} {r0 : Int32} {m0 : gM}  (hf : f_X10_bid p1 p2 p3 p4 p5 p6 me = some (r0, m0)) : Met l yX10_bid wsX10_bid rmX10_bid (va_Pc [.ref (G.2.2.1 0), .int p1, .int p2, .int p3, .int p4, .int p5, .int p6] (g_W ZM G me)) (g_Qi ZM G r0 m0) 0 0 (g_A ZM G) := by
  refine Met.ofW (cc := cX10_bid) (maxL := 7) (ret := (some .int)) (by decide) rfl ?_
  intro p e s m args below meth c s₁ B hml hv
  obtain ⟨rfl, hW0⟩ := hv
  have hC : CallFix p m c cX10_bid 7 s ([.ref (G.2.2.1 0), .int p1, .int p2, .int p3, .int p4, .int p5, .int p6] : List Value).toArray wsX10_bid RX10 := ⟨B.exec, B.bytes, hml, findClass_of_methodNamed B.named, atoms_spec (ws := wsX10_bid) B.pre⟩
  have hx := hC.1
  have hb := hC.2.1
  have hown := hC.2.2.2.1
  have hts := hC.2.2.2.2
  have hr := B.returns
  have hlocks := B.notSynchronized
  have hW := g_H_enter hW0
  have hi10 : ∀ w ∈ wsX100, w ∈ wsX10_bid := by decide +kernel
  have hl := lv_entry ([.ref (G.2.2.1 0), .int p1, .int p2, .int p3, .int p4, .int p5, .int p6]) (n := 7) (Nat.le_of_ble_eq_true rfl)
  rw [lg_entry_eq]
  generalize (lg_sl ([.ref (G.2.2.1 0), .int p1, .int p2, .int p3, .int p4, .int p5, .int p6]) ++ List.replicate (7 - (lg_sl ([.ref (G.2.2.1 0), .int p1, .int p2, .int p3, .int p4, .int p5, .int p6])).length) Slot.unset).toArray = ls at hl ⊢
  have hl : lv_has ls 7 [(0, .ref (G.2.2.1 0)), (1, .int p1), (2, .int p2), (3, .int p3), (4, .int p4), (5, .int p5), (6, .int p6)] := hl
  obtain ⟨Q, hQ⟩ : ∃ Q, Q = MQ below (g_Qi ZM G r0 m0) ([.ref (G.2.2.1 0), .int p1, .int p2, .int p3, .int p4, .int p5, .int p6] : List Value).toArray s 0 0 (g_A ZM G) := ⟨_, rfl⟩
  refine g_goQ hQ ?_
  unfold f_X10_bid at hf
  refine g_start hW (fun H locs hW => ?_)
  refine lv_aload_n hx hb dX10_bid_0 rfl (lv_at hl 0 rfl) ?_
  refine lv_iload_n hx hb dX10_bid_1 rfl (lv_at hl 1 rfl) ?_
  obtain ⟨r1, hg, hf⟩ := ob_inv hf
  refine g_cSi hC hW (As := [.int p1]) (rest := [.ref (G.2.2.1 0)]) (c_X10_isFirm l G  hg) (va_cwS 1 hts gX10_bid_X10_isFirm rfl rfl rfl (by decide +kernel) ⟨Nat.le_of_ble_eq_true rfl, Nat.le_of_ble_eq_true rfl⟩) rfl hl.1 rfl (Nat.le_of_ble_eq_true rfl) dX10_bid_2 ⟨Nat.le_of_ble_eq_true rfl, Nat.le_of_ble_eq_true rfl⟩ (fun H locs hW => ?_)
  obtain ⟨z3, hg, hf⟩ := ob_inv hf
  have hJ54 : ∀ (H : Heap) (locs : List Loc) (ls : Array Slot), g_H ZM G s H locs me → lv_has ls 7 [(0, .ref (G.2.2.1 0)), (1, .int p1), (2, .int p2), (3, .int p3), (4, .int p4), (5, .int p5), (6, .int p6)] → W p l e (headSpec wsX10_bid rmX10_bid).room s m ([.ref (G.2.2.1 0), .int p1, .int p2, .int p3, .int p4, .int p5, .int p6] : List Value).toArray below meth c H locs 0 0 Q (F0 m 54 ls [.int z3, .ref (G.2.2.1 0)]) := by
    intro H locs ls hW hl
    obtain ⟨m12, h9, hf⟩ := ob_inv hf
    refine g_puti hC hW (o := 0) (ci := 10) (k := 67) zm_k0 zm_b0 rfl hi10 tyX10_ok nmX10 (by decide) rfl rfl rfl (by decide +kernel) dX10_bid_54 (fun H locs hW => ?_)
    rw [Option.some.inj h9] at hW
    refine lv_aload_n hx hb dX10_bid_57 rfl (lv_at hl 0 rfl) ?_
    refine g_geti hC hW (o := 0) (ci := 10) (k := 67) zm_k0 zm_b0 rfl hi10 (by decide) rfl (by decide +kernel) dX10_bid_58 ?_
    obtain ⟨m14, hg, hf⟩ := ob_inv hf
    have hJ100 : ∀ (H : Heap) (locs : List Loc) (ls : Array Slot), g_H ZM G s H locs m14 → lv_has ls 7 [(0, .ref (G.2.2.1 0)), (1, .int p1), (2, .int p2), (3, .int p3), (4, .int p4), (5, .int p5), (6, .int p6)] → W p l e (headSpec wsX10_bid rmX10_bid).room s m ([.ref (G.2.2.1 0), .int p1, .int p2, .int p3, .int p4, .int p5, .int p6] : List Value).toArray below meth c H locs 0 0 Q (F0 m 100 ls []) := by
      intro H locs ls hW hl
      refine lv_aload_n hx hb dX10_bid_100 rfl (lv_at hl 0 rfl) ?_
      refine g_geti hC hW (o := 0) (ci := 10) (k := 67) zm_k0 zm_b0 rfl hi10 (by decide) rfl (by decide +kernel) dX10_bid_101 ?_
      refine lv_if_le (tgt := 109) hx hb dX10_bid_104 (by decide) (fun c21 => ?_) (fun c21 => ?_)
      · have hf := a_if_t c21 hf
        refine lv_aload_n hx hb dX10_bid_109 rfl (lv_at hl 0 rfl) ?_
        refine g_getr hC hW (o := 0) (ci := 10) (k := 8) zm_k0 zm_b0 rfl hi10 (by decide) rfl (t := 5) zm_r0_8 (by decide +kernel) dX10_bid_110 ?_
        refine lv_aload_n hx hb dX10_bid_113 rfl (lv_at hl 0 rfl) ?_
        refine g_geti hC hW (o := 0) (ci := 10) (k := 7) zm_k0 zm_b0 rfl hi10 (by decide) rfl (by decide +kernel) dX10_bid_114 ?_
        refine lv_iload_n hx hb dX10_bid_117 rfl (lv_at hl 1 rfl) ?_
        obtain ⟨m22, h9, hf⟩ := ob_inv hf
        refine g_ist hC hW zm_k5 zm_b5 zm_n5 h9 dX10_bid_118 (fun H locs hW => ?_)
        refine lv_aload_n hx hb dX10_bid_119 rfl (lv_at hl 0 rfl) ?_
        refine g_getr hC hW (o := 0) (ci := 10) (k := 9) zm_k0 zm_b0 rfl hi10 (by decide) rfl (t := 6) zm_r0_9 (by decide +kernel) dX10_bid_120 ?_
        refine lv_aload_n hx hb dX10_bid_123 rfl (lv_at hl 0 rfl) ?_
        refine g_geti hC hW (o := 0) (ci := 10) (k := 7) zm_k0 zm_b0 rfl hi10 (by decide) rfl (by decide +kernel) dX10_bid_124 ?_
        refine lv_iload_n hx hb dX10_bid_127 rfl (lv_at hl 2 rfl) ?_
        obtain ⟨m23, h9, hf⟩ := ob_inv hf
        refine g_ist hC hW zm_k6 zm_b6 zm_n6 h9 dX10_bid_128 (fun H locs hW => ?_)
        refine lv_aload_n hx hb dX10_bid_129 rfl (lv_at hl 0 rfl) ?_
        refine g_getr hC hW (o := 0) (ci := 10) (k := 10) zm_k0 zm_b0 rfl hi10 (by decide) rfl (t := 7) zm_r0_10 (by decide +kernel) dX10_bid_130 ?_
        refine lv_aload_n hx hb dX10_bid_133 rfl (lv_at hl 0 rfl) ?_
        refine g_geti hC hW (o := 0) (ci := 10) (k := 7) zm_k0 zm_b0 rfl hi10 (by decide) rfl (by decide +kernel) dX10_bid_134 ?_
        refine lv_iload_n hx hb dX10_bid_137 rfl (lv_at hl 3 rfl) ?_
        obtain ⟨m24, h9, hf⟩ := ob_inv hf
        refine g_ist hC hW zm_k7 zm_b7 zm_n7 h9 dX10_bid_138 (fun H locs hW => ?_)
        refine lv_aload_n hx hb dX10_bid_139 rfl (lv_at hl 0 rfl) ?_
        refine g_getr hC hW (o := 0) (ci := 10) (k := 11) zm_k0 zm_b0 rfl hi10 (by decide) rfl (t := 8) zm_r0_11 (by decide +kernel) dX10_bid_140 ?_
        refine lv_aload_n hx hb dX10_bid_143 rfl (lv_at hl 0 rfl) ?_
        refine g_geti hC hW (o := 0) (ci := 10) (k := 7) zm_k0 zm_b0 rfl hi10 (by decide) rfl (by decide +kernel) dX10_bid_144 ?_
        refine lv_iload hx hb dX10_bid_147 (lv_at hl 4 rfl) ?_
        obtain ⟨z26, hg, hf⟩ := ob_inv hf
        have hJ157 : ∀ (H : Heap) (locs : List Loc) (ls : Array Slot), g_H ZM G s H locs m24 → lv_has ls 7 [(0, .ref (G.2.2.1 0)), (5, .int p5), (6, .int p6)] → W p l e (headSpec wsX10_bid rmX10_bid).room s m ([.ref (G.2.2.1 0), .int p1, .int p2, .int p3, .int p4, .int p5, .int p6] : List Value).toArray below meth c H locs 0 0 Q (F0 m 157 ls [.int z26, .int (m24 0 7), .ref (G.2.2.1 8)]) := by
          intro H locs ls hW hl
          obtain ⟨m27, h9, hf⟩ := ob_inv hf
          refine g_ist hC hW zm_k8 zm_b8 zm_n8 h9 dX10_bid_157 (fun H locs hW => ?_)
          refine lv_aload_n hx hb dX10_bid_158 rfl (lv_at hl 0 rfl) ?_
          refine g_getr hC hW (o := 0) (ci := 10) (k := 12) zm_k0 zm_b0 rfl hi10 (by decide) rfl (t := 9) zm_r0_12 (by decide +kernel) dX10_bid_159 ?_
          refine lv_aload_n hx hb dX10_bid_162 rfl (lv_at hl 0 rfl) ?_
          refine g_geti hC hW (o := 0) (ci := 10) (k := 7) zm_k0 zm_b0 rfl hi10 (by decide) rfl (by decide +kernel) dX10_bid_163 ?_
          refine lv_iload hx hb dX10_bid_166 (lv_at hl 1 rfl) ?_
          obtain ⟨m28, h9, hf⟩ := ob_inv hf
          refine g_ist hC hW zm_k9 zm_b9 zm_n9 h9 dX10_bid_168 (fun H locs hW => ?_)
          refine lv_aload_n hx hb dX10_bid_169 rfl (lv_at hl 0 rfl) ?_
          refine g_getr hC hW (o := 0) (ci := 10) (k := 13) zm_k0 zm_b0 rfl hi10 (by decide) rfl (t := 10) zm_r0_13 (by decide +kernel) dX10_bid_170 ?_
          refine lv_aload_n hx hb dX10_bid_173 rfl (lv_at hl 0 rfl) ?_
          refine g_geti hC hW (o := 0) (ci := 10) (k := 7) zm_k0 zm_b0 rfl hi10 (by decide) rfl (by decide +kernel) dX10_bid_174 ?_
          refine lv_iload hx hb dX10_bid_177 (lv_at hl 2 rfl) ?_
          obtain ⟨m29, h9, hf⟩ := ob_inv hf
          refine g_ist hC hW zm_k10 zm_b10 zm_n10 h9 dX10_bid_179 (fun H locs hW => ?_)
          refine lv_aload_n hx hb dX10_bid_180 rfl (lv_at hl 0 rfl) ?_
          refine lv_dup hx hb dX10_bid_181 rfl ?_
          refine g_geti hC hW (o := 0) (ci := 10) (k := 7) zm_k0 zm_b0 rfl hi10 (by decide) rfl (by decide +kernel) dX10_bid_182 ?_
          refine lv_iconst (v := 1) hx hb dX10_bid_185 (by decide) ?_
          refine lv_iadd hx hb dX10_bid_186 ?_
          obtain ⟨m30, h9, hf⟩ := ob_inv hf
          refine g_puti hC hW (o := 0) (ci := 10) (k := 7) zm_k0 zm_b0 rfl hi10 tyX10_ok nmX10 (by decide) rfl rfl rfl (by decide +kernel) dX10_bid_187 (fun H locs hW => ?_)
          rw [Option.some.inj h9] at hW
          refine lv_aload_n hx hb dX10_bid_190 rfl (lv_at hl 0 rfl) ?_
          refine g_geti hC hW (o := 0) (ci := 10) (k := 7) zm_k0 zm_b0 rfl hi10 (by decide) rfl (by decide +kernel) dX10_bid_191 ?_
          refine lv_iconst (v := 1) hx hb dX10_bid_194 (by decide) ?_
          refine lv_isub hx hb dX10_bid_195 ?_
          cases hf
          subst hQ
          exact g_iret hC hW hr hlocks rfl rfl dX10_bid_196
        replace hf := hg
        refine lv_if_eq (tgt := 156) hx hb dX10_bid_149 (by decide) (fun c25 => ?_) (fun c25 => ?_)
        · have hf := a_if_t c25 hf
          refine lv_iconst (v := 0) hx hb dX10_bid_156 (by decide) ?_
          cases hf
          exact hJ157 H locs ls hW (lv_sub hl [0, 5, 6] rfl)
        · have hf := a_if_f c25 hf
          refine lv_iconst (v := 1) hx hb dX10_bid_152 (by decide) ?_
          refine lv_goto (tgt := 157) hx hb dX10_bid_153 (by decide) ?_
          cases hf
          exact hJ157 H locs ls hW (lv_sub hl [0, 5, 6] rfl)
      · have hf := a_if_f c21 hf
        refine lv_iconst (v := 0) hx hb dX10_bid_107 (by decide) ?_
        cases hf
        subst hQ
        exact g_iret hC hW hr hlocks rfl rfl dX10_bid_108
    replace hf := hg
    refine lv_if_ne (tgt := 100) hx hb dX10_bid_61 (by decide) (fun c13 => ?_) (fun c13 => ?_)
    · have hf := a_if_f c13 hf
      cases hf
      exact hJ100 H locs ls hW (lv_sub hl [0, 1, 2, 3, 4, 5, 6] rfl)
    · have hf := a_if_t c13 hf
      refine lv_aload_n hx hb dX10_bid_64 rfl (lv_at hl 0 rfl) ?_
      refine lv_aload_n hx hb dX10_bid_65 rfl (lv_at hl 0 rfl) ?_
      refine g_getr hC hW (o := 0) (ci := 10) (k := 5) zm_k0 zm_b0 rfl hi10 (by decide) rfl (t := 4) zm_r0_5 (by decide +kernel) dX10_bid_66 ?_
      refine lv_iload_n hx hb dX10_bid_69 rfl (lv_at hl 1 rfl) ?_
      obtain ⟨v15, h9, hf⟩ := ob_inv hf
      refine g_ild hC hW zm_k4 zm_b4 zm_n4 h9 dX10_bid_70 ?_
      refine lv_iconst (v := 1) hx hb dX10_bid_71 (by decide) ?_
      obtain ⟨z17, hg, hf⟩ := ob_inv hf
      have hJ97 : ∀ (H : Heap) (locs : List Loc) (ls : Array Slot), g_H ZM G s H locs m12 → lv_has ls 7 [(0, .ref (G.2.2.1 0)), (1, .int p1), (2, .int p2), (3, .int p3), (4, .int p4), (5, .int p5), (6, .int p6)] → W p l e (headSpec wsX10_bid rmX10_bid).room s m ([.ref (G.2.2.1 0), .int p1, .int p2, .int p3, .int p4, .int p5, .int p6] : List Value).toArray below meth c H locs 0 0 Q (F0 m 97 ls [.int z17, .ref (G.2.2.1 0)]) := by
        intro H locs ls hW hl
        obtain ⟨m20, h9, hf⟩ := ob_inv hf
        refine g_puti hC hW (o := 0) (ci := 10) (k := 67) zm_k0 zm_b0 rfl hi10 tyX10_ok nmX10 (by decide) rfl rfl rfl (by decide +kernel) dX10_bid_97 (fun H locs hW => ?_)
        rw [Option.some.inj h9] at hW
        cases hf
        exact hJ100 H locs ls hW (lv_sub hl [0, 1, 2, 3, 4, 5, 6] rfl)
      replace hf := hg
      refine lv_icmp_eq (tgt := 92) hx hb dX10_bid_72 (by decide) (fun c16 => ?_) (fun c16 => ?_)
      · have hf := a_if_t c16 hf
        refine lv_iconst (v := 3) hx hb dX10_bid_92 (by decide) ?_
        refine lv_goto (tgt := 97) hx hb dX10_bid_93 (by decide) ?_
        cases hf
        exact hJ97 H locs ls hW (lv_sub hl [0, 1, 2, 3, 4, 5, 6] rfl)
      · have hf := a_if_f c16 hf
        refine lv_aload_n hx hb dX10_bid_75 rfl (lv_at hl 0 rfl) ?_
        refine g_geti hC hW (o := 0) (ci := 10) (k := 1) zm_k0 zm_b0 rfl hi10 (by decide) rfl (by decide +kernel) dX10_bid_76 ?_
        refine lv_iconst (v := 1) hx hb dX10_bid_79 (by decide) ?_
        refine lv_icmp_eq (tgt := 92) hx hb dX10_bid_80 (by decide) (fun c18 => ?_) (fun c18 => ?_)
        · have hf := a_if_t c18 hf
          refine lv_iconst (v := 3) hx hb dX10_bid_92 (by decide) ?_
          refine lv_goto (tgt := 97) hx hb dX10_bid_93 (by decide) ?_
          cases hf
          exact hJ97 H locs ls hW (lv_sub hl [0, 1, 2, 3, 4, 5, 6] rfl)
        · have hf := a_if_f c18 hf
          refine lv_aload_n hx hb dX10_bid_83 rfl (lv_at hl 0 rfl) ?_
          refine g_geti hC hW (o := 0) (ci := 10) (k := 7) zm_k0 zm_b0 rfl hi10 (by decide) rfl (by decide +kernel) dX10_bid_84 ?_
          refine lv_bipush (v := 40) hx hb dX10_bid_87 (by decide) ?_
          refine lv_icmp_ne (tgt := 96) hx hb dX10_bid_89 (by decide) (fun c19 => ?_) (fun c19 => ?_)
          · have hf := a_if_f c19 hf
            refine lv_iconst (v := 0) hx hb dX10_bid_96 (by decide) ?_
            cases hf
            exact hJ97 H locs ls hW (lv_sub hl [0, 1, 2, 3, 4, 5, 6] rfl)
          · have hf := a_if_t c19 hf
            refine lv_iconst (v := 3) hx hb dX10_bid_92 (by decide) ?_
            refine lv_goto (tgt := 97) hx hb dX10_bid_93 (by decide) ?_
            cases hf
            exact hJ97 H locs ls hW (lv_sub hl [0, 1, 2, 3, 4, 5, 6] rfl)
  replace hf := hg
  refine lv_if_eq (tgt := 22) hx hb dX10_bid_5 (by decide) (fun c2 => ?_) (fun c2 => ?_)
  · have hf := a_if_t c2 hf
    refine lv_iconst (v := 1) hx hb dX10_bid_22 (by decide) ?_
    refine lv_goto (tgt := 54) hx hb dX10_bid_23 (by decide) ?_
    cases hf
    exact hJ54 H locs ls hW (lv_sub hl [0, 1, 2, 3, 4, 5, 6] rfl)
  · have hf := a_if_f c2 hf
    refine lv_iload_n hx hb dX10_bid_8 rfl (lv_at hl 2 rfl) ?_
    obtain ⟨r4, hg, hf⟩ := ob_inv hf
    refine g_cSi hC hW (As := [.int p2]) (rest := [.ref (G.2.2.1 0)]) (c_X10_isZone l G  hg) (va_cwS 1 hts gX10_bid_X10_isZone rfl rfl rfl (by decide +kernel) ⟨Nat.le_of_ble_eq_true rfl, Nat.le_of_ble_eq_true rfl⟩) rfl hl.1 rfl (Nat.le_of_ble_eq_true rfl) dX10_bid_9 ⟨Nat.le_of_ble_eq_true rfl, Nat.le_of_ble_eq_true rfl⟩ (fun H locs hW => ?_)
    refine lv_if_eq (tgt := 22) hx hb dX10_bid_12 (by decide) (fun c5 => ?_) (fun c5 => ?_)
    · have hf := a_if_t c5 hf
      refine lv_iconst (v := 1) hx hb dX10_bid_22 (by decide) ?_
      refine lv_goto (tgt := 54) hx hb dX10_bid_23 (by decide) ?_
      cases hf
      exact hJ54 H locs ls hW (lv_sub hl [0, 1, 2, 3, 4, 5, 6] rfl)
    · have hf := a_if_f c5 hf
      refine lv_iload_n hx hb dX10_bid_15 rfl (lv_at hl 3 rfl) ?_
      obtain ⟨r6, hg, hf⟩ := ob_inv hf
      refine g_cSi hC hW (As := [.int p3]) (rest := [.ref (G.2.2.1 0)]) (c_X10_isHour l G  hg) (va_cwS 1 hts gX10_bid_X10_isHour rfl rfl rfl (by decide +kernel) ⟨Nat.le_of_ble_eq_true rfl, Nat.le_of_ble_eq_true rfl⟩) rfl hl.1 rfl (Nat.le_of_ble_eq_true rfl) dX10_bid_16 ⟨Nat.le_of_ble_eq_true rfl, Nat.le_of_ble_eq_true rfl⟩ (fun H locs hW => ?_)
      refine lv_if_ne (tgt := 26) hx hb dX10_bid_19 (by decide) (fun c7 => ?_) (fun c7 => ?_)
      · have hf := a_if_f c7 hf
        refine lv_iload hx hb dX10_bid_26 (lv_at hl 5 rfl) ?_
        refine lv_iconst (v := 0) hx hb dX10_bid_28 (by decide) ?_
        refine lv_sipush (v := 200) hx hb dX10_bid_29 (by decide) ?_
        obtain ⟨r8, hg, hf⟩ := ob_inv hf
        refine g_cSi hC hW (As := [.int p5, .int 0, .int 200]) (rest := [.ref (G.2.2.1 0)]) (c_X10_in l G  hg) (va_cwS 3 hts gX10_bid_X10_in rfl rfl rfl (by decide +kernel) ⟨Nat.le_of_ble_eq_true rfl, Nat.le_of_ble_eq_true rfl⟩) rfl hl.1 rfl (Nat.le_of_ble_eq_true rfl) dX10_bid_32 ⟨Nat.le_of_ble_eq_true rfl, Nat.le_of_ble_eq_true rfl⟩ (fun H locs hW => ?_)
        refine lv_if_eq (tgt := 49) hx hb dX10_bid_35 (by decide) (fun c9 => ?_) (fun c9 => ?_)
        · have hf := a_if_t c9 hf
          refine lv_iconst (v := 2) hx hb dX10_bid_49 (by decide) ?_
          refine lv_goto (tgt := 54) hx hb dX10_bid_50 (by decide) ?_
          cases hf
          exact hJ54 H locs ls hW (lv_sub hl [0, 1, 2, 3, 4, 5, 6] rfl)
        · have hf := a_if_f c9 hf
          refine lv_iload hx hb dX10_bid_38 (lv_at hl 6 rfl) ?_
          refine lv_iconst (v := 1) hx hb dX10_bid_40 (by decide) ?_
          refine lv_bipush (v := 10) hx hb dX10_bid_41 (by decide) ?_
          obtain ⟨r10, hg, hf⟩ := ob_inv hf
          refine g_cSi hC hW (As := [.int p6, .int 1, .int 10]) (rest := [.ref (G.2.2.1 0)]) (c_X10_in l G  hg) (va_cwS 3 hts gX10_bid_X10_in rfl rfl rfl (by decide +kernel) ⟨Nat.le_of_ble_eq_true rfl, Nat.le_of_ble_eq_true rfl⟩) rfl hl.1 rfl (Nat.le_of_ble_eq_true rfl) dX10_bid_43 ⟨Nat.le_of_ble_eq_true rfl, Nat.le_of_ble_eq_true rfl⟩ (fun H locs hW => ?_)
          refine lv_if_ne (tgt := 53) hx hb dX10_bid_46 (by decide) (fun c11 => ?_) (fun c11 => ?_)
          · have hf := a_if_f c11 hf
            refine lv_iconst (v := 0) hx hb dX10_bid_53 (by decide) ?_
            cases hf
            exact hJ54 H locs ls hW (lv_sub hl [0, 1, 2, 3, 4, 5, 6] rfl)
          · have hf := a_if_t c11 hf
            refine lv_iconst (v := 2) hx hb dX10_bid_49 (by decide) ?_
            refine lv_goto (tgt := 54) hx hb dX10_bid_50 (by decide) ?_
            cases hf
            exact hJ54 H locs ls hW (lv_sub hl [0, 1, 2, 3, 4, 5, 6] rfl)
      · have hf := a_if_t c7 hf
        refine lv_iconst (v := 1) hx hb dX10_bid_22 (by decide) ?_
        refine lv_goto (tgt := 54) hx hb dX10_bid_23 (by decide) ?_
        cases hf
        exact hJ54 H locs ls hW (lv_sub hl [0, 1, 2, 3, 4, 5, 6] rfl)
abbrev rmX10_block : Room := { frames := 2, cells := 0, slots := 0, locals := 42 }
set_option maxHeartbeats 4000000 in
set_option maxRecDepth 100000 in
theorem c_X10_block (l : Launch) (G : gG) {p1 : Int32} {p2 : Int32} {p3 : Int32} {p4 : Int32} {p5 : Int32} {p6 : Int32} {me : gM} {r0 : Int32} {m0 : gM}  (hf : f_X10_block p1 p2 p3 p4 p5 p6 me = some (r0, m0)) : Met l yX10_block wsX10_block rmX10_block (va_Pc [.ref (G.2.2.1 0), .int p1, .int p2, .int p3, .int p4, .int p5, .int p6] (g_W ZM G me)) (g_Qi ZM G r0 m0) 0 0 (g_A ZM G) := by
  refine Met.ofW (cc := cX10_block) (maxL := 7) (ret := (some .int)) (by decide) rfl ?_
  intro p e s m args below meth c s₁ B hml hv
  obtain ⟨rfl, hW0⟩ := hv
  have hC : CallFix p m c cX10_block 7 s ([.ref (G.2.2.1 0), .int p1, .int p2, .int p3, .int p4, .int p5, .int p6] : List Value).toArray wsX10_block RX10 := ⟨B.exec, B.bytes, hml, findClass_of_methodNamed B.named, atoms_spec (ws := wsX10_block) B.pre⟩
  have hx := hC.1
  have hb := hC.2.1
  have hown := hC.2.2.2.1
  have hts := hC.2.2.2.2
  have hr := B.returns
  have hlocks := B.notSynchronized
  have hW := g_H_enter hW0
  have hi10 : ∀ w ∈ wsX100, w ∈ wsX10_block := by decide +kernel
  have hl := lv_entry ([.ref (G.2.2.1 0), .int p1, .int p2, .int p3, .int p4, .int p5, .int p6]) (n := 7) (Nat.le_of_ble_eq_true rfl)
  rw [lg_entry_eq]
  generalize (lg_sl ([.ref (G.2.2.1 0), .int p1, .int p2, .int p3, .int p4, .int p5, .int p6]) ++ List.replicate (7 - (lg_sl ([.ref (G.2.2.1 0), .int p1, .int p2, .int p3, .int p4, .int p5, .int p6])).length) Slot.unset).toArray = ls at hl ⊢
  have hl : lv_has ls 7 [(0, .ref (G.2.2.1 0)), (1, .int p1), (2, .int p2), (3, .int p3), (4, .int p4), (5, .int p5), (6, .int p6)] := hl
  obtain ⟨Q, hQ⟩ : ∃ Q, Q = MQ below (g_Qi ZM G r0 m0) ([.ref (G.2.2.1 0), .int p1, .int p2, .int p3, .int p4, .int p5, .int p6] : List Value).toArray s 0 0 (g_A ZM G) := ⟨_, rfl⟩
  refine g_goQ hQ ?_
  unfold f_X10_block at hf
  refine g_start hW (fun H locs hW => ?_)
  refine lv_aload_n hx hb dX10_block_0 rfl (lv_at hl 0 rfl) ?_
  refine lv_iload_n hx hb dX10_block_1 rfl (lv_at hl 1 rfl) ?_
  obtain ⟨r1, hg, hf⟩ := ob_inv hf
  refine g_cSi hC hW (As := [.int p1]) (rest := [.ref (G.2.2.1 0)]) (c_X10_isFirm l G  hg) (va_cwS 1 hts gX10_block_X10_isFirm rfl rfl rfl (by decide +kernel) ⟨Nat.le_of_ble_eq_true rfl, Nat.le_of_ble_eq_true rfl⟩) rfl hl.1 rfl (Nat.le_of_ble_eq_true rfl) dX10_block_2 ⟨Nat.le_of_ble_eq_true rfl, Nat.le_of_ble_eq_true rfl⟩ (fun H locs hW => ?_)
  obtain ⟨z3, hg, hf⟩ := ob_inv hf
  have hJ57 : ∀ (H : Heap) (locs : List Loc) (ls : Array Slot), g_H ZM G s H locs me → lv_has ls 7 [(0, .ref (G.2.2.1 0)), (1, .int p1), (2, .int p2), (3, .int p3), (4, .int p4), (5, .int p5), (6, .int p6)] → W p l e (headSpec wsX10_block rmX10_block).room s m ([.ref (G.2.2.1 0), .int p1, .int p2, .int p3, .int p4, .int p5, .int p6] : List Value).toArray below meth c H locs 0 0 Q (F0 m 57 ls [.int z3, .ref (G.2.2.1 0)]) := by
    intro H locs ls hW hl
    obtain ⟨m12, h9, hf⟩ := ob_inv hf
    refine g_puti hC hW (o := 0) (ci := 10) (k := 67) zm_k0 zm_b0 rfl hi10 tyX10_ok nmX10 (by decide) rfl rfl rfl (by decide +kernel) dX10_block_57 (fun H locs hW => ?_)
    rw [Option.some.inj h9] at hW
    refine lv_aload_n hx hb dX10_block_60 rfl (lv_at hl 0 rfl) ?_
    refine g_geti hC hW (o := 0) (ci := 10) (k := 67) zm_k0 zm_b0 rfl hi10 (by decide) rfl (by decide +kernel) dX10_block_61 ?_
    obtain ⟨m14, hg, hf⟩ := ob_inv hf
    have hJ102 : ∀ (H : Heap) (locs : List Loc) (ls : Array Slot), g_H ZM G s H locs m14 → lv_has ls 7 [(0, .ref (G.2.2.1 0)), (1, .int p1), (2, .int p2), (3, .int p3), (4, .int p4), (5, .int p5), (6, .int p6)] → W p l e (headSpec wsX10_block rmX10_block).room s m ([.ref (G.2.2.1 0), .int p1, .int p2, .int p3, .int p4, .int p5, .int p6] : List Value).toArray below meth c H locs 0 0 Q (F0 m 102 ls []) := by
      intro H locs ls hW hl
      refine lv_aload_n hx hb dX10_block_102 rfl (lv_at hl 0 rfl) ?_
      refine g_geti hC hW (o := 0) (ci := 10) (k := 67) zm_k0 zm_b0 rfl hi10 (by decide) rfl (by decide +kernel) dX10_block_103 ?_
      refine lv_if_le (tgt := 111) hx hb dX10_block_106 (by decide) (fun c21 => ?_) (fun c21 => ?_)
      · have hf := a_if_t c21 hf
        refine lv_aload_n hx hb dX10_block_111 rfl (lv_at hl 0 rfl) ?_
        refine g_getr hC hW (o := 0) (ci := 10) (k := 17) zm_k0 zm_b0 rfl hi10 (by decide) rfl (t := 13) zm_r0_17 (by decide +kernel) dX10_block_112 ?_
        refine lv_aload_n hx hb dX10_block_115 rfl (lv_at hl 0 rfl) ?_
        refine g_geti hC hW (o := 0) (ci := 10) (k := 16) zm_k0 zm_b0 rfl hi10 (by decide) rfl (by decide +kernel) dX10_block_116 ?_
        refine lv_iload_n hx hb dX10_block_119 rfl (lv_at hl 1 rfl) ?_
        obtain ⟨m22, h9, hf⟩ := ob_inv hf
        refine g_ist hC hW zm_k13 zm_b13 zm_n13 h9 dX10_block_120 (fun H locs hW => ?_)
        refine lv_aload_n hx hb dX10_block_121 rfl (lv_at hl 0 rfl) ?_
        refine g_getr hC hW (o := 0) (ci := 10) (k := 18) zm_k0 zm_b0 rfl hi10 (by decide) rfl (t := 14) zm_r0_18 (by decide +kernel) dX10_block_122 ?_
        refine lv_aload_n hx hb dX10_block_125 rfl (lv_at hl 0 rfl) ?_
        refine g_geti hC hW (o := 0) (ci := 10) (k := 16) zm_k0 zm_b0 rfl hi10 (by decide) rfl (by decide +kernel) dX10_block_126 ?_
        refine lv_iload_n hx hb dX10_block_129 rfl (lv_at hl 2 rfl) ?_
        obtain ⟨m23, h9, hf⟩ := ob_inv hf
        refine g_ist hC hW zm_k14 zm_b14 zm_n14 h9 dX10_block_130 (fun H locs hW => ?_)
        refine lv_aload_n hx hb dX10_block_131 rfl (lv_at hl 0 rfl) ?_
        refine g_getr hC hW (o := 0) (ci := 10) (k := 19) zm_k0 zm_b0 rfl hi10 (by decide) rfl (t := 15) zm_r0_19 (by decide +kernel) dX10_block_132 ?_
        refine lv_aload_n hx hb dX10_block_135 rfl (lv_at hl 0 rfl) ?_
        refine g_geti hC hW (o := 0) (ci := 10) (k := 16) zm_k0 zm_b0 rfl hi10 (by decide) rfl (by decide +kernel) dX10_block_136 ?_
        refine lv_iload_n hx hb dX10_block_139 rfl (lv_at hl 3 rfl) ?_
        obtain ⟨m24, h9, hf⟩ := ob_inv hf
        refine g_ist hC hW zm_k15 zm_b15 zm_n15 h9 dX10_block_140 (fun H locs hW => ?_)
        refine lv_aload_n hx hb dX10_block_141 rfl (lv_at hl 0 rfl) ?_
        refine g_getr hC hW (o := 0) (ci := 10) (k := 20) zm_k0 zm_b0 rfl hi10 (by decide) rfl (t := 16) zm_r0_20 (by decide +kernel) dX10_block_142 ?_
        refine lv_aload_n hx hb dX10_block_145 rfl (lv_at hl 0 rfl) ?_
        refine g_geti hC hW (o := 0) (ci := 10) (k := 16) zm_k0 zm_b0 rfl hi10 (by decide) rfl (by decide +kernel) dX10_block_146 ?_
        refine lv_iload hx hb dX10_block_149 (lv_at hl 4 rfl) ?_
        obtain ⟨z26, hg, hf⟩ := ob_inv hf
        have hJ159 : ∀ (H : Heap) (locs : List Loc) (ls : Array Slot), g_H ZM G s H locs m24 → lv_has ls 7 [(0, .ref (G.2.2.1 0)), (5, .int p5), (6, .int p6)] → W p l e (headSpec wsX10_block rmX10_block).room s m ([.ref (G.2.2.1 0), .int p1, .int p2, .int p3, .int p4, .int p5, .int p6] : List Value).toArray below meth c H locs 0 0 Q (F0 m 159 ls [.int z26, .int (m24 0 16), .ref (G.2.2.1 16)]) := by
          intro H locs ls hW hl
          obtain ⟨m27, h9, hf⟩ := ob_inv hf
          refine g_ist hC hW zm_k16 zm_b16 zm_n16 h9 dX10_block_159 (fun H locs hW => ?_)
          refine lv_aload_n hx hb dX10_block_160 rfl (lv_at hl 0 rfl) ?_
          refine g_getr hC hW (o := 0) (ci := 10) (k := 21) zm_k0 zm_b0 rfl hi10 (by decide) rfl (t := 17) zm_r0_21 (by decide +kernel) dX10_block_161 ?_
          refine lv_aload_n hx hb dX10_block_164 rfl (lv_at hl 0 rfl) ?_
          refine g_geti hC hW (o := 0) (ci := 10) (k := 16) zm_k0 zm_b0 rfl hi10 (by decide) rfl (by decide +kernel) dX10_block_165 ?_
          refine lv_iload hx hb dX10_block_168 (lv_at hl 1 rfl) ?_
          obtain ⟨m28, h9, hf⟩ := ob_inv hf
          refine g_ist hC hW zm_k17 zm_b17 zm_n17 h9 dX10_block_170 (fun H locs hW => ?_)
          refine lv_aload_n hx hb dX10_block_171 rfl (lv_at hl 0 rfl) ?_
          refine g_getr hC hW (o := 0) (ci := 10) (k := 22) zm_k0 zm_b0 rfl hi10 (by decide) rfl (t := 18) zm_r0_22 (by decide +kernel) dX10_block_172 ?_
          refine lv_aload_n hx hb dX10_block_175 rfl (lv_at hl 0 rfl) ?_
          refine g_geti hC hW (o := 0) (ci := 10) (k := 16) zm_k0 zm_b0 rfl hi10 (by decide) rfl (by decide +kernel) dX10_block_176 ?_
          refine lv_iload hx hb dX10_block_179 (lv_at hl 2 rfl) ?_
          obtain ⟨m29, h9, hf⟩ := ob_inv hf
          refine g_ist hC hW zm_k18 zm_b18 zm_n18 h9 dX10_block_181 (fun H locs hW => ?_)
          refine lv_aload_n hx hb dX10_block_182 rfl (lv_at hl 0 rfl) ?_
          refine g_getr hC hW (o := 0) (ci := 10) (k := 23) zm_k0 zm_b0 rfl hi10 (by decide) rfl (t := 19) zm_r0_23 (by decide +kernel) dX10_block_183 ?_
          refine lv_aload_n hx hb dX10_block_186 rfl (lv_at hl 0 rfl) ?_
          refine g_geti hC hW (o := 0) (ci := 10) (k := 16) zm_k0 zm_b0 rfl hi10 (by decide) rfl (by decide +kernel) dX10_block_187 ?_
          refine lv_iconst (v := 0) hx hb dX10_block_190 (by decide) ?_
          obtain ⟨m30, h9, hf⟩ := ob_inv hf
          refine g_ist hC hW zm_k19 zm_b19 zm_n19 h9 dX10_block_191 (fun H locs hW => ?_)
          refine lv_aload_n hx hb dX10_block_192 rfl (lv_at hl 0 rfl) ?_
          refine g_getr hC hW (o := 0) (ci := 10) (k := 24) zm_k0 zm_b0 rfl hi10 (by decide) rfl (t := 20) zm_r0_24 (by decide +kernel) dX10_block_193 ?_
          refine lv_aload_n hx hb dX10_block_196 rfl (lv_at hl 0 rfl) ?_
          refine g_geti hC hW (o := 0) (ci := 10) (k := 16) zm_k0 zm_b0 rfl hi10 (by decide) rfl (by decide +kernel) dX10_block_197 ?_
          refine lv_iconst (v := 0) hx hb dX10_block_200 (by decide) ?_
          obtain ⟨m31, h9, hf⟩ := ob_inv hf
          refine g_ist hC hW zm_k20 zm_b20 zm_n20 h9 dX10_block_201 (fun H locs hW => ?_)
          refine lv_aload_n hx hb dX10_block_202 rfl (lv_at hl 0 rfl) ?_
          refine lv_dup hx hb dX10_block_203 rfl ?_
          refine g_geti hC hW (o := 0) (ci := 10) (k := 16) zm_k0 zm_b0 rfl hi10 (by decide) rfl (by decide +kernel) dX10_block_204 ?_
          refine lv_iconst (v := 1) hx hb dX10_block_207 (by decide) ?_
          refine lv_iadd hx hb dX10_block_208 ?_
          obtain ⟨m32, h9, hf⟩ := ob_inv hf
          refine g_puti hC hW (o := 0) (ci := 10) (k := 16) zm_k0 zm_b0 rfl hi10 tyX10_ok nmX10 (by decide) rfl rfl rfl (by decide +kernel) dX10_block_209 (fun H locs hW => ?_)
          rw [Option.some.inj h9] at hW
          refine lv_aload_n hx hb dX10_block_212 rfl (lv_at hl 0 rfl) ?_
          refine g_geti hC hW (o := 0) (ci := 10) (k := 16) zm_k0 zm_b0 rfl hi10 (by decide) rfl (by decide +kernel) dX10_block_213 ?_
          refine lv_iconst (v := 1) hx hb dX10_block_216 (by decide) ?_
          refine lv_isub hx hb dX10_block_217 ?_
          cases hf
          subst hQ
          exact g_iret hC hW hr hlocks rfl rfl dX10_block_218
        replace hf := hg
        refine lv_if_eq (tgt := 158) hx hb dX10_block_151 (by decide) (fun c25 => ?_) (fun c25 => ?_)
        · have hf := a_if_t c25 hf
          refine lv_iconst (v := 0) hx hb dX10_block_158 (by decide) ?_
          cases hf
          exact hJ159 H locs ls hW (lv_sub hl [0, 5, 6] rfl)
        · have hf := a_if_f c25 hf
          refine lv_iconst (v := 1) hx hb dX10_block_154 (by decide) ?_
          refine lv_goto (tgt := 159) hx hb dX10_block_155 (by decide) ?_
          cases hf
          exact hJ159 H locs ls hW (lv_sub hl [0, 5, 6] rfl)
      · have hf := a_if_f c21 hf
        refine lv_iconst (v := 0) hx hb dX10_block_109 (by decide) ?_
        cases hf
        subst hQ
        exact g_iret hC hW hr hlocks rfl rfl dX10_block_110
    replace hf := hg
    refine lv_if_ne (tgt := 102) hx hb dX10_block_64 (by decide) (fun c13 => ?_) (fun c13 => ?_)
    · have hf := a_if_f c13 hf
      cases hf
      exact hJ102 H locs ls hW (lv_sub hl [0, 1, 2, 3, 4, 5, 6] rfl)
    · have hf := a_if_t c13 hf
      refine lv_aload_n hx hb dX10_block_67 rfl (lv_at hl 0 rfl) ?_
      refine lv_aload_n hx hb dX10_block_68 rfl (lv_at hl 0 rfl) ?_
      refine g_getr hC hW (o := 0) (ci := 10) (k := 5) zm_k0 zm_b0 rfl hi10 (by decide) rfl (t := 4) zm_r0_5 (by decide +kernel) dX10_block_69 ?_
      refine lv_iload_n hx hb dX10_block_72 rfl (lv_at hl 1 rfl) ?_
      obtain ⟨v15, h9, hf⟩ := ob_inv hf
      refine g_ild hC hW zm_k4 zm_b4 zm_n4 h9 dX10_block_73 ?_
      refine lv_iconst (v := 1) hx hb dX10_block_74 (by decide) ?_
      obtain ⟨z17, hg, hf⟩ := ob_inv hf
      have hJ99 : ∀ (H : Heap) (locs : List Loc) (ls : Array Slot), g_H ZM G s H locs m12 → lv_has ls 7 [(0, .ref (G.2.2.1 0)), (1, .int p1), (2, .int p2), (3, .int p3), (4, .int p4), (5, .int p5), (6, .int p6)] → W p l e (headSpec wsX10_block rmX10_block).room s m ([.ref (G.2.2.1 0), .int p1, .int p2, .int p3, .int p4, .int p5, .int p6] : List Value).toArray below meth c H locs 0 0 Q (F0 m 99 ls [.int z17, .ref (G.2.2.1 0)]) := by
        intro H locs ls hW hl
        obtain ⟨m20, h9, hf⟩ := ob_inv hf
        refine g_puti hC hW (o := 0) (ci := 10) (k := 67) zm_k0 zm_b0 rfl hi10 tyX10_ok nmX10 (by decide) rfl rfl rfl (by decide +kernel) dX10_block_99 (fun H locs hW => ?_)
        rw [Option.some.inj h9] at hW
        cases hf
        exact hJ102 H locs ls hW (lv_sub hl [0, 1, 2, 3, 4, 5, 6] rfl)
      replace hf := hg
      refine lv_icmp_eq (tgt := 94) hx hb dX10_block_75 (by decide) (fun c16 => ?_) (fun c16 => ?_)
      · have hf := a_if_t c16 hf
        refine lv_iconst (v := 3) hx hb dX10_block_94 (by decide) ?_
        refine lv_goto (tgt := 99) hx hb dX10_block_95 (by decide) ?_
        cases hf
        exact hJ99 H locs ls hW (lv_sub hl [0, 1, 2, 3, 4, 5, 6] rfl)
      · have hf := a_if_f c16 hf
        refine lv_aload_n hx hb dX10_block_78 rfl (lv_at hl 0 rfl) ?_
        refine g_geti hC hW (o := 0) (ci := 10) (k := 1) zm_k0 zm_b0 rfl hi10 (by decide) rfl (by decide +kernel) dX10_block_79 ?_
        refine lv_iconst (v := 1) hx hb dX10_block_82 (by decide) ?_
        refine lv_icmp_eq (tgt := 94) hx hb dX10_block_83 (by decide) (fun c18 => ?_) (fun c18 => ?_)
        · have hf := a_if_t c18 hf
          refine lv_iconst (v := 3) hx hb dX10_block_94 (by decide) ?_
          refine lv_goto (tgt := 99) hx hb dX10_block_95 (by decide) ?_
          cases hf
          exact hJ99 H locs ls hW (lv_sub hl [0, 1, 2, 3, 4, 5, 6] rfl)
        · have hf := a_if_f c18 hf
          refine lv_aload_n hx hb dX10_block_86 rfl (lv_at hl 0 rfl) ?_
          refine g_geti hC hW (o := 0) (ci := 10) (k := 16) zm_k0 zm_b0 rfl hi10 (by decide) rfl (by decide +kernel) dX10_block_87 ?_
          refine lv_iconst (v := 5) hx hb dX10_block_90 (by decide) ?_
          refine lv_icmp_ne (tgt := 98) hx hb dX10_block_91 (by decide) (fun c19 => ?_) (fun c19 => ?_)
          · have hf := a_if_f c19 hf
            refine lv_iconst (v := 0) hx hb dX10_block_98 (by decide) ?_
            cases hf
            exact hJ99 H locs ls hW (lv_sub hl [0, 1, 2, 3, 4, 5, 6] rfl)
          · have hf := a_if_t c19 hf
            refine lv_iconst (v := 3) hx hb dX10_block_94 (by decide) ?_
            refine lv_goto (tgt := 99) hx hb dX10_block_95 (by decide) ?_
            cases hf
            exact hJ99 H locs ls hW (lv_sub hl [0, 1, 2, 3, 4, 5, 6] rfl)
  replace hf := hg
  refine lv_if_eq (tgt := 15) hx hb dX10_block_5 (by decide) (fun c2 => ?_) (fun c2 => ?_)
  · have hf := a_if_t c2 hf
    refine lv_iconst (v := 1) hx hb dX10_block_15 (by decide) ?_
    refine lv_goto (tgt := 57) hx hb dX10_block_16 (by decide) ?_
    cases hf
    exact hJ57 H locs ls hW (lv_sub hl [0, 1, 2, 3, 4, 5, 6] rfl)
  · have hf := a_if_f c2 hf
    refine lv_iload_n hx hb dX10_block_8 rfl (lv_at hl 2 rfl) ?_
    obtain ⟨r4, hg, hf⟩ := ob_inv hf
    refine g_cSi hC hW (As := [.int p2]) (rest := [.ref (G.2.2.1 0)]) (c_X10_isZone l G  hg) (va_cwS 1 hts gX10_block_X10_isZone rfl rfl rfl (by decide +kernel) ⟨Nat.le_of_ble_eq_true rfl, Nat.le_of_ble_eq_true rfl⟩) rfl hl.1 rfl (Nat.le_of_ble_eq_true rfl) dX10_block_9 ⟨Nat.le_of_ble_eq_true rfl, Nat.le_of_ble_eq_true rfl⟩ (fun H locs hW => ?_)
    refine lv_if_ne (tgt := 19) hx hb dX10_block_12 (by decide) (fun c5 => ?_) (fun c5 => ?_)
    · have hf := a_if_f c5 hf
      refine lv_iload_n hx hb dX10_block_19 rfl (lv_at hl 3 rfl) ?_
      refine lv_iconst (v := 1) hx hb dX10_block_20 (by decide) ?_
      refine lv_bipush (v := 15) hx hb dX10_block_21 (by decide) ?_
      obtain ⟨r6, hg, hf⟩ := ob_inv hf
      refine g_cSi hC hW (As := [.int p3, .int 1, .int 15]) (rest := [.ref (G.2.2.1 0)]) (c_X10_in l G  hg) (va_cwS 3 hts gX10_block_X10_in rfl rfl rfl (by decide +kernel) ⟨Nat.le_of_ble_eq_true rfl, Nat.le_of_ble_eq_true rfl⟩) rfl hl.1 rfl (Nat.le_of_ble_eq_true rfl) dX10_block_23 ⟨Nat.le_of_ble_eq_true rfl, Nat.le_of_ble_eq_true rfl⟩ (fun H locs hW => ?_)
      refine lv_if_eq (tgt := 52) hx hb dX10_block_26 (by decide) (fun c7 => ?_) (fun c7 => ?_)
      · have hf := a_if_t c7 hf
        refine lv_iconst (v := 2) hx hb dX10_block_52 (by decide) ?_
        refine lv_goto (tgt := 57) hx hb dX10_block_53 (by decide) ?_
        cases hf
        exact hJ57 H locs ls hW (lv_sub hl [0, 1, 2, 3, 4, 5, 6] rfl)
      · have hf := a_if_f c7 hf
        refine lv_iload hx hb dX10_block_29 (lv_at hl 5 rfl) ?_
        refine lv_iconst (v := 0) hx hb dX10_block_31 (by decide) ?_
        refine lv_sipush (v := 200) hx hb dX10_block_32 (by decide) ?_
        obtain ⟨r8, hg, hf⟩ := ob_inv hf
        refine g_cSi hC hW (As := [.int p5, .int 0, .int 200]) (rest := [.ref (G.2.2.1 0)]) (c_X10_in l G  hg) (va_cwS 3 hts gX10_block_X10_in rfl rfl rfl (by decide +kernel) ⟨Nat.le_of_ble_eq_true rfl, Nat.le_of_ble_eq_true rfl⟩) rfl hl.1 rfl (Nat.le_of_ble_eq_true rfl) dX10_block_35 ⟨Nat.le_of_ble_eq_true rfl, Nat.le_of_ble_eq_true rfl⟩ (fun H locs hW => ?_)
        refine lv_if_eq (tgt := 52) hx hb dX10_block_38 (by decide) (fun c9 => ?_) (fun c9 => ?_)
        · have hf := a_if_t c9 hf
          refine lv_iconst (v := 2) hx hb dX10_block_52 (by decide) ?_
          refine lv_goto (tgt := 57) hx hb dX10_block_53 (by decide) ?_
          cases hf
          exact hJ57 H locs ls hW (lv_sub hl [0, 1, 2, 3, 4, 5, 6] rfl)
        · have hf := a_if_f c9 hf
          refine lv_iload hx hb dX10_block_41 (lv_at hl 6 rfl) ?_
          refine lv_iconst (v := 1) hx hb dX10_block_43 (by decide) ?_
          refine lv_bipush (v := 10) hx hb dX10_block_44 (by decide) ?_
          obtain ⟨r10, hg, hf⟩ := ob_inv hf
          refine g_cSi hC hW (As := [.int p6, .int 1, .int 10]) (rest := [.ref (G.2.2.1 0)]) (c_X10_in l G  hg) (va_cwS 3 hts gX10_block_X10_in rfl rfl rfl (by decide +kernel) ⟨Nat.le_of_ble_eq_true rfl, Nat.le_of_ble_eq_true rfl⟩) rfl hl.1 rfl (Nat.le_of_ble_eq_true rfl) dX10_block_46 ⟨Nat.le_of_ble_eq_true rfl, Nat.le_of_ble_eq_true rfl⟩ (fun H locs hW => ?_)
          refine lv_if_ne (tgt := 56) hx hb dX10_block_49 (by decide) (fun c11 => ?_) (fun c11 => ?_)
          · have hf := a_if_f c11 hf
            refine lv_iconst (v := 0) hx hb dX10_block_56 (by decide) ?_
            cases hf
            exact hJ57 H locs ls hW (lv_sub hl [0, 1, 2, 3, 4, 5, 6] rfl)
          · have hf := a_if_t c11 hf
            refine lv_iconst (v := 2) hx hb dX10_block_52 (by decide) ?_
            refine lv_goto (tgt := 57) hx hb dX10_block_53 (by decide) ?_
            cases hf
            exact hJ57 H locs ls hW (lv_sub hl [0, 1, 2, 3, 4, 5, 6] rfl)
    · have hf := a_if_t c5 hf
      refine lv_iconst (v := 1) hx hb dX10_block_15 (by decide) ?_
      refine lv_goto (tgt := 57) hx hb dX10_block_16 (by decide) ?_
      cases hf
      exact hJ57 H locs ls hW (lv_sub hl [0, 1, 2, 3, 4, 5, 6] rfl)
abbrev rmX10_link : Room := { frames := 1, cells := 0, slots := 0, locals := 22 }
set_option maxHeartbeats 4000000 in
set_option maxRecDepth 100000 in
theorem c_X10_link (l : Launch) (G : gG) {p1 : Int32} {p2 : Int32} {p3 : Int32} {me : gM} {m0 : gM}  (hf : f_X10_link p1 p2 p3 me = some m0) : Met l yX10_link wsX10_link rmX10_link (va_Pc [.ref (G.2.2.1 0), .int p1, .int p2, .int p3] (g_W ZM G me)) (g_Qv ZM G m0) 0 0 (g_A ZM G) := by
  refine Met.ofW (cc := cX10_link) (maxL := 4) (ret := none) (by decide) rfl ?_
  intro p e s m args below meth c s₁ B hml hv
  obtain ⟨rfl, hW0⟩ := hv
  have hC : CallFix p m c cX10_link 4 s ([.ref (G.2.2.1 0), .int p1, .int p2, .int p3] : List Value).toArray wsX10_link RX10 := ⟨B.exec, B.bytes, hml, findClass_of_methodNamed B.named, atoms_spec (ws := wsX10_link) B.pre⟩
  have hx := hC.1
  have hb := hC.2.1
  have hown := hC.2.2.2.1
  have hts := hC.2.2.2.2
  have hr := B.returns
  have hlocks := B.notSynchronized
  have hW := g_H_enter hW0
  have hi10 : ∀ w ∈ wsX100, w ∈ wsX10_link := by decide +kernel
  have hl := lv_entry ([.ref (G.2.2.1 0), .int p1, .int p2, .int p3]) (n := 4) (Nat.le_of_ble_eq_true rfl)
  rw [lg_entry_eq]
  generalize (lg_sl ([.ref (G.2.2.1 0), .int p1, .int p2, .int p3]) ++ List.replicate (4 - (lg_sl ([.ref (G.2.2.1 0), .int p1, .int p2, .int p3])).length) Slot.unset).toArray = ls at hl ⊢
  have hl : lv_has ls 4 [(0, .ref (G.2.2.1 0)), (1, .int p1), (2, .int p2), (3, .int p3)] := hl
  obtain ⟨Q, hQ⟩ : ∃ Q, Q = MQ below (g_Qv ZM G m0) ([.ref (G.2.2.1 0), .int p1, .int p2, .int p3] : List Value).toArray s 0 0 (g_A ZM G) := ⟨_, rfl⟩
  refine g_goQ hQ ?_
  unfold f_X10_link at hf
  refine g_start hW (fun H locs hW => ?_)
  refine lv_aload_n hx hb dX10_link_0 rfl (lv_at hl 0 rfl) ?_
  refine lv_iload_n hx hb dX10_link_1 rfl (lv_at hl 1 rfl) ?_
  refine lv_iconst (v := 0) hx hb dX10_link_2 (by decide) ?_
  refine lv_aload_n hx hb dX10_link_3 rfl (lv_at hl 0 rfl) ?_
  refine g_geti hC hW (o := 0) (ci := 10) (k := 16) zm_k0 zm_b0 rfl hi10 (by decide) rfl (by decide +kernel) dX10_link_4 ?_
  refine lv_iconst (v := 1) hx hb dX10_link_7 (by decide) ?_
  refine lv_isub hx hb dX10_link_8 ?_
  obtain ⟨r1, hg, hf⟩ := ob_inv hf
  refine g_cSi hC hW (As := [.int p1, .int 0, .int ((me 0 16) - 1)]) (rest := [.ref (G.2.2.1 0)]) (c_X10_in l G  hg) (va_cwS 3 hts gX10_link_X10_in rfl rfl rfl (by decide +kernel) ⟨Nat.le_of_ble_eq_true rfl, Nat.le_of_ble_eq_true rfl⟩) rfl hl.1 rfl (Nat.le_of_ble_eq_true rfl) dX10_link_9 ⟨Nat.le_of_ble_eq_true rfl, Nat.le_of_ble_eq_true rfl⟩ (fun H locs hW => ?_)
  obtain ⟨z3, hg, hf⟩ := ob_inv hf
  have hJ56 : ∀ (H : Heap) (locs : List Loc) (ls : Array Slot), g_H ZM G s H locs me → lv_has ls 4 [(0, .ref (G.2.2.1 0)), (1, .int p1), (2, .int p2), (3, .int p3)] → W p l e (headSpec wsX10_link rmX10_link).room s m ([.ref (G.2.2.1 0), .int p1, .int p2, .int p3] : List Value).toArray below meth c H locs 0 0 Q (F0 m 56 ls [.int z3, .ref (G.2.2.1 0)]) := by
    intro H locs ls hW hl
    obtain ⟨m9, h9, hf⟩ := ob_inv hf
    refine g_puti hC hW (o := 0) (ci := 10) (k := 67) zm_k0 zm_b0 rfl hi10 tyX10_ok nmX10 (by decide) rfl rfl rfl (by decide +kernel) dX10_link_56 (fun H locs hW => ?_)
    rw [Option.some.inj h9] at hW
    refine lv_aload_n hx hb dX10_link_59 rfl (lv_at hl 0 rfl) ?_
    refine g_geti hC hW (o := 0) (ci := 10) (k := 67) zm_k0 zm_b0 rfl hi10 (by decide) rfl (by decide +kernel) dX10_link_60 ?_
    obtain ⟨m11, hg, hf⟩ := ob_inv hf
    have hJ84 : ∀ (H : Heap) (locs : List Loc) (ls : Array Slot), g_H ZM G s H locs m11 → lv_has ls 4 [] → W p l e (headSpec wsX10_link rmX10_link).room s m ([.ref (G.2.2.1 0), .int p1, .int p2, .int p3] : List Value).toArray below meth c H locs 0 0 Q (F0 m 84 ls []) := by
      intro H locs ls hW hl
      cases hf
      subst hQ
      exact g_vret hC hW hr hlocks rfl dX10_link_84
    replace hf := hg
    refine lv_if_ne (tgt := 84) hx hb dX10_link_63 (by decide) (fun c10 => ?_) (fun c10 => ?_)
    · have hf := a_if_f c10 hf
      cases hf
      exact hJ84 H locs ls hW (lv_sub hl [] rfl)
    · have hf := a_if_t c10 hf
      refine lv_aload_n hx hb dX10_link_66 rfl (lv_at hl 0 rfl) ?_
      refine g_getr hC hW (o := 0) (ci := 10) (k := 23) zm_k0 zm_b0 rfl hi10 (by decide) rfl (t := 19) zm_r0_23 (by decide +kernel) dX10_link_67 ?_
      refine lv_iload_n hx hb dX10_link_70 rfl (lv_at hl 1 rfl) ?_
      refine lv_iload_n hx hb dX10_link_71 rfl (lv_at hl 2 rfl) ?_
      refine lv_iconst (v := 1) hx hb dX10_link_72 (by decide) ?_
      refine lv_iadd hx hb dX10_link_73 ?_
      obtain ⟨m12, h9, hf⟩ := ob_inv hf
      refine g_ist hC hW zm_k19 zm_b19 zm_n19 h9 dX10_link_74 (fun H locs hW => ?_)
      refine lv_aload_n hx hb dX10_link_75 rfl (lv_at hl 0 rfl) ?_
      refine g_getr hC hW (o := 0) (ci := 10) (k := 24) zm_k0 zm_b0 rfl hi10 (by decide) rfl (t := 20) zm_r0_24 (by decide +kernel) dX10_link_76 ?_
      refine lv_iload_n hx hb dX10_link_79 rfl (lv_at hl 1 rfl) ?_
      refine lv_iload_n hx hb dX10_link_80 rfl (lv_at hl 3 rfl) ?_
      refine lv_iconst (v := 1) hx hb dX10_link_81 (by decide) ?_
      refine lv_iadd hx hb dX10_link_82 ?_
      obtain ⟨m13, h9, hf⟩ := ob_inv hf
      refine g_ist hC hW zm_k20 zm_b20 zm_n20 h9 dX10_link_83 (fun H locs hW => ?_)
      cases hf
      exact hJ84 H locs ls hW (lv_sub hl [] rfl)
  replace hf := hg
  refine lv_if_ne (tgt := 19) hx hb dX10_link_12 (by decide) (fun c2 => ?_) (fun c2 => ?_)
  · have hf := a_if_f c2 hf
    refine lv_iload_n hx hb dX10_link_19 rfl (lv_at hl 2 rfl) ?_
    refine lv_iconst (v := (-1)) hx hb dX10_link_20 (by decide) ?_
    refine lv_iload_n hx hb dX10_link_21 rfl (lv_at hl 1 rfl) ?_
    refine lv_iconst (v := 1) hx hb dX10_link_22 (by decide) ?_
    refine lv_isub hx hb dX10_link_23 ?_
    obtain ⟨r4, hg, hf⟩ := ob_inv hf
    refine g_cSi hC hW (As := [.int p2, .int (-1), .int (p1 - 1)]) (rest := [.ref (G.2.2.1 0)]) (c_X10_in l G  hg) (va_cwS 3 hts gX10_link_X10_in rfl rfl rfl (by decide +kernel) ⟨Nat.le_of_ble_eq_true rfl, Nat.le_of_ble_eq_true rfl⟩) rfl hl.1 rfl (Nat.le_of_ble_eq_true rfl) dX10_link_24 ⟨Nat.le_of_ble_eq_true rfl, Nat.le_of_ble_eq_true rfl⟩ (fun H locs hW => ?_)
    refine lv_if_eq (tgt := 39) hx hb dX10_link_27 (by decide) (fun c5 => ?_) (fun c5 => ?_)
    · have hf := a_if_t c5 hf
      refine lv_iconst (v := 2) hx hb dX10_link_39 (by decide) ?_
      refine lv_goto (tgt := 56) hx hb dX10_link_40 (by decide) ?_
      cases hf
      exact hJ56 H locs ls hW (lv_sub hl [0, 1, 2, 3] rfl)
    · have hf := a_if_f c5 hf
      refine lv_iload_n hx hb dX10_link_30 rfl (lv_at hl 3 rfl) ?_
      refine lv_iconst (v := (-1)) hx hb dX10_link_31 (by decide) ?_
      refine lv_iconst (v := 2) hx hb dX10_link_32 (by decide) ?_
      obtain ⟨r6, hg, hf⟩ := ob_inv hf
      refine g_cSi hC hW (As := [.int p3, .int (-1), .int 2]) (rest := [.ref (G.2.2.1 0)]) (c_X10_in l G  hg) (va_cwS 3 hts gX10_link_X10_in rfl rfl rfl (by decide +kernel) ⟨Nat.le_of_ble_eq_true rfl, Nat.le_of_ble_eq_true rfl⟩) rfl hl.1 rfl (Nat.le_of_ble_eq_true rfl) dX10_link_33 ⟨Nat.le_of_ble_eq_true rfl, Nat.le_of_ble_eq_true rfl⟩ (fun H locs hW => ?_)
      refine lv_if_ne (tgt := 43) hx hb dX10_link_36 (by decide) (fun c7 => ?_) (fun c7 => ?_)
      · have hf := a_if_f c7 hf
        refine lv_aload_n hx hb dX10_link_43 rfl (lv_at hl 0 rfl) ?_
        refine g_geti hC hW (o := 0) (ci := 10) (k := 1) zm_k0 zm_b0 rfl hi10 (by decide) rfl (by decide +kernel) dX10_link_44 ?_
        refine lv_iconst (v := 1) hx hb dX10_link_47 (by decide) ?_
        refine lv_icmp_ne (tgt := 55) hx hb dX10_link_48 (by decide) (fun c8 => ?_) (fun c8 => ?_)
        · have hf := a_if_f c8 hf
          refine lv_iconst (v := 0) hx hb dX10_link_55 (by decide) ?_
          cases hf
          exact hJ56 H locs ls hW (lv_sub hl [0, 1, 2, 3] rfl)
        · have hf := a_if_t c8 hf
          refine lv_iconst (v := 3) hx hb dX10_link_51 (by decide) ?_
          refine lv_goto (tgt := 56) hx hb dX10_link_52 (by decide) ?_
          cases hf
          exact hJ56 H locs ls hW (lv_sub hl [0, 1, 2, 3] rfl)
      · have hf := a_if_t c7 hf
        refine lv_iconst (v := 2) hx hb dX10_link_39 (by decide) ?_
        refine lv_goto (tgt := 56) hx hb dX10_link_40 (by decide) ?_
        cases hf
        exact hJ56 H locs ls hW (lv_sub hl [0, 1, 2, 3] rfl)
  · have hf := a_if_t c2 hf
    refine lv_iconst (v := 1) hx hb dX10_link_15 (by decide) ?_
    refine lv_goto (tgt := 56) hx hb dX10_link_16 (by decide) ?_
    cases hf
    exact hJ56 H locs ls hW (lv_sub hl [0, 1, 2, 3] rfl)
abbrev rmX10_ask : Room := { frames := 2, cells := 0, slots := 0, locals := 42 }
set_option maxHeartbeats 4000000 in
set_option maxRecDepth 100000 in
theorem c_X10_ask (l : Launch) (G : gG) {p1 : Int32} {p2 : Int32} {p3 : Int32} {p4 : Int32} {p5 : Int32} {me : gM} {r0 : Int32} {m0 : gM}  (hf : f_X10_ask p1 p2 p3 p4 p5 me = some (r0, m0)) : Met l yX10_ask wsX10_ask rmX10_ask (va_Pc [.ref (G.2.2.1 0), .int p1, .int p2, .int p3, .int p4, .int p5] (g_W ZM G me)) (g_Qi ZM G r0 m0) 0 0 (g_A ZM G) := by
  refine Met.ofW (cc := cX10_ask) (maxL := 6) (ret := (some .int)) (by decide) rfl ?_
  intro p e s m args below meth c s₁ B hml hv
  obtain ⟨rfl, hW0⟩ := hv
  have hC : CallFix p m c cX10_ask 6 s ([.ref (G.2.2.1 0), .int p1, .int p2, .int p3, .int p4, .int p5] : List Value).toArray wsX10_ask RX10 := ⟨B.exec, B.bytes, hml, findClass_of_methodNamed B.named, atoms_spec (ws := wsX10_ask) B.pre⟩
  have hx := hC.1
  have hb := hC.2.1
  have hown := hC.2.2.2.1
  have hts := hC.2.2.2.2
  have hr := B.returns
  have hlocks := B.notSynchronized
  have hW := g_H_enter hW0
  have hi10 : ∀ w ∈ wsX100, w ∈ wsX10_ask := by decide +kernel
  have hl := lv_entry ([.ref (G.2.2.1 0), .int p1, .int p2, .int p3, .int p4, .int p5]) (n := 6) (Nat.le_of_ble_eq_true rfl)
  rw [lg_entry_eq]
  generalize (lg_sl ([.ref (G.2.2.1 0), .int p1, .int p2, .int p3, .int p4, .int p5]) ++ List.replicate (6 - (lg_sl ([.ref (G.2.2.1 0), .int p1, .int p2, .int p3, .int p4, .int p5])).length) Slot.unset).toArray = ls at hl ⊢
  have hl : lv_has ls 6 [(0, .ref (G.2.2.1 0)), (1, .int p1), (2, .int p2), (3, .int p3), (4, .int p4), (5, .int p5)] := hl
  obtain ⟨Q, hQ⟩ : ∃ Q, Q = MQ below (g_Qi ZM G r0 m0) ([.ref (G.2.2.1 0), .int p1, .int p2, .int p3, .int p4, .int p5] : List Value).toArray s 0 0 (g_A ZM G) := ⟨_, rfl⟩
  refine g_goQ hQ ?_
  unfold f_X10_ask at hf
  refine g_start hW (fun H locs hW => ?_)
  refine lv_aload_n hx hb dX10_ask_0 rfl (lv_at hl 0 rfl) ?_
  refine lv_iload_n hx hb dX10_ask_1 rfl (lv_at hl 1 rfl) ?_
  obtain ⟨r1, hg, hf⟩ := ob_inv hf
  refine g_cSi hC hW (As := [.int p1]) (rest := [.ref (G.2.2.1 0)]) (c_X10_isFirm l G  hg) (va_cwS 1 hts gX10_ask_X10_isFirm rfl rfl rfl (by decide +kernel) ⟨Nat.le_of_ble_eq_true rfl, Nat.le_of_ble_eq_true rfl⟩) rfl hl.1 rfl (Nat.le_of_ble_eq_true rfl) dX10_ask_2 ⟨Nat.le_of_ble_eq_true rfl, Nat.le_of_ble_eq_true rfl⟩ (fun H locs hW => ?_)
  obtain ⟨z3, hg, hf⟩ := ob_inv hf
  have hJ59 : ∀ (H : Heap) (locs : List Loc) (ls : Array Slot), g_H ZM G s H locs me → lv_has ls 6 [(0, .ref (G.2.2.1 0)), (1, .int p1), (2, .int p2), (3, .int p3), (4, .int p4), (5, .int p5)] → W p l e (headSpec wsX10_ask rmX10_ask).room s m ([.ref (G.2.2.1 0), .int p1, .int p2, .int p3, .int p4, .int p5] : List Value).toArray below meth c H locs 0 0 Q (F0 m 59 ls [.int z3, .ref (G.2.2.1 0)]) := by
    intro H locs ls hW hl
    obtain ⟨m13, h9, hf⟩ := ob_inv hf
    refine g_puti hC hW (o := 0) (ci := 10) (k := 67) zm_k0 zm_b0 rfl hi10 tyX10_ok nmX10 (by decide) rfl rfl rfl (by decide +kernel) dX10_ask_59 (fun H locs hW => ?_)
    rw [Option.some.inj h9] at hW
    refine lv_aload_n hx hb dX10_ask_62 rfl (lv_at hl 0 rfl) ?_
    refine g_geti hC hW (o := 0) (ci := 10) (k := 67) zm_k0 zm_b0 rfl hi10 (by decide) rfl (by decide +kernel) dX10_ask_63 ?_
    obtain ⟨m15, hg, hf⟩ := ob_inv hf
    have hJ105 : ∀ (H : Heap) (locs : List Loc) (ls : Array Slot), g_H ZM G s H locs m15 → lv_has ls 6 [(0, .ref (G.2.2.1 0)), (1, .int p1), (2, .int p2), (3, .int p3), (4, .int p4), (5, .int p5)] → W p l e (headSpec wsX10_ask rmX10_ask).room s m ([.ref (G.2.2.1 0), .int p1, .int p2, .int p3, .int p4, .int p5] : List Value).toArray below meth c H locs 0 0 Q (F0 m 105 ls []) := by
      intro H locs ls hW hl
      refine lv_aload_n hx hb dX10_ask_105 rfl (lv_at hl 0 rfl) ?_
      refine g_geti hC hW (o := 0) (ci := 10) (k := 67) zm_k0 zm_b0 rfl hi10 (by decide) rfl (by decide +kernel) dX10_ask_106 ?_
      refine lv_if_le (tgt := 114) hx hb dX10_ask_109 (by decide) (fun c22 => ?_) (fun c22 => ?_)
      · have hf := a_if_t c22 hf
        refine lv_aload_n hx hb dX10_ask_114 rfl (lv_at hl 0 rfl) ?_
        refine g_getr hC hW (o := 0) (ci := 10) (k := 27) zm_k0 zm_b0 rfl hi10 (by decide) rfl (t := 21) zm_r0_27 (by decide +kernel) dX10_ask_115 ?_
        refine lv_aload_n hx hb dX10_ask_118 rfl (lv_at hl 0 rfl) ?_
        refine g_geti hC hW (o := 0) (ci := 10) (k := 26) zm_k0 zm_b0 rfl hi10 (by decide) rfl (by decide +kernel) dX10_ask_119 ?_
        refine lv_iload_n hx hb dX10_ask_122 rfl (lv_at hl 1 rfl) ?_
        obtain ⟨m23, h9, hf⟩ := ob_inv hf
        refine g_ist hC hW zm_k21 zm_b21 zm_n21 h9 dX10_ask_123 (fun H locs hW => ?_)
        refine lv_aload_n hx hb dX10_ask_124 rfl (lv_at hl 0 rfl) ?_
        refine g_getr hC hW (o := 0) (ci := 10) (k := 28) zm_k0 zm_b0 rfl hi10 (by decide) rfl (t := 22) zm_r0_28 (by decide +kernel) dX10_ask_125 ?_
        refine lv_aload_n hx hb dX10_ask_128 rfl (lv_at hl 0 rfl) ?_
        refine g_geti hC hW (o := 0) (ci := 10) (k := 26) zm_k0 zm_b0 rfl hi10 (by decide) rfl (by decide +kernel) dX10_ask_129 ?_
        refine lv_iload_n hx hb dX10_ask_132 rfl (lv_at hl 2 rfl) ?_
        obtain ⟨m24, h9, hf⟩ := ob_inv hf
        refine g_ist hC hW zm_k22 zm_b22 zm_n22 h9 dX10_ask_133 (fun H locs hW => ?_)
        refine lv_aload_n hx hb dX10_ask_134 rfl (lv_at hl 0 rfl) ?_
        refine g_getr hC hW (o := 0) (ci := 10) (k := 29) zm_k0 zm_b0 rfl hi10 (by decide) rfl (t := 23) zm_r0_29 (by decide +kernel) dX10_ask_135 ?_
        refine lv_aload_n hx hb dX10_ask_138 rfl (lv_at hl 0 rfl) ?_
        refine g_geti hC hW (o := 0) (ci := 10) (k := 26) zm_k0 zm_b0 rfl hi10 (by decide) rfl (by decide +kernel) dX10_ask_139 ?_
        refine lv_iload_n hx hb dX10_ask_142 rfl (lv_at hl 3 rfl) ?_
        obtain ⟨m25, h9, hf⟩ := ob_inv hf
        refine g_ist hC hW zm_k23 zm_b23 zm_n23 h9 dX10_ask_143 (fun H locs hW => ?_)
        refine lv_aload_n hx hb dX10_ask_144 rfl (lv_at hl 0 rfl) ?_
        refine g_getr hC hW (o := 0) (ci := 10) (k := 30) zm_k0 zm_b0 rfl hi10 (by decide) rfl (t := 24) zm_r0_30 (by decide +kernel) dX10_ask_145 ?_
        refine lv_aload_n hx hb dX10_ask_148 rfl (lv_at hl 0 rfl) ?_
        refine g_geti hC hW (o := 0) (ci := 10) (k := 26) zm_k0 zm_b0 rfl hi10 (by decide) rfl (by decide +kernel) dX10_ask_149 ?_
        refine lv_iload hx hb dX10_ask_152 (lv_at hl 4 rfl) ?_
        obtain ⟨m26, h9, hf⟩ := ob_inv hf
        refine g_ist hC hW zm_k24 zm_b24 zm_n24 h9 dX10_ask_154 (fun H locs hW => ?_)
        refine lv_aload_n hx hb dX10_ask_155 rfl (lv_at hl 0 rfl) ?_
        refine g_getr hC hW (o := 0) (ci := 10) (k := 31) zm_k0 zm_b0 rfl hi10 (by decide) rfl (t := 25) zm_r0_31 (by decide +kernel) dX10_ask_156 ?_
        refine lv_aload_n hx hb dX10_ask_159 rfl (lv_at hl 0 rfl) ?_
        refine g_geti hC hW (o := 0) (ci := 10) (k := 26) zm_k0 zm_b0 rfl hi10 (by decide) rfl (by decide +kernel) dX10_ask_160 ?_
        refine lv_iload hx hb dX10_ask_163 (lv_at hl 5 rfl) ?_
        obtain ⟨m27, h9, hf⟩ := ob_inv hf
        refine g_ist hC hW zm_k25 zm_b25 zm_n25 h9 dX10_ask_165 (fun H locs hW => ?_)
        refine lv_aload_n hx hb dX10_ask_166 rfl (lv_at hl 0 rfl) ?_
        refine lv_dup hx hb dX10_ask_167 rfl ?_
        refine g_geti hC hW (o := 0) (ci := 10) (k := 26) zm_k0 zm_b0 rfl hi10 (by decide) rfl (by decide +kernel) dX10_ask_168 ?_
        refine lv_iconst (v := 1) hx hb dX10_ask_171 (by decide) ?_
        refine lv_iadd hx hb dX10_ask_172 ?_
        obtain ⟨m28, h9, hf⟩ := ob_inv hf
        refine g_puti hC hW (o := 0) (ci := 10) (k := 26) zm_k0 zm_b0 rfl hi10 tyX10_ok nmX10 (by decide) rfl rfl rfl (by decide +kernel) dX10_ask_173 (fun H locs hW => ?_)
        rw [Option.some.inj h9] at hW
        refine lv_aload_n hx hb dX10_ask_176 rfl (lv_at hl 0 rfl) ?_
        refine g_geti hC hW (o := 0) (ci := 10) (k := 26) zm_k0 zm_b0 rfl hi10 (by decide) rfl (by decide +kernel) dX10_ask_177 ?_
        refine lv_iconst (v := 1) hx hb dX10_ask_180 (by decide) ?_
        refine lv_isub hx hb dX10_ask_181 ?_
        cases hf
        subst hQ
        exact g_iret hC hW hr hlocks rfl rfl dX10_ask_182
      · have hf := a_if_f c22 hf
        refine lv_iconst (v := 0) hx hb dX10_ask_112 (by decide) ?_
        cases hf
        subst hQ
        exact g_iret hC hW hr hlocks rfl rfl dX10_ask_113
    replace hf := hg
    refine lv_if_ne (tgt := 105) hx hb dX10_ask_66 (by decide) (fun c14 => ?_) (fun c14 => ?_)
    · have hf := a_if_f c14 hf
      cases hf
      exact hJ105 H locs ls hW (lv_sub hl [0, 1, 2, 3, 4, 5] rfl)
    · have hf := a_if_t c14 hf
      refine lv_aload_n hx hb dX10_ask_69 rfl (lv_at hl 0 rfl) ?_
      refine lv_aload_n hx hb dX10_ask_70 rfl (lv_at hl 0 rfl) ?_
      refine g_getr hC hW (o := 0) (ci := 10) (k := 5) zm_k0 zm_b0 rfl hi10 (by decide) rfl (t := 4) zm_r0_5 (by decide +kernel) dX10_ask_71 ?_
      refine lv_iload_n hx hb dX10_ask_74 rfl (lv_at hl 1 rfl) ?_
      obtain ⟨v16, h9, hf⟩ := ob_inv hf
      refine g_ild hC hW zm_k4 zm_b4 zm_n4 h9 dX10_ask_75 ?_
      refine lv_iconst (v := 1) hx hb dX10_ask_76 (by decide) ?_
      obtain ⟨z18, hg, hf⟩ := ob_inv hf
      have hJ102 : ∀ (H : Heap) (locs : List Loc) (ls : Array Slot), g_H ZM G s H locs m13 → lv_has ls 6 [(0, .ref (G.2.2.1 0)), (1, .int p1), (2, .int p2), (3, .int p3), (4, .int p4), (5, .int p5)] → W p l e (headSpec wsX10_ask rmX10_ask).room s m ([.ref (G.2.2.1 0), .int p1, .int p2, .int p3, .int p4, .int p5] : List Value).toArray below meth c H locs 0 0 Q (F0 m 102 ls [.int z18, .ref (G.2.2.1 0)]) := by
        intro H locs ls hW hl
        obtain ⟨m21, h9, hf⟩ := ob_inv hf
        refine g_puti hC hW (o := 0) (ci := 10) (k := 67) zm_k0 zm_b0 rfl hi10 tyX10_ok nmX10 (by decide) rfl rfl rfl (by decide +kernel) dX10_ask_102 (fun H locs hW => ?_)
        rw [Option.some.inj h9] at hW
        cases hf
        exact hJ105 H locs ls hW (lv_sub hl [0, 1, 2, 3, 4, 5] rfl)
      replace hf := hg
      refine lv_icmp_eq (tgt := 97) hx hb dX10_ask_77 (by decide) (fun c17 => ?_) (fun c17 => ?_)
      · have hf := a_if_t c17 hf
        refine lv_iconst (v := 3) hx hb dX10_ask_97 (by decide) ?_
        refine lv_goto (tgt := 102) hx hb dX10_ask_98 (by decide) ?_
        cases hf
        exact hJ102 H locs ls hW (lv_sub hl [0, 1, 2, 3, 4, 5] rfl)
      · have hf := a_if_f c17 hf
        refine lv_aload_n hx hb dX10_ask_80 rfl (lv_at hl 0 rfl) ?_
        refine g_geti hC hW (o := 0) (ci := 10) (k := 1) zm_k0 zm_b0 rfl hi10 (by decide) rfl (by decide +kernel) dX10_ask_81 ?_
        refine lv_iconst (v := 1) hx hb dX10_ask_84 (by decide) ?_
        refine lv_icmp_eq (tgt := 97) hx hb dX10_ask_85 (by decide) (fun c19 => ?_) (fun c19 => ?_)
        · have hf := a_if_t c19 hf
          refine lv_iconst (v := 3) hx hb dX10_ask_97 (by decide) ?_
          refine lv_goto (tgt := 102) hx hb dX10_ask_98 (by decide) ?_
          cases hf
          exact hJ102 H locs ls hW (lv_sub hl [0, 1, 2, 3, 4, 5] rfl)
        · have hf := a_if_f c19 hf
          refine lv_aload_n hx hb dX10_ask_88 rfl (lv_at hl 0 rfl) ?_
          refine g_geti hC hW (o := 0) (ci := 10) (k := 26) zm_k0 zm_b0 rfl hi10 (by decide) rfl (by decide +kernel) dX10_ask_89 ?_
          refine lv_bipush (v := 20) hx hb dX10_ask_92 (by decide) ?_
          refine lv_icmp_ne (tgt := 101) hx hb dX10_ask_94 (by decide) (fun c20 => ?_) (fun c20 => ?_)
          · have hf := a_if_f c20 hf
            refine lv_iconst (v := 0) hx hb dX10_ask_101 (by decide) ?_
            cases hf
            exact hJ102 H locs ls hW (lv_sub hl [0, 1, 2, 3, 4, 5] rfl)
          · have hf := a_if_t c20 hf
            refine lv_iconst (v := 3) hx hb dX10_ask_97 (by decide) ?_
            refine lv_goto (tgt := 102) hx hb dX10_ask_98 (by decide) ?_
            cases hf
            exact hJ102 H locs ls hW (lv_sub hl [0, 1, 2, 3, 4, 5] rfl)
  replace hf := hg
  refine lv_if_eq (tgt := 22) hx hb dX10_ask_5 (by decide) (fun c2 => ?_) (fun c2 => ?_)
  · have hf := a_if_t c2 hf
    refine lv_iconst (v := 1) hx hb dX10_ask_22 (by decide) ?_
    refine lv_goto (tgt := 59) hx hb dX10_ask_23 (by decide) ?_
    cases hf
    exact hJ59 H locs ls hW (lv_sub hl [0, 1, 2, 3, 4, 5] rfl)
  · have hf := a_if_f c2 hf
    refine lv_iload_n hx hb dX10_ask_8 rfl (lv_at hl 2 rfl) ?_
    obtain ⟨r4, hg, hf⟩ := ob_inv hf
    refine g_cSi hC hW (As := [.int p2]) (rest := [.ref (G.2.2.1 0)]) (c_X10_isZone l G  hg) (va_cwS 1 hts gX10_ask_X10_isZone rfl rfl rfl (by decide +kernel) ⟨Nat.le_of_ble_eq_true rfl, Nat.le_of_ble_eq_true rfl⟩) rfl hl.1 rfl (Nat.le_of_ble_eq_true rfl) dX10_ask_9 ⟨Nat.le_of_ble_eq_true rfl, Nat.le_of_ble_eq_true rfl⟩ (fun H locs hW => ?_)
    refine lv_if_eq (tgt := 22) hx hb dX10_ask_12 (by decide) (fun c5 => ?_) (fun c5 => ?_)
    · have hf := a_if_t c5 hf
      refine lv_iconst (v := 1) hx hb dX10_ask_22 (by decide) ?_
      refine lv_goto (tgt := 59) hx hb dX10_ask_23 (by decide) ?_
      cases hf
      exact hJ59 H locs ls hW (lv_sub hl [0, 1, 2, 3, 4, 5] rfl)
    · have hf := a_if_f c5 hf
      refine lv_iload_n hx hb dX10_ask_15 rfl (lv_at hl 3 rfl) ?_
      obtain ⟨r6, hg, hf⟩ := ob_inv hf
      refine g_cSi hC hW (As := [.int p3]) (rest := [.ref (G.2.2.1 0)]) (c_X10_isZone l G  hg) (va_cwS 1 hts gX10_ask_X10_isZone rfl rfl rfl (by decide +kernel) ⟨Nat.le_of_ble_eq_true rfl, Nat.le_of_ble_eq_true rfl⟩) rfl hl.1 rfl (Nat.le_of_ble_eq_true rfl) dX10_ask_16 ⟨Nat.le_of_ble_eq_true rfl, Nat.le_of_ble_eq_true rfl⟩ (fun H locs hW => ?_)
      refine lv_if_ne (tgt := 26) hx hb dX10_ask_19 (by decide) (fun c7 => ?_) (fun c7 => ?_)
      · have hf := a_if_f c7 hf
        refine lv_iload_n hx hb dX10_ask_26 rfl (lv_at hl 2 rfl) ?_
        refine lv_iload_n hx hb dX10_ask_27 rfl (lv_at hl 3 rfl) ?_
        refine lv_icmp_eq (tgt := 54) hx hb dX10_ask_28 (by decide) (fun c8 => ?_) (fun c8 => ?_)
        · have hf := a_if_t c8 hf
          refine lv_iconst (v := 2) hx hb dX10_ask_54 (by decide) ?_
          refine lv_goto (tgt := 59) hx hb dX10_ask_55 (by decide) ?_
          cases hf
          exact hJ59 H locs ls hW (lv_sub hl [0, 1, 2, 3, 4, 5] rfl)
        · have hf := a_if_f c8 hf
          refine lv_iload hx hb dX10_ask_31 (lv_at hl 4 rfl) ?_
          refine lv_iconst (v := 1) hx hb dX10_ask_33 (by decide) ?_
          refine lv_bipush (v := 10) hx hb dX10_ask_34 (by decide) ?_
          obtain ⟨r9, hg, hf⟩ := ob_inv hf
          refine g_cSi hC hW (As := [.int p4, .int 1, .int 10]) (rest := [.ref (G.2.2.1 0)]) (c_X10_in l G  hg) (va_cwS 3 hts gX10_ask_X10_in rfl rfl rfl (by decide +kernel) ⟨Nat.le_of_ble_eq_true rfl, Nat.le_of_ble_eq_true rfl⟩) rfl hl.1 rfl (Nat.le_of_ble_eq_true rfl) dX10_ask_36 ⟨Nat.le_of_ble_eq_true rfl, Nat.le_of_ble_eq_true rfl⟩ (fun H locs hW => ?_)
          refine lv_if_eq (tgt := 54) hx hb dX10_ask_39 (by decide) (fun c10 => ?_) (fun c10 => ?_)
          · have hf := a_if_t c10 hf
            refine lv_iconst (v := 2) hx hb dX10_ask_54 (by decide) ?_
            refine lv_goto (tgt := 59) hx hb dX10_ask_55 (by decide) ?_
            cases hf
            exact hJ59 H locs ls hW (lv_sub hl [0, 1, 2, 3, 4, 5] rfl)
          · have hf := a_if_f c10 hf
            refine lv_iload hx hb dX10_ask_42 (lv_at hl 5 rfl) ?_
            refine lv_iconst (v := 0) hx hb dX10_ask_44 (by decide) ?_
            refine lv_sipush (v := 500) hx hb dX10_ask_45 (by decide) ?_
            obtain ⟨r11, hg, hf⟩ := ob_inv hf
            refine g_cSi hC hW (As := [.int p5, .int 0, .int 500]) (rest := [.ref (G.2.2.1 0)]) (c_X10_in l G  hg) (va_cwS 3 hts gX10_ask_X10_in rfl rfl rfl (by decide +kernel) ⟨Nat.le_of_ble_eq_true rfl, Nat.le_of_ble_eq_true rfl⟩) rfl hl.1 rfl (Nat.le_of_ble_eq_true rfl) dX10_ask_48 ⟨Nat.le_of_ble_eq_true rfl, Nat.le_of_ble_eq_true rfl⟩ (fun H locs hW => ?_)
            refine lv_if_ne (tgt := 58) hx hb dX10_ask_51 (by decide) (fun c12 => ?_) (fun c12 => ?_)
            · have hf := a_if_f c12 hf
              refine lv_iconst (v := 0) hx hb dX10_ask_58 (by decide) ?_
              cases hf
              exact hJ59 H locs ls hW (lv_sub hl [0, 1, 2, 3, 4, 5] rfl)
            · have hf := a_if_t c12 hf
              refine lv_iconst (v := 2) hx hb dX10_ask_54 (by decide) ?_
              refine lv_goto (tgt := 59) hx hb dX10_ask_55 (by decide) ?_
              cases hf
              exact hJ59 H locs ls hW (lv_sub hl [0, 1, 2, 3, 4, 5] rfl)
      · have hf := a_if_t c7 hf
        refine lv_iconst (v := 1) hx hb dX10_ask_22 (by decide) ?_
        refine lv_goto (tgt := 59) hx hb dX10_ask_23 (by decide) ?_
        cases hf
        exact hJ59 H locs ls hW (lv_sub hl [0, 1, 2, 3, 4, 5] rfl)
abbrev rmX10_nextBid : Room := { frames := 0, cells := 0, slots := 0, locals := 0 }
set_option maxHeartbeats 4000000 in
set_option maxRecDepth 100000 in
theorem c_X10_nextBid (l : Launch) (G : gG) {p1 : Int32} {p2 : Int32} {p3 : Int32} {me : gM} {r0 : Int32}  (hf : f_X10_nextBid p1 p2 p3 me = some r0) : Met l yX10_nextBid wsX10_nextBid rmX10_nextBid (va_Pc [.ref (G.2.2.1 0), .int p1, .int p2, .int p3] (g_W ZM G me)) (g_Qi ZM G r0 me) 0 0 (g_A ZM G) := by
  refine Met.ofW (cc := cX10_nextBid) (maxL := 8) (ret := (some .int)) (by decide) rfl ?_
  intro p e s m args below meth c s₁ B hml hv
  obtain ⟨rfl, hW0⟩ := hv
  have hC : CallFix p m c cX10_nextBid 8 s ([.ref (G.2.2.1 0), .int p1, .int p2, .int p3] : List Value).toArray wsX10_nextBid RX10 := ⟨B.exec, B.bytes, hml, findClass_of_methodNamed B.named, atoms_spec (ws := wsX10_nextBid) B.pre⟩
  have hx := hC.1
  have hb := hC.2.1
  have hown := hC.2.2.2.1
  have hts := hC.2.2.2.2
  have hr := B.returns
  have hlocks := B.notSynchronized
  have hW := g_H_enter hW0
  have hi10 : ∀ w ∈ wsX100, w ∈ wsX10_nextBid := by decide +kernel
  have hl := lv_entry ([.ref (G.2.2.1 0), .int p1, .int p2, .int p3]) (n := 8) (Nat.le_of_ble_eq_true rfl)
  rw [lg_entry_eq]
  generalize (lg_sl ([.ref (G.2.2.1 0), .int p1, .int p2, .int p3]) ++ List.replicate (8 - (lg_sl ([.ref (G.2.2.1 0), .int p1, .int p2, .int p3])).length) Slot.unset).toArray = ls at hl ⊢
  have hl : lv_has ls 8 [(0, .ref (G.2.2.1 0)), (1, .int p1), (2, .int p2), (3, .int p3)] := hl
  obtain ⟨Q, hQ⟩ : ∃ Q, Q = MQ below (g_Qi ZM G r0 me) ([.ref (G.2.2.1 0), .int p1, .int p2, .int p3] : List Value).toArray s 0 0 (g_A ZM G) := ⟨_, rfl⟩
  refine g_goQ hQ ?_
  unfold f_X10_nextBid at hf
  refine g_start hW (fun H locs hW => ?_)
  refine lv_iconst (v := (-1)) hx hb dX10_nextBid_0 (by decide) ?_
  refine lv_istore (lv' := [(4, .int (-1)), (0, .ref (G.2.2.1 0)), (1, .int p1), (2, .int p2), (3, .int p3)]) hx hb dX10_nextBid_1 hl (by decide) rfl (fun ls hl => ?_)
  refine lv_iconst (v := 0) hx hb dX10_nextBid_3 (by decide) ?_
  refine lv_istore (lv' := [(5, .int 0), (4, .int (-1)), (0, .ref (G.2.2.1 0)), (1, .int p1), (2, .int p2), (3, .int p3)]) hx hb dX10_nextBid_4 hl (by decide) rfl (fun ls hl => ?_)
  have hL6 : ∀ (n : Nat) (x1 : Int32) (x2 : Int32) (y3 : Int32) (y4 : Int32) (H : Heap) (locs : List Loc) (ls : Array Slot), f_X10_nextBid_L6 me p1 p2 p3 n x1 x2 = some (y3, y4) → g_H ZM G s H locs me → lv_has ls 8 [(0, .ref (G.2.2.1 0)), (1, .int p1), (2, .int p2), (3, .int p3), (4, .int x1), (5, .int x2)] → (∀ (H : Heap) (locs : List Loc) (ls : Array Slot), g_H ZM G s H locs me → lv_has ls 8 [(4, .int y3)] → W p l e (headSpec wsX10_nextBid rmX10_nextBid).room s m ([.ref (G.2.2.1 0), .int p1, .int p2, .int p3] : List Value).toArray below meth c H locs 0 0 Q (F0 m 145 ls [])) → W p l e (headSpec wsX10_nextBid rmX10_nextBid).room s m ([.ref (G.2.2.1 0), .int p1, .int p2, .int p3] : List Value).toArray below meth c H locs 0 0 Q (F0 m 6 ls []) := by
    intro n
    induction n with
    | zero =>
      intro x1 x2 y3 y4 H locs ls hf hW hl hE
      cases hf
    | succ n ih =>
      intro x1 x2 y3 y4 H locs ls hf hW hl hE
      rw [f_X10_nextBid_L6] at hf
      refine lv_iload hx hb dX10_nextBid_6 (lv_at hl 5 rfl) ?_
      refine lv_aload_n hx hb dX10_nextBid_8 rfl (lv_at hl 0 rfl) ?_
      refine g_geti hC hW (o := 0) (ci := 10) (k := 7) zm_k0 zm_b0 rfl hi10 (by decide) rfl (by decide +kernel) dX10_nextBid_9 ?_
      refine lv_icmp_ge (tgt := 145) hx hb dX10_nextBid_12 (by decide) (fun c5 => ?_) (fun c5 => ?_)
      · have hf := a_if_t c5 hf
        cases hf
        exact hE H locs ls hW (lv_sub hl [4] rfl)
      · have hf := a_if_f c5 hf
        refine lv_aload_n hx hb dX10_nextBid_15 rfl (lv_at hl 0 rfl) ?_
        refine g_getr hC hW (o := 0) (ci := 10) (k := 15) zm_k0 zm_b0 rfl hi10 (by decide) rfl (t := 12) zm_r0_15 (by decide +kernel) dX10_nextBid_16 ?_
        refine lv_iload hx hb dX10_nextBid_19 (lv_at hl 5 rfl) ?_
        obtain ⟨v6, h9, hf⟩ := ob_inv hf
        refine g_ild hC hW zm_k12 zm_b12 zm_n12 h9 dX10_nextBid_21 ?_
        obtain ⟨z8, hg, hf⟩ := ob_inv hf
        have hJ63 : ∀ (H : Heap) (locs : List Loc) (ls : Array Slot), g_H ZM G s H locs me → lv_has ls 8 [(0, .ref (G.2.2.1 0)), (1, .int p1), (2, .int p2), (3, .int p3), (4, .int x1), (5, .int x2)] → W p l e (headSpec wsX10_nextBid rmX10_nextBid).room s m ([.ref (G.2.2.1 0), .int p1, .int p2, .int p3] : List Value).toArray below meth c H locs 0 0 Q (F0 m 63 ls [.int z8]) := by
          intro H locs ls hW hl
          refine lv_istore (lv' := [(6, .int z8), (0, .ref (G.2.2.1 0)), (1, .int p1), (2, .int p2), (3, .int p3), (4, .int x1), (5, .int x2)]) hx hb dX10_nextBid_63 hl (by decide) rfl (fun ls hl => ?_)
          refine lv_iload hx hb dX10_nextBid_65 (lv_at hl 5 rfl) ?_
          refine lv_iconst (v := (-1)) hx hb dX10_nextBid_67 (by decide) ?_
          obtain ⟨z16, hg, hf⟩ := ob_inv hf
          have hJ118 : ∀ (H : Heap) (locs : List Loc) (ls : Array Slot), g_H ZM G s H locs me → lv_has ls 8 [(0, .ref (G.2.2.1 0)), (1, .int p1), (2, .int p2), (3, .int p3), (4, .int x1), (5, .int x2), (6, .int z8)] → W p l e (headSpec wsX10_nextBid rmX10_nextBid).room s m ([.ref (G.2.2.1 0), .int p1, .int p2, .int p3] : List Value).toArray below meth c H locs 0 0 Q (F0 m 118 ls [.int z16]) := by
            intro H locs ls hW hl
            refine lv_istore (lv' := [(7, .int z16), (0, .ref (G.2.2.1 0)), (1, .int p1), (2, .int p2), (3, .int p3), (4, .int x1), (5, .int x2), (6, .int z8)]) hx hb dX10_nextBid_118 hl (by decide) rfl (fun ls hl => ?_)
            refine lv_iload hx hb dX10_nextBid_120 (lv_at hl 7 rfl) ?_
            obtain ⟨z25, hg, hf⟩ := ob_inv hf
            have hJ137 : ∀ (H : Heap) (locs : List Loc) (ls : Array Slot), g_H ZM G s H locs me → lv_has ls 8 [(0, .ref (G.2.2.1 0)), (1, .int p1), (2, .int p2), (3, .int p3), (5, .int x2)] → W p l e (headSpec wsX10_nextBid rmX10_nextBid).room s m ([.ref (G.2.2.1 0), .int p1, .int p2, .int p3] : List Value).toArray below meth c H locs 0 0 Q (F0 m 137 ls [.int z25]) := by
              intro H locs ls hW hl
              refine lv_istore (lv' := [(4, .int z25), (0, .ref (G.2.2.1 0)), (1, .int p1), (2, .int p2), (3, .int p3), (5, .int x2)]) hx hb dX10_nextBid_137 hl (by decide) rfl (fun ls hl => ?_)
              refine lv_iinc (v := (x2 + 1)) (lv' := [(5, .int (x2 + 1)), (4, .int z25), (0, .ref (G.2.2.1 0)), (1, .int p1), (2, .int p2), (3, .int p3)]) hx hb dX10_nextBid_139 hl (k := 5) rfl (congrArg (fun z => x2 + z) (by decide)) (by decide) rfl (fun ls hl => ?_)
              refine lv_goto (tgt := 6) hx hb dX10_nextBid_142 (by decide) ?_
              exact ih _ _ _ _ _ _ _ hf hW (lv_sub hl [2, 3, 4, 5, 1, 0] rfl) hE
            replace hf := hg
            refine lv_if_eq (tgt := 135) hx hb dX10_nextBid_122 (by decide) (fun c24 => ?_) (fun c24 => ?_)
            · have hf := a_if_t c24 hf
              refine lv_iload hx hb dX10_nextBid_135 (lv_at hl 5 rfl) ?_
              cases hf
              exact hJ137 H locs ls hW (lv_sub hl [1, 2, 3, 4, 6] rfl)
            · have hf := a_if_f c24 hf
              refine lv_iload hx hb dX10_nextBid_125 (lv_at hl 0 rfl) ?_
              refine lv_if_eq (tgt := 135) hx hb dX10_nextBid_127 (by decide) (fun c26 => ?_) (fun c26 => ?_)
              · have hf := a_if_t c26 hf
                refine lv_iload hx hb dX10_nextBid_135 (lv_at hl 5 rfl) ?_
                cases hf
                exact hJ137 H locs ls hW (lv_sub hl [1, 2, 3, 4, 6] rfl)
              · have hf := a_if_f c26 hf
                refine lv_iload hx hb dX10_nextBid_130 (lv_at hl 6 rfl) ?_
                refine lv_goto (tgt := 137) hx hb dX10_nextBid_132 (by decide) ?_
                cases hf
                exact hJ137 H locs ls hW (lv_sub hl [1, 2, 3, 4, 6] rfl)
          replace hf := hg
          refine lv_icmp_eq (tgt := 113) hx hb dX10_nextBid_68 (by decide) (fun c15 => ?_) (fun c15 => ?_)
          · have hf := a_if_t c15 hf
            refine lv_iconst (v := 1) hx hb dX10_nextBid_113 (by decide) ?_
            refine lv_goto (tgt := 118) hx hb dX10_nextBid_114 (by decide) ?_
            cases hf
            exact hJ118 H locs ls hW (lv_sub hl [1, 2, 3, 4, 5, 6, 0] rfl)
          · have hf := a_if_f c15 hf
            refine lv_iload_n hx hb dX10_nextBid_71 rfl (lv_at hl 4 rfl) ?_
            refine lv_iconst (v := 1) hx hb dX10_nextBid_72 (by decide) ?_
            refine lv_icmp_ne (tgt := 96) hx hb dX10_nextBid_73 (by decide) (fun c17 => ?_) (fun c17 => ?_)
            · have hf := a_if_f c17 hf
              refine lv_aload_n hx hb dX10_nextBid_96 rfl (lv_at hl 1 rfl) ?_
              refine g_getr hC hW (o := 0) (ci := 10) (k := 12) zm_k0 zm_b0 rfl hi10 (by decide) rfl (t := 9) zm_r0_12 (by decide +kernel) dX10_nextBid_97 ?_
              refine lv_iload hx hb dX10_nextBid_100 (lv_at hl 6 rfl) ?_
              obtain ⟨v18, h9, hf⟩ := ob_inv hf
              refine g_ild hC hW zm_k9 zm_b9 zm_n9 h9 dX10_nextBid_102 ?_
              refine lv_aload_n hx hb dX10_nextBid_103 rfl (lv_at hl 1 rfl) ?_
              refine g_getr hC hW (o := 0) (ci := 10) (k := 12) zm_k0 zm_b0 rfl hi10 (by decide) rfl (t := 9) zm_r0_12 (by decide +kernel) dX10_nextBid_104 ?_
              refine lv_iload hx hb dX10_nextBid_107 (lv_at hl 5 rfl) ?_
              obtain ⟨v19, h9, hf⟩ := ob_inv hf
              refine g_ild hC hW zm_k9 zm_b9 zm_n9 h9 dX10_nextBid_109 ?_
              refine lv_icmp_ge (tgt := 117) hx hb dX10_nextBid_110 (by decide) (fun c20 => ?_) (fun c20 => ?_)
              · have hf := a_if_t c20 hf
                refine lv_iconst (v := 0) hx hb dX10_nextBid_117 (by decide) ?_
                cases hf
                exact hJ118 H locs ls hW (lv_sub hl [1, 2, 3, 4, 5, 6, 0] rfl)
              · have hf := a_if_f c20 hf
                refine lv_iconst (v := 1) hx hb dX10_nextBid_113 (by decide) ?_
                refine lv_goto (tgt := 118) hx hb dX10_nextBid_114 (by decide) ?_
                cases hf
                exact hJ118 H locs ls hW (lv_sub hl [1, 2, 3, 4, 5, 6, 0] rfl)
            · have hf := a_if_t c17 hf
              refine lv_aload_n hx hb dX10_nextBid_76 rfl (lv_at hl 1 rfl) ?_
              refine g_getr hC hW (o := 0) (ci := 10) (k := 12) zm_k0 zm_b0 rfl hi10 (by decide) rfl (t := 9) zm_r0_12 (by decide +kernel) dX10_nextBid_77 ?_
              refine lv_iload hx hb dX10_nextBid_80 (lv_at hl 6 rfl) ?_
              obtain ⟨v21, h9, hf⟩ := ob_inv hf
              refine g_ild hC hW zm_k9 zm_b9 zm_n9 h9 dX10_nextBid_82 ?_
              refine lv_aload_n hx hb dX10_nextBid_83 rfl (lv_at hl 1 rfl) ?_
              refine g_getr hC hW (o := 0) (ci := 10) (k := 12) zm_k0 zm_b0 rfl hi10 (by decide) rfl (t := 9) zm_r0_12 (by decide +kernel) dX10_nextBid_84 ?_
              refine lv_iload hx hb dX10_nextBid_87 (lv_at hl 5 rfl) ?_
              obtain ⟨v22, h9, hf⟩ := ob_inv hf
              refine g_ild hC hW zm_k9 zm_b9 zm_n9 h9 dX10_nextBid_89 ?_
              refine lv_icmp_le (tgt := 117) hx hb dX10_nextBid_90 (by decide) (fun c23 => ?_) (fun c23 => ?_)
              · have hf := a_if_t c23 hf
                refine lv_iconst (v := 0) hx hb dX10_nextBid_117 (by decide) ?_
                cases hf
                exact hJ118 H locs ls hW (lv_sub hl [1, 2, 3, 4, 5, 6, 0] rfl)
              · have hf := a_if_f c23 hf
                refine lv_goto (tgt := 113) hx hb dX10_nextBid_93 (by decide) ?_
                refine lv_iconst (v := 1) hx hb dX10_nextBid_113 (by decide) ?_
                refine lv_goto (tgt := 118) hx hb dX10_nextBid_114 (by decide) ?_
                cases hf
                exact hJ118 H locs ls hW (lv_sub hl [1, 2, 3, 4, 5, 6, 0] rfl)
        replace hf := hg
        refine lv_if_ne (tgt := 62) hx hb dX10_nextBid_22 (by decide) (fun c7 => ?_) (fun c7 => ?_)
        · have hf := a_if_f c7 hf
          refine lv_iconst (v := 0) hx hb dX10_nextBid_62 (by decide) ?_
          cases hf
          exact hJ63 H locs ls hW (lv_sub hl [0, 1, 2, 3, 4, 5] rfl)
        · have hf := a_if_t c7 hf
          refine lv_aload_n hx hb dX10_nextBid_25 rfl (lv_at hl 0 rfl) ?_
          refine g_getr hC hW (o := 0) (ci := 10) (k := 9) zm_k0 zm_b0 rfl hi10 (by decide) rfl (t := 6) zm_r0_9 (by decide +kernel) dX10_nextBid_26 ?_
          refine lv_iload hx hb dX10_nextBid_29 (lv_at hl 5 rfl) ?_
          obtain ⟨v9, h9, hf⟩ := ob_inv hf
          refine g_ild hC hW zm_k6 zm_b6 zm_n6 h9 dX10_nextBid_31 ?_
          refine lv_iload_n hx hb dX10_nextBid_32 rfl (lv_at hl 1 rfl) ?_
          refine lv_icmp_ne (tgt := 62) hx hb dX10_nextBid_33 (by decide) (fun c10 => ?_) (fun c10 => ?_)
          · have hf := a_if_f c10 hf
            refine lv_iconst (v := 0) hx hb dX10_nextBid_62 (by decide) ?_
            cases hf
            exact hJ63 H locs ls hW (lv_sub hl [0, 1, 2, 3, 4, 5] rfl)
          · have hf := a_if_t c10 hf
            refine lv_aload_n hx hb dX10_nextBid_36 rfl (lv_at hl 0 rfl) ?_
            refine g_getr hC hW (o := 0) (ci := 10) (k := 10) zm_k0 zm_b0 rfl hi10 (by decide) rfl (t := 7) zm_r0_10 (by decide +kernel) dX10_nextBid_37 ?_
            refine lv_iload hx hb dX10_nextBid_40 (lv_at hl 5 rfl) ?_
            obtain ⟨v11, h9, hf⟩ := ob_inv hf
            refine g_ild hC hW zm_k7 zm_b7 zm_n7 h9 dX10_nextBid_42 ?_
            refine lv_iload_n hx hb dX10_nextBid_43 rfl (lv_at hl 2 rfl) ?_
            refine lv_icmp_ne (tgt := 62) hx hb dX10_nextBid_44 (by decide) (fun c12 => ?_) (fun c12 => ?_)
            · have hf := a_if_f c12 hf
              refine lv_iconst (v := 0) hx hb dX10_nextBid_62 (by decide) ?_
              cases hf
              exact hJ63 H locs ls hW (lv_sub hl [0, 1, 2, 3, 4, 5] rfl)
            · have hf := a_if_t c12 hf
              refine lv_aload_n hx hb dX10_nextBid_47 rfl (lv_at hl 0 rfl) ?_
              refine g_getr hC hW (o := 0) (ci := 10) (k := 11) zm_k0 zm_b0 rfl hi10 (by decide) rfl (t := 8) zm_r0_11 (by decide +kernel) dX10_nextBid_48 ?_
              refine lv_iload hx hb dX10_nextBid_51 (lv_at hl 5 rfl) ?_
              obtain ⟨v13, h9, hf⟩ := ob_inv hf
              refine g_ild hC hW zm_k8 zm_b8 zm_n8 h9 dX10_nextBid_53 ?_
              refine lv_iload_n hx hb dX10_nextBid_54 rfl (lv_at hl 3 rfl) ?_
              refine lv_icmp_ne (tgt := 62) hx hb dX10_nextBid_55 (by decide) (fun c14 => ?_) (fun c14 => ?_)
              · have hf := a_if_f c14 hf
                refine lv_iconst (v := 0) hx hb dX10_nextBid_62 (by decide) ?_
                cases hf
                exact hJ63 H locs ls hW (lv_sub hl [0, 1, 2, 3, 4, 5] rfl)
              · have hf := a_if_t c14 hf
                refine lv_iconst (v := 1) hx hb dX10_nextBid_58 (by decide) ?_
                refine lv_goto (tgt := 63) hx hb dX10_nextBid_59 (by decide) ?_
                cases hf
                exact hJ63 H locs ls hW (lv_sub hl [0, 1, 2, 3, 4, 5] rfl)
  obtain ⟨⟨y3, y4⟩, hg, hf⟩ := ob_inv hf
  have hf := ob_inv2 hf
  refine hL6 _ _ _ _ _ _ _ _ hg hW (lv_sub hl [2, 3, 4, 5, 1, 0] rfl) (fun H locs ls hW hl => ?_)
  refine lv_iload hx hb dX10_nextBid_145 (lv_at hl 0 rfl) ?_
  cases hf
  subst hQ
  exact g_iret hC hW hr hlocks rfl rfl dX10_nextBid_147
abbrev rmX10_forgets : Room := { frames := 0, cells := 0, slots := 0, locals := 0 }
set_option maxHeartbeats 4000000 in
set_option maxRecDepth 100000 in
theorem c_X10_forgets (l : Launch) (G : gG)  {me : gM} {m0 : gM}  (hf : f_X10_forgets me = some m0) : Met l yX10_forgets wsX10_forgets rmX10_forgets (va_Pc [.ref (G.2.2.1 0)] (g_W ZM G me)) (g_Qv ZM G m0) 0 0 (g_A ZM G) := by
  refine Met.ofW (cc := cX10_forgets) (maxL := 2) (ret := none) (by decide) rfl ?_
  intro p e s m args below meth c s₁ B hml hv
  obtain ⟨rfl, hW0⟩ := hv
  have hC : CallFix p m c cX10_forgets 2 s ([.ref (G.2.2.1 0)] : List Value).toArray wsX10_forgets RX10 := ⟨B.exec, B.bytes, hml, findClass_of_methodNamed B.named, atoms_spec (ws := wsX10_forgets) B.pre⟩
  have hx := hC.1
  have hb := hC.2.1
  have hown := hC.2.2.2.1
  have hts := hC.2.2.2.2
  have hr := B.returns
  have hlocks := B.notSynchronized
  have hW := g_H_enter hW0
  have hi10 : ∀ w ∈ wsX100, w ∈ wsX10_forgets := by decide +kernel
  have hl := lv_entry ([.ref (G.2.2.1 0)]) (n := 2) (Nat.le_of_ble_eq_true rfl)
  rw [lg_entry_eq]
  generalize (lg_sl ([.ref (G.2.2.1 0)]) ++ List.replicate (2 - (lg_sl ([.ref (G.2.2.1 0)])).length) Slot.unset).toArray = ls at hl ⊢
  have hl : lv_has ls 2 [(0, .ref (G.2.2.1 0))] := hl
  obtain ⟨Q, hQ⟩ : ∃ Q, Q = MQ below (g_Qv ZM G m0) ([.ref (G.2.2.1 0)] : List Value).toArray s 0 0 (g_A ZM G) := ⟨_, rfl⟩
  refine g_goQ hQ ?_
  unfold f_X10_forgets at hf
  refine g_start hW (fun H locs hW => ?_)
  refine lv_iconst (v := 0) hx hb dX10_forgets_0 (by decide) ?_
  refine lv_istore_n (lv' := [(1, .int 0), (0, .ref (G.2.2.1 0))]) hx hb dX10_forgets_1 rfl hl (by decide) rfl (fun ls hl => ?_)
  have hL2 : ∀ (n : Nat) (x1 : Int32) (m2 : gM) (y3 : Int32) (m4 : gM) (H : Heap) (locs : List Loc) (ls : Array Slot), f_X10_forgets_L2  n x1 m2 = some (y3, m4) → g_H ZM G s H locs m2 → lv_has ls 2 [(0, .ref (G.2.2.1 0)), (1, .int x1)] → (∀ (H : Heap) (locs : List Loc) (ls : Array Slot), g_H ZM G s H locs m4 → lv_has ls 2 [] → W p l e (headSpec wsX10_forgets rmX10_forgets).room s m ([.ref (G.2.2.1 0)] : List Value).toArray below meth c H locs 0 0 Q (F0 m 21 ls [])) → W p l e (headSpec wsX10_forgets rmX10_forgets).room s m ([.ref (G.2.2.1 0)] : List Value).toArray below meth c H locs 0 0 Q (F0 m 2 ls []) := by
    intro n
    induction n with
    | zero =>
      intro x1 m2 y3 m4 H locs ls hf hW hl hE
      cases hf
    | succ n ih =>
      intro x1 m2 y3 m4 H locs ls hf hW hl hE
      rw [f_X10_forgets_L2] at hf
      refine lv_iload_n hx hb dX10_forgets_2 rfl (lv_at hl 1 rfl) ?_
      refine lv_bipush (v := 40) hx hb dX10_forgets_3 (by decide) ?_
      refine lv_icmp_ge (tgt := 21) hx hb dX10_forgets_5 (by decide) (fun c5 => ?_) (fun c5 => ?_)
      · have hf := a_if_t c5 hf
        cases hf
        exact hE H locs ls hW (lv_sub hl [] rfl)
      · have hf := a_if_f c5 hf
        refine lv_aload_n hx hb dX10_forgets_8 rfl (lv_at hl 0 rfl) ?_
        refine g_getr hC hW (o := 0) (ci := 10) (k := 15) zm_k0 zm_b0 rfl hi10 (by decide) rfl (t := 12) zm_r0_15 (by decide +kernel) dX10_forgets_9 ?_
        refine lv_iload_n hx hb dX10_forgets_12 rfl (lv_at hl 1 rfl) ?_
        refine lv_iconst (v := 0) hx hb dX10_forgets_13 (by decide) ?_
        obtain ⟨m6, h9, hf⟩ := ob_inv hf
        refine g_ist hC hW zm_k12 zm_b12 zm_n12 h9 dX10_forgets_14 (fun H locs hW => ?_)
        refine lv_iinc (v := (x1 + 1)) (lv' := [(1, .int (x1 + 1)), (0, .ref (G.2.2.1 0))]) hx hb dX10_forgets_15 hl (k := 1) rfl (congrArg (fun z => x1 + z) (by decide)) (by decide) rfl (fun ls hl => ?_)
        refine lv_goto (tgt := 2) hx hb dX10_forgets_18 (by decide) ?_
        exact ih _ _ _ _ _ _ _ hf hW (lv_sub hl [1, 0] rfl) hE
  obtain ⟨⟨y3, m4⟩, hg, hf⟩ := ob_inv hf
  have hf := ob_inv2 hf
  refine hL2 _ _ _ _ _ _ _ _ hg hW (lv_sub hl [1, 0] rfl) (fun H locs ls hW hl => ?_)
  cases hf
  subst hQ
  exact g_vret hC hW hr hlocks rfl dX10_forgets_21
abbrev rmX10_sums : Room := { frames := 1, cells := 0, slots := 0, locals := 27 }
set_option maxHeartbeats 4000000 in
set_option maxRecDepth 100000 in
theorem c_X10_sums (l : Launch) (G : gG) {p1 : Int32} {p2 : Int32} {p3 : Int32} {me : gM} {r0 : Int32} {m0 : gM}  (hf : f_X10_sums p1 p2 p3 me = some (r0, m0)) : Met l yX10_sums wsX10_sums rmX10_sums (va_Pc [.ref (G.2.2.1 0), .int p1, .int p2, .int p3] (g_W ZM G me)) (g_Qi ZM G r0 m0) 0 0 (g_A ZM G) := by
  refine Met.ofW (cc := cX10_sums) (maxL := 7) (ret := (some .int)) (by decide) rfl ?_
  intro p e s m args below meth c s₁ B hml hv
  obtain ⟨rfl, hW0⟩ := hv
  have hC : CallFix p m c cX10_sums 7 s ([.ref (G.2.2.1 0), .int p1, .int p2, .int p3] : List Value).toArray wsX10_sums RX10 := ⟨B.exec, B.bytes, hml, findClass_of_methodNamed B.named, atoms_spec (ws := wsX10_sums) B.pre⟩
  have hx := hC.1
  have hb := hC.2.1
  have hown := hC.2.2.2.1
  have hts := hC.2.2.2.2
  have hr := B.returns
  have hlocks := B.notSynchronized
  have hW := g_H_enter hW0
  have hi10 : ∀ w ∈ wsX100, w ∈ wsX10_sums := by decide +kernel
  have hl := lv_entry ([.ref (G.2.2.1 0), .int p1, .int p2, .int p3]) (n := 7) (Nat.le_of_ble_eq_true rfl)
  rw [lg_entry_eq]
  generalize (lg_sl ([.ref (G.2.2.1 0), .int p1, .int p2, .int p3]) ++ List.replicate (7 - (lg_sl ([.ref (G.2.2.1 0), .int p1, .int p2, .int p3])).length) Slot.unset).toArray = ls at hl ⊢
  have hl : lv_has ls 7 [(0, .ref (G.2.2.1 0)), (1, .int p1), (2, .int p2), (3, .int p3)] := hl
  obtain ⟨Q, hQ⟩ : ∃ Q, Q = MQ below (g_Qi ZM G r0 m0) ([.ref (G.2.2.1 0), .int p1, .int p2, .int p3] : List Value).toArray s 0 0 (g_A ZM G) := ⟨_, rfl⟩
  refine g_goQ hQ ?_
  unfold f_X10_sums at hf
  refine g_start hW (fun H locs hW => ?_)
  refine lv_iconst (v := 0) hx hb dX10_sums_0 (by decide) ?_
  refine lv_istore (lv' := [(4, .int 0), (0, .ref (G.2.2.1 0)), (1, .int p1), (2, .int p2), (3, .int p3)]) hx hb dX10_sums_1 hl (by decide) rfl (fun ls hl => ?_)
  refine lv_aload_n hx hb dX10_sums_3 rfl (lv_at hl 1 rfl) ?_
  refine lv_iload_n hx hb dX10_sums_4 rfl (lv_at hl 2 rfl) ?_
  refine lv_iload_n hx hb dX10_sums_5 rfl (lv_at hl 3 rfl) ?_
  refine lv_iload_n hx hb dX10_sums_6 rfl (lv_at hl 4 rfl) ?_
  obtain ⟨r1, hg, hf⟩ := ob_inv hf
  refine g_cVi hC hW (o := 0) (ci := 10) (As := [.int p1, .int p2, .int p3]) (rest := []) zm_k0 zm_b0 rfl (c_X10_nextBid l G  hg) (cwV 3 hts gX10_sums_X10_nextBid rfl rfl rfl (by decide +kernel) ⟨Nat.le_of_ble_eq_true rfl, Nat.le_of_ble_eq_true rfl⟩) rfl hl.1 rfl (Nat.le_of_ble_eq_true rfl) dX10_sums_7 ⟨Nat.le_of_ble_eq_true rfl, Nat.le_of_ble_eq_true rfl⟩ (fun H locs hW => ?_)
  refine lv_istore (lv' := [(5, .int r1), (4, .int 0), (0, .ref (G.2.2.1 0)), (1, .int p1), (2, .int p2), (3, .int p3)]) hx hb dX10_sums_10 hl (by decide) rfl (fun ls hl => ?_)
  have hL12 : ∀ (n : Nat) (x2 : Int32) (x3 : Int32) (m4 : gM) (y5 : Int32) (y6 : Int32) (m7 : gM) (H : Heap) (locs : List Loc) (ls : Array Slot), f_X10_sums_L12 p1 p2 p3 n x2 x3 m4 = some (y5, y6, m7) → g_H ZM G s H locs m4 → lv_has ls 7 [(0, .ref (G.2.2.1 0)), (1, .int p1), (2, .int p2), (3, .int p3), (4, .int x2), (5, .int x3)] → (∀ (H : Heap) (locs : List Loc) (ls : Array Slot), g_H ZM G s H locs m7 → lv_has ls 7 [(4, .int y5)] → W p l e (headSpec wsX10_sums rmX10_sums).room s m ([.ref (G.2.2.1 0), .int p1, .int p2, .int p3] : List Value).toArray below meth c H locs 0 0 Q (F0 m 118 ls [])) → W p l e (headSpec wsX10_sums rmX10_sums).room s m ([.ref (G.2.2.1 0), .int p1, .int p2, .int p3] : List Value).toArray below meth c H locs 0 0 Q (F0 m 12 ls []) := by
    intro n
    induction n with
    | zero =>
      intro x2 x3 m4 y5 y6 m7 H locs ls hf hW hl hE
      cases hf
    | succ n ih =>
      intro x2 x3 m4 y5 y6 m7 H locs ls hf hW hl hE
      rw [f_X10_sums_L12] at hf
      refine lv_iload hx hb dX10_sums_12 (lv_at hl 5 rfl) ?_
      refine lv_iconst (v := (-1)) hx hb dX10_sums_14 (by decide) ?_
      refine lv_icmp_eq (tgt := 118) hx hb dX10_sums_15 (by decide) (fun c8 => ?_) (fun c8 => ?_)
      · have hf := a_if_t c8 hf
        cases hf
        exact hE H locs ls hW (lv_sub hl [4] rfl)
      · have hf := a_if_f c8 hf
        refine lv_aload_n hx hb dX10_sums_18 rfl (lv_at hl 0 rfl) ?_
        refine g_getr hC hW (o := 0) (ci := 10) (k := 15) zm_k0 zm_b0 rfl hi10 (by decide) rfl (t := 12) zm_r0_15 (by decide +kernel) dX10_sums_19 ?_
        refine lv_iload hx hb dX10_sums_22 (lv_at hl 5 rfl) ?_
        refine lv_iconst (v := 1) hx hb dX10_sums_24 (by decide) ?_
        obtain ⟨m9, h9, hf⟩ := ob_inv hf
        refine g_ist hC hW zm_k12 zm_b12 zm_n12 h9 dX10_sums_25 (fun H locs hW => ?_)
        refine lv_iconst (v := 0) hx hb dX10_sums_26 (by decide) ?_
        refine lv_istore (lv' := [(6, .int 0), (0, .ref (G.2.2.1 0)), (1, .int p1), (2, .int p2), (3, .int p3), (4, .int x2), (5, .int x3)]) hx hb dX10_sums_27 hl (by decide) rfl (fun ls hl => ?_)
        have hL29 : ∀ (n : Nat) (x10 : Int32) (x11 : Int32) (m12 : gM) (y13 : Int32) (y14 : Int32) (m15 : gM) (H : Heap) (locs : List Loc) (ls : Array Slot), f_X10_sums_L29 p3 x3 n x10 x11 m12 = some (y13, y14, m15) → g_H ZM G s H locs m12 → lv_has ls 7 [(0, .ref (G.2.2.1 0)), (1, .int p1), (2, .int p2), (3, .int p3), (4, .int x10), (5, .int x3), (6, .int x11)] → (∀ (H : Heap) (locs : List Loc) (ls : Array Slot), g_H ZM G s H locs m15 → lv_has ls 7 [(0, .ref (G.2.2.1 0)), (1, .int p1), (2, .int p2), (3, .int p3), (4, .int y13)] → W p l e (headSpec wsX10_sums rmX10_sums).room s m ([.ref (G.2.2.1 0), .int p1, .int p2, .int p3] : List Value).toArray below meth c H locs 0 0 Q (F0 m 106 ls [])) → W p l e (headSpec wsX10_sums rmX10_sums).room s m ([.ref (G.2.2.1 0), .int p1, .int p2, .int p3] : List Value).toArray below meth c H locs 0 0 Q (F0 m 29 ls []) := by
          intro n
          induction n with
          | zero =>
            intro x10 x11 m12 y13 y14 m15 H locs ls hf hW hl hE
            cases hf
          | succ n ih =>
            intro x10 x11 m12 y13 y14 m15 H locs ls hf hW hl hE
            rw [f_X10_sums_L29] at hf
            refine lv_iload hx hb dX10_sums_29 (lv_at hl 6 rfl) ?_
            refine lv_aload_n hx hb dX10_sums_31 rfl (lv_at hl 0 rfl) ?_
            refine g_getr hC hW (o := 0) (ci := 10) (k := 13) zm_k0 zm_b0 rfl hi10 (by decide) rfl (t := 10) zm_r0_13 (by decide +kernel) dX10_sums_32 ?_
            refine lv_iload hx hb dX10_sums_35 (lv_at hl 5 rfl) ?_
            obtain ⟨v16, h9, hf⟩ := ob_inv hf
            refine g_ild hC hW zm_k10 zm_b10 zm_n10 h9 dX10_sums_37 ?_
            refine lv_icmp_ge (tgt := 106) hx hb dX10_sums_38 (by decide) (fun c17 => ?_) (fun c17 => ?_)
            · have hf := a_if_t c17 hf
              cases hf
              exact hE H locs ls hW (lv_sub hl [0, 1, 2, 3, 4] rfl)
            · have hf := a_if_f c17 hf
              refine lv_iinc (v := (x10 + 1)) (lv' := [(4, .int (x10 + 1)), (0, .ref (G.2.2.1 0)), (1, .int p1), (2, .int p2), (3, .int p3), (5, .int x3), (6, .int x11)]) hx hb dX10_sums_41 hl (k := 4) rfl (congrArg (fun z => x10 + z) (by decide)) (by decide) rfl (fun ls hl => ?_)
              refine lv_iload_n hx hb dX10_sums_44 rfl (lv_at hl 4 rfl) ?_
              refine lv_iconst (v := 1) hx hb dX10_sums_45 (by decide) ?_
              obtain ⟨m19, hg, hf⟩ := ob_inv hf
              have hJ100 : ∀ (H : Heap) (locs : List Loc) (ls : Array Slot), g_H ZM G s H locs m19 → lv_has ls 7 [(0, .ref (G.2.2.1 0)), (1, .int p1), (2, .int p2), (3, .int p3), (4, .int (x10 + 1)), (5, .int x3), (6, .int x11)] → W p l e (headSpec wsX10_sums rmX10_sums).room s m ([.ref (G.2.2.1 0), .int p1, .int p2, .int p3] : List Value).toArray below meth c H locs 0 0 Q (F0 m 100 ls []) := by
                intro H locs ls hW hl
                refine lv_iinc (v := (x11 + 1)) (lv' := [(6, .int (x11 + 1)), (0, .ref (G.2.2.1 0)), (1, .int p1), (2, .int p2), (3, .int p3), (4, .int (x10 + 1)), (5, .int x3)]) hx hb dX10_sums_100 hl (k := 6) rfl (congrArg (fun z => x11 + z) (by decide)) (by decide) rfl (fun ls hl => ?_)
                refine lv_goto (tgt := 29) hx hb dX10_sums_103 (by decide) ?_
                exact ih _ _ _ _ _ _ _ _ _ hf hW (lv_sub hl [1, 2, 3, 4, 5, 6, 0] rfl) hE
              replace hf := hg
              refine lv_icmp_ne (tgt := 76) hx hb dX10_sums_46 (by decide) (fun c18 => ?_) (fun c18 => ?_)
              · have hf := a_if_f c18 hf
                refine lv_aload_n hx hb dX10_sums_76 rfl (lv_at hl 1 rfl) ?_
                refine g_getr hC hW (o := 0) (ci := 10) (k := 56) zm_k0 zm_b0 rfl hi10 (by decide) rfl (t := 49) zm_r0_56 (by decide +kernel) dX10_sums_77 ?_
                refine lv_iload hx hb dX10_sums_80 (lv_at hl 0 rfl) ?_
                refine lv_aload_n hx hb dX10_sums_82 rfl (lv_at hl 1 rfl) ?_
                refine g_getr hC hW (o := 0) (ci := 10) (k := 56) zm_k0 zm_b0 rfl hi10 (by decide) rfl (t := 49) zm_r0_56 (by decide +kernel) dX10_sums_83 ?_
                refine lv_iload hx hb dX10_sums_86 (lv_at hl 0 rfl) ?_
                refine lv_iconst (v := 1) hx hb dX10_sums_88 (by decide) ?_
                refine lv_isub hx hb dX10_sums_89 ?_
                obtain ⟨v20, h9, hf⟩ := ob_inv hf
                refine g_ild hC hW zm_k49 zm_b49 zm_n49 h9 dX10_sums_90 ?_
                refine lv_aload_n hx hb dX10_sums_91 rfl (lv_at hl 1 rfl) ?_
                refine g_getr hC hW (o := 0) (ci := 10) (k := 12) zm_k0 zm_b0 rfl hi10 (by decide) rfl (t := 9) zm_r0_12 (by decide +kernel) dX10_sums_92 ?_
                refine lv_iload hx hb dX10_sums_95 (lv_at hl 5 rfl) ?_
                obtain ⟨v21, h9, hf⟩ := ob_inv hf
                refine g_ild hC hW zm_k9 zm_b9 zm_n9 h9 dX10_sums_97 ?_
                refine lv_iadd hx hb dX10_sums_98 ?_
                obtain ⟨m22, h9, hf⟩ := ob_inv hf
                refine g_ist hC hW zm_k49 zm_b49 zm_n49 h9 dX10_sums_99 (fun H locs hW => ?_)
                cases hf
                exact hJ100 H locs ls hW (lv_sub hl [1, 2, 3, 4, 0, 5, 6] rfl)
              · have hf := a_if_t c18 hf
                refine lv_aload_n hx hb dX10_sums_49 rfl (lv_at hl 1 rfl) ?_
                refine g_getr hC hW (o := 0) (ci := 10) (k := 57) zm_k0 zm_b0 rfl hi10 (by decide) rfl (t := 50) zm_r0_57 (by decide +kernel) dX10_sums_50 ?_
                refine lv_iload hx hb dX10_sums_53 (lv_at hl 0 rfl) ?_
                refine lv_aload_n hx hb dX10_sums_55 rfl (lv_at hl 1 rfl) ?_
                refine g_getr hC hW (o := 0) (ci := 10) (k := 57) zm_k0 zm_b0 rfl hi10 (by decide) rfl (t := 50) zm_r0_57 (by decide +kernel) dX10_sums_56 ?_
                refine lv_iload hx hb dX10_sums_59 (lv_at hl 0 rfl) ?_
                refine lv_iconst (v := 1) hx hb dX10_sums_61 (by decide) ?_
                refine lv_isub hx hb dX10_sums_62 ?_
                obtain ⟨v23, h9, hf⟩ := ob_inv hf
                refine g_ild hC hW zm_k50 zm_b50 zm_n50 h9 dX10_sums_63 ?_
                refine lv_aload_n hx hb dX10_sums_64 rfl (lv_at hl 1 rfl) ?_
                refine g_getr hC hW (o := 0) (ci := 10) (k := 12) zm_k0 zm_b0 rfl hi10 (by decide) rfl (t := 9) zm_r0_12 (by decide +kernel) dX10_sums_65 ?_
                refine lv_iload hx hb dX10_sums_68 (lv_at hl 5 rfl) ?_
                obtain ⟨v24, h9, hf⟩ := ob_inv hf
                refine g_ild hC hW zm_k9 zm_b9 zm_n9 h9 dX10_sums_70 ?_
                refine lv_iadd hx hb dX10_sums_71 ?_
                obtain ⟨m25, h9, hf⟩ := ob_inv hf
                refine g_ist hC hW zm_k50 zm_b50 zm_n50 h9 dX10_sums_72 (fun H locs hW => ?_)
                refine lv_goto (tgt := 100) hx hb dX10_sums_73 (by decide) ?_
                cases hf
                exact hJ100 H locs ls hW (lv_sub hl [1, 2, 3, 4, 0, 5, 6] rfl)
        obtain ⟨⟨y13, y14, m15⟩, hg, hf⟩ := ob_inv hf
        have hf := ob_inv3 hf
        refine hL29 _ _ _ _ _ _ _ _ _ _ hg hW (lv_sub hl [1, 2, 3, 4, 5, 6, 0] rfl) (fun H locs ls hW hl => ?_)
        refine lv_aload_n hx hb dX10_sums_106 rfl (lv_at hl 0 rfl) ?_
        refine lv_iload_n hx hb dX10_sums_107 rfl (lv_at hl 1 rfl) ?_
        refine lv_iload_n hx hb dX10_sums_108 rfl (lv_at hl 2 rfl) ?_
        refine lv_iload_n hx hb dX10_sums_109 rfl (lv_at hl 3 rfl) ?_
        obtain ⟨r26, hg, hf⟩ := ob_inv hf
        refine g_cVi hC hW (o := 0) (ci := 10) (As := [.int p1, .int p2, .int p3]) (rest := []) zm_k0 zm_b0 rfl (c_X10_nextBid l G  hg) (cwV 3 hts gX10_sums_X10_nextBid rfl rfl rfl (by decide +kernel) ⟨Nat.le_of_ble_eq_true rfl, Nat.le_of_ble_eq_true rfl⟩) rfl hl.1 rfl (Nat.le_of_ble_eq_true rfl) dX10_sums_110 ⟨Nat.le_of_ble_eq_true rfl, Nat.le_of_ble_eq_true rfl⟩ (fun H locs hW => ?_)
        refine lv_istore (lv' := [(5, .int r26), (0, .ref (G.2.2.1 0)), (1, .int p1), (2, .int p2), (3, .int p3), (4, .int y13)]) hx hb dX10_sums_113 hl (by decide) rfl (fun ls hl => ?_)
        refine lv_goto (tgt := 12) hx hb dX10_sums_115 (by decide) ?_
        exact ih _ _ _ _ _ _ _ _ _ hf hW (lv_sub hl [1, 2, 3, 4, 5, 0] rfl) hE
  obtain ⟨⟨y5, y6, m7⟩, hg, hf⟩ := ob_inv hf
  have hf := ob_inv3 hf
  refine hL12 _ _ _ _ _ _ _ _ _ _ hg hW (lv_sub hl [2, 3, 4, 5, 1, 0] rfl) (fun H locs ls hW hl => ?_)
  refine lv_iload hx hb dX10_sums_118 (lv_at hl 0 rfl) ?_
  cases hf
  subst hQ
  exact g_iret hC hW hr hlocks rfl rfl dX10_sums_120
abbrev rmX10_weighs : Room := { frames := 2, cells := 0, slots := 0, locals := 53 }
set_option maxHeartbeats 4000000 in
set_option maxRecDepth 100000 in
theorem c_X10_weighs (l : Launch) (G : gG) {p1 : Int32} {p2 : Int32} {me : gM} {m0 : gM}  (hf : f_X10_weighs p1 p2 me = some m0) : Met l yX10_weighs wsX10_weighs rmX10_weighs (va_Pc [.ref (G.2.2.1 0), .int p1, .int p2] (g_W ZM G me)) (g_Qv ZM G m0) 0 0 (g_A ZM G) := by
  refine Met.ofW (cc := cX10_weighs) (maxL := 8) (ret := none) (by decide) rfl ?_
  intro p e s m args below meth c s₁ B hml hv
  obtain ⟨rfl, hW0⟩ := hv
  have hC : CallFix p m c cX10_weighs 8 s ([.ref (G.2.2.1 0), .int p1, .int p2] : List Value).toArray wsX10_weighs RX10 := ⟨B.exec, B.bytes, hml, findClass_of_methodNamed B.named, atoms_spec (ws := wsX10_weighs) B.pre⟩
  have hx := hC.1
  have hb := hC.2.1
  have hown := hC.2.2.2.1
  have hts := hC.2.2.2.2
  have hr := B.returns
  have hlocks := B.notSynchronized
  have hW := g_H_enter hW0
  have hi10 : ∀ w ∈ wsX100, w ∈ wsX10_weighs := by decide +kernel
  have hl := lv_entry ([.ref (G.2.2.1 0), .int p1, .int p2]) (n := 8) (Nat.le_of_ble_eq_true rfl)
  rw [lg_entry_eq]
  generalize (lg_sl ([.ref (G.2.2.1 0), .int p1, .int p2]) ++ List.replicate (8 - (lg_sl ([.ref (G.2.2.1 0), .int p1, .int p2])).length) Slot.unset).toArray = ls at hl ⊢
  have hl : lv_has ls 8 [(0, .ref (G.2.2.1 0)), (1, .int p1), (2, .int p2)] := hl
  obtain ⟨Q, hQ⟩ : ∃ Q, Q = MQ below (g_Qv ZM G m0) ([.ref (G.2.2.1 0), .int p1, .int p2] : List Value).toArray s 0 0 (g_A ZM G) := ⟨_, rfl⟩
  refine g_goQ hQ ?_
  unfold f_X10_weighs at hf
  refine g_start hW (fun H locs hW => ?_)
  refine lv_aload_n hx hb dX10_weighs_0 rfl (lv_at hl 0 rfl) ?_
  refine lv_aload_n hx hb dX10_weighs_1 rfl (lv_at hl 0 rfl) ?_
  refine lv_iload_n hx hb dX10_weighs_2 rfl (lv_at hl 1 rfl) ?_
  refine lv_iload_n hx hb dX10_weighs_3 rfl (lv_at hl 2 rfl) ?_
  refine lv_iconst (v := 0) hx hb dX10_weighs_4 (by decide) ?_
  obtain ⟨⟨r1, m2⟩, hg, hf⟩ := ob_inv hf
  have hf := ob_inv2 hf
  refine g_cVi hC hW (o := 0) (ci := 10) (As := [.int p1, .int p2, .int 0]) (rest := [.ref (G.2.2.1 0)]) zm_k0 zm_b0 rfl (c_X10_sums l G  hg) (cwV 3 hts gX10_weighs_X10_sums rfl rfl rfl (by decide +kernel) ⟨Nat.le_of_ble_eq_true rfl, Nat.le_of_ble_eq_true rfl⟩) rfl hl.1 rfl (Nat.le_of_ble_eq_true rfl) dX10_weighs_5 ⟨Nat.le_of_ble_eq_true rfl, Nat.le_of_ble_eq_true rfl⟩ (fun H locs hW => ?_)
  obtain ⟨m4, h9, hf⟩ := ob_inv hf
  refine g_puti hC hW (o := 0) (ci := 10) (k := 58) zm_k0 zm_b0 rfl hi10 tyX10_ok nmX10 (by decide) rfl rfl rfl (by decide +kernel) dX10_weighs_8 (fun H locs hW => ?_)
  rw [Option.some.inj h9] at hW
  refine lv_aload_n hx hb dX10_weighs_11 rfl (lv_at hl 0 rfl) ?_
  refine lv_aload_n hx hb dX10_weighs_12 rfl (lv_at hl 0 rfl) ?_
  refine lv_iload_n hx hb dX10_weighs_13 rfl (lv_at hl 1 rfl) ?_
  refine lv_iload_n hx hb dX10_weighs_14 rfl (lv_at hl 2 rfl) ?_
  refine lv_iconst (v := 1) hx hb dX10_weighs_15 (by decide) ?_
  obtain ⟨⟨r5, m6⟩, hg, hf⟩ := ob_inv hf
  have hf := ob_inv2 hf
  refine g_cVi hC hW (o := 0) (ci := 10) (As := [.int p1, .int p2, .int 1]) (rest := [.ref (G.2.2.1 0)]) zm_k0 zm_b0 rfl (c_X10_sums l G  hg) (cwV 3 hts gX10_weighs_X10_sums rfl rfl rfl (by decide +kernel) ⟨Nat.le_of_ble_eq_true rfl, Nat.le_of_ble_eq_true rfl⟩) rfl hl.1 rfl (Nat.le_of_ble_eq_true rfl) dX10_weighs_16 ⟨Nat.le_of_ble_eq_true rfl, Nat.le_of_ble_eq_true rfl⟩ (fun H locs hW => ?_)
  obtain ⟨m8, h9, hf⟩ := ob_inv hf
  refine g_puti hC hW (o := 0) (ci := 10) (k := 59) zm_k0 zm_b0 rfl hi10 tyX10_ok nmX10 (by decide) rfl rfl rfl (by decide +kernel) dX10_weighs_19 (fun H locs hW => ?_)
  rw [Option.some.inj h9] at hW
  refine lv_iconst (v := 0) hx hb dX10_weighs_22 (by decide) ?_
  refine lv_istore_n (lv' := [(3, .int 0), (0, .ref (G.2.2.1 0)), (1, .int p1), (2, .int p2)]) hx hb dX10_weighs_23 rfl hl (by decide) rfl (fun ls hl => ?_)
  have hL24 : ∀ (n : Nat) (x9 : Int32) (m10 : gM) (y11 : Int32) (m12 : gM) (H : Heap) (locs : List Loc) (ls : Array Slot), f_X10_weighs_L24 p1 p2 n x9 m10 = some (y11, m12) → g_H ZM G s H locs m10 → lv_has ls 8 [(0, .ref (G.2.2.1 0)), (1, .int p1), (2, .int p2), (3, .int x9)] → (∀ (H : Heap) (locs : List Loc) (ls : Array Slot), g_H ZM G s H locs m12 → lv_has ls 8 [] → W p l e (headSpec wsX10_weighs rmX10_weighs).room s m ([.ref (G.2.2.1 0), .int p1, .int p2] : List Value).toArray below meth c H locs 0 0 Q (F0 m 164 ls [])) → W p l e (headSpec wsX10_weighs rmX10_weighs).room s m ([.ref (G.2.2.1 0), .int p1, .int p2] : List Value).toArray below meth c H locs 0 0 Q (F0 m 24 ls []) := by
    intro n
    induction n with
    | zero =>
      intro x9 m10 y11 m12 H locs ls hf hW hl hE
      cases hf
    | succ n ih =>
      intro x9 m10 y11 m12 H locs ls hf hW hl hE
      rw [f_X10_weighs_L24] at hf
      refine lv_iload_n hx hb dX10_weighs_24 rfl (lv_at hl 3 rfl) ?_
      refine lv_sipush (v := 161) hx hb dX10_weighs_25 (by decide) ?_
      refine lv_icmp_ge (tgt := 164) hx hb dX10_weighs_28 (by decide) (fun c13 => ?_) (fun c13 => ?_)
      · have hf := a_if_t c13 hf
        cases hf
        exact hE H locs ls hW (lv_sub hl [] rfl)
      · have hf := a_if_f c13 hf
        refine lv_sipush (v := 161) hx hb dX10_weighs_31 (by decide) ?_
        refine lv_iconst (v := 4) hx hb dX10_weighs_34 (by decide) ?_
        refine lv_iload_n hx hb dX10_weighs_35 rfl (lv_at hl 1 rfl) ?_
        refine lv_imul hx hb dX10_weighs_36 ?_
        refine lv_iload_n hx hb dX10_weighs_37 rfl (lv_at hl 2 rfl) ?_
        refine lv_iadd hx hb dX10_weighs_38 ?_
        refine lv_imul hx hb dX10_weighs_39 ?_
        refine lv_iload_n hx hb dX10_weighs_40 rfl (lv_at hl 3 rfl) ?_
        refine lv_iadd hx hb dX10_weighs_41 ?_
        obtain ⟨x14, h9, hf⟩ := ob_inv hf
        refine g_nmi (Option.some.inj h9) ?_
        refine lv_istore (lv' := [(4, .int x14), (0, .ref (G.2.2.1 0)), (1, .int p1), (2, .int p2), (3, .int x9)]) hx hb dX10_weighs_42 hl (by decide) rfl (fun ls hl => ?_)
        refine lv_iload_n hx hb dX10_weighs_44 rfl (lv_at hl 4 rfl) ?_
        refine lv_bipush (v := 80) hx hb dX10_weighs_45 (by decide) ?_
        refine lv_isub hx hb dX10_weighs_47 ?_
        obtain ⟨x15, h9, hf⟩ := ob_inv hf
        refine g_nmi (Option.some.inj h9) ?_
        refine lv_istore (lv' := [(5, .int x15), (4, .int x14), (0, .ref (G.2.2.1 0)), (1, .int p1), (2, .int p2), (3, .int x9)]) hx hb dX10_weighs_48 hl (by decide) rfl (fun ls hl => ?_)
        refine lv_aload_n hx hb dX10_weighs_50 rfl (lv_at hl 2 rfl) ?_
        refine g_getr hC hW (o := 0) (ci := 10) (k := 60) zm_k0 zm_b0 rfl hi10 (by decide) rfl (t := 51) zm_r0_60 (by decide +kernel) dX10_weighs_51 ?_
        refine lv_iload hx hb dX10_weighs_54 (lv_at hl 1 rfl) ?_
        refine lv_ldc (v := (-1000000000)) hx hb hown (hts _ (by decide +kernel : Cond.constant RX10 223 (-1000000000) ∈ wsX10_weighs)) dX10_weighs_56 ?_
        obtain ⟨m16, h9, hf⟩ := ob_inv hf
        refine g_ist hC hW zm_k51 zm_b51 zm_n51 h9 dX10_weighs_58 (fun H locs hW => ?_)
        refine lv_aload_n hx hb dX10_weighs_59 rfl (lv_at hl 2 rfl) ?_
        refine g_getr hC hW (o := 0) (ci := 10) (k := 61) zm_k0 zm_b0 rfl hi10 (by decide) rfl (t := 52) zm_r0_61 (by decide +kernel) dX10_weighs_60 ?_
        refine lv_iload hx hb dX10_weighs_63 (lv_at hl 1 rfl) ?_
        refine lv_iconst (v := 0) hx hb dX10_weighs_65 (by decide) ?_
        obtain ⟨m17, h9, hf⟩ := ob_inv hf
        refine g_ist hC hW zm_k52 zm_b52 zm_n52 h9 dX10_weighs_66 (fun H locs hW => ?_)
        refine lv_iload hx hb dX10_weighs_67 (lv_at hl 0 rfl) ?_
        obtain ⟨z19, hg, hf⟩ := ob_inv hf
        have hJ79 : ∀ (H : Heap) (locs : List Loc) (ls : Array Slot), g_H ZM G s H locs m17 → lv_has ls 8 [(0, .ref (G.2.2.1 0)), (1, .int p1), (2, .int p2), (3, .int x9), (4, .int x14), (5, .int x15)] → W p l e (headSpec wsX10_weighs rmX10_weighs).room s m ([.ref (G.2.2.1 0), .int p1, .int p2] : List Value).toArray below meth c H locs 0 0 Q (F0 m 79 ls [.int z19]) := by
          intro H locs ls hW hl
          refine lv_istore (lv' := [(6, .int z19), (0, .ref (G.2.2.1 0)), (1, .int p1), (2, .int p2), (3, .int x9), (4, .int x14), (5, .int x15)]) hx hb dX10_weighs_79 hl (by decide) rfl (fun ls hl => ?_)
          have hL81 : ∀ (n : Nat) (x20 : Int32) (m21 : gM) (y22 : Int32) (m23 : gM) (H : Heap) (locs : List Loc) (ls : Array Slot), f_X10_weighs_L81 x14 x15 n x20 m21 = some (y22, m23) → g_H ZM G s H locs m21 → lv_has ls 8 [(0, .ref (G.2.2.1 0)), (1, .int p1), (2, .int p2), (3, .int x9), (4, .int x14), (5, .int x15), (6, .int x20)] → (∀ (H : Heap) (locs : List Loc) (ls : Array Slot), g_H ZM G s H locs m23 → lv_has ls 8 [(0, .ref (G.2.2.1 0)), (1, .int p1), (2, .int p2), (3, .int x9)] → W p l e (headSpec wsX10_weighs rmX10_weighs).room s m ([.ref (G.2.2.1 0), .int p1, .int p2] : List Value).toArray below meth c H locs 0 0 Q (F0 m 158 ls [])) → W p l e (headSpec wsX10_weighs rmX10_weighs).room s m ([.ref (G.2.2.1 0), .int p1, .int p2] : List Value).toArray below meth c H locs 0 0 Q (F0 m 81 ls []) := by
            intro n
            induction n with
            | zero =>
              intro x20 m21 y22 m23 H locs ls hf hW hl hE
              cases hf
            | succ n ih =>
              intro x20 m21 y22 m23 H locs ls hf hW hl hE
              rw [f_X10_weighs_L81] at hf
              refine lv_iload hx hb dX10_weighs_81 (lv_at hl 6 rfl) ?_
              refine lv_aload_n hx hb dX10_weighs_83 rfl (lv_at hl 0 rfl) ?_
              refine g_geti hC hW (o := 0) (ci := 10) (k := 59) zm_k0 zm_b0 rfl hi10 (by decide) rfl (by decide +kernel) dX10_weighs_84 ?_
              refine lv_icmp_gt (tgt := 158) hx hb dX10_weighs_87 (by decide) (fun c24 => ?_) (fun c24 => ?_)
              · have hf := a_if_t c24 hf
                cases hf
                exact hE H locs ls hW (lv_sub hl [0, 1, 2, 3] rfl)
              · have hf := a_if_f c24 hf
                refine lv_iload hx hb dX10_weighs_90 (lv_at hl 5 rfl) ?_
                refine lv_iload hx hb dX10_weighs_92 (lv_at hl 6 rfl) ?_
                refine lv_iadd hx hb dX10_weighs_94 ?_
                refine lv_aload_n hx hb dX10_weighs_95 rfl (lv_at hl 0 rfl) ?_
                refine g_geti hC hW (o := 0) (ci := 10) (k := 58) zm_k0 zm_b0 rfl hi10 (by decide) rfl (by decide +kernel) dX10_weighs_96 ?_
                refine lv_icmp_gt (tgt := 158) hx hb dX10_weighs_99 (by decide) (fun c25 => ?_) (fun c25 => ?_)
                · have hf := a_if_t c25 hf
                  cases hf
                  exact hE H locs ls hW (lv_sub hl [0, 1, 2, 3] rfl)
                · have hf := a_if_f c25 hf
                  refine lv_aload_n hx hb dX10_weighs_102 rfl (lv_at hl 0 rfl) ?_
                  refine g_getr hC hW (o := 0) (ci := 10) (k := 57) zm_k0 zm_b0 rfl hi10 (by decide) rfl (t := 50) zm_r0_57 (by decide +kernel) dX10_weighs_103 ?_
                  refine lv_iload hx hb dX10_weighs_106 (lv_at hl 6 rfl) ?_
                  obtain ⟨v26, h9, hf⟩ := ob_inv hf
                  refine g_ild hC hW zm_k50 zm_b50 zm_n50 h9 dX10_weighs_108 ?_
                  refine lv_aload_n hx hb dX10_weighs_109 rfl (lv_at hl 0 rfl) ?_
                  refine g_getr hC hW (o := 0) (ci := 10) (k := 56) zm_k0 zm_b0 rfl hi10 (by decide) rfl (t := 49) zm_r0_56 (by decide +kernel) dX10_weighs_110 ?_
                  refine lv_iload hx hb dX10_weighs_113 (lv_at hl 5 rfl) ?_
                  refine lv_iload hx hb dX10_weighs_115 (lv_at hl 6 rfl) ?_
                  refine lv_iadd hx hb dX10_weighs_117 ?_
                  obtain ⟨v27, h9, hf⟩ := ob_inv hf
                  refine g_ild hC hW zm_k49 zm_b49 zm_n49 h9 dX10_weighs_118 ?_
                  refine lv_isub hx hb dX10_weighs_119 ?_
                  obtain ⟨x28, h9, hf⟩ := ob_inv hf
                  refine g_nmi (Option.some.inj h9) ?_
                  refine lv_istore (lv' := [(7, .int x28), (0, .ref (G.2.2.1 0)), (1, .int p1), (2, .int p2), (3, .int x9), (4, .int x14), (5, .int x15), (6, .int x20)]) hx hb dX10_weighs_120 hl (by decide) rfl (fun ls hl => ?_)
                  refine lv_iload hx hb dX10_weighs_122 (lv_at hl 0 rfl) ?_
                  refine lv_aload_n hx hb dX10_weighs_124 rfl (lv_at hl 1 rfl) ?_
                  refine g_getr hC hW (o := 0) (ci := 10) (k := 60) zm_k0 zm_b0 rfl hi10 (by decide) rfl (t := 51) zm_r0_60 (by decide +kernel) dX10_weighs_125 ?_
                  refine lv_iload hx hb dX10_weighs_128 (lv_at hl 5 rfl) ?_
                  obtain ⟨v29, h9, hf⟩ := ob_inv hf
                  refine g_ild hC hW zm_k51 zm_b51 zm_n51 h9 dX10_weighs_130 ?_
                  obtain ⟨m31, hg, hf⟩ := ob_inv hf
                  have hJ152 : ∀ (H : Heap) (locs : List Loc) (ls : Array Slot), g_H ZM G s H locs m31 → lv_has ls 8 [(0, .ref (G.2.2.1 0)), (1, .int p1), (2, .int p2), (3, .int x9), (4, .int x14), (5, .int x15), (6, .int x20)] → W p l e (headSpec wsX10_weighs rmX10_weighs).room s m ([.ref (G.2.2.1 0), .int p1, .int p2] : List Value).toArray below meth c H locs 0 0 Q (F0 m 152 ls []) := by
                    intro H locs ls hW hl
                    refine lv_iinc (v := (x20 + 1)) (lv' := [(6, .int (x20 + 1)), (0, .ref (G.2.2.1 0)), (1, .int p1), (2, .int p2), (3, .int x9), (4, .int x14), (5, .int x15)]) hx hb dX10_weighs_152 hl (k := 6) rfl (congrArg (fun z => x20 + z) (by decide)) (by decide) rfl (fun ls hl => ?_)
                    refine lv_goto (tgt := 81) hx hb dX10_weighs_155 (by decide) ?_
                    exact ih _ _ _ _ _ _ _ hf hW (lv_sub hl [1, 2, 3, 4, 5, 6, 0] rfl) hE
                  replace hf := hg
                  refine lv_icmp_le (tgt := 152) hx hb dX10_weighs_131 (by decide) (fun c30 => ?_) (fun c30 => ?_)
                  · have hf := a_if_t c30 hf
                    cases hf
                    exact hJ152 H locs ls hW (lv_sub hl [1, 2, 3, 4, 5, 6, 7] rfl)
                  · have hf := a_if_f c30 hf
                    refine lv_aload_n hx hb dX10_weighs_134 rfl (lv_at hl 1 rfl) ?_
                    refine g_getr hC hW (o := 0) (ci := 10) (k := 60) zm_k0 zm_b0 rfl hi10 (by decide) rfl (t := 51) zm_r0_60 (by decide +kernel) dX10_weighs_135 ?_
                    refine lv_iload hx hb dX10_weighs_138 (lv_at hl 5 rfl) ?_
                    refine lv_iload hx hb dX10_weighs_140 (lv_at hl 0 rfl) ?_
                    obtain ⟨m32, h9, hf⟩ := ob_inv hf
                    refine g_ist hC hW zm_k51 zm_b51 zm_n51 h9 dX10_weighs_142 (fun H locs hW => ?_)
                    refine lv_aload_n hx hb dX10_weighs_143 rfl (lv_at hl 1 rfl) ?_
                    refine g_getr hC hW (o := 0) (ci := 10) (k := 61) zm_k0 zm_b0 rfl hi10 (by decide) rfl (t := 52) zm_r0_61 (by decide +kernel) dX10_weighs_144 ?_
                    refine lv_iload hx hb dX10_weighs_147 (lv_at hl 5 rfl) ?_
                    refine lv_iload hx hb dX10_weighs_149 (lv_at hl 7 rfl) ?_
                    obtain ⟨m33, h9, hf⟩ := ob_inv hf
                    refine g_ist hC hW zm_k52 zm_b52 zm_n52 h9 dX10_weighs_151 (fun H locs hW => ?_)
                    cases hf
                    exact hJ152 H locs ls hW (lv_sub hl [1, 2, 3, 4, 5, 6, 7] rfl)
          obtain ⟨⟨y22, m23⟩, hg, hf⟩ := ob_inv hf
          have hf := ob_inv2 hf
          refine hL81 _ _ _ _ _ _ _ _ hg hW (lv_sub hl [1, 2, 3, 4, 5, 6, 0] rfl) (fun H locs ls hW hl => ?_)
          refine lv_iinc (v := (x9 + 1)) (lv' := [(3, .int (x9 + 1)), (0, .ref (G.2.2.1 0)), (1, .int p1), (2, .int p2)]) hx hb dX10_weighs_158 hl (k := 3) rfl (congrArg (fun z => x9 + z) (by decide)) (by decide) rfl (fun ls hl => ?_)
          refine lv_goto (tgt := 24) hx hb dX10_weighs_161 (by decide) ?_
          exact ih _ _ _ _ _ _ _ hf hW (lv_sub hl [1, 2, 3, 0] rfl) hE
        replace hf := hg
        refine lv_if_ge (tgt := 78) hx hb dX10_weighs_69 (by decide) (fun c18 => ?_) (fun c18 => ?_)
        · have hf := a_if_t c18 hf
          refine lv_iconst (v := 0) hx hb dX10_weighs_78 (by decide) ?_
          cases hf
          exact hJ79 H locs ls hW (lv_sub hl [2, 3, 4, 5, 1, 0] rfl)
        · have hf := a_if_f c18 hf
          refine lv_iload hx hb dX10_weighs_72 (lv_at hl 0 rfl) ?_
          refine lv_ineg hx hb dX10_weighs_74 ?_
          refine lv_goto (tgt := 79) hx hb dX10_weighs_75 (by decide) ?_
          cases hf
          exact hJ79 H locs ls hW (lv_sub hl [2, 3, 4, 5, 1, 0] rfl)
  obtain ⟨⟨y11, m12⟩, hg, hf⟩ := ob_inv hf
  have hf := ob_inv2 hf
  refine hL24 _ _ _ _ _ _ _ _ hg hW (lv_sub hl [1, 2, 3, 0] rfl) (fun H locs ls hW hl => ?_)
  cases hf
  subst hQ
  exact g_vret hC hW hr hlocks rfl dX10_weighs_164
abbrev rmX10_away : Room := { frames := 0, cells := 0, slots := 0, locals := 0 }
set_option maxHeartbeats 4000000 in
set_option maxRecDepth 100000 in
theorem c_X10_away (l : Launch) (G : gG) {p0 : Int32} {me : gM} {r0 : Int32}  (hf : f_X10_away p0 = some r0) : Met l yX10_away wsX10_away rmX10_away (va_Pc [.int p0] (g_W ZM G me)) (g_Qi ZM G r0 me) 0 0 (g_A ZM G) := by
  refine Met.ofW (cc := cX10_away) (maxL := 1) (ret := (some .int)) (by decide) rfl ?_
  intro p e s m args below meth c s₁ B hml hv
  obtain ⟨rfl, hW0⟩ := hv
  have hC : CallFix p m c cX10_away 1 s ([.int p0] : List Value).toArray wsX10_away RX10 := ⟨B.exec, B.bytes, hml, findClass_of_methodNamed B.named, atoms_spec (ws := wsX10_away) B.pre⟩
  have hx := hC.1
  have hb := hC.2.1
  have hown := hC.2.2.2.1
  have hts := hC.2.2.2.2
  have hr := B.returns
  have hlocks := B.notSynchronized
  have hW := g_H_enter hW0
  have hl := lv_entry ([.int p0]) (n := 1) (Nat.le_of_ble_eq_true rfl)
  rw [lg_entry_eq]
  generalize (lg_sl ([.int p0]) ++ List.replicate (1 - (lg_sl ([.int p0])).length) Slot.unset).toArray = ls at hl ⊢
  have hl : lv_has ls 1 [(0, .int p0)] := hl
  obtain ⟨Q, hQ⟩ : ∃ Q, Q = MQ below (g_Qi ZM G r0 me) ([.int p0] : List Value).toArray s 0 0 (g_A ZM G) := ⟨_, rfl⟩
  refine g_goQ hQ ?_
  unfold f_X10_away at hf
  refine g_start hW (fun H locs hW => ?_)
  refine lv_iload_n hx hb dX10_away_0 rfl (lv_at hl 0 rfl) ?_
  obtain ⟨z2, hg, hf⟩ := ob_inv hf
  have hJ10 : ∀ (H : Heap) (locs : List Loc) (ls : Array Slot), g_H ZM G s H locs me → lv_has ls 1 [] → W p l e (headSpec wsX10_away rmX10_away).room s m ([.int p0] : List Value).toArray below meth c H locs 0 0 Q (F0 m 10 ls [.int z2]) := by
    intro H locs ls hW hl
    cases hf
    subst hQ
    exact g_iret hC hW hr hlocks rfl rfl dX10_away_10
  replace hf := hg
  refine lv_if_ge (tgt := 9) hx hb dX10_away_1 (by decide) (fun c1 => ?_) (fun c1 => ?_)
  · have hf := a_if_t c1 hf
    refine lv_iload_n hx hb dX10_away_9 rfl (lv_at hl 0 rfl) ?_
    cases hf
    exact hJ10 H locs ls hW (lv_sub hl [] rfl)
  · have hf := a_if_f c1 hf
    refine lv_iload_n hx hb dX10_away_4 rfl (lv_at hl 0 rfl) ?_
    refine lv_ineg hx hb dX10_away_5 ?_
    refine lv_goto (tgt := 10) hx hb dX10_away_6 (by decide) ?_
    cases hf
    exact hJ10 H locs ls hW (lv_sub hl [] rfl)
abbrev rmX10_fits : Room := { frames := 1, cells := 0, slots := 0, locals := 20 }
set_option maxHeartbeats 4000000 in
set_option maxRecDepth 100000 in
theorem c_X10_fits (l : Launch) (G : gG) {p1 : Int32} {p2 : Int32} {p3 : Int32} {me : gM} {r0 : Int32}  (hf : f_X10_fits p1 p2 p3 me = some r0) : Met l yX10_fits wsX10_fits rmX10_fits (va_Pc [.ref (G.2.2.1 0), .int p1, .int p2, .int p3] (g_W ZM G me)) (g_Qi ZM G r0 me) 0 0 (g_A ZM G) := by
  refine Met.ofW (cc := cX10_fits) (maxL := 4) (ret := (some .boolean)) (by decide) rfl ?_
  intro p e s m args below meth c s₁ B hml hv
  obtain ⟨rfl, hW0⟩ := hv
  have hC : CallFix p m c cX10_fits 4 s ([.ref (G.2.2.1 0), .int p1, .int p2, .int p3] : List Value).toArray wsX10_fits RX10 := ⟨B.exec, B.bytes, hml, findClass_of_methodNamed B.named, atoms_spec (ws := wsX10_fits) B.pre⟩
  have hx := hC.1
  have hb := hC.2.1
  have hown := hC.2.2.2.1
  have hts := hC.2.2.2.2
  have hr := B.returns
  have hlocks := B.notSynchronized
  have hW := g_H_enter hW0
  have hi10 : ∀ w ∈ wsX100, w ∈ wsX10_fits := by decide +kernel
  have hl := lv_entry ([.ref (G.2.2.1 0), .int p1, .int p2, .int p3]) (n := 4) (Nat.le_of_ble_eq_true rfl)
  rw [lg_entry_eq]
  generalize (lg_sl ([.ref (G.2.2.1 0), .int p1, .int p2, .int p3]) ++ List.replicate (4 - (lg_sl ([.ref (G.2.2.1 0), .int p1, .int p2, .int p3])).length) Slot.unset).toArray = ls at hl ⊢
  have hl : lv_has ls 4 [(0, .ref (G.2.2.1 0)), (1, .int p1), (2, .int p2), (3, .int p3)] := hl
  obtain ⟨Q, hQ⟩ : ∃ Q, Q = MQ below (g_Qi ZM G r0 me) ([.ref (G.2.2.1 0), .int p1, .int p2, .int p3] : List Value).toArray s 0 0 (g_A ZM G) := ⟨_, rfl⟩
  refine g_goQ hQ ?_
  unfold f_X10_fits at hf
  refine g_start hW (fun H locs hW => ?_)
  refine lv_iload_n hx hb dX10_fits_0 rfl (lv_at hl 1 rfl) ?_
  refine lv_iload_n hx hb dX10_fits_1 rfl (lv_at hl 2 rfl) ?_
  refine lv_isub hx hb dX10_fits_2 ?_
  obtain ⟨r1, hg, hf⟩ := ob_inv hf
  refine g_cSi hC hW (As := [.int (p1 - p2)]) (rest := []) (c_X10_away l G  hg) (va_cwS 1 hts gX10_fits_X10_away rfl rfl rfl (by decide +kernel) ⟨Nat.le_of_ble_eq_true rfl, Nat.le_of_ble_eq_true rfl⟩) rfl hl.1 rfl (Nat.le_of_ble_eq_true rfl) dX10_fits_3 ⟨Nat.le_of_ble_eq_true rfl, Nat.le_of_ble_eq_true rfl⟩ (fun H locs hW => ?_)
  refine lv_iconst (v := 3) hx hb dX10_fits_6 (by decide) ?_
  refine lv_aload_n hx hb dX10_fits_7 rfl (lv_at hl 0 rfl) ?_
  refine g_getr hC hW (o := 0) (ci := 10) (k := 2) zm_k0 zm_b0 rfl hi10 (by decide) rfl (t := 1) zm_r0_2 (by decide +kernel) dX10_fits_8 ?_
  refine lv_iconst (v := 0) hx hb dX10_fits_11 (by decide) ?_
  obtain ⟨v2, h9, hf⟩ := ob_inv hf
  refine g_ild hC hW zm_k1 zm_b1 zm_n1 h9 dX10_fits_12 ?_
  refine lv_imul hx hb dX10_fits_13 ?_
  obtain ⟨z4, hg, hf⟩ := ob_inv hf
  have hJ56 : ∀ (H : Heap) (locs : List Loc) (ls : Array Slot), g_H ZM G s H locs me → lv_has ls 4 [] → W p l e (headSpec wsX10_fits rmX10_fits).room s m ([.ref (G.2.2.1 0), .int p1, .int p2, .int p3] : List Value).toArray below meth c H locs 0 0 Q (F0 m 56 ls [.int z4]) := by
    intro H locs ls hW hl
    obtain ⟨b11, h9, hf⟩ := ob_inv hf
    obtain ⟨h9, hn9⟩ := a_zc_inv h9
    refine g_nmi h9 ?_
    cases hf
    subst hQ
    exact g_zret hC hW hr hlocks hn9 rfl rfl dX10_fits_56
  replace hf := hg
  refine lv_icmp_gt (tgt := 55) hx hb dX10_fits_14 (by decide) (fun c3 => ?_) (fun c3 => ?_)
  · have hf := a_if_t c3 hf
    refine lv_iconst (v := 0) hx hb dX10_fits_55 (by decide) ?_
    cases hf
    exact hJ56 H locs ls hW (lv_sub hl [] rfl)
  · have hf := a_if_f c3 hf
    refine lv_iload_n hx hb dX10_fits_17 rfl (lv_at hl 2 rfl) ?_
    refine lv_iload_n hx hb dX10_fits_18 rfl (lv_at hl 3 rfl) ?_
    refine lv_isub hx hb dX10_fits_19 ?_
    obtain ⟨r5, hg, hf⟩ := ob_inv hf
    refine g_cSi hC hW (As := [.int (p2 - p3)]) (rest := []) (c_X10_away l G  hg) (va_cwS 1 hts gX10_fits_X10_away rfl rfl rfl (by decide +kernel) ⟨Nat.le_of_ble_eq_true rfl, Nat.le_of_ble_eq_true rfl⟩) rfl hl.1 rfl (Nat.le_of_ble_eq_true rfl) dX10_fits_20 ⟨Nat.le_of_ble_eq_true rfl, Nat.le_of_ble_eq_true rfl⟩ (fun H locs hW => ?_)
    refine lv_iconst (v := 3) hx hb dX10_fits_23 (by decide) ?_
    refine lv_aload_n hx hb dX10_fits_24 rfl (lv_at hl 0 rfl) ?_
    refine g_getr hC hW (o := 0) (ci := 10) (k := 2) zm_k0 zm_b0 rfl hi10 (by decide) rfl (t := 1) zm_r0_2 (by decide +kernel) dX10_fits_25 ?_
    refine lv_iconst (v := 1) hx hb dX10_fits_28 (by decide) ?_
    obtain ⟨v6, h9, hf⟩ := ob_inv hf
    refine g_ild hC hW zm_k1 zm_b1 zm_n1 h9 dX10_fits_29 ?_
    refine lv_imul hx hb dX10_fits_30 ?_
    refine lv_icmp_gt (tgt := 55) hx hb dX10_fits_31 (by decide) (fun c7 => ?_) (fun c7 => ?_)
    · have hf := a_if_t c7 hf
      refine lv_iconst (v := 0) hx hb dX10_fits_55 (by decide) ?_
      cases hf
      exact hJ56 H locs ls hW (lv_sub hl [] rfl)
    · have hf := a_if_f c7 hf
      refine lv_iload_n hx hb dX10_fits_34 rfl (lv_at hl 1 rfl) ?_
      refine lv_iload_n hx hb dX10_fits_35 rfl (lv_at hl 3 rfl) ?_
      refine lv_isub hx hb dX10_fits_36 ?_
      obtain ⟨r8, hg, hf⟩ := ob_inv hf
      refine g_cSi hC hW (As := [.int (p1 - p3)]) (rest := []) (c_X10_away l G  hg) (va_cwS 1 hts gX10_fits_X10_away rfl rfl rfl (by decide +kernel) ⟨Nat.le_of_ble_eq_true rfl, Nat.le_of_ble_eq_true rfl⟩) rfl hl.1 rfl (Nat.le_of_ble_eq_true rfl) dX10_fits_37 ⟨Nat.le_of_ble_eq_true rfl, Nat.le_of_ble_eq_true rfl⟩ (fun H locs hW => ?_)
      refine lv_iconst (v := 3) hx hb dX10_fits_40 (by decide) ?_
      refine lv_aload_n hx hb dX10_fits_41 rfl (lv_at hl 0 rfl) ?_
      refine g_getr hC hW (o := 0) (ci := 10) (k := 2) zm_k0 zm_b0 rfl hi10 (by decide) rfl (t := 1) zm_r0_2 (by decide +kernel) dX10_fits_42 ?_
      refine lv_iconst (v := 2) hx hb dX10_fits_45 (by decide) ?_
      obtain ⟨v9, h9, hf⟩ := ob_inv hf
      refine g_ild hC hW zm_k1 zm_b1 zm_n1 h9 dX10_fits_46 ?_
      refine lv_imul hx hb dX10_fits_47 ?_
      refine lv_icmp_gt (tgt := 55) hx hb dX10_fits_48 (by decide) (fun c10 => ?_) (fun c10 => ?_)
      · have hf := a_if_t c10 hf
        refine lv_iconst (v := 0) hx hb dX10_fits_55 (by decide) ?_
        cases hf
        exact hJ56 H locs ls hW (lv_sub hl [] rfl)
      · have hf := a_if_f c10 hf
        refine lv_iconst (v := 1) hx hb dX10_fits_51 (by decide) ?_
        refine lv_goto (tgt := 56) hx hb dX10_fits_52 (by decide) ?_
        cases hf
        exact hJ56 H locs ls hW (lv_sub hl [] rfl)
abbrev rmX10_worthOf : Room := { frames := 0, cells := 0, slots := 0, locals := 0 }
set_option maxHeartbeats 4000000 in
set_option maxRecDepth 100000 in
theorem c_X10_worthOf (l : Launch) (G : gG) {p1 : Int32} {p2 : Int32} {p3 : Int32} {me : gM} {r0 : Int32}  (hf : f_X10_worthOf p1 p2 p3 me = some r0) : Met l yX10_worthOf wsX10_worthOf rmX10_worthOf (va_Pc [.ref (G.2.2.1 0), .int p1, .int p2, .int p3] (g_W ZM G me)) (g_Qi ZM G r0 me) 0 0 (g_A ZM G) := by
  refine Met.ofW (cc := cX10_worthOf) (maxL := 4) (ret := (some .int)) (by decide) rfl ?_
  intro p e s m args below meth c s₁ B hml hv
  obtain ⟨rfl, hW0⟩ := hv
  have hC : CallFix p m c cX10_worthOf 4 s ([.ref (G.2.2.1 0), .int p1, .int p2, .int p3] : List Value).toArray wsX10_worthOf RX10 := ⟨B.exec, B.bytes, hml, findClass_of_methodNamed B.named, atoms_spec (ws := wsX10_worthOf) B.pre⟩
  have hx := hC.1
  have hb := hC.2.1
  have hown := hC.2.2.2.1
  have hts := hC.2.2.2.2
  have hr := B.returns
  have hlocks := B.notSynchronized
  have hW := g_H_enter hW0
  have hi10 : ∀ w ∈ wsX100, w ∈ wsX10_worthOf := by decide +kernel
  have hl := lv_entry ([.ref (G.2.2.1 0), .int p1, .int p2, .int p3]) (n := 4) (Nat.le_of_ble_eq_true rfl)
  rw [lg_entry_eq]
  generalize (lg_sl ([.ref (G.2.2.1 0), .int p1, .int p2, .int p3]) ++ List.replicate (4 - (lg_sl ([.ref (G.2.2.1 0), .int p1, .int p2, .int p3])).length) Slot.unset).toArray = ls at hl ⊢
  have hl : lv_has ls 4 [(0, .ref (G.2.2.1 0)), (1, .int p1), (2, .int p2), (3, .int p3)] := hl
  obtain ⟨Q, hQ⟩ : ∃ Q, Q = MQ below (g_Qi ZM G r0 me) ([.ref (G.2.2.1 0), .int p1, .int p2, .int p3] : List Value).toArray s 0 0 (g_A ZM G) := ⟨_, rfl⟩
  refine g_goQ hQ ?_
  unfold f_X10_worthOf at hf
  refine g_start hW (fun H locs hW => ?_)
  refine lv_aload_n hx hb dX10_worthOf_0 rfl (lv_at hl 0 rfl) ?_
  refine g_getr hC hW (o := 0) (ci := 10) (k := 60) zm_k0 zm_b0 rfl hi10 (by decide) rfl (t := 51) zm_r0_60 (by decide +kernel) dX10_worthOf_1 ?_
  refine lv_sipush (v := 161) hx hb dX10_worthOf_4 (by decide) ?_
  refine lv_iconst (v := 4) hx hb dX10_worthOf_7 (by decide) ?_
  refine lv_iload_n hx hb dX10_worthOf_8 rfl (lv_at hl 1 rfl) ?_
  refine lv_imul hx hb dX10_worthOf_9 ?_
  refine lv_iload_n hx hb dX10_worthOf_10 rfl (lv_at hl 2 rfl) ?_
  refine lv_iadd hx hb dX10_worthOf_11 ?_
  refine lv_imul hx hb dX10_worthOf_12 ?_
  refine lv_bipush (v := 80) hx hb dX10_worthOf_13 (by decide) ?_
  refine lv_iadd hx hb dX10_worthOf_15 ?_
  refine lv_iload_n hx hb dX10_worthOf_16 rfl (lv_at hl 3 rfl) ?_
  refine lv_iadd hx hb dX10_worthOf_17 ?_
  refine lv_aload_n hx hb dX10_worthOf_18 rfl (lv_at hl 0 rfl) ?_
  refine g_getr hC hW (o := 0) (ci := 10) (k := 62) zm_k0 zm_b0 rfl hi10 (by decide) rfl (t := 53) zm_r0_62 (by decide +kernel) dX10_worthOf_19 ?_
  refine lv_iconst (v := 4) hx hb dX10_worthOf_22 (by decide) ?_
  refine lv_iload_n hx hb dX10_worthOf_23 rfl (lv_at hl 1 rfl) ?_
  refine lv_imul hx hb dX10_worthOf_24 ?_
  refine lv_iload_n hx hb dX10_worthOf_25 rfl (lv_at hl 2 rfl) ?_
  refine lv_iadd hx hb dX10_worthOf_26 ?_
  obtain ⟨v1, h9, hf⟩ := ob_inv hf
  refine g_ild hC hW zm_k53 zm_b53 zm_n53 h9 dX10_worthOf_27 ?_
  refine lv_isub hx hb dX10_worthOf_28 ?_
  obtain ⟨v2, h9, hf⟩ := ob_inv hf
  refine g_ild hC hW zm_k51 zm_b51 zm_n51 h9 dX10_worthOf_29 ?_
  cases hf
  subst hQ
  exact g_iret hC hW hr hlocks rfl rfl dX10_worthOf_30
abbrev rmX10_goes : Room := { frames := 1, cells := 0, slots := 0, locals := 20 }
set_option maxHeartbeats 4000000 in
set_option maxRecDepth 100000 in
theorem c_X10_goes (l : Launch) (G : gG) {p0 : Int32} {p1 : Int32} {me : gM} {r0 : Int32}  (hf : f_X10_goes p0 p1 = some r0) : Met l yX10_goes wsX10_goes rmX10_goes (va_Pc [.int p0, .int p1] (g_W ZM G me)) (g_Qi ZM G r0 me) 0 0 (g_A ZM G) := by
  refine Met.ofW (cc := cX10_goes) (maxL := 3) (ret := (some .int)) (by decide) rfl ?_
  intro p e s m args below meth c s₁ B hml hv
  obtain ⟨rfl, hW0⟩ := hv
  have hC : CallFix p m c cX10_goes 3 s ([.int p0, .int p1] : List Value).toArray wsX10_goes RX10 := ⟨B.exec, B.bytes, hml, findClass_of_methodNamed B.named, atoms_spec (ws := wsX10_goes) B.pre⟩
  have hx := hC.1
  have hb := hC.2.1
  have hown := hC.2.2.2.1
  have hts := hC.2.2.2.2
  have hr := B.returns
  have hlocks := B.notSynchronized
  have hW := g_H_enter hW0
  have hl := lv_entry ([.int p0, .int p1]) (n := 3) (Nat.le_of_ble_eq_true rfl)
  rw [lg_entry_eq]
  generalize (lg_sl ([.int p0, .int p1]) ++ List.replicate (3 - (lg_sl ([.int p0, .int p1])).length) Slot.unset).toArray = ls at hl ⊢
  have hl : lv_has ls 3 [(0, .int p0), (1, .int p1)] := hl
  obtain ⟨Q, hQ⟩ : ∃ Q, Q = MQ below (g_Qi ZM G r0 me) ([.int p0, .int p1] : List Value).toArray s 0 0 (g_A ZM G) := ⟨_, rfl⟩
  refine g_goQ hQ ?_
  unfold f_X10_goes at hf
  refine g_start hW (fun H locs hW => ?_)
  refine lv_iload_n hx hb dX10_goes_0 rfl (lv_at hl 0 rfl) ?_
  refine lv_ineg hx hb dX10_goes_1 ?_
  refine lv_iload_n hx hb dX10_goes_2 rfl (lv_at hl 1 rfl) ?_
  refine lv_isub hx hb dX10_goes_3 ?_
  obtain ⟨x1, h9, hf⟩ := ob_inv hf
  refine g_nmi (Option.some.inj h9) ?_
  refine lv_istore_n (lv' := [(2, .int x1), (0, .int p0), (1, .int p1)]) hx hb dX10_goes_4 rfl hl (by decide) rfl (fun ls hl => ?_)
  refine lv_iload_n hx hb dX10_goes_5 rfl (lv_at hl 1 rfl) ?_
  refine lv_iload_n hx hb dX10_goes_6 rfl (lv_at hl 2 rfl) ?_
  refine lv_isub hx hb dX10_goes_7 ?_
  obtain ⟨r2, hg, hf⟩ := ob_inv hf
  refine g_cSi hC hW (As := [.int (p0 - p1)]) (rest := []) (c_X10_away l G  hg) (va_cwS 1 hts gX10_goes_X10_away rfl rfl rfl (by decide +kernel) ⟨Nat.le_of_ble_eq_true rfl, Nat.le_of_ble_eq_true rfl⟩) rfl hl.1 rfl (Nat.le_of_ble_eq_true rfl) dX10_goes_8 ⟨Nat.le_of_ble_eq_true rfl, Nat.le_of_ble_eq_true rfl⟩ (fun H locs hW => ?_)
  refine lv_iload_n hx hb dX10_goes_11 rfl (lv_at hl 2 rfl) ?_
  refine lv_iload_n hx hb dX10_goes_12 rfl (lv_at hl 0 rfl) ?_
  refine lv_isub hx hb dX10_goes_13 ?_
  obtain ⟨r3, hg, hf⟩ := ob_inv hf
  refine g_cSi hC hW (As := [.int (p1 - x1)]) (rest := [.int r2]) (c_X10_away l G  hg) (va_cwS 1 hts gX10_goes_X10_away rfl rfl rfl (by decide +kernel) ⟨Nat.le_of_ble_eq_true rfl, Nat.le_of_ble_eq_true rfl⟩) rfl hl.1 rfl (Nat.le_of_ble_eq_true rfl) dX10_goes_14 ⟨Nat.le_of_ble_eq_true rfl, Nat.le_of_ble_eq_true rfl⟩ (fun H locs hW => ?_)
  refine lv_iadd hx hb dX10_goes_17 ?_
  refine lv_iload_n hx hb dX10_goes_18 rfl (lv_at hl 1 rfl) ?_
  refine lv_iload_n hx hb dX10_goes_19 rfl (lv_at hl 0 rfl) ?_
  refine lv_isub hx hb dX10_goes_20 ?_
  obtain ⟨r4, hg, hf⟩ := ob_inv hf
  refine g_cSi hC hW (As := [.int (p0 - x1)]) (rest := [.int (r2 + r3)]) (c_X10_away l G  hg) (va_cwS 1 hts gX10_goes_X10_away rfl rfl rfl (by decide +kernel) ⟨Nat.le_of_ble_eq_true rfl, Nat.le_of_ble_eq_true rfl⟩) rfl hl.1 rfl (Nat.le_of_ble_eq_true rfl) dX10_goes_21 ⟨Nat.le_of_ble_eq_true rfl, Nat.le_of_ble_eq_true rfl⟩ (fun H locs hW => ?_)
  refine lv_iadd hx hb dX10_goes_24 ?_
  cases hf
  subst hQ
  exact g_iret hC hW hr hlocks rfl rfl dX10_goes_25
abbrev rmX10_most : Room := { frames := 2, cells := 0, slots := 0, locals := 43 }
set_option maxHeartbeats 4000000 in
set_option maxRecDepth 100000 in
theorem c_X10_most (l : Launch) (G : gG) {p1 : Int32} {p2 : Int32} {me : gM} {r0 : Int32} {m0 : gM}  (hf : f_X10_most p1 p2 me = some (r0, m0)) : Met l yX10_most wsX10_most rmX10_most (va_Pc [.ref (G.2.2.1 0), .int p1, .int p2] (g_W ZM G me)) (g_Qi ZM G r0 m0) 0 0 (g_A ZM G) := by
  refine Met.ofW (cc := cX10_most) (maxL := 12) (ret := (some .int)) (by decide) rfl ?_
  intro p e s m args below meth c s₁ B hml hv
  obtain ⟨rfl, hW0⟩ := hv
  have hC : CallFix p m c cX10_most 12 s ([.ref (G.2.2.1 0), .int p1, .int p2] : List Value).toArray wsX10_most RX10 := ⟨B.exec, B.bytes, hml, findClass_of_methodNamed B.named, atoms_spec (ws := wsX10_most) B.pre⟩
  have hx := hC.1
  have hb := hC.2.1
  have hown := hC.2.2.2.1
  have hts := hC.2.2.2.2
  have hr := B.returns
  have hlocks := B.notSynchronized
  have hW := g_H_enter hW0
  have hi10 : ∀ w ∈ wsX100, w ∈ wsX10_most := by decide +kernel
  have hl := lv_entry ([.ref (G.2.2.1 0), .int p1, .int p2]) (n := 12) (Nat.le_of_ble_eq_true rfl)
  rw [lg_entry_eq]
  generalize (lg_sl ([.ref (G.2.2.1 0), .int p1, .int p2]) ++ List.replicate (12 - (lg_sl ([.ref (G.2.2.1 0), .int p1, .int p2])).length) Slot.unset).toArray = ls at hl ⊢
  have hl : lv_has ls 12 [(0, .ref (G.2.2.1 0)), (1, .int p1), (2, .int p2)] := hl
  obtain ⟨Q, hQ⟩ : ∃ Q, Q = MQ below (g_Qi ZM G r0 m0) ([.ref (G.2.2.1 0), .int p1, .int p2] : List Value).toArray s 0 0 (g_A ZM G) := ⟨_, rfl⟩
  refine g_goQ hQ ?_
  unfold f_X10_most at hf
  refine g_start hW (fun H locs hW => ?_)
  refine lv_ldc (v := (-1000000000)) hx hb hown (hts _ (by decide +kernel : Cond.constant RX10 223 (-1000000000) ∈ wsX10_most)) dX10_most_0 ?_
  refine lv_istore_n (lv' := [(3, .int (-1000000000)), (0, .ref (G.2.2.1 0)), (1, .int p1), (2, .int p2)]) hx hb dX10_most_2 rfl hl (by decide) rfl (fun ls hl => ?_)
  refine lv_bipush (v := (-20)) hx hb dX10_most_3 (by decide) ?_
  refine lv_istore (lv' := [(4, .int (-20)), (3, .int (-1000000000)), (0, .ref (G.2.2.1 0)), (1, .int p1), (2, .int p2)]) hx hb dX10_most_5 hl (by decide) rfl (fun ls hl => ?_)
  have hL7 : ∀ (n : Nat) (x1 : Int32) (x2 : Int32) (m3 : gM) (y4 : Int32) (y5 : Int32) (m6 : gM) (H : Heap) (locs : List Loc) (ls : Array Slot), f_X10_most_L7 p1 p2 n x1 x2 m3 = some (y4, y5, m6) → g_H ZM G s H locs m3 → lv_has ls 12 [(0, .ref (G.2.2.1 0)), (1, .int p1), (2, .int p2), (3, .int x1), (4, .int x2)] → (∀ (H : Heap) (locs : List Loc) (ls : Array Slot), g_H ZM G s H locs m6 → lv_has ls 12 [(3, .int y4)] → W p l e (headSpec wsX10_most rmX10_most).room s m ([.ref (G.2.2.1 0), .int p1, .int p2] : List Value).toArray below meth c H locs 0 0 Q (F0 m 226 ls [])) → W p l e (headSpec wsX10_most rmX10_most).room s m ([.ref (G.2.2.1 0), .int p1, .int p2] : List Value).toArray below meth c H locs 0 0 Q (F0 m 7 ls []) := by
    intro n
    induction n with
    | zero =>
      intro x1 x2 m3 y4 y5 m6 H locs ls hf hW hl hE
      cases hf
    | succ n ih =>
      intro x1 x2 m3 y4 y5 m6 H locs ls hf hW hl hE
      rw [f_X10_most_L7] at hf
      refine lv_iload hx hb dX10_most_7 (lv_at hl 4 rfl) ?_
      refine lv_bipush (v := 20) hx hb dX10_most_9 (by decide) ?_
      refine lv_icmp_gt (tgt := 226) hx hb dX10_most_11 (by decide) (fun c7 => ?_) (fun c7 => ?_)
      · have hf := a_if_t c7 hf
        cases hf
        exact hE H locs ls hW (lv_sub hl [3] rfl)
      · have hf := a_if_f c7 hf
        refine lv_bipush (v := (-20)) hx hb dX10_most_14 (by decide) ?_
        refine lv_istore (lv' := [(5, .int (-20)), (0, .ref (G.2.2.1 0)), (1, .int p1), (2, .int p2), (3, .int x1), (4, .int x2)]) hx hb dX10_most_16 hl (by decide) rfl (fun ls hl => ?_)
        have hL18 : ∀ (n : Nat) (x8 : Int32) (x9 : Int32) (m10 : gM) (y11 : Int32) (y12 : Int32) (m13 : gM) (H : Heap) (locs : List Loc) (ls : Array Slot), f_X10_most_L18 p1 p2 x2 n x8 x9 m10 = some (y11, y12, m13) → g_H ZM G s H locs m10 → lv_has ls 12 [(0, .ref (G.2.2.1 0)), (1, .int p1), (2, .int p2), (3, .int x8), (4, .int x2), (5, .int x9)] → (∀ (H : Heap) (locs : List Loc) (ls : Array Slot), g_H ZM G s H locs m13 → lv_has ls 12 [(0, .ref (G.2.2.1 0)), (1, .int p1), (2, .int p2), (3, .int y11), (4, .int x2)] → W p l e (headSpec wsX10_most rmX10_most).room s m ([.ref (G.2.2.1 0), .int p1, .int p2] : List Value).toArray below meth c H locs 0 0 Q (F0 m 220 ls [])) → W p l e (headSpec wsX10_most rmX10_most).room s m ([.ref (G.2.2.1 0), .int p1, .int p2] : List Value).toArray below meth c H locs 0 0 Q (F0 m 18 ls []) := by
          intro n
          induction n with
          | zero =>
            intro x8 x9 m10 y11 y12 m13 H locs ls hf hW hl hE
            cases hf
          | succ n ih =>
            intro x8 x9 m10 y11 y12 m13 H locs ls hf hW hl hE
            rw [f_X10_most_L18] at hf
            refine lv_iload hx hb dX10_most_18 (lv_at hl 5 rfl) ?_
            refine lv_bipush (v := 20) hx hb dX10_most_20 (by decide) ?_
            refine lv_icmp_gt (tgt := 220) hx hb dX10_most_22 (by decide) (fun c14 => ?_) (fun c14 => ?_)
            · have hf := a_if_t c14 hf
              cases hf
              exact hE H locs ls hW (lv_sub hl [0, 1, 2, 3, 4] rfl)
            · have hf := a_if_f c14 hf
              refine lv_iload hx hb dX10_most_25 (lv_at hl 4 rfl) ?_
              refine lv_ineg hx hb dX10_most_27 ?_
              refine lv_iload hx hb dX10_most_28 (lv_at hl 5 rfl) ?_
              refine lv_isub hx hb dX10_most_30 ?_
              obtain ⟨x15, h9, hf⟩ := ob_inv hf
              refine g_nmi (Option.some.inj h9) ?_
              refine lv_istore (lv' := [(6, .int x15), (0, .ref (G.2.2.1 0)), (1, .int p1), (2, .int p2), (3, .int x8), (4, .int x2), (5, .int x9)]) hx hb dX10_most_31 hl (by decide) rfl (fun ls hl => ?_)
              refine lv_aload_n hx hb dX10_most_33 rfl (lv_at hl 1 rfl) ?_
              refine lv_iload hx hb dX10_most_34 (lv_at hl 5 rfl) ?_
              refine lv_iload hx hb dX10_most_36 (lv_at hl 6 rfl) ?_
              refine lv_iload hx hb dX10_most_38 (lv_at hl 0 rfl) ?_
              obtain ⟨r16, hg, hf⟩ := ob_inv hf
              refine g_cVi hC hW (o := 0) (ci := 10) (As := [.int x2, .int x9, .int x15]) (rest := []) zm_k0 zm_b0 rfl (c_X10_fits l G  hg) (cwV 3 hts gX10_most_X10_fits rfl rfl rfl (by decide +kernel) ⟨Nat.le_of_ble_eq_true rfl, Nat.le_of_ble_eq_true rfl⟩) rfl hl.1 rfl (Nat.le_of_ble_eq_true rfl) dX10_most_40 ⟨Nat.le_of_ble_eq_true rfl, Nat.le_of_ble_eq_true rfl⟩ (fun H locs hW => ?_)
              obtain ⟨⟨x18, m19⟩, hg, hf⟩ := ob_inv hf
              have hf := ob_inv2 hf
              have hJ214 : ∀ (H : Heap) (locs : List Loc) (ls : Array Slot), g_H ZM G s H locs m19 → lv_has ls 12 [(0, .ref (G.2.2.1 0)), (1, .int p1), (2, .int p2), (3, .int x18), (4, .int x2), (5, .int x9)] → W p l e (headSpec wsX10_most rmX10_most).room s m ([.ref (G.2.2.1 0), .int p1, .int p2] : List Value).toArray below meth c H locs 0 0 Q (F0 m 214 ls []) := by
                intro H locs ls hW hl
                refine lv_iinc (v := (x9 + 1)) (lv' := [(5, .int (x9 + 1)), (0, .ref (G.2.2.1 0)), (1, .int p1), (2, .int p2), (3, .int x18), (4, .int x2)]) hx hb dX10_most_214 hl (k := 5) rfl (congrArg (fun z => x9 + z) (by decide)) (by decide) rfl (fun ls hl => ?_)
                refine lv_goto (tgt := 18) hx hb dX10_most_217 (by decide) ?_
                exact ih _ _ _ _ _ _ _ _ _ hf hW (lv_sub hl [1, 2, 3, 4, 5, 0] rfl) hE
              replace hf := hg
              refine lv_if_eq (tgt := 214) hx hb dX10_most_43 (by decide) (fun c17 => ?_) (fun c17 => ?_)
              · have hf := a_if_t c17 hf
                cases hf
                exact hJ214 H locs ls hW (lv_sub hl [1, 2, 3, 4, 5, 6] rfl)
              · have hf := a_if_f c17 hf
                refine lv_aload_n hx hb dX10_most_46 rfl (lv_at hl 1 rfl) ?_
                refine lv_iconst (v := 0) hx hb dX10_most_47 (by decide) ?_
                refine lv_iload_n hx hb dX10_most_48 rfl (lv_at hl 2 rfl) ?_
                refine lv_iload_n hx hb dX10_most_49 rfl (lv_at hl 3 rfl) ?_
                obtain ⟨z21, hg, hf⟩ := ob_inv hf
                have hJ62 : ∀ (H : Heap) (locs : List Loc) (ls : Array Slot), g_H ZM G s H locs m10 → lv_has ls 12 [(0, .ref (G.2.2.1 0)), (1, .int p1), (2, .int p2), (3, .int x8), (4, .int x2), (5, .int x9), (6, .int x15)] → W p l e (headSpec wsX10_most rmX10_most).room s m ([.ref (G.2.2.1 0), .int p1, .int p2] : List Value).toArray below meth c H locs 0 0 Q (F0 m 62 ls [.int z21, .int p1, .int 0, .ref (G.2.2.1 0)]) := by
                  intro H locs ls hW hl
                  obtain ⟨r22, hg, hf⟩ := ob_inv hf
                  refine g_cVi hC hW (o := 0) (ci := 10) (As := [.int 0, .int p1, .int z21]) (rest := []) zm_k0 zm_b0 rfl (c_X10_worthOf l G  hg) (cwV 3 hts gX10_most_X10_worthOf rfl rfl rfl (by decide +kernel) ⟨Nat.le_of_ble_eq_true rfl, Nat.le_of_ble_eq_true rfl⟩) rfl hl.1 rfl (Nat.le_of_ble_eq_true rfl) dX10_most_62 ⟨Nat.le_of_ble_eq_true rfl, Nat.le_of_ble_eq_true rfl⟩ (fun H locs hW => ?_)
                  refine lv_istore (lv' := [(7, .int r22), (0, .ref (G.2.2.1 0)), (1, .int p1), (2, .int p2), (3, .int x8), (4, .int x2), (5, .int x9), (6, .int x15)]) hx hb dX10_most_65 hl (by decide) rfl (fun ls hl => ?_)
                  refine lv_aload_n hx hb dX10_most_67 rfl (lv_at hl 1 rfl) ?_
                  refine lv_iconst (v := 1) hx hb dX10_most_68 (by decide) ?_
                  refine lv_iload_n hx hb dX10_most_69 rfl (lv_at hl 2 rfl) ?_
                  refine lv_iload_n hx hb dX10_most_70 rfl (lv_at hl 3 rfl) ?_
                  refine lv_iconst (v := 1) hx hb dX10_most_71 (by decide) ?_
                  obtain ⟨z24, hg, hf⟩ := ob_inv hf
                  have hJ84 : ∀ (H : Heap) (locs : List Loc) (ls : Array Slot), g_H ZM G s H locs m10 → lv_has ls 12 [(0, .ref (G.2.2.1 0)), (1, .int p1), (2, .int p2), (3, .int x8), (4, .int x2), (5, .int x9), (6, .int x15), (7, .int r22)] → W p l e (headSpec wsX10_most rmX10_most).room s m ([.ref (G.2.2.1 0), .int p1, .int p2] : List Value).toArray below meth c H locs 0 0 Q (F0 m 84 ls [.int z24, .int p1, .int 1, .ref (G.2.2.1 0)]) := by
                    intro H locs ls hW hl
                    obtain ⟨r25, hg, hf⟩ := ob_inv hf
                    refine g_cVi hC hW (o := 0) (ci := 10) (As := [.int 1, .int p1, .int z24]) (rest := []) zm_k0 zm_b0 rfl (c_X10_worthOf l G  hg) (cwV 3 hts gX10_most_X10_worthOf rfl rfl rfl (by decide +kernel) ⟨Nat.le_of_ble_eq_true rfl, Nat.le_of_ble_eq_true rfl⟩) rfl hl.1 rfl (Nat.le_of_ble_eq_true rfl) dX10_most_84 ⟨Nat.le_of_ble_eq_true rfl, Nat.le_of_ble_eq_true rfl⟩ (fun H locs hW => ?_)
                    refine lv_istore (lv' := [(8, .int r25), (0, .ref (G.2.2.1 0)), (1, .int p1), (2, .int p2), (3, .int x8), (4, .int x2), (5, .int x9), (6, .int x15), (7, .int r22)]) hx hb dX10_most_87 hl (by decide) rfl (fun ls hl => ?_)
                    refine lv_aload_n hx hb dX10_most_89 rfl (lv_at hl 1 rfl) ?_
                    refine lv_iconst (v := 2) hx hb dX10_most_90 (by decide) ?_
                    refine lv_iload_n hx hb dX10_most_91 rfl (lv_at hl 2 rfl) ?_
                    refine lv_iload_n hx hb dX10_most_92 rfl (lv_at hl 3 rfl) ?_
                    refine lv_iconst (v := 2) hx hb dX10_most_93 (by decide) ?_
                    obtain ⟨z27, hg, hf⟩ := ob_inv hf
                    have hJ106 : ∀ (H : Heap) (locs : List Loc) (ls : Array Slot), g_H ZM G s H locs m10 → lv_has ls 12 [(0, .ref (G.2.2.1 0)), (1, .int p1), (2, .int p2), (3, .int x8), (4, .int x2), (5, .int x9), (7, .int r22), (8, .int r25)] → W p l e (headSpec wsX10_most rmX10_most).room s m ([.ref (G.2.2.1 0), .int p1, .int p2] : List Value).toArray below meth c H locs 0 0 Q (F0 m 106 ls [.int z27, .int p1, .int 2, .ref (G.2.2.1 0)]) := by
                      intro H locs ls hW hl
                      obtain ⟨r28, hg, hf⟩ := ob_inv hf
                      refine g_cVi hC hW (o := 0) (ci := 10) (As := [.int 2, .int p1, .int z27]) (rest := []) zm_k0 zm_b0 rfl (c_X10_worthOf l G  hg) (cwV 3 hts gX10_most_X10_worthOf rfl rfl rfl (by decide +kernel) ⟨Nat.le_of_ble_eq_true rfl, Nat.le_of_ble_eq_true rfl⟩) rfl hl.1 rfl (Nat.le_of_ble_eq_true rfl) dX10_most_106 ⟨Nat.le_of_ble_eq_true rfl, Nat.le_of_ble_eq_true rfl⟩ (fun H locs hW => ?_)
                      refine lv_istore (lv' := [(9, .int r28), (0, .ref (G.2.2.1 0)), (1, .int p1), (2, .int p2), (3, .int x8), (4, .int x2), (5, .int x9), (7, .int r22), (8, .int r25)]) hx hb dX10_most_109 hl (by decide) rfl (fun ls hl => ?_)
                      refine lv_iload hx hb dX10_most_111 (lv_at hl 7 rfl) ?_
                      refine lv_ldc (v := (-1000000000)) hx hb hown (hts _ (by decide +kernel : Cond.constant RX10 223 (-1000000000) ∈ wsX10_most)) dX10_most_113 ?_
                      obtain ⟨z30, hg, hf⟩ := ob_inv hf
                      have hJ145 : ∀ (H : Heap) (locs : List Loc) (ls : Array Slot), g_H ZM G s H locs m10 → lv_has ls 12 [(0, .ref (G.2.2.1 0)), (1, .int p1), (2, .int p2), (3, .int x8), (4, .int x2), (5, .int x9)] → W p l e (headSpec wsX10_most rmX10_most).room s m ([.ref (G.2.2.1 0), .int p1, .int p2] : List Value).toArray below meth c H locs 0 0 Q (F0 m 145 ls [.int z30]) := by
                        intro H locs ls hW hl
                        refine lv_istore (lv' := [(10, .int z30), (0, .ref (G.2.2.1 0)), (1, .int p1), (2, .int p2), (3, .int x8), (4, .int x2), (5, .int x9)]) hx hb dX10_most_145 hl (by decide) rfl (fun ls hl => ?_)
                        refine lv_iload hx hb dX10_most_147 (lv_at hl 0 rfl) ?_
                        refine lv_ldc (v := (-1000000000)) hx hb hown (hts _ (by decide +kernel : Cond.constant RX10 223 (-1000000000) ∈ wsX10_most)) dX10_most_149 ?_
                        obtain ⟨z34, hg, hf⟩ := ob_inv hf
                        have hJ186 : ∀ (H : Heap) (locs : List Loc) (ls : Array Slot), g_H ZM G s H locs m10 → lv_has ls 12 [(0, .ref (G.2.2.1 0)), (1, .int p1), (2, .int p2), (3, .int x8), (4, .int x2), (5, .int x9), (10, .int z30)] → W p l e (headSpec wsX10_most rmX10_most).room s m ([.ref (G.2.2.1 0), .int p1, .int p2] : List Value).toArray below meth c H locs 0 0 Q (F0 m 186 ls [.int z34]) := by
                          intro H locs ls hW hl
                          refine lv_istore (lv' := [(11, .int z34), (0, .ref (G.2.2.1 0)), (1, .int p1), (2, .int p2), (3, .int x8), (4, .int x2), (5, .int x9), (10, .int z30)]) hx hb dX10_most_186 hl (by decide) rfl (fun ls hl => ?_)
                          refine lv_iload hx hb dX10_most_188 (lv_at hl 7 rfl) ?_
                          refine lv_iload_n hx hb dX10_most_190 rfl (lv_at hl 4 rfl) ?_
                          refine lv_icmp_gt (tgt := 199) hx hb dX10_most_191 (by decide) (fun c39 => ?_) (fun c39 => ?_)
                          · have hf := a_if_t c39 hf
                            refine lv_iload hx hb dX10_most_199 (lv_at hl 7 rfl) ?_
                            refine lv_istore_n (lv' := [(3, .int z30), (11, .int z34), (0, .ref (G.2.2.1 0)), (1, .int p1), (2, .int p2), (4, .int x2), (5, .int x9), (10, .int z30)]) hx hb dX10_most_201 rfl hl (by decide) rfl (fun ls hl => ?_)
                            refine lv_aload_n hx hb dX10_most_202 rfl (lv_at hl 2 rfl) ?_
                            refine lv_iload hx hb dX10_most_203 (lv_at hl 5 rfl) ?_
                            obtain ⟨m40, h9, hf⟩ := ob_inv hf
                            refine g_puti hC hW (o := 0) (ci := 10) (k := 65) zm_k0 zm_b0 rfl hi10 tyX10_ok nmX10 (by decide) rfl rfl rfl (by decide +kernel) dX10_most_205 (fun H locs hW => ?_)
                            rw [Option.some.inj h9] at hW
                            refine lv_aload_n hx hb dX10_most_208 rfl (lv_at hl 2 rfl) ?_
                            refine lv_iload hx hb dX10_most_209 (lv_at hl 6 rfl) ?_
                            obtain ⟨m41, h9, hf⟩ := ob_inv hf
                            refine g_puti hC hW (o := 0) (ci := 10) (k := 66) zm_k0 zm_b0 rfl hi10 tyX10_ok nmX10 (by decide) rfl rfl rfl (by decide +kernel) dX10_most_211 (fun H locs hW => ?_)
                            rw [Option.some.inj h9] at hW
                            cases hf
                            exact hJ214 H locs ls hW (lv_sub hl [2, 3, 4, 0, 5, 6] rfl)
                          · have hf := a_if_f c39 hf
                            refine lv_iload hx hb dX10_most_194 (lv_at hl 0 rfl) ?_
                            refine lv_if_eq (tgt := 214) hx hb dX10_most_196 (by decide) (fun c42 => ?_) (fun c42 => ?_)
                            · have hf := a_if_t c42 hf
                              cases hf
                              exact hJ214 H locs ls hW (lv_sub hl [1, 2, 3, 4, 5, 6] rfl)
                            · have hf := a_if_f c42 hf
                              refine lv_iload hx hb dX10_most_199 (lv_at hl 7 rfl) ?_
                              refine lv_istore_n (lv' := [(3, .int z30), (11, .int z34), (0, .ref (G.2.2.1 0)), (1, .int p1), (2, .int p2), (4, .int x2), (5, .int x9), (10, .int z30)]) hx hb dX10_most_201 rfl hl (by decide) rfl (fun ls hl => ?_)
                              refine lv_aload_n hx hb dX10_most_202 rfl (lv_at hl 2 rfl) ?_
                              refine lv_iload hx hb dX10_most_203 (lv_at hl 5 rfl) ?_
                              obtain ⟨m43, h9, hf⟩ := ob_inv hf
                              refine g_puti hC hW (o := 0) (ci := 10) (k := 65) zm_k0 zm_b0 rfl hi10 tyX10_ok nmX10 (by decide) rfl rfl rfl (by decide +kernel) dX10_most_205 (fun H locs hW => ?_)
                              rw [Option.some.inj h9] at hW
                              refine lv_aload_n hx hb dX10_most_208 rfl (lv_at hl 2 rfl) ?_
                              refine lv_iload hx hb dX10_most_209 (lv_at hl 6 rfl) ?_
                              obtain ⟨m44, h9, hf⟩ := ob_inv hf
                              refine g_puti hC hW (o := 0) (ci := 10) (k := 66) zm_k0 zm_b0 rfl hi10 tyX10_ok nmX10 (by decide) rfl rfl rfl (by decide +kernel) dX10_most_211 (fun H locs hW => ?_)
                              rw [Option.some.inj h9] at hW
                              cases hf
                              exact hJ214 H locs ls hW (lv_sub hl [2, 3, 4, 0, 5, 6] rfl)
                        replace hf := hg
                        refine lv_icmp_le (tgt := 185) hx hb dX10_most_151 (by decide) (fun c33 => ?_) (fun c33 => ?_)
                        · have hf := a_if_t c33 hf
                          refine lv_iconst (v := 0) hx hb dX10_most_185 (by decide) ?_
                          cases hf
                          exact hJ186 H locs ls hW (lv_sub hl [1, 2, 3, 4, 5, 6, 0] rfl)
                        · have hf := a_if_f c33 hf
                          refine lv_iload hx hb dX10_most_154 (lv_at hl 0 rfl) ?_
                          refine lv_iload_n hx hb dX10_most_156 rfl (lv_at hl 4 rfl) ?_
                          refine lv_icmp_ne (tgt := 185) hx hb dX10_most_157 (by decide) (fun c35 => ?_) (fun c35 => ?_)
                          · have hf := a_if_f c35 hf
                            refine lv_iconst (v := 0) hx hb dX10_most_185 (by decide) ?_
                            cases hf
                            exact hJ186 H locs ls hW (lv_sub hl [1, 2, 3, 4, 5, 6, 0] rfl)
                          · have hf := a_if_t c35 hf
                            refine lv_iload hx hb dX10_most_160 (lv_at hl 5 rfl) ?_
                            refine lv_iload hx hb dX10_most_162 (lv_at hl 6 rfl) ?_
                            obtain ⟨r36, hg, hf⟩ := ob_inv hf
                            refine g_cSi hC hW (As := [.int x2, .int x9]) (rest := []) (c_X10_goes l G  hg) (va_cwS 2 hts gX10_most_X10_goes rfl rfl rfl (by decide +kernel) ⟨Nat.le_of_ble_eq_true rfl, Nat.le_of_ble_eq_true rfl⟩) rfl hl.1 rfl (Nat.le_of_ble_eq_true rfl) dX10_most_164 ⟨Nat.le_of_ble_eq_true rfl, Nat.le_of_ble_eq_true rfl⟩ (fun H locs hW => ?_)
                            refine lv_aload_n hx hb dX10_most_167 rfl (lv_at hl 1 rfl) ?_
                            refine g_geti hC hW (o := 0) (ci := 10) (k := 65) zm_k0 zm_b0 rfl hi10 (by decide) rfl (by decide +kernel) dX10_most_168 ?_
                            refine lv_aload_n hx hb dX10_most_171 rfl (lv_at hl 1 rfl) ?_
                            refine g_geti hC hW (o := 0) (ci := 10) (k := 66) zm_k0 zm_b0 rfl hi10 (by decide) rfl (by decide +kernel) dX10_most_172 ?_
                            obtain ⟨r37, hg, hf⟩ := ob_inv hf
                            refine g_cSi hC hW (As := [.int (m10 0 65), .int (m10 0 66)]) (rest := [.int r36]) (c_X10_goes l G  hg) (va_cwS 2 hts gX10_most_X10_goes rfl rfl rfl (by decide +kernel) ⟨Nat.le_of_ble_eq_true rfl, Nat.le_of_ble_eq_true rfl⟩) rfl hl.1 rfl (Nat.le_of_ble_eq_true rfl) dX10_most_175 ⟨Nat.le_of_ble_eq_true rfl, Nat.le_of_ble_eq_true rfl⟩ (fun H locs hW => ?_)
                            refine lv_icmp_ge (tgt := 185) hx hb dX10_most_178 (by decide) (fun c38 => ?_) (fun c38 => ?_)
                            · have hf := a_if_t c38 hf
                              refine lv_iconst (v := 0) hx hb dX10_most_185 (by decide) ?_
                              cases hf
                              exact hJ186 H locs ls hW (lv_sub hl [1, 2, 3, 4, 5, 6, 0] rfl)
                            · have hf := a_if_f c38 hf
                              refine lv_iconst (v := 1) hx hb dX10_most_181 (by decide) ?_
                              refine lv_goto (tgt := 186) hx hb dX10_most_182 (by decide) ?_
                              cases hf
                              exact hJ186 H locs ls hW (lv_sub hl [1, 2, 3, 4, 5, 6, 0] rfl)
                      replace hf := hg
                      refine lv_icmp_eq (tgt := 132) hx hb dX10_most_115 (by decide) (fun c29 => ?_) (fun c29 => ?_)
                      · have hf := a_if_t c29 hf
                        refine lv_ldc (v := (-1000000000)) hx hb hown (hts _ (by decide +kernel : Cond.constant RX10 223 (-1000000000) ∈ wsX10_most)) dX10_most_132 ?_
                        refine lv_goto (tgt := 145) hx hb dX10_most_134 (by decide) ?_
                        cases hf
                        exact hJ145 H locs ls hW (lv_sub hl [1, 2, 3, 4, 5, 6] rfl)
                      · have hf := a_if_f c29 hf
                        refine lv_iload hx hb dX10_most_118 (lv_at hl 8 rfl) ?_
                        refine lv_ldc (v := (-1000000000)) hx hb hown (hts _ (by decide +kernel : Cond.constant RX10 223 (-1000000000) ∈ wsX10_most)) dX10_most_120 ?_
                        refine lv_icmp_eq (tgt := 132) hx hb dX10_most_122 (by decide) (fun c31 => ?_) (fun c31 => ?_)
                        · have hf := a_if_t c31 hf
                          refine lv_ldc (v := (-1000000000)) hx hb hown (hts _ (by decide +kernel : Cond.constant RX10 223 (-1000000000) ∈ wsX10_most)) dX10_most_132 ?_
                          refine lv_goto (tgt := 145) hx hb dX10_most_134 (by decide) ?_
                          cases hf
                          exact hJ145 H locs ls hW (lv_sub hl [1, 2, 3, 4, 5, 6] rfl)
                        · have hf := a_if_f c31 hf
                          refine lv_iload hx hb dX10_most_125 (lv_at hl 0 rfl) ?_
                          refine lv_ldc (v := (-1000000000)) hx hb hown (hts _ (by decide +kernel : Cond.constant RX10 223 (-1000000000) ∈ wsX10_most)) dX10_most_127 ?_
                          refine lv_icmp_ne (tgt := 137) hx hb dX10_most_129 (by decide) (fun c32 => ?_) (fun c32 => ?_)
                          · have hf := a_if_f c32 hf
                            refine lv_iload hx hb dX10_most_137 (lv_at hl 7 rfl) ?_
                            refine lv_iload hx hb dX10_most_139 (lv_at hl 8 rfl) ?_
                            refine lv_iadd hx hb dX10_most_141 ?_
                            refine lv_iload hx hb dX10_most_142 (lv_at hl 0 rfl) ?_
                            refine lv_iadd hx hb dX10_most_144 ?_
                            cases hf
                            exact hJ145 H locs ls hW (lv_sub hl [1, 2, 3, 4, 5, 6] rfl)
                          · have hf := a_if_t c32 hf
                            refine lv_ldc (v := (-1000000000)) hx hb hown (hts _ (by decide +kernel : Cond.constant RX10 223 (-1000000000) ∈ wsX10_most)) dX10_most_132 ?_
                            refine lv_goto (tgt := 145) hx hb dX10_most_134 (by decide) ?_
                            cases hf
                            exact hJ145 H locs ls hW (lv_sub hl [1, 2, 3, 4, 5, 6] rfl)
                    replace hf := hg
                    refine lv_icmp_ne (tgt := 104) hx hb dX10_most_94 (by decide) (fun c26 => ?_) (fun c26 => ?_)
                    · have hf := a_if_f c26 hf
                      refine lv_iload hx hb dX10_most_104 (lv_at hl 7 rfl) ?_
                      cases hf
                      exact hJ106 H locs ls hW (lv_sub hl [1, 2, 3, 4, 5, 6, 8, 0] rfl)
                    · have hf := a_if_t c26 hf
                      refine lv_iload hx hb dX10_most_97 (lv_at hl 7 rfl) ?_
                      refine lv_iconst (v := 1) hx hb dX10_most_99 (by decide) ?_
                      refine lv_isub hx hb dX10_most_100 ?_
                      refine lv_goto (tgt := 106) hx hb dX10_most_101 (by decide) ?_
                      cases hf
                      exact hJ106 H locs ls hW (lv_sub hl [1, 2, 3, 4, 5, 6, 8, 0] rfl)
                  replace hf := hg
                  refine lv_icmp_ne (tgt := 82) hx hb dX10_most_72 (by decide) (fun c23 => ?_) (fun c23 => ?_)
                  · have hf := a_if_f c23 hf
                    refine lv_iload hx hb dX10_most_82 (lv_at hl 6 rfl) ?_
                    cases hf
                    exact hJ84 H locs ls hW (lv_sub hl [1, 2, 3, 4, 5, 6, 7, 0] rfl)
                  · have hf := a_if_t c23 hf
                    refine lv_iload hx hb dX10_most_75 (lv_at hl 6 rfl) ?_
                    refine lv_iconst (v := 1) hx hb dX10_most_77 (by decide) ?_
                    refine lv_isub hx hb dX10_most_78 ?_
                    refine lv_goto (tgt := 84) hx hb dX10_most_79 (by decide) ?_
                    cases hf
                    exact hJ84 H locs ls hW (lv_sub hl [1, 2, 3, 4, 5, 6, 7, 0] rfl)
                replace hf := hg
                refine lv_if_ne (tgt := 60) hx hb dX10_most_50 (by decide) (fun c20 => ?_) (fun c20 => ?_)
                · have hf := a_if_f c20 hf
                  refine lv_iload hx hb dX10_most_60 (lv_at hl 5 rfl) ?_
                  cases hf
                  exact hJ62 H locs ls hW (lv_sub hl [1, 2, 3, 4, 5, 6, 0] rfl)
                · have hf := a_if_t c20 hf
                  refine lv_iload hx hb dX10_most_53 (lv_at hl 5 rfl) ?_
                  refine lv_iconst (v := 1) hx hb dX10_most_55 (by decide) ?_
                  refine lv_isub hx hb dX10_most_56 ?_
                  refine lv_goto (tgt := 62) hx hb dX10_most_57 (by decide) ?_
                  cases hf
                  exact hJ62 H locs ls hW (lv_sub hl [1, 2, 3, 4, 5, 6, 0] rfl)
        obtain ⟨⟨y11, y12, m13⟩, hg, hf⟩ := ob_inv hf
        have hf := ob_inv3 hf
        refine hL18 _ _ _ _ _ _ _ _ _ _ hg hW (lv_sub hl [1, 2, 3, 4, 5, 0] rfl) (fun H locs ls hW hl => ?_)
        refine lv_iinc (v := (x2 + 1)) (lv' := [(4, .int (x2 + 1)), (0, .ref (G.2.2.1 0)), (1, .int p1), (2, .int p2), (3, .int y11)]) hx hb dX10_most_220 hl (k := 4) rfl (congrArg (fun z => x2 + z) (by decide)) (by decide) rfl (fun ls hl => ?_)
        refine lv_goto (tgt := 7) hx hb dX10_most_223 (by decide) ?_
        exact ih _ _ _ _ _ _ _ _ _ hf hW (lv_sub hl [1, 2, 3, 4, 0] rfl) hE
  obtain ⟨⟨y4, y5, m6⟩, hg, hf⟩ := ob_inv hf
  have hf := ob_inv3 hf
  refine hL7 _ _ _ _ _ _ _ _ _ _ hg hW (lv_sub hl [2, 3, 4, 1, 0] rfl) (fun H locs ls hW hl => ?_)
  refine lv_iload_n hx hb dX10_most_226 rfl (lv_at hl 0 rfl) ?_
  cases hf
  subst hQ
  exact g_iret hC hW hr hlocks rfl rfl dX10_most_227
abbrev rmX10_isAllowed : Room := { frames := 0, cells := 0, slots := 0, locals := 0 }
set_option maxHeartbeats 4000000 in
set_option maxRecDepth 100000 in
theorem c_X10_isAllowed (l : Launch) (G : gG) {p1 : Int32} {me : gM} {r0 : Int32}  (hf : f_X10_isAllowed p1 me = some r0) : Met l yX10_isAllowed wsX10_isAllowed rmX10_isAllowed (va_Pc [.ref (G.2.2.1 0), .int p1] (g_W ZM G me)) (g_Qi ZM G r0 me) 0 0 (g_A ZM G) := by
  refine Met.ofW (cc := cX10_isAllowed) (maxL := 6) (ret := (some .boolean)) (by decide) rfl ?_
  intro p e s m args below meth c s₁ B hml hv
  obtain ⟨rfl, hW0⟩ := hv
  have hC : CallFix p m c cX10_isAllowed 6 s ([.ref (G.2.2.1 0), .int p1] : List Value).toArray wsX10_isAllowed RX10 := ⟨B.exec, B.bytes, hml, findClass_of_methodNamed B.named, atoms_spec (ws := wsX10_isAllowed) B.pre⟩
  have hx := hC.1
  have hb := hC.2.1
  have hown := hC.2.2.2.1
  have hts := hC.2.2.2.2
  have hr := B.returns
  have hlocks := B.notSynchronized
  have hW := g_H_enter hW0
  have hi10 : ∀ w ∈ wsX100, w ∈ wsX10_isAllowed := by decide +kernel
  have hl := lv_entry ([.ref (G.2.2.1 0), .int p1]) (n := 6) (Nat.le_of_ble_eq_true rfl)
  rw [lg_entry_eq]
  generalize (lg_sl ([.ref (G.2.2.1 0), .int p1]) ++ List.replicate (6 - (lg_sl ([.ref (G.2.2.1 0), .int p1])).length) Slot.unset).toArray = ls at hl ⊢
  have hl : lv_has ls 6 [(0, .ref (G.2.2.1 0)), (1, .int p1)] := hl
  obtain ⟨Q, hQ⟩ : ∃ Q, Q = MQ below (g_Qi ZM G r0 me) ([.ref (G.2.2.1 0), .int p1] : List Value).toArray s 0 0 (g_A ZM G) := ⟨_, rfl⟩
  refine g_goQ hQ ?_
  unfold f_X10_isAllowed at hf
  refine g_start hW (fun H locs hW => ?_)
  refine lv_iconst (v := 1) hx hb dX10_isAllowed_0 (by decide) ?_
  refine lv_istore_n (lv' := [(2, .int 1), (0, .ref (G.2.2.1 0)), (1, .int p1)]) hx hb dX10_isAllowed_1 rfl hl (by decide) rfl (fun ls hl => ?_)
  refine lv_iconst (v := 0) hx hb dX10_isAllowed_2 (by decide) ?_
  refine lv_istore_n (lv' := [(3, .int 0), (2, .int 1), (0, .ref (G.2.2.1 0)), (1, .int p1)]) hx hb dX10_isAllowed_3 rfl hl (by decide) rfl (fun ls hl => ?_)
  have hL4 : ∀ (n : Nat) (x1 : Int32) (x2 : Int32) (y3 : Int32) (y4 : Int32) (H : Heap) (locs : List Loc) (ls : Array Slot), f_X10_isAllowed_L4 me p1 n x1 x2 = some (y3, y4) → g_H ZM G s H locs me → lv_has ls 6 [(0, .ref (G.2.2.1 0)), (1, .int p1), (2, .int x1), (3, .int x2)] → (∀ (H : Heap) (locs : List Loc) (ls : Array Slot), g_H ZM G s H locs me → lv_has ls 6 [(2, .int y3)] → W p l e (headSpec wsX10_isAllowed rmX10_isAllowed).room s m ([.ref (G.2.2.1 0), .int p1] : List Value).toArray below meth c H locs 0 0 Q (F0 m 139 ls [])) → W p l e (headSpec wsX10_isAllowed rmX10_isAllowed).room s m ([.ref (G.2.2.1 0), .int p1] : List Value).toArray below meth c H locs 0 0 Q (F0 m 4 ls []) := by
    intro n
    induction n with
    | zero =>
      intro x1 x2 y3 y4 H locs ls hf hW hl hE
      cases hf
    | succ n ih =>
      intro x1 x2 y3 y4 H locs ls hf hW hl hE
      rw [f_X10_isAllowed_L4] at hf
      refine lv_iload_n hx hb dX10_isAllowed_4 rfl (lv_at hl 3 rfl) ?_
      refine lv_aload_n hx hb dX10_isAllowed_5 rfl (lv_at hl 0 rfl) ?_
      refine g_geti hC hW (o := 0) (ci := 10) (k := 16) zm_k0 zm_b0 rfl hi10 (by decide) rfl (by decide +kernel) dX10_isAllowed_6 ?_
      refine lv_icmp_ge (tgt := 139) hx hb dX10_isAllowed_9 (by decide) (fun c5 => ?_) (fun c5 => ?_)
      · have hf := a_if_t c5 hf
        cases hf
        exact hE H locs ls hW (lv_sub hl [2] rfl)
      · have hf := a_if_f c5 hf
        refine lv_iload_n hx hb dX10_isAllowed_12 rfl (lv_at hl 1 rfl) ?_
        refine lv_iload_n hx hb dX10_isAllowed_13 rfl (lv_at hl 3 rfl) ?_
        refine lv_ishr hx hb dX10_isAllowed_14 ?_
        refine lv_iconst (v := 1) hx hb dX10_isAllowed_15 (by decide) ?_
        refine lv_iand hx hb dX10_isAllowed_16 ?_
        refine lv_iconst (v := 1) hx hb dX10_isAllowed_17 (by decide) ?_
        obtain ⟨z7, hg, hf⟩ := ob_inv hf
        have hJ26 : ∀ (H : Heap) (locs : List Loc) (ls : Array Slot), g_H ZM G s H locs me → lv_has ls 6 [(0, .ref (G.2.2.1 0)), (1, .int p1), (2, .int x1), (3, .int x2)] → W p l e (headSpec wsX10_isAllowed rmX10_isAllowed).room s m ([.ref (G.2.2.1 0), .int p1] : List Value).toArray below meth c H locs 0 0 Q (F0 m 26 ls [.int z7]) := by
          intro H locs ls hW hl
          refine lv_istore (lv' := [(4, .int z7), (0, .ref (G.2.2.1 0)), (1, .int p1), (2, .int x1), (3, .int x2)]) hx hb dX10_isAllowed_26 hl (by decide) rfl (fun ls hl => ?_)
          refine lv_iload_n hx hb dX10_isAllowed_28 rfl (lv_at hl 3 rfl) ?_
          obtain ⟨z9, hg, hf⟩ := ob_inv hf
          have hJ67 : ∀ (H : Heap) (locs : List Loc) (ls : Array Slot), g_H ZM G s H locs me → lv_has ls 6 [(0, .ref (G.2.2.1 0)), (1, .int p1), (3, .int x2), (4, .int z7)] → W p l e (headSpec wsX10_isAllowed rmX10_isAllowed).room s m ([.ref (G.2.2.1 0), .int p1] : List Value).toArray below meth c H locs 0 0 Q (F0 m 67 ls [.int z9]) := by
            intro H locs ls hW hl
            refine lv_istore_n (lv' := [(2, .int z9), (0, .ref (G.2.2.1 0)), (1, .int p1), (3, .int x2), (4, .int z7)]) hx hb dX10_isAllowed_67 rfl hl (by decide) rfl (fun ls hl => ?_)
            refine lv_iconst (v := 0) hx hb dX10_isAllowed_68 (by decide) ?_
            refine lv_istore (lv' := [(5, .int 0), (2, .int z9), (0, .ref (G.2.2.1 0)), (1, .int p1), (3, .int x2), (4, .int z7)]) hx hb dX10_isAllowed_69 hl (by decide) rfl (fun ls hl => ?_)
            have hL71 : ∀ (n : Nat) (x15 : Int32) (x16 : Int32) (y17 : Int32) (y18 : Int32) (H : Heap) (locs : List Loc) (ls : Array Slot), f_X10_isAllowed_L71 me p1 x2 z7 n x15 x16 = some (y17, y18) → g_H ZM G s H locs me → lv_has ls 6 [(0, .ref (G.2.2.1 0)), (1, .int p1), (2, .int x15), (3, .int x2), (4, .int z7), (5, .int x16)] → (∀ (H : Heap) (locs : List Loc) (ls : Array Slot), g_H ZM G s H locs me → lv_has ls 6 [(0, .ref (G.2.2.1 0)), (1, .int p1), (2, .int y17), (3, .int x2)] → W p l e (headSpec wsX10_isAllowed rmX10_isAllowed).room s m ([.ref (G.2.2.1 0), .int p1] : List Value).toArray below meth c H locs 0 0 Q (F0 m 133 ls [])) → W p l e (headSpec wsX10_isAllowed rmX10_isAllowed).room s m ([.ref (G.2.2.1 0), .int p1] : List Value).toArray below meth c H locs 0 0 Q (F0 m 71 ls []) := by
              intro n
              induction n with
              | zero =>
                intro x15 x16 y17 y18 H locs ls hf hW hl hE
                cases hf
              | succ n ih =>
                intro x15 x16 y17 y18 H locs ls hf hW hl hE
                rw [f_X10_isAllowed_L71] at hf
                refine lv_iload hx hb dX10_isAllowed_71 (lv_at hl 5 rfl) ?_
                refine lv_iload_n hx hb dX10_isAllowed_73 rfl (lv_at hl 3 rfl) ?_
                refine lv_icmp_ge (tgt := 133) hx hb dX10_isAllowed_74 (by decide) (fun c19 => ?_) (fun c19 => ?_)
                · have hf := a_if_t c19 hf
                  cases hf
                  exact hE H locs ls hW (lv_sub hl [0, 1, 2, 3] rfl)
                · have hf := a_if_f c19 hf
                  refine lv_iload_n hx hb dX10_isAllowed_77 rfl (lv_at hl 2 rfl) ?_
                  obtain ⟨z21, hg, hf⟩ := ob_inv hf
                  have hJ126 : ∀ (H : Heap) (locs : List Loc) (ls : Array Slot), g_H ZM G s H locs me → lv_has ls 6 [(0, .ref (G.2.2.1 0)), (1, .int p1), (3, .int x2), (4, .int z7), (5, .int x16)] → W p l e (headSpec wsX10_isAllowed rmX10_isAllowed).room s m ([.ref (G.2.2.1 0), .int p1] : List Value).toArray below meth c H locs 0 0 Q (F0 m 126 ls [.int z21]) := by
                    intro H locs ls hW hl
                    refine lv_istore_n (lv' := [(2, .int z21), (0, .ref (G.2.2.1 0)), (1, .int p1), (3, .int x2), (4, .int z7), (5, .int x16)]) hx hb dX10_isAllowed_126 rfl hl (by decide) rfl (fun ls hl => ?_)
                    refine lv_iinc (v := (x16 + 1)) (lv' := [(5, .int (x16 + 1)), (2, .int z21), (0, .ref (G.2.2.1 0)), (1, .int p1), (3, .int x2), (4, .int z7)]) hx hb dX10_isAllowed_127 hl (k := 5) rfl (congrArg (fun z => x16 + z) (by decide)) (by decide) rfl (fun ls hl => ?_)
                    refine lv_goto (tgt := 71) hx hb dX10_isAllowed_130 (by decide) ?_
                    exact ih _ _ _ _ _ _ _ hf hW (lv_sub hl [2, 3, 1, 4, 5, 0] rfl) hE
                  replace hf := hg
                  refine lv_if_eq (tgt := 125) hx hb dX10_isAllowed_78 (by decide) (fun c20 => ?_) (fun c20 => ?_)
                  · have hf := a_if_t c20 hf
                    refine lv_iconst (v := 0) hx hb dX10_isAllowed_125 (by decide) ?_
                    cases hf
                    exact hJ126 H locs ls hW (lv_sub hl [0, 1, 3, 4, 5] rfl)
                  · have hf := a_if_f c20 hf
                    refine lv_iload hx hb dX10_isAllowed_81 (lv_at hl 4 rfl) ?_
                    refine lv_if_eq (tgt := 121) hx hb dX10_isAllowed_83 (by decide) (fun c22 => ?_) (fun c22 => ?_)
                    · have hf := a_if_t c22 hf
                      refine lv_iconst (v := 1) hx hb dX10_isAllowed_121 (by decide) ?_
                      refine lv_goto (tgt := 126) hx hb dX10_isAllowed_122 (by decide) ?_
                      cases hf
                      exact hJ126 H locs ls hW (lv_sub hl [0, 1, 3, 4, 5] rfl)
                    · have hf := a_if_f c22 hf
                      refine lv_iload_n hx hb dX10_isAllowed_86 rfl (lv_at hl 1 rfl) ?_
                      refine lv_iload hx hb dX10_isAllowed_87 (lv_at hl 5 rfl) ?_
                      refine lv_ishr hx hb dX10_isAllowed_89 ?_
                      refine lv_iconst (v := 1) hx hb dX10_isAllowed_90 (by decide) ?_
                      refine lv_iand hx hb dX10_isAllowed_91 ?_
                      refine lv_iconst (v := 1) hx hb dX10_isAllowed_92 (by decide) ?_
                      refine lv_icmp_ne (tgt := 121) hx hb dX10_isAllowed_93 (by decide) (fun c23 => ?_) (fun c23 => ?_)
                      · have hf := a_if_f c23 hf
                        refine lv_iconst (v := 1) hx hb dX10_isAllowed_121 (by decide) ?_
                        refine lv_goto (tgt := 126) hx hb dX10_isAllowed_122 (by decide) ?_
                        cases hf
                        exact hJ126 H locs ls hW (lv_sub hl [0, 1, 3, 4, 5] rfl)
                      · have hf := a_if_t c23 hf
                        refine lv_aload_n hx hb dX10_isAllowed_96 rfl (lv_at hl 0 rfl) ?_
                        refine g_getr hC hW (o := 0) (ci := 10) (k := 24) zm_k0 zm_b0 rfl hi10 (by decide) rfl (t := 20) zm_r0_24 (by decide +kernel) dX10_isAllowed_97 ?_
                        refine lv_iload_n hx hb dX10_isAllowed_100 rfl (lv_at hl 3 rfl) ?_
                        obtain ⟨v24, h9, hf⟩ := ob_inv hf
                        refine g_ild hC hW zm_k20 zm_b20 zm_n20 h9 dX10_isAllowed_101 ?_
                        refine lv_if_le (tgt := 121) hx hb dX10_isAllowed_102 (by decide) (fun c25 => ?_) (fun c25 => ?_)
                        · have hf := a_if_t c25 hf
                          refine lv_iconst (v := 1) hx hb dX10_isAllowed_121 (by decide) ?_
                          refine lv_goto (tgt := 126) hx hb dX10_isAllowed_122 (by decide) ?_
                          cases hf
                          exact hJ126 H locs ls hW (lv_sub hl [0, 1, 3, 4, 5] rfl)
                        · have hf := a_if_f c25 hf
                          refine lv_aload_n hx hb dX10_isAllowed_105 rfl (lv_at hl 0 rfl) ?_
                          refine g_getr hC hW (o := 0) (ci := 10) (k := 24) zm_k0 zm_b0 rfl hi10 (by decide) rfl (t := 20) zm_r0_24 (by decide +kernel) dX10_isAllowed_106 ?_
                          refine lv_iload_n hx hb dX10_isAllowed_109 rfl (lv_at hl 3 rfl) ?_
                          obtain ⟨v26, h9, hf⟩ := ob_inv hf
                          refine g_ild hC hW zm_k20 zm_b20 zm_n20 h9 dX10_isAllowed_110 ?_
                          refine lv_aload_n hx hb dX10_isAllowed_111 rfl (lv_at hl 0 rfl) ?_
                          refine g_getr hC hW (o := 0) (ci := 10) (k := 24) zm_k0 zm_b0 rfl hi10 (by decide) rfl (t := 20) zm_r0_24 (by decide +kernel) dX10_isAllowed_112 ?_
                          refine lv_iload hx hb dX10_isAllowed_115 (lv_at hl 5 rfl) ?_
                          obtain ⟨v27, h9, hf⟩ := ob_inv hf
                          refine g_ild hC hW zm_k20 zm_b20 zm_n20 h9 dX10_isAllowed_117 ?_
                          refine lv_icmp_eq (tgt := 125) hx hb dX10_isAllowed_118 (by decide) (fun c28 => ?_) (fun c28 => ?_)
                          · have hf := a_if_t c28 hf
                            refine lv_iconst (v := 0) hx hb dX10_isAllowed_125 (by decide) ?_
                            cases hf
                            exact hJ126 H locs ls hW (lv_sub hl [0, 1, 3, 4, 5] rfl)
                          · have hf := a_if_f c28 hf
                            refine lv_iconst (v := 1) hx hb dX10_isAllowed_121 (by decide) ?_
                            refine lv_goto (tgt := 126) hx hb dX10_isAllowed_122 (by decide) ?_
                            cases hf
                            exact hJ126 H locs ls hW (lv_sub hl [0, 1, 3, 4, 5] rfl)
            obtain ⟨⟨y17, y18⟩, hg, hf⟩ := ob_inv hf
            have hf := ob_inv2 hf
            refine hL71 _ _ _ _ _ _ _ _ hg hW (lv_sub hl [2, 3, 1, 4, 5, 0] rfl) (fun H locs ls hW hl => ?_)
            refine lv_iinc (v := (x2 + 1)) (lv' := [(3, .int (x2 + 1)), (0, .ref (G.2.2.1 0)), (1, .int p1), (2, .int y17)]) hx hb dX10_isAllowed_133 hl (k := 3) rfl (congrArg (fun z => x2 + z) (by decide)) (by decide) rfl (fun ls hl => ?_)
            refine lv_goto (tgt := 4) hx hb dX10_isAllowed_136 (by decide) ?_
            exact ih _ _ _ _ _ _ _ hf hW (lv_sub hl [1, 2, 3, 0] rfl) hE
          replace hf := hg
          refine lv_if_eq (tgt := 66) hx hb dX10_isAllowed_29 (by decide) (fun c8 => ?_) (fun c8 => ?_)
          · have hf := a_if_t c8 hf
            refine lv_iconst (v := 0) hx hb dX10_isAllowed_66 (by decide) ?_
            cases hf
            exact hJ67 H locs ls hW (lv_sub hl [1, 2, 4, 0] rfl)
          · have hf := a_if_f c8 hf
            refine lv_iload hx hb dX10_isAllowed_32 (lv_at hl 0 rfl) ?_
            refine lv_if_eq (tgt := 62) hx hb dX10_isAllowed_34 (by decide) (fun c10 => ?_) (fun c10 => ?_)
            · have hf := a_if_t c10 hf
              refine lv_iconst (v := 1) hx hb dX10_isAllowed_62 (by decide) ?_
              refine lv_goto (tgt := 67) hx hb dX10_isAllowed_63 (by decide) ?_
              cases hf
              exact hJ67 H locs ls hW (lv_sub hl [1, 2, 4, 0] rfl)
            · have hf := a_if_f c10 hf
              refine lv_aload_n hx hb dX10_isAllowed_37 rfl (lv_at hl 1 rfl) ?_
              refine g_getr hC hW (o := 0) (ci := 10) (k := 23) zm_k0 zm_b0 rfl hi10 (by decide) rfl (t := 19) zm_r0_23 (by decide +kernel) dX10_isAllowed_38 ?_
              refine lv_iload_n hx hb dX10_isAllowed_41 rfl (lv_at hl 4 rfl) ?_
              obtain ⟨v11, h9, hf⟩ := ob_inv hf
              refine g_ild hC hW zm_k19 zm_b19 zm_n19 h9 dX10_isAllowed_42 ?_
              refine lv_if_eq (tgt := 62) hx hb dX10_isAllowed_43 (by decide) (fun c12 => ?_) (fun c12 => ?_)
              · have hf := a_if_t c12 hf
                refine lv_iconst (v := 1) hx hb dX10_isAllowed_62 (by decide) ?_
                refine lv_goto (tgt := 67) hx hb dX10_isAllowed_63 (by decide) ?_
                cases hf
                exact hJ67 H locs ls hW (lv_sub hl [1, 2, 4, 0] rfl)
              · have hf := a_if_f c12 hf
                refine lv_iload_n hx hb dX10_isAllowed_46 rfl (lv_at hl 2 rfl) ?_
                refine lv_aload_n hx hb dX10_isAllowed_47 rfl (lv_at hl 1 rfl) ?_
                refine g_getr hC hW (o := 0) (ci := 10) (k := 23) zm_k0 zm_b0 rfl hi10 (by decide) rfl (t := 19) zm_r0_23 (by decide +kernel) dX10_isAllowed_48 ?_
                refine lv_iload_n hx hb dX10_isAllowed_51 rfl (lv_at hl 4 rfl) ?_
                obtain ⟨v13, h9, hf⟩ := ob_inv hf
                refine g_ild hC hW zm_k19 zm_b19 zm_n19 h9 dX10_isAllowed_52 ?_
                refine lv_iconst (v := 1) hx hb dX10_isAllowed_53 (by decide) ?_
                refine lv_isub hx hb dX10_isAllowed_54 ?_
                refine lv_ishr hx hb dX10_isAllowed_55 ?_
                refine lv_iconst (v := 1) hx hb dX10_isAllowed_56 (by decide) ?_
                refine lv_iand hx hb dX10_isAllowed_57 ?_
                refine lv_iconst (v := 1) hx hb dX10_isAllowed_58 (by decide) ?_
                refine lv_icmp_ne (tgt := 66) hx hb dX10_isAllowed_59 (by decide) (fun c14 => ?_) (fun c14 => ?_)
                · have hf := a_if_f c14 hf
                  refine lv_iconst (v := 0) hx hb dX10_isAllowed_66 (by decide) ?_
                  cases hf
                  exact hJ67 H locs ls hW (lv_sub hl [1, 2, 4, 0] rfl)
                · have hf := a_if_t c14 hf
                  refine lv_iconst (v := 1) hx hb dX10_isAllowed_62 (by decide) ?_
                  refine lv_goto (tgt := 67) hx hb dX10_isAllowed_63 (by decide) ?_
                  cases hf
                  exact hJ67 H locs ls hW (lv_sub hl [1, 2, 4, 0] rfl)
        replace hf := hg
        refine lv_icmp_ne (tgt := 25) hx hb dX10_isAllowed_18 (by decide) (fun c6 => ?_) (fun c6 => ?_)
        · have hf := a_if_f c6 hf
          refine lv_iconst (v := 0) hx hb dX10_isAllowed_25 (by decide) ?_
          cases hf
          exact hJ26 H locs ls hW (lv_sub hl [0, 1, 2, 3] rfl)
        · have hf := a_if_t c6 hf
          refine lv_iconst (v := 1) hx hb dX10_isAllowed_21 (by decide) ?_
          refine lv_goto (tgt := 26) hx hb dX10_isAllowed_22 (by decide) ?_
          cases hf
          exact hJ26 H locs ls hW (lv_sub hl [0, 1, 2, 3] rfl)
  obtain ⟨⟨y3, y4⟩, hg, hf⟩ := ob_inv hf
  have hf := ob_inv2 hf
  refine hL4 _ _ _ _ _ _ _ _ hg hW (lv_sub hl [2, 3, 1, 0] rfl) (fun H locs ls hW hl => ?_)
  refine lv_iload_n hx hb dX10_isAllowed_139 rfl (lv_at hl 0 rfl) ?_
  obtain ⟨b30, h9, hf⟩ := ob_inv hf
  obtain ⟨h9, hn9⟩ := a_zc_inv h9
  refine g_nmi h9 ?_
  cases hf
  subst hQ
  exact g_zret hC hW hr hlocks hn9 rfl rfl dX10_isAllowed_140
abbrev rmX10_pricesOf : Room := { frames := 0, cells := 0, slots := 0, locals := 0 }
set_option maxHeartbeats 4000000 in
set_option maxRecDepth 100000 in
theorem c_X10_pricesOf (l : Launch) (G : gG) {p1 : Int32} {n2 : Nat} {a2 : Nat} {p3 : Int32} {me : gM} {r0 : Int32}  (ha2 : ZM.2.1 a2 = 20) (hn2 : ZM.2.2.1 a2 = n2) (hf : f_X10_pricesOf p1 n2 a2 p3 me = some r0) : Met l yX10_pricesOf wsX10_pricesOf rmX10_pricesOf (va_Pc [.ref (G.2.2.1 0), .int p1, .ref (G.2.2.1 a2), .int p3] (g_W ZM G me)) (g_Qi ZM G r0 me) 0 0 (g_A ZM G) := by
  refine Met.ofW (cc := cX10_pricesOf) (maxL := 6) (ret := (some .int)) (by decide) rfl ?_
  intro p e s m args below meth c s₁ B hml hv
  obtain ⟨rfl, hW0⟩ := hv
  have hC : CallFix p m c cX10_pricesOf 6 s ([.ref (G.2.2.1 0), .int p1, .ref (G.2.2.1 a2), .int p3] : List Value).toArray wsX10_pricesOf RX10 := ⟨B.exec, B.bytes, hml, findClass_of_methodNamed B.named, atoms_spec (ws := wsX10_pricesOf) B.pre⟩
  have hx := hC.1
  have hb := hC.2.1
  have hown := hC.2.2.2.1
  have hts := hC.2.2.2.2
  have hr := B.returns
  have hlocks := B.notSynchronized
  have hW := g_H_enter hW0
  have hi10 : ∀ w ∈ wsX100, w ∈ wsX10_pricesOf := by decide +kernel
  have hl := lv_entry ([.ref (G.2.2.1 0), .int p1, .ref (G.2.2.1 a2), .int p3]) (n := 6) (Nat.le_of_ble_eq_true rfl)
  rw [lg_entry_eq]
  generalize (lg_sl ([.ref (G.2.2.1 0), .int p1, .ref (G.2.2.1 a2), .int p3]) ++ List.replicate (6 - (lg_sl ([.ref (G.2.2.1 0), .int p1, .ref (G.2.2.1 a2), .int p3])).length) Slot.unset).toArray = ls at hl ⊢
  have hl : lv_has ls 6 [(0, .ref (G.2.2.1 0)), (1, .int p1), (2, .ref (G.2.2.1 a2)), (3, .int p3)] := hl
  obtain ⟨Q, hQ⟩ : ∃ Q, Q = MQ below (g_Qi ZM G r0 me) ([.ref (G.2.2.1 0), .int p1, .ref (G.2.2.1 a2), .int p3] : List Value).toArray s 0 0 (g_A ZM G) := ⟨_, rfl⟩
  refine g_goQ hQ ?_
  unfold f_X10_pricesOf at hf
  refine g_start hW (fun H locs hW => ?_)
  refine lv_iconst (v := 0) hx hb dX10_pricesOf_0 (by decide) ?_
  refine lv_istore (lv' := [(4, .int 0), (0, .ref (G.2.2.1 0)), (1, .int p1), (2, .ref (G.2.2.1 a2)), (3, .int p3)]) hx hb dX10_pricesOf_1 hl (by decide) rfl (fun ls hl => ?_)
  refine lv_iconst (v := 0) hx hb dX10_pricesOf_3 (by decide) ?_
  refine lv_istore (lv' := [(5, .int 0), (4, .int 0), (0, .ref (G.2.2.1 0)), (1, .int p1), (2, .ref (G.2.2.1 a2)), (3, .int p3)]) hx hb dX10_pricesOf_4 hl (by decide) rfl (fun ls hl => ?_)
  have hL6 : ∀ (n : Nat) (x1 : Int32) (x2 : Int32) (y3 : Int32) (y4 : Int32) (H : Heap) (locs : List Loc) (ls : Array Slot), f_X10_pricesOf_L6 a2 n2 me p1 p3 n x1 x2 = some (y3, y4) → g_H ZM G s H locs me → lv_has ls 6 [(0, .ref (G.2.2.1 0)), (1, .int p1), (2, .ref (G.2.2.1 a2)), (3, .int p3), (4, .int x1), (5, .int x2)] → (∀ (H : Heap) (locs : List Loc) (ls : Array Slot), g_H ZM G s H locs me → lv_has ls 6 [(4, .int y3)] → W p l e (headSpec wsX10_pricesOf rmX10_pricesOf).room s m ([.ref (G.2.2.1 0), .int p1, .ref (G.2.2.1 a2), .int p3] : List Value).toArray below meth c H locs 0 0 Q (F0 m 57 ls [])) → W p l e (headSpec wsX10_pricesOf rmX10_pricesOf).room s m ([.ref (G.2.2.1 0), .int p1, .ref (G.2.2.1 a2), .int p3] : List Value).toArray below meth c H locs 0 0 Q (F0 m 6 ls []) := by
    intro n
    induction n with
    | zero =>
      intro x1 x2 y3 y4 H locs ls hf hW hl hE
      cases hf
    | succ n ih =>
      intro x1 x2 y3 y4 H locs ls hf hW hl hE
      rw [f_X10_pricesOf_L6] at hf
      refine lv_iload hx hb dX10_pricesOf_6 (lv_at hl 5 rfl) ?_
      refine lv_iconst (v := 4) hx hb dX10_pricesOf_8 (by decide) ?_
      refine lv_icmp_ge (tgt := 57) hx hb dX10_pricesOf_9 (by decide) (fun c5 => ?_) (fun c5 => ?_)
      · have hf := a_if_t c5 hf
        cases hf
        exact hE H locs ls hW (lv_sub hl [4] rfl)
      · have hf := a_if_f c5 hf
        refine lv_iload hx hb dX10_pricesOf_12 (lv_at hl 4 rfl) ?_
        refine lv_aload_n hx hb dX10_pricesOf_14 rfl (lv_at hl 0 rfl) ?_
        refine g_getr hC hW (o := 0) (ci := 10) (k := 19) zm_k0 zm_b0 rfl hi10 (by decide) rfl (t := 15) zm_r0_19 (by decide +kernel) dX10_pricesOf_15 ?_
        refine lv_iload_n hx hb dX10_pricesOf_18 rfl (lv_at hl 1 rfl) ?_
        obtain ⟨v6, h9, hf⟩ := ob_inv hf
        refine g_ild hC hW zm_k15 zm_b15 zm_n15 h9 dX10_pricesOf_19 ?_
        refine lv_iload hx hb dX10_pricesOf_20 (lv_at hl 5 rfl) ?_
        refine lv_ishr hx hb dX10_pricesOf_22 ?_
        refine lv_iconst (v := 1) hx hb dX10_pricesOf_23 (by decide) ?_
        refine lv_iand hx hb dX10_pricesOf_24 ?_
        refine lv_iconst (v := 1) hx hb dX10_pricesOf_25 (by decide) ?_
        obtain ⟨z8, hg, hf⟩ := ob_inv hf
        have hJ48 : ∀ (H : Heap) (locs : List Loc) (ls : Array Slot), g_H ZM G s H locs me → lv_has ls 6 [(0, .ref (G.2.2.1 0)), (1, .int p1), (2, .ref (G.2.2.1 a2)), (3, .int p3), (5, .int x2)] → W p l e (headSpec wsX10_pricesOf rmX10_pricesOf).room s m ([.ref (G.2.2.1 0), .int p1, .ref (G.2.2.1 a2), .int p3] : List Value).toArray below meth c H locs 0 0 Q (F0 m 48 ls [.int z8, .int x1]) := by
          intro H locs ls hW hl
          refine lv_iadd hx hb dX10_pricesOf_48 ?_
          obtain ⟨x11, h9, hf⟩ := ob_inv hf
          refine g_nmi (Option.some.inj h9) ?_
          refine lv_istore (lv' := [(4, .int x11), (0, .ref (G.2.2.1 0)), (1, .int p1), (2, .ref (G.2.2.1 a2)), (3, .int p3), (5, .int x2)]) hx hb dX10_pricesOf_49 hl (by decide) rfl (fun ls hl => ?_)
          refine lv_iinc (v := (x2 + 1)) (lv' := [(5, .int (x2 + 1)), (4, .int x11), (0, .ref (G.2.2.1 0)), (1, .int p1), (2, .ref (G.2.2.1 a2)), (3, .int p3)]) hx hb dX10_pricesOf_51 hl (k := 5) rfl (congrArg (fun z => x2 + z) (by decide)) (by decide) rfl (fun ls hl => ?_)
          refine lv_goto (tgt := 6) hx hb dX10_pricesOf_54 (by decide) ?_
          exact ih _ _ _ _ _ _ _ hf hW (lv_sub hl [2, 3, 4, 5, 1, 0] rfl) hE
        replace hf := hg
        refine lv_icmp_ne (tgt := 47) hx hb dX10_pricesOf_26 (by decide) (fun c7 => ?_) (fun c7 => ?_)
        · have hf := a_if_f c7 hf
          refine lv_iconst (v := 0) hx hb dX10_pricesOf_47 (by decide) ?_
          cases hf
          exact hJ48 H locs ls hW (lv_sub hl [0, 1, 2, 3, 5] rfl)
        · have hf := a_if_t c7 hf
          refine lv_aload_n hx hb dX10_pricesOf_29 rfl (lv_at hl 2 rfl) ?_
          refine lv_iload_n hx hb dX10_pricesOf_30 rfl (lv_at hl 3 rfl) ?_
          refine lv_iconst (v := 4) hx hb dX10_pricesOf_31 (by decide) ?_
          refine lv_aload_n hx hb dX10_pricesOf_32 rfl (lv_at hl 0 rfl) ?_
          refine g_getr hC hW (o := 0) (ci := 10) (k := 18) zm_k0 zm_b0 rfl hi10 (by decide) rfl (t := 14) zm_r0_18 (by decide +kernel) dX10_pricesOf_33 ?_
          refine lv_iload_n hx hb dX10_pricesOf_36 rfl (lv_at hl 1 rfl) ?_
          obtain ⟨v9, h9, hf⟩ := ob_inv hf
          refine g_ild hC hW zm_k14 zm_b14 zm_n14 h9 dX10_pricesOf_37 ?_
          refine lv_imul hx hb dX10_pricesOf_38 ?_
          refine lv_iadd hx hb dX10_pricesOf_39 ?_
          refine lv_iload hx hb dX10_pricesOf_40 (lv_at hl 5 rfl) ?_
          refine lv_iadd hx hb dX10_pricesOf_42 ?_
          obtain ⟨v10, h9, hf⟩ := ob_inv hf
          refine g_ild hC hW ha2 (zm_lt ha2) hn2 h9 dX10_pricesOf_43 ?_
          refine lv_goto (tgt := 48) hx hb dX10_pricesOf_44 (by decide) ?_
          cases hf
          exact hJ48 H locs ls hW (lv_sub hl [0, 1, 2, 3, 5] rfl)
  obtain ⟨⟨y3, y4⟩, hg, hf⟩ := ob_inv hf
  have hf := ob_inv2 hf
  refine hL6 _ _ _ _ _ _ _ _ hg hW (lv_sub hl [2, 3, 4, 5, 1, 0] rfl) (fun H locs ls hW hl => ?_)
  refine lv_iload hx hb dX10_pricesOf_57 (lv_at hl 0 rfl) ?_
  cases hf
  subst hQ
  exact g_iret hC hW hr hlocks rfl rfl dX10_pricesOf_59
abbrev rmX10_hoursOf : Room := { frames := 0, cells := 0, slots := 0, locals := 0 }
set_option maxHeartbeats 4000000 in
set_option maxRecDepth 100000 in
theorem c_X10_hoursOf (l : Launch) (G : gG) {p1 : Int32} {me : gM} {r0 : Int32}  (hf : f_X10_hoursOf p1 me = some r0) : Met l yX10_hoursOf wsX10_hoursOf rmX10_hoursOf (va_Pc [.ref (G.2.2.1 0), .int p1] (g_W ZM G me)) (g_Qi ZM G r0 me) 0 0 (g_A ZM G) := by
  refine Met.ofW (cc := cX10_hoursOf) (maxL := 4) (ret := (some .int)) (by decide) rfl ?_
  intro p e s m args below meth c s₁ B hml hv
  obtain ⟨rfl, hW0⟩ := hv
  have hC : CallFix p m c cX10_hoursOf 4 s ([.ref (G.2.2.1 0), .int p1] : List Value).toArray wsX10_hoursOf RX10 := ⟨B.exec, B.bytes, hml, findClass_of_methodNamed B.named, atoms_spec (ws := wsX10_hoursOf) B.pre⟩
  have hx := hC.1
  have hb := hC.2.1
  have hown := hC.2.2.2.1
  have hts := hC.2.2.2.2
  have hr := B.returns
  have hlocks := B.notSynchronized
  have hW := g_H_enter hW0
  have hi10 : ∀ w ∈ wsX100, w ∈ wsX10_hoursOf := by decide +kernel
  have hl := lv_entry ([.ref (G.2.2.1 0), .int p1]) (n := 4) (Nat.le_of_ble_eq_true rfl)
  rw [lg_entry_eq]
  generalize (lg_sl ([.ref (G.2.2.1 0), .int p1]) ++ List.replicate (4 - (lg_sl ([.ref (G.2.2.1 0), .int p1])).length) Slot.unset).toArray = ls at hl ⊢
  have hl : lv_has ls 4 [(0, .ref (G.2.2.1 0)), (1, .int p1)] := hl
  obtain ⟨Q, hQ⟩ : ∃ Q, Q = MQ below (g_Qi ZM G r0 me) ([.ref (G.2.2.1 0), .int p1] : List Value).toArray s 0 0 (g_A ZM G) := ⟨_, rfl⟩
  refine g_goQ hQ ?_
  unfold f_X10_hoursOf at hf
  refine g_start hW (fun H locs hW => ?_)
  refine lv_iconst (v := 0) hx hb dX10_hoursOf_0 (by decide) ?_
  refine lv_istore_n (lv' := [(2, .int 0), (0, .ref (G.2.2.1 0)), (1, .int p1)]) hx hb dX10_hoursOf_1 rfl hl (by decide) rfl (fun ls hl => ?_)
  refine lv_iconst (v := 0) hx hb dX10_hoursOf_2 (by decide) ?_
  refine lv_istore_n (lv' := [(3, .int 0), (2, .int 0), (0, .ref (G.2.2.1 0)), (1, .int p1)]) hx hb dX10_hoursOf_3 rfl hl (by decide) rfl (fun ls hl => ?_)
  have hL4 : ∀ (n : Nat) (x1 : Int32) (x2 : Int32) (y3 : Int32) (y4 : Int32) (H : Heap) (locs : List Loc) (ls : Array Slot), f_X10_hoursOf_L4 me p1 n x1 x2 = some (y3, y4) → g_H ZM G s H locs me → lv_has ls 4 [(0, .ref (G.2.2.1 0)), (1, .int p1), (2, .int x1), (3, .int x2)] → (∀ (H : Heap) (locs : List Loc) (ls : Array Slot), g_H ZM G s H locs me → lv_has ls 4 [(2, .int y3)] → W p l e (headSpec wsX10_hoursOf rmX10_hoursOf).room s m ([.ref (G.2.2.1 0), .int p1] : List Value).toArray below meth c H locs 0 0 Q (F0 m 28 ls [])) → W p l e (headSpec wsX10_hoursOf rmX10_hoursOf).room s m ([.ref (G.2.2.1 0), .int p1] : List Value).toArray below meth c H locs 0 0 Q (F0 m 4 ls []) := by
    intro n
    induction n with
    | zero =>
      intro x1 x2 y3 y4 H locs ls hf hW hl hE
      cases hf
    | succ n ih =>
      intro x1 x2 y3 y4 H locs ls hf hW hl hE
      rw [f_X10_hoursOf_L4] at hf
      refine lv_iload_n hx hb dX10_hoursOf_4 rfl (lv_at hl 3 rfl) ?_
      refine lv_iconst (v := 4) hx hb dX10_hoursOf_5 (by decide) ?_
      refine lv_icmp_ge (tgt := 28) hx hb dX10_hoursOf_6 (by decide) (fun c5 => ?_) (fun c5 => ?_)
      · have hf := a_if_t c5 hf
        cases hf
        exact hE H locs ls hW (lv_sub hl [2] rfl)
      · have hf := a_if_f c5 hf
        refine lv_iload_n hx hb dX10_hoursOf_9 rfl (lv_at hl 2 rfl) ?_
        refine lv_aload_n hx hb dX10_hoursOf_10 rfl (lv_at hl 0 rfl) ?_
        refine g_getr hC hW (o := 0) (ci := 10) (k := 19) zm_k0 zm_b0 rfl hi10 (by decide) rfl (t := 15) zm_r0_19 (by decide +kernel) dX10_hoursOf_11 ?_
        refine lv_iload_n hx hb dX10_hoursOf_14 rfl (lv_at hl 1 rfl) ?_
        obtain ⟨v6, h9, hf⟩ := ob_inv hf
        refine g_ild hC hW zm_k15 zm_b15 zm_n15 h9 dX10_hoursOf_15 ?_
        refine lv_iload_n hx hb dX10_hoursOf_16 rfl (lv_at hl 3 rfl) ?_
        refine lv_ishr hx hb dX10_hoursOf_17 ?_
        refine lv_iconst (v := 1) hx hb dX10_hoursOf_18 (by decide) ?_
        refine lv_iand hx hb dX10_hoursOf_19 ?_
        refine lv_iadd hx hb dX10_hoursOf_20 ?_
        obtain ⟨x7, h9, hf⟩ := ob_inv hf
        refine g_nmi (Option.some.inj h9) ?_
        refine lv_istore_n (lv' := [(2, .int x7), (0, .ref (G.2.2.1 0)), (1, .int p1), (3, .int x2)]) hx hb dX10_hoursOf_21 rfl hl (by decide) rfl (fun ls hl => ?_)
        refine lv_iinc (v := (x2 + 1)) (lv' := [(3, .int (x2 + 1)), (2, .int x7), (0, .ref (G.2.2.1 0)), (1, .int p1)]) hx hb dX10_hoursOf_22 hl (k := 3) rfl (congrArg (fun z => x2 + z) (by decide)) (by decide) rfl (fun ls hl => ?_)
        refine lv_goto (tgt := 4) hx hb dX10_hoursOf_25 (by decide) ?_
        exact ih _ _ _ _ _ _ _ hf hW (lv_sub hl [2, 3, 1, 0] rfl) hE
  obtain ⟨⟨y3, y4⟩, hg, hf⟩ := ob_inv hf
  have hf := ob_inv2 hf
  refine hL4 _ _ _ _ _ _ _ _ hg hW (lv_sub hl [2, 3, 1, 0] rfl) (fun H locs ls hW hl => ?_)
  refine lv_iload_n hx hb dX10_hoursOf_28 rfl (lv_at hl 0 rfl) ?_
  cases hf
  subst hQ
  exact g_iret hC hW hr hlocks rfl rfl dX10_hoursOf_29
abbrev rmX10_gainOf : Room := { frames := 1, cells := 0, slots := 0, locals := 25 }
set_option maxHeartbeats 4000000 in
set_option maxRecDepth 100000 in
theorem c_X10_gainOf (l : Launch) (G : gG) {p1 : Int32} {n2 : Nat} {a2 : Nat} {p3 : Int32} {me : gM} {r0 : Int32}  (ha2 : ZM.2.1 a2 = 20) (hn2 : ZM.2.2.1 a2 = n2) (hf : f_X10_gainOf p1 n2 a2 p3 me = some r0) : Met l yX10_gainOf wsX10_gainOf rmX10_gainOf (va_Pc [.ref (G.2.2.1 0), .int p1, .ref (G.2.2.1 a2), .int p3] (g_W ZM G me)) (g_Qi ZM G r0 me) 0 0 (g_A ZM G) := by
  refine Met.ofW (cc := cX10_gainOf) (maxL := 5) (ret := (some .int)) (by decide) rfl ?_
  intro p e s m args below meth c s₁ B hml hv
  obtain ⟨rfl, hW0⟩ := hv
  have hC : CallFix p m c cX10_gainOf 5 s ([.ref (G.2.2.1 0), .int p1, .ref (G.2.2.1 a2), .int p3] : List Value).toArray wsX10_gainOf RX10 := ⟨B.exec, B.bytes, hml, findClass_of_methodNamed B.named, atoms_spec (ws := wsX10_gainOf) B.pre⟩
  have hx := hC.1
  have hb := hC.2.1
  have hown := hC.2.2.2.1
  have hts := hC.2.2.2.2
  have hr := B.returns
  have hlocks := B.notSynchronized
  have hW := g_H_enter hW0
  have hi10 : ∀ w ∈ wsX100, w ∈ wsX10_gainOf := by decide +kernel
  have hl := lv_entry ([.ref (G.2.2.1 0), .int p1, .ref (G.2.2.1 a2), .int p3]) (n := 5) (Nat.le_of_ble_eq_true rfl)
  rw [lg_entry_eq]
  generalize (lg_sl ([.ref (G.2.2.1 0), .int p1, .ref (G.2.2.1 a2), .int p3]) ++ List.replicate (5 - (lg_sl ([.ref (G.2.2.1 0), .int p1, .ref (G.2.2.1 a2), .int p3])).length) Slot.unset).toArray = ls at hl ⊢
  have hl : lv_has ls 5 [(0, .ref (G.2.2.1 0)), (1, .int p1), (2, .ref (G.2.2.1 a2)), (3, .int p3)] := hl
  obtain ⟨Q, hQ⟩ : ∃ Q, Q = MQ below (g_Qi ZM G r0 me) ([.ref (G.2.2.1 0), .int p1, .ref (G.2.2.1 a2), .int p3] : List Value).toArray s 0 0 (g_A ZM G) := ⟨_, rfl⟩
  refine g_goQ hQ ?_
  unfold f_X10_gainOf at hf
  refine g_start hW (fun H locs hW => ?_)
  refine lv_aload_n hx hb dX10_gainOf_0 rfl (lv_at hl 0 rfl) ?_
  refine lv_iload_n hx hb dX10_gainOf_1 rfl (lv_at hl 1 rfl) ?_
  refine lv_aload_n hx hb dX10_gainOf_2 rfl (lv_at hl 2 rfl) ?_
  refine lv_iload_n hx hb dX10_gainOf_3 rfl (lv_at hl 3 rfl) ?_
  obtain ⟨r1, hg, hf⟩ := ob_inv hf
  refine g_cVi hC hW (o := 0) (ci := 10) (As := [.int p1, .ref (G.2.2.1 a2), .int p3]) (rest := []) zm_k0 zm_b0 rfl (c_X10_pricesOf l G ha2 hn2 hg) (cwV 3 hts gX10_gainOf_X10_pricesOf rfl rfl rfl (by decide +kernel) ⟨Nat.le_of_ble_eq_true rfl, Nat.le_of_ble_eq_true rfl⟩) rfl hl.1 rfl (Nat.le_of_ble_eq_true rfl) dX10_gainOf_4 ⟨Nat.le_of_ble_eq_true rfl, Nat.le_of_ble_eq_true rfl⟩ (fun H locs hW => ?_)
  refine lv_aload_n hx hb dX10_gainOf_7 rfl (lv_at hl 0 rfl) ?_
  refine g_getr hC hW (o := 0) (ci := 10) (k := 21) zm_k0 zm_b0 rfl hi10 (by decide) rfl (t := 17) zm_r0_21 (by decide +kernel) dX10_gainOf_8 ?_
  refine lv_iload_n hx hb dX10_gainOf_11 rfl (lv_at hl 1 rfl) ?_
  obtain ⟨v2, h9, hf⟩ := ob_inv hf
  refine g_ild hC hW zm_k17 zm_b17 zm_n17 h9 dX10_gainOf_12 ?_
  refine lv_aload_n hx hb dX10_gainOf_13 rfl (lv_at hl 0 rfl) ?_
  refine lv_iload_n hx hb dX10_gainOf_14 rfl (lv_at hl 1 rfl) ?_
  obtain ⟨r3, hg, hf⟩ := ob_inv hf
  refine g_cVi hC hW (o := 0) (ci := 10) (As := [.int p1]) (rest := [.int v2, .int r1]) zm_k0 zm_b0 rfl (c_X10_hoursOf l G  hg) (cwV 1 hts gX10_gainOf_X10_hoursOf rfl rfl rfl (by decide +kernel) ⟨Nat.le_of_ble_eq_true rfl, Nat.le_of_ble_eq_true rfl⟩) rfl hl.1 rfl (Nat.le_of_ble_eq_true rfl) dX10_gainOf_15 ⟨Nat.le_of_ble_eq_true rfl, Nat.le_of_ble_eq_true rfl⟩ (fun H locs hW => ?_)
  refine lv_imul hx hb dX10_gainOf_18 ?_
  refine lv_isub hx hb dX10_gainOf_19 ?_
  obtain ⟨x4, h9, hf⟩ := ob_inv hf
  refine g_nmi (Option.some.inj h9) ?_
  refine lv_istore (lv' := [(4, .int x4), (0, .ref (G.2.2.1 0)), (1, .int p1), (2, .ref (G.2.2.1 a2)), (3, .int p3)]) hx hb dX10_gainOf_20 hl (by decide) rfl (fun ls hl => ?_)
  refine lv_aload_n hx hb dX10_gainOf_22 rfl (lv_at hl 1 rfl) ?_
  refine g_getr hC hW (o := 0) (ci := 10) (k := 20) zm_k0 zm_b0 rfl hi10 (by decide) rfl (t := 16) zm_r0_20 (by decide +kernel) dX10_gainOf_23 ?_
  refine lv_iload_n hx hb dX10_gainOf_26 rfl (lv_at hl 2 rfl) ?_
  obtain ⟨v5, h9, hf⟩ := ob_inv hf
  refine g_ild hC hW zm_k16 zm_b16 zm_n16 h9 dX10_gainOf_27 ?_
  refine lv_iconst (v := 1) hx hb dX10_gainOf_28 (by decide) ?_
  obtain ⟨z7, hg, hf⟩ := ob_inv hf
  have hJ40 : ∀ (H : Heap) (locs : List Loc) (ls : Array Slot), g_H ZM G s H locs me → lv_has ls 5 [] → W p l e (headSpec wsX10_gainOf rmX10_gainOf).room s m ([.ref (G.2.2.1 0), .int p1, .ref (G.2.2.1 a2), .int p3] : List Value).toArray below meth c H locs 0 0 Q (F0 m 40 ls [.int z7]) := by
    intro H locs ls hW hl
    cases hf
    subst hQ
    exact g_iret hC hW hr hlocks rfl rfl dX10_gainOf_40
  replace hf := hg
  refine lv_icmp_ne (tgt := 38) hx hb dX10_gainOf_29 (by decide) (fun c6 => ?_) (fun c6 => ?_)
  · have hf := a_if_f c6 hf
    refine lv_iload hx hb dX10_gainOf_38 (lv_at hl 0 rfl) ?_
    cases hf
    exact hJ40 H locs ls hW (lv_sub hl [] rfl)
  · have hf := a_if_t c6 hf
    refine lv_iload hx hb dX10_gainOf_32 (lv_at hl 0 rfl) ?_
    refine lv_ineg hx hb dX10_gainOf_34 ?_
    refine lv_goto (tgt := 40) hx hb dX10_gainOf_35 (by decide) ?_
    cases hf
    exact hJ40 H locs ls hW (lv_sub hl [] rfl)
abbrev rmX10_lays : Room := { frames := 0, cells := 0, slots := 0, locals := 0 }
set_option maxHeartbeats 4000000 in
set_option maxRecDepth 100000 in
theorem c_X10_lays (l : Launch) (G : gG) {p1 : Int32} {me : gM} {m0 : gM}  (hf : f_X10_lays p1 me = some m0) : Met l yX10_lays wsX10_lays rmX10_lays (va_Pc [.ref (G.2.2.1 0), .int p1] (g_W ZM G me)) (g_Qv ZM G m0) 0 0 (g_A ZM G) := by
  refine Met.ofW (cc := cX10_lays) (maxL := 5) (ret := none) (by decide) rfl ?_
  intro p e s m args below meth c s₁ B hml hv
  obtain ⟨rfl, hW0⟩ := hv
  have hC : CallFix p m c cX10_lays 5 s ([.ref (G.2.2.1 0), .int p1] : List Value).toArray wsX10_lays RX10 := ⟨B.exec, B.bytes, hml, findClass_of_methodNamed B.named, atoms_spec (ws := wsX10_lays) B.pre⟩
  have hx := hC.1
  have hb := hC.2.1
  have hown := hC.2.2.2.1
  have hts := hC.2.2.2.2
  have hr := B.returns
  have hlocks := B.notSynchronized
  have hW := g_H_enter hW0
  have hi10 : ∀ w ∈ wsX100, w ∈ wsX10_lays := by decide +kernel
  have hl := lv_entry ([.ref (G.2.2.1 0), .int p1]) (n := 5) (Nat.le_of_ble_eq_true rfl)
  rw [lg_entry_eq]
  generalize (lg_sl ([.ref (G.2.2.1 0), .int p1]) ++ List.replicate (5 - (lg_sl ([.ref (G.2.2.1 0), .int p1])).length) Slot.unset).toArray = ls at hl ⊢
  have hl : lv_has ls 5 [(0, .ref (G.2.2.1 0)), (1, .int p1)] := hl
  obtain ⟨Q, hQ⟩ : ∃ Q, Q = MQ below (g_Qv ZM G m0) ([.ref (G.2.2.1 0), .int p1] : List Value).toArray s 0 0 (g_A ZM G) := ⟨_, rfl⟩
  refine g_goQ hQ ?_
  unfold f_X10_lays at hf
  refine g_start hW (fun H locs hW => ?_)
  refine lv_iconst (v := 0) hx hb dX10_lays_0 (by decide) ?_
  refine lv_istore_n (lv' := [(2, .int 0), (0, .ref (G.2.2.1 0)), (1, .int p1)]) hx hb dX10_lays_1 rfl hl (by decide) rfl (fun ls hl => ?_)
  have hL2 : ∀ (n : Nat) (x1 : Int32) (m2 : gM) (y3 : Int32) (m4 : gM) (H : Heap) (locs : List Loc) (ls : Array Slot), f_X10_lays_L2  n x1 m2 = some (y3, m4) → g_H ZM G s H locs m2 → lv_has ls 5 [(0, .ref (G.2.2.1 0)), (1, .int p1), (2, .int x1)] → (∀ (H : Heap) (locs : List Loc) (ls : Array Slot), g_H ZM G s H locs m4 → lv_has ls 5 [(0, .ref (G.2.2.1 0)), (1, .int p1)] → W p l e (headSpec wsX10_lays rmX10_lays).room s m ([.ref (G.2.2.1 0), .int p1] : List Value).toArray below meth c H locs 0 0 Q (F0 m 21 ls [])) → W p l e (headSpec wsX10_lays rmX10_lays).room s m ([.ref (G.2.2.1 0), .int p1] : List Value).toArray below meth c H locs 0 0 Q (F0 m 2 ls []) := by
    intro n
    induction n with
    | zero =>
      intro x1 m2 y3 m4 H locs ls hf hW hl hE
      cases hf
    | succ n ih =>
      intro x1 m2 y3 m4 H locs ls hf hW hl hE
      rw [f_X10_lays_L2] at hf
      refine lv_iload_n hx hb dX10_lays_2 rfl (lv_at hl 2 rfl) ?_
      refine lv_bipush (v := 12) hx hb dX10_lays_3 (by decide) ?_
      refine lv_icmp_ge (tgt := 21) hx hb dX10_lays_5 (by decide) (fun c5 => ?_) (fun c5 => ?_)
      · have hf := a_if_t c5 hf
        cases hf
        exact hE H locs ls hW (lv_sub hl [0, 1] rfl)
      · have hf := a_if_f c5 hf
        refine lv_aload_n hx hb dX10_lays_8 rfl (lv_at hl 0 rfl) ?_
        refine g_getr hC hW (o := 0) (ci := 10) (k := 62) zm_k0 zm_b0 rfl hi10 (by decide) rfl (t := 53) zm_r0_62 (by decide +kernel) dX10_lays_9 ?_
        refine lv_iload_n hx hb dX10_lays_12 rfl (lv_at hl 2 rfl) ?_
        refine lv_iconst (v := 0) hx hb dX10_lays_13 (by decide) ?_
        obtain ⟨m6, h9, hf⟩ := ob_inv hf
        refine g_ist hC hW zm_k53 zm_b53 zm_n53 h9 dX10_lays_14 (fun H locs hW => ?_)
        refine lv_iinc (v := (x1 + 1)) (lv' := [(2, .int (x1 + 1)), (0, .ref (G.2.2.1 0)), (1, .int p1)]) hx hb dX10_lays_15 hl (k := 2) rfl (congrArg (fun z => x1 + z) (by decide)) (by decide) rfl (fun ls hl => ?_)
        refine lv_goto (tgt := 2) hx hb dX10_lays_18 (by decide) ?_
        exact ih _ _ _ _ _ _ _ hf hW (lv_sub hl [1, 2, 0] rfl) hE
  obtain ⟨⟨y3, m4⟩, hg, hf⟩ := ob_inv hf
  have hf := ob_inv2 hf
  refine hL2 _ _ _ _ _ _ _ _ hg hW (lv_sub hl [1, 2, 0] rfl) (fun H locs ls hW hl => ?_)
  refine lv_iconst (v := 0) hx hb dX10_lays_21 (by decide) ?_
  refine lv_istore_n (lv' := [(2, .int 0), (0, .ref (G.2.2.1 0)), (1, .int p1)]) hx hb dX10_lays_22 rfl hl (by decide) rfl (fun ls hl => ?_)
  have hL23 : ∀ (n : Nat) (x7 : Int32) (m8 : gM) (y9 : Int32) (m10 : gM) (H : Heap) (locs : List Loc) (ls : Array Slot), f_X10_lays_L23 p1 n x7 m8 = some (y9, m10) → g_H ZM G s H locs m8 → lv_has ls 5 [(0, .ref (G.2.2.1 0)), (1, .int p1), (2, .int x7)] → (∀ (H : Heap) (locs : List Loc) (ls : Array Slot), g_H ZM G s H locs m10 → lv_has ls 5 [] → W p l e (headSpec wsX10_lays rmX10_lays).room s m ([.ref (G.2.2.1 0), .int p1] : List Value).toArray below meth c H locs 0 0 Q (F0 m 133 ls [])) → W p l e (headSpec wsX10_lays rmX10_lays).room s m ([.ref (G.2.2.1 0), .int p1] : List Value).toArray below meth c H locs 0 0 Q (F0 m 23 ls []) := by
    intro n
    induction n with
    | zero =>
      intro x7 m8 y9 m10 H locs ls hf hW hl hE
      cases hf
    | succ n ih =>
      intro x7 m8 y9 m10 H locs ls hf hW hl hE
      rw [f_X10_lays_L23] at hf
      refine lv_iload_n hx hb dX10_lays_23 rfl (lv_at hl 2 rfl) ?_
      refine lv_aload_n hx hb dX10_lays_24 rfl (lv_at hl 0 rfl) ?_
      refine g_geti hC hW (o := 0) (ci := 10) (k := 16) zm_k0 zm_b0 rfl hi10 (by decide) rfl (by decide +kernel) dX10_lays_25 ?_
      refine lv_icmp_ge (tgt := 133) hx hb dX10_lays_28 (by decide) (fun c11 => ?_) (fun c11 => ?_)
      · have hf := a_if_t c11 hf
        cases hf
        exact hE H locs ls hW (lv_sub hl [] rfl)
      · have hf := a_if_f c11 hf
        refine lv_iconst (v := 0) hx hb dX10_lays_31 (by decide) ?_
        refine lv_istore_n (lv' := [(3, .int 0), (0, .ref (G.2.2.1 0)), (1, .int p1), (2, .int x7)]) hx hb dX10_lays_32 rfl hl (by decide) rfl (fun ls hl => ?_)
        have hL33 : ∀ (n : Nat) (x12 : Int32) (m13 : gM) (y14 : Int32) (m15 : gM) (H : Heap) (locs : List Loc) (ls : Array Slot), f_X10_lays_L33 p1 x7 n x12 m13 = some (y14, m15) → g_H ZM G s H locs m13 → lv_has ls 5 [(0, .ref (G.2.2.1 0)), (1, .int p1), (2, .int x7), (3, .int x12)] → (∀ (H : Heap) (locs : List Loc) (ls : Array Slot), g_H ZM G s H locs m15 → lv_has ls 5 [(0, .ref (G.2.2.1 0)), (1, .int p1), (2, .int x7)] → W p l e (headSpec wsX10_lays rmX10_lays).room s m ([.ref (G.2.2.1 0), .int p1] : List Value).toArray below meth c H locs 0 0 Q (F0 m 127 ls [])) → W p l e (headSpec wsX10_lays rmX10_lays).room s m ([.ref (G.2.2.1 0), .int p1] : List Value).toArray below meth c H locs 0 0 Q (F0 m 33 ls []) := by
          intro n
          induction n with
          | zero =>
            intro x12 m13 y14 m15 H locs ls hf hW hl hE
            cases hf
          | succ n ih =>
            intro x12 m13 y14 m15 H locs ls hf hW hl hE
            rw [f_X10_lays_L33] at hf
            refine lv_iload_n hx hb dX10_lays_33 rfl (lv_at hl 3 rfl) ?_
            refine lv_iconst (v := 4) hx hb dX10_lays_34 (by decide) ?_
            refine lv_icmp_ge (tgt := 127) hx hb dX10_lays_35 (by decide) (fun c16 => ?_) (fun c16 => ?_)
            · have hf := a_if_t c16 hf
              cases hf
              exact hE H locs ls hW (lv_sub hl [0, 1, 2] rfl)
            · have hf := a_if_f c16 hf
              refine lv_iload_n hx hb dX10_lays_38 rfl (lv_at hl 1 rfl) ?_
              refine lv_iload_n hx hb dX10_lays_39 rfl (lv_at hl 2 rfl) ?_
              refine lv_ishr hx hb dX10_lays_40 ?_
              refine lv_iconst (v := 1) hx hb dX10_lays_41 (by decide) ?_
              refine lv_iand hx hb dX10_lays_42 ?_
              refine lv_iconst (v := 1) hx hb dX10_lays_43 (by decide) ?_
              obtain ⟨z18, hg, hf⟩ := ob_inv hf
              have hJ66 : ∀ (H : Heap) (locs : List Loc) (ls : Array Slot), g_H ZM G s H locs m13 → lv_has ls 5 [(0, .ref (G.2.2.1 0)), (1, .int p1), (2, .int x7), (3, .int x12)] → W p l e (headSpec wsX10_lays rmX10_lays).room s m ([.ref (G.2.2.1 0), .int p1] : List Value).toArray below meth c H locs 0 0 Q (F0 m 66 ls [.int z18]) := by
                intro H locs ls hW hl
                refine lv_istore (lv' := [(4, .int z18), (0, .ref (G.2.2.1 0)), (1, .int p1), (2, .int x7), (3, .int x12)]) hx hb dX10_lays_66 hl (by decide) rfl (fun ls hl => ?_)
                refine lv_aload_n hx hb dX10_lays_68 rfl (lv_at hl 1 rfl) ?_
                refine g_getr hC hW (o := 0) (ci := 10) (k := 62) zm_k0 zm_b0 rfl hi10 (by decide) rfl (t := 53) zm_r0_62 (by decide +kernel) dX10_lays_69 ?_
                refine lv_iconst (v := 4) hx hb dX10_lays_72 (by decide) ?_
                refine lv_aload_n hx hb dX10_lays_73 rfl (lv_at hl 1 rfl) ?_
                refine g_getr hC hW (o := 0) (ci := 10) (k := 18) zm_k0 zm_b0 rfl hi10 (by decide) rfl (t := 14) zm_r0_18 (by decide +kernel) dX10_lays_74 ?_
                refine lv_iload_n hx hb dX10_lays_77 rfl (lv_at hl 3 rfl) ?_
                obtain ⟨v21, h9, hf⟩ := ob_inv hf
                refine g_ild hC hW zm_k14 zm_b14 zm_n14 h9 dX10_lays_78 ?_
                refine lv_imul hx hb dX10_lays_79 ?_
                refine lv_iload_n hx hb dX10_lays_80 rfl (lv_at hl 4 rfl) ?_
                refine lv_iadd hx hb dX10_lays_81 ?_
                refine lv_dup2_11 hx hb dX10_lays_82 rfl rfl ?_
                obtain ⟨v22, h9, hf⟩ := ob_inv hf
                refine g_ild hC hW zm_k53 zm_b53 zm_n53 h9 dX10_lays_83 ?_
                refine lv_iload hx hb dX10_lays_84 (lv_at hl 0 rfl) ?_
                obtain ⟨z24, hg, hf⟩ := ob_inv hf
                have hJ119 : ∀ (H : Heap) (locs : List Loc) (ls : Array Slot), g_H ZM G s H locs m13 → lv_has ls 5 [(0, .ref (G.2.2.1 0)), (1, .int p1), (2, .int x7), (3, .int x12)] → W p l e (headSpec wsX10_lays rmX10_lays).room s m ([.ref (G.2.2.1 0), .int p1] : List Value).toArray below meth c H locs 0 0 Q (F0 m 119 ls [.int z24, .int v22, .int ((4 * v21) + x12), .ref (G.2.2.1 53)]) := by
                  intro H locs ls hW hl
                  refine lv_iadd hx hb dX10_lays_119 ?_
                  obtain ⟨m29, h9, hf⟩ := ob_inv hf
                  refine g_ist hC hW zm_k53 zm_b53 zm_n53 h9 dX10_lays_120 (fun H locs hW => ?_)
                  refine lv_iinc (v := (x12 + 1)) (lv' := [(3, .int (x12 + 1)), (0, .ref (G.2.2.1 0)), (1, .int p1), (2, .int x7)]) hx hb dX10_lays_121 hl (k := 3) rfl (congrArg (fun z => x12 + z) (by decide)) (by decide) rfl (fun ls hl => ?_)
                  refine lv_goto (tgt := 33) hx hb dX10_lays_124 (by decide) ?_
                  exact ih _ _ _ _ _ _ _ hf hW (lv_sub hl [1, 2, 3, 0] rfl) hE
                replace hf := hg
                refine lv_if_ne (tgt := 93) hx hb dX10_lays_86 (by decide) (fun c23 => ?_) (fun c23 => ?_)
                · have hf := a_if_f c23 hf
                  refine lv_aload_n hx hb dX10_lays_93 rfl (lv_at hl 1 rfl) ?_
                  refine g_getr hC hW (o := 0) (ci := 10) (k := 20) zm_k0 zm_b0 rfl hi10 (by decide) rfl (t := 16) zm_r0_20 (by decide +kernel) dX10_lays_94 ?_
                  refine lv_iload_n hx hb dX10_lays_97 rfl (lv_at hl 3 rfl) ?_
                  obtain ⟨v25, h9, hf⟩ := ob_inv hf
                  refine g_ild hC hW zm_k16 zm_b16 zm_n16 h9 dX10_lays_98 ?_
                  refine lv_iconst (v := 1) hx hb dX10_lays_99 (by decide) ?_
                  refine lv_icmp_ne (tgt := 113) hx hb dX10_lays_100 (by decide) (fun c26 => ?_) (fun c26 => ?_)
                  · have hf := a_if_f c26 hf
                    refine lv_aload_n hx hb dX10_lays_113 rfl (lv_at hl 1 rfl) ?_
                    refine g_getr hC hW (o := 0) (ci := 10) (k := 22) zm_k0 zm_b0 rfl hi10 (by decide) rfl (t := 18) zm_r0_22 (by decide +kernel) dX10_lays_114 ?_
                    refine lv_iload_n hx hb dX10_lays_117 rfl (lv_at hl 3 rfl) ?_
                    obtain ⟨v27, h9, hf⟩ := ob_inv hf
                    refine g_ild hC hW zm_k18 zm_b18 zm_n18 h9 dX10_lays_118 ?_
                    cases hf
                    exact hJ119 H locs ls hW (lv_sub hl [1, 2, 3, 4] rfl)
                  · have hf := a_if_t c26 hf
                    refine lv_aload_n hx hb dX10_lays_103 rfl (lv_at hl 1 rfl) ?_
                    refine g_getr hC hW (o := 0) (ci := 10) (k := 22) zm_k0 zm_b0 rfl hi10 (by decide) rfl (t := 18) zm_r0_22 (by decide +kernel) dX10_lays_104 ?_
                    refine lv_iload_n hx hb dX10_lays_107 rfl (lv_at hl 3 rfl) ?_
                    obtain ⟨v28, h9, hf⟩ := ob_inv hf
                    refine g_ild hC hW zm_k18 zm_b18 zm_n18 h9 dX10_lays_108 ?_
                    refine lv_ineg hx hb dX10_lays_109 ?_
                    refine lv_goto (tgt := 119) hx hb dX10_lays_110 (by decide) ?_
                    cases hf
                    exact hJ119 H locs ls hW (lv_sub hl [1, 2, 3, 4] rfl)
                · have hf := a_if_t c23 hf
                  refine lv_iconst (v := 0) hx hb dX10_lays_89 (by decide) ?_
                  refine lv_goto (tgt := 119) hx hb dX10_lays_90 (by decide) ?_
                  cases hf
                  exact hJ119 H locs ls hW (lv_sub hl [1, 2, 3, 4] rfl)
              replace hf := hg
              refine lv_icmp_ne (tgt := 65) hx hb dX10_lays_44 (by decide) (fun c17 => ?_) (fun c17 => ?_)
              · have hf := a_if_f c17 hf
                refine lv_iconst (v := 0) hx hb dX10_lays_65 (by decide) ?_
                cases hf
                exact hJ66 H locs ls hW (lv_sub hl [0, 1, 2, 3] rfl)
              · have hf := a_if_t c17 hf
                refine lv_aload_n hx hb dX10_lays_47 rfl (lv_at hl 0 rfl) ?_
                refine g_getr hC hW (o := 0) (ci := 10) (k := 19) zm_k0 zm_b0 rfl hi10 (by decide) rfl (t := 15) zm_r0_19 (by decide +kernel) dX10_lays_48 ?_
                refine lv_iload_n hx hb dX10_lays_51 rfl (lv_at hl 2 rfl) ?_
                obtain ⟨v19, h9, hf⟩ := ob_inv hf
                refine g_ild hC hW zm_k15 zm_b15 zm_n15 h9 dX10_lays_52 ?_
                refine lv_iload_n hx hb dX10_lays_53 rfl (lv_at hl 3 rfl) ?_
                refine lv_ishr hx hb dX10_lays_54 ?_
                refine lv_iconst (v := 1) hx hb dX10_lays_55 (by decide) ?_
                refine lv_iand hx hb dX10_lays_56 ?_
                refine lv_iconst (v := 1) hx hb dX10_lays_57 (by decide) ?_
                refine lv_icmp_ne (tgt := 65) hx hb dX10_lays_58 (by decide) (fun c20 => ?_) (fun c20 => ?_)
                · have hf := a_if_f c20 hf
                  refine lv_iconst (v := 0) hx hb dX10_lays_65 (by decide) ?_
                  cases hf
                  exact hJ66 H locs ls hW (lv_sub hl [0, 1, 2, 3] rfl)
                · have hf := a_if_t c20 hf
                  refine lv_iconst (v := 1) hx hb dX10_lays_61 (by decide) ?_
                  refine lv_goto (tgt := 66) hx hb dX10_lays_62 (by decide) ?_
                  cases hf
                  exact hJ66 H locs ls hW (lv_sub hl [0, 1, 2, 3] rfl)
        obtain ⟨⟨y14, m15⟩, hg, hf⟩ := ob_inv hf
        have hf := ob_inv2 hf
        refine hL33 _ _ _ _ _ _ _ _ hg hW (lv_sub hl [1, 2, 3, 0] rfl) (fun H locs ls hW hl => ?_)
        refine lv_iinc (v := (x7 + 1)) (lv' := [(2, .int (x7 + 1)), (0, .ref (G.2.2.1 0)), (1, .int p1)]) hx hb dX10_lays_127 hl (k := 2) rfl (congrArg (fun z => x7 + z) (by decide)) (by decide) rfl (fun ls hl => ?_)
        refine lv_goto (tgt := 23) hx hb dX10_lays_130 (by decide) ?_
        exact ih _ _ _ _ _ _ _ hf hW (lv_sub hl [1, 2, 0] rfl) hE
  obtain ⟨⟨y9, m10⟩, hg, hf⟩ := ob_inv hf
  have hf := ob_inv2 hf
  refine hL23 _ _ _ _ _ _ _ _ hg hW (lv_sub hl [1, 2, 0] rfl) (fun H locs ls hW hl => ?_)
  cases hf
  subst hQ
  exact g_vret hC hW hr hlocks rfl dX10_lays_133
abbrev rmX10_worthOfBlocks : Room := { frames := 1, cells := 0, slots := 0, locals := 23 }
set_option maxHeartbeats 4000000 in
set_option maxRecDepth 100000 in
theorem c_X10_worthOfBlocks (l : Launch) (G : gG) {p1 : Int32} {me : gM} {r0 : Int32}  (hf : f_X10_worthOfBlocks p1 me = some r0) : Met l yX10_worthOfBlocks wsX10_worthOfBlocks rmX10_worthOfBlocks (va_Pc [.ref (G.2.2.1 0), .int p1] (g_W ZM G me)) (g_Qi ZM G r0 me) 0 0 (g_A ZM G) := by
  refine Met.ofW (cc := cX10_worthOfBlocks) (maxL := 5) (ret := (some .int)) (by decide) rfl ?_
  intro p e s m args below meth c s₁ B hml hv
  obtain ⟨rfl, hW0⟩ := hv
  have hC : CallFix p m c cX10_worthOfBlocks 5 s ([.ref (G.2.2.1 0), .int p1] : List Value).toArray wsX10_worthOfBlocks RX10 := ⟨B.exec, B.bytes, hml, findClass_of_methodNamed B.named, atoms_spec (ws := wsX10_worthOfBlocks) B.pre⟩
  have hx := hC.1
  have hb := hC.2.1
  have hown := hC.2.2.2.1
  have hts := hC.2.2.2.2
  have hr := B.returns
  have hlocks := B.notSynchronized
  have hW := g_H_enter hW0
  have hi10 : ∀ w ∈ wsX100, w ∈ wsX10_worthOfBlocks := by decide +kernel
  have hl := lv_entry ([.ref (G.2.2.1 0), .int p1]) (n := 5) (Nat.le_of_ble_eq_true rfl)
  rw [lg_entry_eq]
  generalize (lg_sl ([.ref (G.2.2.1 0), .int p1]) ++ List.replicate (5 - (lg_sl ([.ref (G.2.2.1 0), .int p1])).length) Slot.unset).toArray = ls at hl ⊢
  have hl : lv_has ls 5 [(0, .ref (G.2.2.1 0)), (1, .int p1)] := hl
  obtain ⟨Q, hQ⟩ : ∃ Q, Q = MQ below (g_Qi ZM G r0 me) ([.ref (G.2.2.1 0), .int p1] : List Value).toArray s 0 0 (g_A ZM G) := ⟨_, rfl⟩
  refine g_goQ hQ ?_
  unfold f_X10_worthOfBlocks at hf
  refine g_start hW (fun H locs hW => ?_)
  refine lv_iconst (v := 0) hx hb dX10_worthOfBlocks_0 (by decide) ?_
  refine lv_istore_n (lv' := [(2, .int 0), (0, .ref (G.2.2.1 0)), (1, .int p1)]) hx hb dX10_worthOfBlocks_1 rfl hl (by decide) rfl (fun ls hl => ?_)
  refine lv_iconst (v := 0) hx hb dX10_worthOfBlocks_2 (by decide) ?_
  refine lv_istore_n (lv' := [(3, .int 0), (2, .int 0), (0, .ref (G.2.2.1 0)), (1, .int p1)]) hx hb dX10_worthOfBlocks_3 rfl hl (by decide) rfl (fun ls hl => ?_)
  have hL4 : ∀ (n : Nat) (x1 : Int32) (x2 : Int32) (y3 : Int32) (y4 : Int32) (H : Heap) (locs : List Loc) (ls : Array Slot), f_X10_worthOfBlocks_L4 me p1 n x1 x2 = some (y3, y4) → g_H ZM G s H locs me → lv_has ls 5 [(0, .ref (G.2.2.1 0)), (1, .int p1), (2, .int x1), (3, .int x2)] → (∀ (H : Heap) (locs : List Loc) (ls : Array Slot), g_H ZM G s H locs me → lv_has ls 5 [(2, .int y3)] → W p l e (headSpec wsX10_worthOfBlocks rmX10_worthOfBlocks).room s m ([.ref (G.2.2.1 0), .int p1] : List Value).toArray below meth c H locs 0 0 Q (F0 m 72 ls [])) → W p l e (headSpec wsX10_worthOfBlocks rmX10_worthOfBlocks).room s m ([.ref (G.2.2.1 0), .int p1] : List Value).toArray below meth c H locs 0 0 Q (F0 m 4 ls []) := by
    intro n
    induction n with
    | zero =>
      intro x1 x2 y3 y4 H locs ls hf hW hl hE
      cases hf
    | succ n ih =>
      intro x1 x2 y3 y4 H locs ls hf hW hl hE
      rw [f_X10_worthOfBlocks_L4] at hf
      refine lv_iload_n hx hb dX10_worthOfBlocks_4 rfl (lv_at hl 3 rfl) ?_
      refine lv_aload_n hx hb dX10_worthOfBlocks_5 rfl (lv_at hl 0 rfl) ?_
      refine g_geti hC hW (o := 0) (ci := 10) (k := 16) zm_k0 zm_b0 rfl hi10 (by decide) rfl (by decide +kernel) dX10_worthOfBlocks_6 ?_
      refine lv_icmp_ge (tgt := 72) hx hb dX10_worthOfBlocks_9 (by decide) (fun c5 => ?_) (fun c5 => ?_)
      · have hf := a_if_t c5 hf
        cases hf
        exact hE H locs ls hW (lv_sub hl [2] rfl)
      · have hf := a_if_f c5 hf
        refine lv_aload_n hx hb dX10_worthOfBlocks_12 rfl (lv_at hl 0 rfl) ?_
        refine g_getr hC hW (o := 0) (ci := 10) (k := 21) zm_k0 zm_b0 rfl hi10 (by decide) rfl (t := 17) zm_r0_21 (by decide +kernel) dX10_worthOfBlocks_13 ?_
        refine lv_iload_n hx hb dX10_worthOfBlocks_16 rfl (lv_at hl 3 rfl) ?_
        obtain ⟨v6, h9, hf⟩ := ob_inv hf
        refine g_ild hC hW zm_k17 zm_b17 zm_n17 h9 dX10_worthOfBlocks_17 ?_
        refine lv_aload_n hx hb dX10_worthOfBlocks_18 rfl (lv_at hl 0 rfl) ?_
        refine g_getr hC hW (o := 0) (ci := 10) (k := 22) zm_k0 zm_b0 rfl hi10 (by decide) rfl (t := 18) zm_r0_22 (by decide +kernel) dX10_worthOfBlocks_19 ?_
        refine lv_iload_n hx hb dX10_worthOfBlocks_22 rfl (lv_at hl 3 rfl) ?_
        obtain ⟨v7, h9, hf⟩ := ob_inv hf
        refine g_ild hC hW zm_k18 zm_b18 zm_n18 h9 dX10_worthOfBlocks_23 ?_
        refine lv_imul hx hb dX10_worthOfBlocks_24 ?_
        refine lv_aload_n hx hb dX10_worthOfBlocks_25 rfl (lv_at hl 0 rfl) ?_
        refine lv_iload_n hx hb dX10_worthOfBlocks_26 rfl (lv_at hl 3 rfl) ?_
        obtain ⟨r8, hg, hf⟩ := ob_inv hf
        refine g_cVi hC hW (o := 0) (ci := 10) (As := [.int x2]) (rest := [.int (v6 * v7)]) zm_k0 zm_b0 rfl (c_X10_hoursOf l G  hg) (cwV 1 hts gX10_worthOfBlocks_X10_hoursOf rfl rfl rfl (by decide +kernel) ⟨Nat.le_of_ble_eq_true rfl, Nat.le_of_ble_eq_true rfl⟩) rfl hl.1 rfl (Nat.le_of_ble_eq_true rfl) dX10_worthOfBlocks_27 ⟨Nat.le_of_ble_eq_true rfl, Nat.le_of_ble_eq_true rfl⟩ (fun H locs hW => ?_)
        refine lv_imul hx hb dX10_worthOfBlocks_30 ?_
        obtain ⟨x9, h9, hf⟩ := ob_inv hf
        refine g_nmi (Option.some.inj h9) ?_
        refine lv_istore (lv' := [(4, .int x9), (0, .ref (G.2.2.1 0)), (1, .int p1), (2, .int x1), (3, .int x2)]) hx hb dX10_worthOfBlocks_31 hl (by decide) rfl (fun ls hl => ?_)
        refine lv_iload_n hx hb dX10_worthOfBlocks_33 rfl (lv_at hl 3 rfl) ?_
        refine lv_iload_n hx hb dX10_worthOfBlocks_34 rfl (lv_at hl 2 rfl) ?_
        refine lv_iload_n hx hb dX10_worthOfBlocks_35 rfl (lv_at hl 4 rfl) ?_
        refine lv_ishr hx hb dX10_worthOfBlocks_36 ?_
        refine lv_iconst (v := 1) hx hb dX10_worthOfBlocks_37 (by decide) ?_
        refine lv_iand hx hb dX10_worthOfBlocks_38 ?_
        obtain ⟨z11, hg, hf⟩ := ob_inv hf
        have hJ64 : ∀ (H : Heap) (locs : List Loc) (ls : Array Slot), g_H ZM G s H locs me → lv_has ls 5 [(0, .ref (G.2.2.1 0)), (1, .int p1), (3, .int x2)] → W p l e (headSpec wsX10_worthOfBlocks rmX10_worthOfBlocks).room s m ([.ref (G.2.2.1 0), .int p1] : List Value).toArray below meth c H locs 0 0 Q (F0 m 64 ls [.int z11, .int x1]) := by
          intro H locs ls hW hl
          refine lv_iadd hx hb dX10_worthOfBlocks_64 ?_
          obtain ⟨x14, h9, hf⟩ := ob_inv hf
          refine g_nmi (Option.some.inj h9) ?_
          refine lv_istore_n (lv' := [(2, .int x14), (0, .ref (G.2.2.1 0)), (1, .int p1), (3, .int x2)]) hx hb dX10_worthOfBlocks_65 rfl hl (by decide) rfl (fun ls hl => ?_)
          refine lv_iinc (v := (x2 + 1)) (lv' := [(3, .int (x2 + 1)), (2, .int x14), (0, .ref (G.2.2.1 0)), (1, .int p1)]) hx hb dX10_worthOfBlocks_66 hl (k := 3) rfl (congrArg (fun z => x2 + z) (by decide)) (by decide) rfl (fun ls hl => ?_)
          refine lv_goto (tgt := 4) hx hb dX10_worthOfBlocks_69 (by decide) ?_
          exact ih _ _ _ _ _ _ _ hf hW (lv_sub hl [2, 3, 1, 0] rfl) hE
        replace hf := hg
        refine lv_if_ne (tgt := 46) hx hb dX10_worthOfBlocks_39 (by decide) (fun c10 => ?_) (fun c10 => ?_)
        · have hf := a_if_f c10 hf
          refine lv_aload_n hx hb dX10_worthOfBlocks_46 rfl (lv_at hl 1 rfl) ?_
          refine g_getr hC hW (o := 0) (ci := 10) (k := 20) zm_k0 zm_b0 rfl hi10 (by decide) rfl (t := 16) zm_r0_20 (by decide +kernel) dX10_worthOfBlocks_47 ?_
          refine lv_iload_n hx hb dX10_worthOfBlocks_50 rfl (lv_at hl 4 rfl) ?_
          obtain ⟨v12, h9, hf⟩ := ob_inv hf
          refine g_ild hC hW zm_k16 zm_b16 zm_n16 h9 dX10_worthOfBlocks_51 ?_
          refine lv_iconst (v := 1) hx hb dX10_worthOfBlocks_52 (by decide) ?_
          refine lv_icmp_ne (tgt := 61) hx hb dX10_worthOfBlocks_53 (by decide) (fun c13 => ?_) (fun c13 => ?_)
          · have hf := a_if_f c13 hf
            refine lv_iload hx hb dX10_worthOfBlocks_61 (lv_at hl 0 rfl) ?_
            refine lv_ineg hx hb dX10_worthOfBlocks_63 ?_
            cases hf
            exact hJ64 H locs ls hW (lv_sub hl [1, 2, 4] rfl)
          · have hf := a_if_t c13 hf
            refine lv_iload hx hb dX10_worthOfBlocks_56 (lv_at hl 0 rfl) ?_
            refine lv_goto (tgt := 64) hx hb dX10_worthOfBlocks_58 (by decide) ?_
            cases hf
            exact hJ64 H locs ls hW (lv_sub hl [1, 2, 4] rfl)
        · have hf := a_if_t c10 hf
          refine lv_iconst (v := 0) hx hb dX10_worthOfBlocks_42 (by decide) ?_
          refine lv_goto (tgt := 64) hx hb dX10_worthOfBlocks_43 (by decide) ?_
          cases hf
          exact hJ64 H locs ls hW (lv_sub hl [1, 2, 4] rfl)
  obtain ⟨⟨y3, y4⟩, hg, hf⟩ := ob_inv hf
  have hf := ob_inv2 hf
  refine hL4 _ _ _ _ _ _ _ _ hg hW (lv_sub hl [2, 3, 1, 0] rfl) (fun H locs ls hW hl => ?_)
  refine lv_iload_n hx hb dX10_worthOfBlocks_72 rfl (lv_at hl 0 rfl) ?_
  cases hf
  subst hQ
  exact g_iret hC hW hr hlocks rfl rfl dX10_worthOfBlocks_73
abbrev rmX10_tries : Room := { frames := 3, cells := 0, slots := 0, locals := 74 }
set_option maxHeartbeats 4000000 in
set_option maxRecDepth 100000 in
theorem c_X10_tries (l : Launch) (G : gG) {p1 : Int32} {me : gM} {r0 : Int32} {m0 : gM}  (hf : f_X10_tries p1 me = some (r0, m0)) : Met l yX10_tries wsX10_tries rmX10_tries (va_Pc [.ref (G.2.2.1 0), .int p1] (g_W ZM G me)) (g_Qi ZM G r0 m0) 0 0 (g_A ZM G) := by
  refine Met.ofW (cc := cX10_tries) (maxL := 7) (ret := (some .int)) (by decide) rfl ?_
  intro p e s m args below meth c s₁ B hml hv
  obtain ⟨rfl, hW0⟩ := hv
  have hC : CallFix p m c cX10_tries 7 s ([.ref (G.2.2.1 0), .int p1] : List Value).toArray wsX10_tries RX10 := ⟨B.exec, B.bytes, hml, findClass_of_methodNamed B.named, atoms_spec (ws := wsX10_tries) B.pre⟩
  have hx := hC.1
  have hb := hC.2.1
  have hown := hC.2.2.2.1
  have hts := hC.2.2.2.2
  have hr := B.returns
  have hlocks := B.notSynchronized
  have hW := g_H_enter hW0
  have hi10 : ∀ w ∈ wsX100, w ∈ wsX10_tries := by decide +kernel
  have hl := lv_entry ([.ref (G.2.2.1 0), .int p1]) (n := 7) (Nat.le_of_ble_eq_true rfl)
  rw [lg_entry_eq]
  generalize (lg_sl ([.ref (G.2.2.1 0), .int p1]) ++ List.replicate (7 - (lg_sl ([.ref (G.2.2.1 0), .int p1])).length) Slot.unset).toArray = ls at hl ⊢
  have hl : lv_has ls 7 [(0, .ref (G.2.2.1 0)), (1, .int p1)] := hl
  obtain ⟨Q, hQ⟩ : ∃ Q, Q = MQ below (g_Qi ZM G r0 m0) ([.ref (G.2.2.1 0), .int p1] : List Value).toArray s 0 0 (g_A ZM G) := ⟨_, rfl⟩
  refine g_goQ hQ ?_
  unfold f_X10_tries at hf
  refine g_start hW (fun H locs hW => ?_)
  refine lv_aload_n hx hb dX10_tries_0 rfl (lv_at hl 0 rfl) ?_
  refine lv_iload_n hx hb dX10_tries_1 rfl (lv_at hl 1 rfl) ?_
  obtain ⟨m1, hg, hf⟩ := ob_inv hf
  refine g_cVv hC hW (o := 0) (ci := 10) (As := [.int p1]) (rest := []) zm_k0 zm_b0 rfl (c_X10_lays l G  hg) (cwV 1 hts gX10_tries_X10_lays rfl rfl rfl (by decide +kernel) ⟨Nat.le_of_ble_eq_true rfl, Nat.le_of_ble_eq_true rfl⟩) rfl hl.1 rfl (Nat.le_of_ble_eq_true rfl) dX10_tries_2 ⟨Nat.le_of_ble_eq_true rfl, Nat.le_of_ble_eq_true rfl⟩ (fun H locs hW => ?_)
  refine lv_aload_n hx hb dX10_tries_5 rfl (lv_at hl 0 rfl) ?_
  refine lv_iload_n hx hb dX10_tries_6 rfl (lv_at hl 1 rfl) ?_
  obtain ⟨r2, hg, hf⟩ := ob_inv hf
  refine g_cVi hC hW (o := 0) (ci := 10) (As := [.int p1]) (rest := []) zm_k0 zm_b0 rfl (c_X10_worthOfBlocks l G  hg) (cwV 1 hts gX10_tries_X10_worthOfBlocks rfl rfl rfl (by decide +kernel) ⟨Nat.le_of_ble_eq_true rfl, Nat.le_of_ble_eq_true rfl⟩) rfl hl.1 rfl (Nat.le_of_ble_eq_true rfl) dX10_tries_7 ⟨Nat.le_of_ble_eq_true rfl, Nat.le_of_ble_eq_true rfl⟩ (fun H locs hW => ?_)
  refine lv_istore_n (lv' := [(2, .int r2), (0, .ref (G.2.2.1 0)), (1, .int p1)]) hx hb dX10_tries_10 rfl hl (by decide) rfl (fun ls hl => ?_)
  refine lv_iconst (v := 0) hx hb dX10_tries_11 (by decide) ?_
  refine lv_istore_n (lv' := [(3, .int 0), (2, .int r2), (0, .ref (G.2.2.1 0)), (1, .int p1)]) hx hb dX10_tries_12 rfl hl (by decide) rfl (fun ls hl => ?_)
  have hL13 : ∀ (n : Nat) (x3 : Int32) (x4 : Int32) (m5 : gM) (v9 : (Int32 × Int32 × gM) ⊕ (Int32 × gM)) (H : Heap) (locs : List Loc) (ls : Array Slot), f_X10_tries_L13  n x3 x4 m5 = some v9 → g_H ZM G s H locs m5 → lv_has ls 7 [(0, .ref (G.2.2.1 0)), (1, .int p1), (2, .int x3), (3, .int x4)] → (∀ (y6 : Int32) (y7 : Int32) (m8 : gM), v9 = .inl (y6, y7, m8) → (∀ (H : Heap) (locs : List Loc) (ls : Array Slot), g_H ZM G s H locs m8 → lv_has ls 7 [(0, .ref (G.2.2.1 0)), (1, .int p1), (2, .int y6)] → W p l e (headSpec wsX10_tries rmX10_tries).room s m ([.ref (G.2.2.1 0), .int p1] : List Value).toArray below meth c H locs 0 0 Q (F0 m 139 ls []))) → (∀ w9, v9 = .inr w9 → w9 = (r0, m0)) → W p l e (headSpec wsX10_tries rmX10_tries).room s m ([.ref (G.2.2.1 0), .int p1] : List Value).toArray below meth c H locs 0 0 Q (F0 m 13 ls []) := by
    intro n
    induction n with
    | zero =>
      intro x3 x4 m5 v9 H locs ls hf hW hl hE hX
      cases hf
    | succ n ih =>
      intro x3 x4 m5 v9 H locs ls hf hW hl hE hX
      rw [f_X10_tries_L13] at hf
      refine lv_iload_n hx hb dX10_tries_13 rfl (lv_at hl 3 rfl) ?_
      refine lv_iconst (v := 4) hx hb dX10_tries_14 (by decide) ?_
      refine lv_icmp_ge (tgt := 139) hx hb dX10_tries_15 (by decide) (fun c9 => ?_) (fun c9 => ?_)
      · have hf := a_if_t c9 hf
        exact hE _ _ _ (Option.some.inj hf).symm H locs ls hW (lv_sub hl [0, 1, 2] rfl)
      · have hf := a_if_f c9 hf
        refine lv_aload_n hx hb dX10_tries_18 rfl (lv_at hl 0 rfl) ?_
        refine lv_iload_n hx hb dX10_tries_19 rfl (lv_at hl 3 rfl) ?_
        refine lv_iconst (v := (-1)) hx hb dX10_tries_20 (by decide) ?_
        obtain ⟨⟨r10, m11⟩, hg, hf⟩ := ob_inv hf
        have hf := ob_inv2 hf
        refine g_cVi hC hW (o := 0) (ci := 10) (As := [.int x4, .int (-1)]) (rest := []) zm_k0 zm_b0 rfl (c_X10_most l G  hg) (cwV 2 hts gX10_tries_X10_most rfl rfl rfl (by decide +kernel) ⟨Nat.le_of_ble_eq_true rfl, Nat.le_of_ble_eq_true rfl⟩) rfl hl.1 rfl (Nat.le_of_ble_eq_true rfl) dX10_tries_21 ⟨Nat.le_of_ble_eq_true rfl, Nat.le_of_ble_eq_true rfl⟩ (fun H locs hW => ?_)
        refine lv_istore (lv' := [(4, .int r10), (0, .ref (G.2.2.1 0)), (1, .int p1), (2, .int x3), (3, .int x4)]) hx hb dX10_tries_24 hl (by decide) rfl (fun ls hl => ?_)
        refine lv_iload hx hb dX10_tries_26 (lv_at hl 0 rfl) ?_
        refine lv_ldc (v := (-1000000000)) hx hb hown (hts _ (by decide +kernel : Cond.constant RX10 223 (-1000000000) ∈ wsX10_tries)) dX10_tries_28 ?_
        refine lv_icmp_ne (tgt := 36) hx hb dX10_tries_30 (by decide) (fun c13 => ?_) (fun c13 => ?_)
        · have hf := a_if_f c13 hf
          refine lv_iload_n hx hb dX10_tries_36 rfl (lv_at hl 3 rfl) ?_
          refine lv_iload hx hb dX10_tries_37 (lv_at hl 0 rfl) ?_
          refine lv_iadd hx hb dX10_tries_39 ?_
          obtain ⟨x14, h9, hf⟩ := ob_inv hf
          refine g_nmi (Option.some.inj h9) ?_
          refine lv_istore_n (lv' := [(2, .int x14), (4, .int r10), (0, .ref (G.2.2.1 0)), (1, .int p1), (3, .int x4)]) hx hb dX10_tries_40 rfl hl (by decide) rfl (fun ls hl => ?_)
          refine lv_aload_n hx hb dX10_tries_41 rfl (lv_at hl 2 rfl) ?_
          refine g_getr hC hW (o := 0) (ci := 10) (k := 63) zm_k0 zm_b0 rfl hi10 (by decide) rfl (t := 54) zm_r0_63 (by decide +kernel) dX10_tries_42 ?_
          refine lv_iload_n hx hb dX10_tries_45 rfl (lv_at hl 4 rfl) ?_
          refine lv_aload_n hx hb dX10_tries_46 rfl (lv_at hl 2 rfl) ?_
          refine g_geti hC hW (o := 0) (ci := 10) (k := 65) zm_k0 zm_b0 rfl hi10 (by decide) rfl (by decide +kernel) dX10_tries_47 ?_
          obtain ⟨m15, h9, hf⟩ := ob_inv hf
          refine g_ist hC hW zm_k54 zm_b54 zm_n54 h9 dX10_tries_50 (fun H locs hW => ?_)
          refine lv_aload_n hx hb dX10_tries_51 rfl (lv_at hl 2 rfl) ?_
          refine g_getr hC hW (o := 0) (ci := 10) (k := 63) zm_k0 zm_b0 rfl hi10 (by decide) rfl (t := 54) zm_r0_63 (by decide +kernel) dX10_tries_52 ?_
          refine lv_iconst (v := 4) hx hb dX10_tries_55 (by decide) ?_
          refine lv_iload_n hx hb dX10_tries_56 rfl (lv_at hl 4 rfl) ?_
          refine lv_iadd hx hb dX10_tries_57 ?_
          refine lv_aload_n hx hb dX10_tries_58 rfl (lv_at hl 2 rfl) ?_
          refine g_geti hC hW (o := 0) (ci := 10) (k := 66) zm_k0 zm_b0 rfl hi10 (by decide) rfl (by decide +kernel) dX10_tries_59 ?_
          obtain ⟨m16, h9, hf⟩ := ob_inv hf
          refine g_ist hC hW zm_k54 zm_b54 zm_n54 h9 dX10_tries_62 (fun H locs hW => ?_)
          refine lv_aload_n hx hb dX10_tries_63 rfl (lv_at hl 2 rfl) ?_
          refine g_getr hC hW (o := 0) (ci := 10) (k := 63) zm_k0 zm_b0 rfl hi10 (by decide) rfl (t := 54) zm_r0_63 (by decide +kernel) dX10_tries_64 ?_
          refine lv_bipush (v := 8) hx hb dX10_tries_67 (by decide) ?_
          refine lv_iload_n hx hb dX10_tries_69 rfl (lv_at hl 4 rfl) ?_
          refine lv_iadd hx hb dX10_tries_70 ?_
          refine lv_aload_n hx hb dX10_tries_71 rfl (lv_at hl 2 rfl) ?_
          refine g_geti hC hW (o := 0) (ci := 10) (k := 65) zm_k0 zm_b0 rfl hi10 (by decide) rfl (by decide +kernel) dX10_tries_72 ?_
          refine lv_ineg hx hb dX10_tries_75 ?_
          refine lv_aload_n hx hb dX10_tries_76 rfl (lv_at hl 2 rfl) ?_
          refine g_geti hC hW (o := 0) (ci := 10) (k := 66) zm_k0 zm_b0 rfl hi10 (by decide) rfl (by decide +kernel) dX10_tries_77 ?_
          refine lv_isub hx hb dX10_tries_80 ?_
          obtain ⟨m17, h9, hf⟩ := ob_inv hf
          refine g_ist hC hW zm_k54 zm_b54 zm_n54 h9 dX10_tries_81 (fun H locs hW => ?_)
          refine lv_iconst (v := 0) hx hb dX10_tries_82 (by decide) ?_
          refine lv_istore (lv' := [(5, .int 0), (2, .int x14), (4, .int r10), (0, .ref (G.2.2.1 0)), (1, .int p1), (3, .int x4)]) hx hb dX10_tries_83 hl (by decide) rfl (fun ls hl => ?_)
          have hL85 : ∀ (n : Nat) (x18 : Int32) (m19 : gM) (y20 : Int32) (m21 : gM) (H : Heap) (locs : List Loc) (ls : Array Slot), f_X10_tries_L85 r10 x4 n x18 m19 = some (y20, m21) → g_H ZM G s H locs m19 → lv_has ls 7 [(0, .ref (G.2.2.1 0)), (1, .int p1), (2, .int x14), (3, .int x4), (4, .int r10), (5, .int x18)] → (∀ (H : Heap) (locs : List Loc) (ls : Array Slot), g_H ZM G s H locs m21 → lv_has ls 7 [(0, .ref (G.2.2.1 0)), (1, .int p1), (2, .int x14), (3, .int x4)] → W p l e (headSpec wsX10_tries rmX10_tries).room s m ([.ref (G.2.2.1 0), .int p1] : List Value).toArray below meth c H locs 0 0 Q (F0 m 133 ls [])) → W p l e (headSpec wsX10_tries rmX10_tries).room s m ([.ref (G.2.2.1 0), .int p1] : List Value).toArray below meth c H locs 0 0 Q (F0 m 85 ls []) := by
            intro n
            induction n with
            | zero =>
              intro x18 m19 y20 m21 H locs ls hf hW hl hE
              cases hf
            | succ n ih =>
              intro x18 m19 y20 m21 H locs ls hf hW hl hE
              rw [f_X10_tries_L85] at hf
              refine lv_iload hx hb dX10_tries_85 (lv_at hl 5 rfl) ?_
              refine lv_iconst (v := 3) hx hb dX10_tries_87 (by decide) ?_
              refine lv_icmp_ge (tgt := 133) hx hb dX10_tries_88 (by decide) (fun c22 => ?_) (fun c22 => ?_)
              · have hf := a_if_t c22 hf
                cases hf
                exact hE H locs ls hW (lv_sub hl [0, 1, 2, 3] rfl)
              · have hf := a_if_f c22 hf
                refine lv_aload_n hx hb dX10_tries_91 rfl (lv_at hl 0 rfl) ?_
                refine lv_iload_n hx hb dX10_tries_92 rfl (lv_at hl 3 rfl) ?_
                refine lv_iload hx hb dX10_tries_93 (lv_at hl 5 rfl) ?_
                obtain ⟨⟨r23, m24⟩, hg, hf⟩ := ob_inv hf
                have hf := ob_inv2 hf
                refine g_cVi hC hW (o := 0) (ci := 10) (As := [.int x4, .int x18]) (rest := []) zm_k0 zm_b0 rfl (c_X10_most l G  hg) (cwV 2 hts gX10_tries_X10_most rfl rfl rfl (by decide +kernel) ⟨Nat.le_of_ble_eq_true rfl, Nat.le_of_ble_eq_true rfl⟩) rfl hl.1 rfl (Nat.le_of_ble_eq_true rfl) dX10_tries_95 ⟨Nat.le_of_ble_eq_true rfl, Nat.le_of_ble_eq_true rfl⟩ (fun H locs hW => ?_)
                refine lv_istore (lv' := [(6, .int r23), (0, .ref (G.2.2.1 0)), (1, .int p1), (2, .int x14), (3, .int x4), (4, .int r10), (5, .int x18)]) hx hb dX10_tries_98 hl (by decide) rfl (fun ls hl => ?_)
                refine lv_aload_n hx hb dX10_tries_100 rfl (lv_at hl 1 rfl) ?_
                refine g_getr hC hW (o := 0) (ci := 10) (k := 64) zm_k0 zm_b0 rfl hi10 (by decide) rfl (t := 55) zm_r0_64 (by decide +kernel) dX10_tries_101 ?_
                refine lv_iconst (v := 4) hx hb dX10_tries_104 (by decide) ?_
                refine lv_iload hx hb dX10_tries_105 (lv_at hl 6 rfl) ?_
                refine lv_imul hx hb dX10_tries_107 ?_
                refine lv_iload_n hx hb dX10_tries_108 rfl (lv_at hl 4 rfl) ?_
                refine lv_iadd hx hb dX10_tries_109 ?_
                refine lv_iload hx hb dX10_tries_110 (lv_at hl 0 rfl) ?_
                refine lv_iload hx hb dX10_tries_112 (lv_at hl 5 rfl) ?_
                obtain ⟨z27, hg, hf⟩ := ob_inv hf
                have hJ126 : ∀ (H : Heap) (locs : List Loc) (ls : Array Slot), g_H ZM G s H locs m24 → lv_has ls 7 [(0, .ref (G.2.2.1 0)), (1, .int p1), (2, .int x14), (3, .int x4), (4, .int r10), (5, .int x18)] → W p l e (headSpec wsX10_tries rmX10_tries).room s m ([.ref (G.2.2.1 0), .int p1] : List Value).toArray below meth c H locs 0 0 Q (F0 m 126 ls [.int z27, .int ((4 * x18) + x4), .ref (G.2.2.1 55)]) := by
                  intro H locs ls hW hl
                  obtain ⟨m28, h9, hf⟩ := ob_inv hf
                  refine g_ist hC hW zm_k55 zm_b55 zm_n55 h9 dX10_tries_126 (fun H locs hW => ?_)
                  refine lv_iinc (v := (x18 + 1)) (lv' := [(5, .int (x18 + 1)), (0, .ref (G.2.2.1 0)), (1, .int p1), (2, .int x14), (3, .int x4), (4, .int r10)]) hx hb dX10_tries_127 hl (k := 5) rfl (congrArg (fun z => x18 + z) (by decide)) (by decide) rfl (fun ls hl => ?_)
                  refine lv_goto (tgt := 85) hx hb dX10_tries_130 (by decide) ?_
                  exact ih _ _ _ _ _ _ _ hf hW (lv_sub hl [1, 2, 3, 4, 5, 0] rfl) hE
                replace hf := hg
                refine lv_icmp_le (tgt := 125) hx hb dX10_tries_114 (by decide) (fun c26 => ?_) (fun c26 => ?_)
                · have hf := a_if_t c26 hf
                  refine lv_iconst (v := 0) hx hb dX10_tries_125 (by decide) ?_
                  cases hf
                  exact hJ126 H locs ls hW (lv_sub hl [1, 2, 3, 4, 5, 6] rfl)
                · have hf := a_if_f c26 hf
                  refine lv_iload hx hb dX10_tries_117 (lv_at hl 0 rfl) ?_
                  refine lv_iload hx hb dX10_tries_119 (lv_at hl 5 rfl) ?_
                  refine lv_isub hx hb dX10_tries_121 ?_
                  refine lv_goto (tgt := 126) hx hb dX10_tries_122 (by decide) ?_
                  cases hf
                  exact hJ126 H locs ls hW (lv_sub hl [1, 2, 3, 4, 5, 6] rfl)
          obtain ⟨⟨y20, m21⟩, hg, hf⟩ := ob_inv hf
          have hf := ob_inv2 hf
          refine hL85 _ _ _ _ _ _ _ _ hg hW (lv_sub hl [3, 4, 1, 5, 2, 0] rfl) (fun H locs ls hW hl => ?_)
          refine lv_iinc (v := (x4 + 1)) (lv' := [(3, .int (x4 + 1)), (0, .ref (G.2.2.1 0)), (1, .int p1), (2, .int x14)]) hx hb dX10_tries_133 hl (k := 3) rfl (congrArg (fun z => x4 + z) (by decide)) (by decide) rfl (fun ls hl => ?_)
          refine lv_goto (tgt := 13) hx hb dX10_tries_136 (by decide) ?_
          exact ih _ _ _ _ _ _ _ hf hW (lv_sub hl [1, 2, 3, 0] rfl) hE hX
        · have hf := a_if_t c13 hf
          refine lv_ldc (v := (-1000000000)) hx hb hown (hts _ (by decide +kernel : Cond.constant RX10 223 (-1000000000) ∈ wsX10_tries)) dX10_tries_33 ?_
          have hq := hX _ (Option.some.inj hf).symm
          cases hq
          subst hQ
          exact g_iret hC hW hr hlocks rfl rfl dX10_tries_35
  obtain ⟨v9, hg, hfl, hfr⟩ := oz_inv hf
  refine hL13 _ _ _ _ v9 _ _ _ hg hW (lv_sub hl [2, 3, 1, 0] rfl) (fun y6 y7 m8 hv9 H locs ls hW hl => ?_) (fun w9 hw9 => Option.some.inj (hfr w9 hw9))
  have hf := hfl _ hv9
  have hf := ob_inv3 hf
  refine lv_iconst (v := 0) hx hb dX10_tries_139 (by decide) ?_
  refine lv_istore_n (lv' := [(3, .int 0), (0, .ref (G.2.2.1 0)), (1, .int p1), (2, .int y6)]) hx hb dX10_tries_140 rfl hl (by decide) rfl (fun ls hl => ?_)
  have hL141 : ∀ (n : Nat) (x30 : Int32) (v9 : (Int32) ⊕ (Int32 × gM)) (H : Heap) (locs : List Loc) (ls : Array Slot), f_X10_tries_L141 m8 p1 n x30 = some v9 → g_H ZM G s H locs m8 → lv_has ls 7 [(0, .ref (G.2.2.1 0)), (1, .int p1), (2, .int y6), (3, .int x30)] → (∀ (y31 : Int32), v9 = .inl y31 → (∀ (H : Heap) (locs : List Loc) (ls : Array Slot), g_H ZM G s H locs m8 → lv_has ls 7 [(2, .int y6)] → W p l e (headSpec wsX10_tries rmX10_tries).room s m ([.ref (G.2.2.1 0), .int p1] : List Value).toArray below meth c H locs 0 0 Q (F0 m 180 ls []))) → (∀ w9, v9 = .inr w9 → w9 = (r0, m0)) → W p l e (headSpec wsX10_tries rmX10_tries).room s m ([.ref (G.2.2.1 0), .int p1] : List Value).toArray below meth c H locs 0 0 Q (F0 m 141 ls []) := by
    intro n
    induction n with
    | zero =>
      intro x30 v9 H locs ls hf hW hl hE hX
      cases hf
    | succ n ih =>
      intro x30 v9 H locs ls hf hW hl hE hX
      rw [f_X10_tries_L141] at hf
      refine lv_iload_n hx hb dX10_tries_141 rfl (lv_at hl 3 rfl) ?_
      refine lv_aload_n hx hb dX10_tries_142 rfl (lv_at hl 0 rfl) ?_
      refine g_geti hC hW (o := 0) (ci := 10) (k := 16) zm_k0 zm_b0 rfl hi10 (by decide) rfl (by decide +kernel) dX10_tries_143 ?_
      refine lv_icmp_ge (tgt := 180) hx hb dX10_tries_146 (by decide) (fun c32 => ?_) (fun c32 => ?_)
      · have hf := a_if_t c32 hf
        exact hE _ (Option.some.inj hf).symm H locs ls hW (lv_sub hl [2] rfl)
      · have hf := a_if_f c32 hf
        refine lv_iload_n hx hb dX10_tries_149 rfl (lv_at hl 1 rfl) ?_
        refine lv_iload_n hx hb dX10_tries_150 rfl (lv_at hl 3 rfl) ?_
        refine lv_ishr hx hb dX10_tries_151 ?_
        refine lv_iconst (v := 1) hx hb dX10_tries_152 (by decide) ?_
        refine lv_iand hx hb dX10_tries_153 ?_
        refine lv_iconst (v := 1) hx hb dX10_tries_154 (by decide) ?_
        refine lv_icmp_ne (tgt := 174) hx hb dX10_tries_155 (by decide) (fun c33 => ?_) (fun c33 => ?_)
        · have hf := a_if_f c33 hf
          refine lv_iinc (v := (x30 + 1)) (lv' := [(3, .int (x30 + 1)), (0, .ref (G.2.2.1 0)), (1, .int p1), (2, .int y6)]) hx hb dX10_tries_174 hl (k := 3) rfl (congrArg (fun z => x30 + z) (by decide)) (by decide) rfl (fun ls hl => ?_)
          refine lv_goto (tgt := 141) hx hb dX10_tries_177 (by decide) ?_
          exact ih _ _ _ _ _ hf hW (lv_sub hl [1, 2, 3, 0] rfl) hE hX
        · have hf := a_if_t c33 hf
          refine lv_aload_n hx hb dX10_tries_158 rfl (lv_at hl 0 rfl) ?_
          refine lv_iload_n hx hb dX10_tries_159 rfl (lv_at hl 3 rfl) ?_
          refine lv_aload_n hx hb dX10_tries_160 rfl (lv_at hl 0 rfl) ?_
          refine g_getr hC hW (o := 0) (ci := 10) (k := 64) zm_k0 zm_b0 rfl hi10 (by decide) rfl (t := 55) zm_r0_64 (by decide +kernel) dX10_tries_161 ?_
          refine lv_iconst (v := 0) hx hb dX10_tries_164 (by decide) ?_
          obtain ⟨r34, hg, hf⟩ := ob_inv hf
          refine g_cVi hC hW (o := 0) (ci := 10) (As := [.int x30, .ref (G.2.2.1 55), .int 0]) (rest := []) zm_k0 zm_b0 rfl (c_X10_gainOf l G zm_k55 zm_n55 hg) (cwV 3 hts gX10_tries_X10_gainOf rfl rfl rfl (by decide +kernel) ⟨Nat.le_of_ble_eq_true rfl, Nat.le_of_ble_eq_true rfl⟩) rfl hl.1 rfl (Nat.le_of_ble_eq_true rfl) dX10_tries_165 ⟨Nat.le_of_ble_eq_true rfl, Nat.le_of_ble_eq_true rfl⟩ (fun H locs hW => ?_)
          refine lv_if_ge (tgt := 174) hx hb dX10_tries_168 (by decide) (fun c35 => ?_) (fun c35 => ?_)
          · have hf := a_if_t c35 hf
            refine lv_iinc (v := (x30 + 1)) (lv' := [(3, .int (x30 + 1)), (0, .ref (G.2.2.1 0)), (1, .int p1), (2, .int y6)]) hx hb dX10_tries_174 hl (k := 3) rfl (congrArg (fun z => x30 + z) (by decide)) (by decide) rfl (fun ls hl => ?_)
            refine lv_goto (tgt := 141) hx hb dX10_tries_177 (by decide) ?_
            exact ih _ _ _ _ _ hf hW (lv_sub hl [1, 2, 3, 0] rfl) hE hX
          · have hf := a_if_f c35 hf
            refine lv_ldc (v := (-1000000000)) hx hb hown (hts _ (by decide +kernel : Cond.constant RX10 223 (-1000000000) ∈ wsX10_tries)) dX10_tries_171 ?_
            have hq := hX _ (Option.some.inj hf).symm
            cases hq
            subst hQ
            exact g_iret hC hW hr hlocks rfl rfl dX10_tries_173
  obtain ⟨v9, hg, hfl, hfr⟩ := oz_inv hf
  refine hL141 _ _ v9 _ _ _ hg hW (lv_sub hl [1, 2, 3, 0] rfl) (fun y31 hv9 H locs ls hW hl => ?_) (fun w9 hw9 => Option.some.inj (hfr w9 hw9))
  have hf := hfl _ hv9
  refine lv_iload_n hx hb dX10_tries_180 rfl (lv_at hl 0 rfl) ?_
  cases hf
  subst hQ
  exact g_iret hC hW hr hlocks rfl rfl dX10_tries_181
abbrev rmX10_takes : Room := { frames := 1, cells := 0, slots := 0, locals := 27 }
set_option maxHeartbeats 4000000 in
set_option maxRecDepth 100000 in
theorem c_X10_takes (l : Launch) (G : gG) {p1 : Int32} {p2 : Int32} {p3 : Int32} {p4 : Int32} {me : gM} {m0 : gM}  (hf : f_X10_takes p1 p2 p3 p4 me = some m0) : Met l yX10_takes wsX10_takes rmX10_takes (va_Pc [.ref (G.2.2.1 0), .int p1, .int p2, .int p3, .int p4] (g_W ZM G me)) (g_Qv ZM G m0) 0 0 (g_A ZM G) := by
  refine Met.ofW (cc := cX10_takes) (maxL := 7) (ret := none) (by decide) rfl ?_
  intro p e s m args below meth c s₁ B hml hv
  obtain ⟨rfl, hW0⟩ := hv
  have hC : CallFix p m c cX10_takes 7 s ([.ref (G.2.2.1 0), .int p1, .int p2, .int p3, .int p4] : List Value).toArray wsX10_takes RX10 := ⟨B.exec, B.bytes, hml, findClass_of_methodNamed B.named, atoms_spec (ws := wsX10_takes) B.pre⟩
  have hx := hC.1
  have hb := hC.2.1
  have hown := hC.2.2.2.1
  have hts := hC.2.2.2.2
  have hr := B.returns
  have hlocks := B.notSynchronized
  have hW := g_H_enter hW0
  have hi10 : ∀ w ∈ wsX100, w ∈ wsX10_takes := by decide +kernel
  have hl := lv_entry ([.ref (G.2.2.1 0), .int p1, .int p2, .int p3, .int p4]) (n := 7) (Nat.le_of_ble_eq_true rfl)
  rw [lg_entry_eq]
  generalize (lg_sl ([.ref (G.2.2.1 0), .int p1, .int p2, .int p3, .int p4]) ++ List.replicate (7 - (lg_sl ([.ref (G.2.2.1 0), .int p1, .int p2, .int p3, .int p4])).length) Slot.unset).toArray = ls at hl ⊢
  have hl : lv_has ls 7 [(0, .ref (G.2.2.1 0)), (1, .int p1), (2, .int p2), (3, .int p3), (4, .int p4)] := hl
  obtain ⟨Q, hQ⟩ : ∃ Q, Q = MQ below (g_Qv ZM G m0) ([.ref (G.2.2.1 0), .int p1, .int p2, .int p3, .int p4] : List Value).toArray s 0 0 (g_A ZM G) := ⟨_, rfl⟩
  refine g_goQ hQ ?_
  unfold f_X10_takes at hf
  refine g_start hW (fun H locs hW => ?_)
  refine lv_iload hx hb dX10_takes_0 (lv_at hl 4 rfl) ?_
  refine lv_istore (lv' := [(5, .int p4), (0, .ref (G.2.2.1 0)), (1, .int p1), (2, .int p2), (3, .int p3), (4, .int p4)]) hx hb dX10_takes_2 hl (by decide) rfl (fun ls hl => ?_)
  refine lv_aload_n hx hb dX10_takes_4 rfl (lv_at hl 1 rfl) ?_
  obtain ⟨m1, hg, hf⟩ := ob_inv hf
  refine g_cVv hC hW (o := 0) (ci := 10) (As := []) (rest := []) zm_k0 zm_b0 rfl (c_X10_forgets l G  hg) (cwV 0 hts gX10_takes_X10_forgets rfl rfl rfl (by decide +kernel) ⟨Nat.le_of_ble_eq_true rfl, Nat.le_of_ble_eq_true rfl⟩) rfl hl.1 rfl (Nat.le_of_ble_eq_true rfl) dX10_takes_5 ⟨Nat.le_of_ble_eq_true rfl, Nat.le_of_ble_eq_true rfl⟩ (fun H locs hW => ?_)
  have hL8 : ∀ (n : Nat) (x2 : Int32) (m3 : gM) (y4 : Int32) (m5 : gM) (H : Heap) (locs : List Loc) (ls : Array Slot), f_X10_takes_L8 p1 p2 p3 n x2 m3 = some (y4, m5) → g_H ZM G s H locs m3 → lv_has ls 7 [(0, .ref (G.2.2.1 0)), (1, .int p1), (2, .int p2), (3, .int p3), (5, .int x2)] → (∀ (H : Heap) (locs : List Loc) (ls : Array Slot), g_H ZM G s H locs m5 → lv_has ls 7 [] → W p l e (headSpec wsX10_takes rmX10_takes).room s m ([.ref (G.2.2.1 0), .int p1, .int p2, .int p3, .int p4] : List Value).toArray below meth c H locs 0 0 Q (F0 m 76 ls [])) → W p l e (headSpec wsX10_takes rmX10_takes).room s m ([.ref (G.2.2.1 0), .int p1, .int p2, .int p3, .int p4] : List Value).toArray below meth c H locs 0 0 Q (F0 m 8 ls []) := by
    intro n
    induction n with
    | zero =>
      intro x2 m3 y4 m5 H locs ls hf hW hl hE
      cases hf
    | succ n ih =>
      intro x2 m3 y4 m5 H locs ls hf hW hl hE
      rw [f_X10_takes_L8] at hf
      refine lv_iload hx hb dX10_takes_8 (lv_at hl 4 rfl) ?_
      refine lv_if_le (tgt := 76) hx hb dX10_takes_10 (by decide) (fun c6 => ?_) (fun c6 => ?_)
      · have hf := a_if_t c6 hf
        cases hf
        exact hE H locs ls hW (lv_sub hl [] rfl)
      · have hf := a_if_f c6 hf
        refine lv_aload_n hx hb dX10_takes_13 rfl (lv_at hl 0 rfl) ?_
        refine lv_iload_n hx hb dX10_takes_14 rfl (lv_at hl 1 rfl) ?_
        refine lv_iload_n hx hb dX10_takes_15 rfl (lv_at hl 2 rfl) ?_
        refine lv_iload_n hx hb dX10_takes_16 rfl (lv_at hl 3 rfl) ?_
        obtain ⟨r7, hg, hf⟩ := ob_inv hf
        refine g_cVi hC hW (o := 0) (ci := 10) (As := [.int p1, .int p2, .int p3]) (rest := []) zm_k0 zm_b0 rfl (c_X10_nextBid l G  hg) (cwV 3 hts gX10_takes_X10_nextBid rfl rfl rfl (by decide +kernel) ⟨Nat.le_of_ble_eq_true rfl, Nat.le_of_ble_eq_true rfl⟩) rfl hl.1 rfl (Nat.le_of_ble_eq_true rfl) dX10_takes_17 ⟨Nat.le_of_ble_eq_true rfl, Nat.le_of_ble_eq_true rfl⟩ (fun H locs hW => ?_)
        refine lv_istore (lv' := [(6, .int r7), (0, .ref (G.2.2.1 0)), (1, .int p1), (2, .int p2), (3, .int p3), (5, .int x2)]) hx hb dX10_takes_20 hl (by decide) rfl (fun ls hl => ?_)
        refine lv_aload_n hx hb dX10_takes_22 rfl (lv_at hl 1 rfl) ?_
        refine g_getr hC hW (o := 0) (ci := 10) (k := 15) zm_k0 zm_b0 rfl hi10 (by decide) rfl (t := 12) zm_r0_15 (by decide +kernel) dX10_takes_23 ?_
        refine lv_iload hx hb dX10_takes_26 (lv_at hl 0 rfl) ?_
        refine lv_iconst (v := 1) hx hb dX10_takes_28 (by decide) ?_
        obtain ⟨m8, h9, hf⟩ := ob_inv hf
        refine g_ist hC hW zm_k12 zm_b12 zm_n12 h9 dX10_takes_29 (fun H locs hW => ?_)
        refine lv_aload_n hx hb dX10_takes_30 rfl (lv_at hl 1 rfl) ?_
        refine g_getr hC hW (o := 0) (ci := 10) (k := 14) zm_k0 zm_b0 rfl hi10 (by decide) rfl (t := 11) zm_r0_14 (by decide +kernel) dX10_takes_31 ?_
        refine lv_iload hx hb dX10_takes_34 (lv_at hl 0 rfl) ?_
        refine lv_aload_n hx hb dX10_takes_36 rfl (lv_at hl 1 rfl) ?_
        refine g_getr hC hW (o := 0) (ci := 10) (k := 13) zm_k0 zm_b0 rfl hi10 (by decide) rfl (t := 10) zm_r0_13 (by decide +kernel) dX10_takes_37 ?_
        refine lv_iload hx hb dX10_takes_40 (lv_at hl 0 rfl) ?_
        obtain ⟨v9, h9, hf⟩ := ob_inv hf
        refine g_ild hC hW zm_k10 zm_b10 zm_n10 h9 dX10_takes_42 ?_
        refine lv_iload hx hb dX10_takes_43 (lv_at hl 5 rfl) ?_
        obtain ⟨z11, hg, hf⟩ := ob_inv hf
        have hJ60 : ∀ (H : Heap) (locs : List Loc) (ls : Array Slot), g_H ZM G s H locs m8 → lv_has ls 7 [(0, .ref (G.2.2.1 0)), (1, .int p1), (2, .int p2), (3, .int p3), (5, .int x2), (6, .int r7)] → W p l e (headSpec wsX10_takes rmX10_takes).room s m ([.ref (G.2.2.1 0), .int p1, .int p2, .int p3, .int p4] : List Value).toArray below meth c H locs 0 0 Q (F0 m 60 ls [.int z11, .int r7, .ref (G.2.2.1 11)]) := by
          intro H locs ls hW hl
          obtain ⟨m13, h9, hf⟩ := ob_inv hf
          refine g_ist hC hW zm_k11 zm_b11 zm_n11 h9 dX10_takes_60 (fun H locs hW => ?_)
          refine lv_iload hx hb dX10_takes_61 (lv_at hl 4 rfl) ?_
          refine lv_aload_n hx hb dX10_takes_63 rfl (lv_at hl 0 rfl) ?_
          refine g_getr hC hW (o := 0) (ci := 10) (k := 14) zm_k0 zm_b0 rfl hi10 (by decide) rfl (t := 11) zm_r0_14 (by decide +kernel) dX10_takes_64 ?_
          refine lv_iload hx hb dX10_takes_67 (lv_at hl 5 rfl) ?_
          obtain ⟨v14, h9, hf⟩ := ob_inv hf
          refine g_ild hC hW zm_k11 zm_b11 zm_n11 h9 dX10_takes_69 ?_
          refine lv_isub hx hb dX10_takes_70 ?_
          obtain ⟨x15, h9, hf⟩ := ob_inv hf
          refine g_nmi (Option.some.inj h9) ?_
          refine lv_istore (lv' := [(5, .int x15), (0, .ref (G.2.2.1 0)), (1, .int p1), (2, .int p2), (3, .int p3), (6, .int r7)]) hx hb dX10_takes_71 hl (by decide) rfl (fun ls hl => ?_)
          refine lv_goto (tgt := 8) hx hb dX10_takes_73 (by decide) ?_
          exact ih _ _ _ _ _ _ _ hf hW (lv_sub hl [1, 2, 3, 4, 0] rfl) hE
        replace hf := hg
        refine lv_icmp_ge (tgt := 58) hx hb dX10_takes_45 (by decide) (fun c10 => ?_) (fun c10 => ?_)
        · have hf := a_if_t c10 hf
          refine lv_iload hx hb dX10_takes_58 (lv_at hl 5 rfl) ?_
          cases hf
          exact hJ60 H locs ls hW (lv_sub hl [1, 2, 3, 4, 5, 0] rfl)
        · have hf := a_if_f c10 hf
          refine lv_aload_n hx hb dX10_takes_48 rfl (lv_at hl 1 rfl) ?_
          refine g_getr hC hW (o := 0) (ci := 10) (k := 13) zm_k0 zm_b0 rfl hi10 (by decide) rfl (t := 10) zm_r0_13 (by decide +kernel) dX10_takes_49 ?_
          refine lv_iload hx hb dX10_takes_52 (lv_at hl 0 rfl) ?_
          obtain ⟨v12, h9, hf⟩ := ob_inv hf
          refine g_ild hC hW zm_k10 zm_b10 zm_n10 h9 dX10_takes_54 ?_
          refine lv_goto (tgt := 60) hx hb dX10_takes_55 (by decide) ?_
          cases hf
          exact hJ60 H locs ls hW (lv_sub hl [1, 2, 3, 4, 5, 0] rfl)
  obtain ⟨⟨y4, m5⟩, hg, hf⟩ := ob_inv hf
  have hf := ob_inv2 hf
  refine hL8 _ _ _ _ _ _ _ _ hg hW (lv_sub hl [1, 2, 3, 4, 0] rfl) (fun H locs ls hW hl => ?_)
  cases hf
  subst hQ
  exact g_vret hC hW hr hlocks rfl dX10_takes_76
