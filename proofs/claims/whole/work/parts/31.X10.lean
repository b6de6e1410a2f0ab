def f_X10_trades (p1 : Int32) (p2 : Int32) (p3 : Int32) (p4 : Int32) (p5 : Int32) (me : gM) : Option (gM) :=
  ob (a_ld 720 42 ((((72 * (me 0 0)) + (12 * p1)) + (4 * p2)) + p3) me) fun v1 =>
  ob (a_st 720 42 ((((72 * (me 0 0)) + (12 * p1)) + (4 * p2)) + p3) (v1 + p4) me) fun m2 =>
  ob (a_ld 60 45 ((6 * (m2 0 0)) + p1) m2) fun v3 =>
  ob (a_st 60 45 ((6 * (m2 0 0)) + p1) (v3 + (p4 * p5)) m2) fun m4 =>
  some m4
def f_X10_givesRights_L41 (me : gM) (p1 : Int32) (p2 : Int32) : Nat → Int32 → Int32 → Option (Int32 × Int32)
  | 0, _, _ => none
  | n + 1, x5, x6 =>
    if 4 ≤ x6 then
      some (x5, x6)
    else
      ob (a_ld 120 41 (((12 * (me 0 0)) + (4 * p2)) + x6) me) fun v10 =>
      ob (a_ld 120 41 (((12 * (me 0 0)) + (4 * p1)) + x6) me) fun v11 =>
      ob (some (v10 - v11)) fun (x12 : Int32) =>
      ob (if x12 ≤ 0 then
          some 0
        else
          some x12) fun (z14 : Int32) =>
      ob (some (x5 + z14)) fun (x15 : Int32) =>
      f_X10_givesRights_L41 me p1 p2 n x15 (x6 + 1)
def f_X10_givesRights_L123 (p1 : Int32) (p2 : Int32) (x19 : Int32) : Nat → Int32 → Int32 → Int32 → Int32 → gM → Option (Int32 × Int32 × Int32 × Int32 × gM)
  | 0, _, _, _, _, _ => none
  | n + 1, x27, x28, x29, x30, m31 =>
    if (m31 0 26) ≤ x30 then
      some (x27, x28, x29, x30, m31)
    else
      ob (a_ld 20 22 x30 m31) fun v38 =>
      ob (if v38 = p1 then
          ob (a_ld 20 23 x30 m31) fun v44 =>
          if v44 = p2 then
            ob (a_ld 20 25 x30 m31) fun v46 =>
            if v46 = x19 then
              ob (a_ld 20 24 x30 m31) fun v48 =>
              ob (if x27 ≤ v48 then
                  some x27
                else
                  ob (a_ld 20 24 x30 m31) fun v51 =>
                  some v51) fun (z50 : Int32) =>
              ob (a_st 20 26 x30 z50 m31) fun m52 =>
              ob (a_ld 20 26 x30 m52) fun v53 =>
              ob (some (x27 - v53)) fun (x54 : Int32) =>
              ob (a_ld 20 24 x30 m52) fun v55 =>
              ob (a_ld 20 26 x30 m52) fun v56 =>
              ob (some (x28 + (v55 - v56))) fun (x57 : Int32) =>
              ob (a_ld 20 26 x30 m52) fun v58 =>
              ob (if v58 ≤ 0 then
                  some x29
                else
                  some x19) fun (z60 : Int32) =>
              some (x54, x57, z60, m52)
            else
              some (x27, x28, x29, m31)
          else
            some (x27, x28, x29, m31)
        else
          some (x27, x28, x29, m31)) fun (t61 : Int32 × Int32 × Int32 × gM) =>
      ob (some t61.1) fun x40 =>
      ob (some t61.2.1) fun x41 =>
      ob (some t61.2.2.1) fun x42 =>
      ob (some t61.2.2.2) fun m43 =>
      f_X10_givesRights_L123 p1 p2 x19 n x40 x41 x42 (x30 + 1) m43
def f_X10_givesRights_L115 (p1 : Int32) (p2 : Int32) : Nat → Int32 → Int32 → Int32 → Int32 → gM → Option (Int32 × Int32 × Int32 × Int32 × gM)
  | 0, _, _, _, _, _ => none
  | n + 1, x16, x17, x18, x19, m20 =>
    if x19 < 0 then
      some (x16, x17, x18, x19, m20)
    else
      ob (f_X10_givesRights_L123 p1 p2 x19 f_fuel x16 x17 x18 0 m20) fun t62 =>
      ob (some t62.1) fun y32 =>
      ob (some t62.2.1) fun y33 =>
      ob (some t62.2.2.1) fun y34 =>
      ob (some t62.2.2.2.1) fun y35 =>
      ob (some t62.2.2.2.2) fun m36 =>
      f_X10_givesRights_L115 p1 p2 n y32 y33 y34 (x19 + (-1)) m36
def f_X10_givesRights_L259 (p1 : Int32) (p2 : Int32) (y22 : Int32) (y23 : Int32) (y7 : Int32) : Nat → Int32 → gM → Option (Int32 × gM)
  | 0, _, _ => none
  | n + 1, x63, m64 =>
    if (m64 0 26) ≤ x63 then
      some (x63, m64)
    else
      ob (a_ld 20 22 x63 m64) fun v68 =>
      ob (if v68 = p1 then
          ob (a_ld 20 23 x63 m64) fun v71 =>
          if v71 = p2 then
            ob (a_ld 20 21 x63 m64) fun v73 =>
            ob (a_ld 60 45 ((6 * (m64 0 0)) + v73) m64) fun v74 =>
            ob (a_ld 20 26 x63 m64) fun v75 =>
            ob (if y22 ≤ 0 then
                some 0
              else
                some y23) fun (z77 : Int32) =>
            ob (a_st 60 45 ((6 * (m64 0 0)) + v73) (v74 + (v75 * (y7 - z77))) m64) fun m78 =>
            some m78
          else
            some m64
        else
          some m64) fun (m70 : gM) =>
      f_X10_givesRights_L259 p1 p2 y22 y23 y7 n (x63 + 1) m70
def f_X10_givesRights (p1 : Int32) (p2 : Int32) (me : gM) : Option (gM) :=
  ob (if (p1 + p2) = 1 then
      some 0
    else
      if (p1 + p2) = 3 then
        some 1
      else
        some 2) fun (z2 : Int32) =>
  ob (a_ld 3 1 z2 me) fun v4 =>
  ob (f_X10_givesRights_L41 me p1 p2 f_fuel 0 0) fun t81 =>
  ob (some t81.1) fun y7 =>
  ob (some t81.2) fun y8 =>
  ob (f_X10_givesRights_L115 p1 p2 f_fuel v4 0 0 500 me) fun t80 =>
  ob (some t80.1) fun y21 =>
  ob (some t80.2.1) fun y22 =>
  ob (some t80.2.2.1) fun y23 =>
  ob (some t80.2.2.2.1) fun y24 =>
  ob (some t80.2.2.2.2) fun m25 =>
  ob (f_X10_givesRights_L259 p1 p2 y22 y23 y7 f_fuel 0 m25) fun t79 =>
  ob (some t79.1) fun y65 =>
  ob (some t79.2) fun m66 =>
  some m66
def f_X10_takesHour (p1 : Int32) (p2 : Int32) (me : gM) : Option (gM) :=
  ob (some ((4 * p1) + p2)) fun (x1 : Int32) =>
  ob (a_ld 12 54 x1 me) fun v2 =>
  ob (a_st 12 48 x1 v2 me) fun m3 =>
  ob (a_ld 12 55 x1 m3) fun v4 =>
  ob (a_st 120 41 ((12 * (m3 0 0)) + x1) v4 m3) fun m5 =>
  ob (a_ld 12 54 x1 m5) fun v6 =>
  ob (a_ld 12 53 x1 m5) fun v7 =>
  ob (some (v6 - v7)) fun (x8 : Int32) =>
  ob (a_ld 1932 52 (((161 * x1) + 80) + x8) m5) fun v9 =>
  ob (f_X10_takes p1 p2 1 v9 m5) fun m10 =>
  ob (f_X10_takes p1 p2 0 (x8 + v9) m10) fun m11 =>
  some m11
def f_X10_clear_L35 (x5 : Int32) : Nat → Int32 → gM → Option (Int32 × gM)
  | 0, _, _ => none
  | n + 1, x10, m11 =>
    if 4 ≤ x10 then
      some (x10, m11)
    else
      ob (f_X10_forgets m11) fun m15 =>
      ob (f_X10_weighs x5 x10 m15) fun m16 =>
      f_X10_clear_L35 x5 n (x10 + 1) m16
def f_X10_clear_L28  : Nat → Int32 → gM → Option (Int32 × gM)
  | 0, _, _ => none
  | n + 1, x5, m6 =>
    if 3 ≤ x5 then
      some (x5, m6)
    else
      ob (f_X10_clear_L35 x5 f_fuel 0 m6) fun t17 =>
      ob (some t17.1) fun y12 =>
      ob (some t17.2) fun m13 =>
      f_X10_clear_L28  n (x5 + 1) m13
def f_X10_clear_L72  : Nat → Int32 → Int32 → gM → Option (Int32 × Int32 × gM)
  | 0, _, _, _ => none
  | n + 1, x19, x20, m21 =>
    if (1 <<< ((m21 0 16) &&& 31)) ≤ x20 then
      some (x19, x20, m21)
    else
      ob (f_X10_isAllowed x20 m21) fun r26 =>
      ob (if r26 = 0 then
          some ((-1000000000), m21)
        else
          ob (f_X10_tries x20 m21) fun w32 =>
          ob (some w32.1) fun r30 =>
          ob (some w32.2) fun m31 =>
          some (r30, m31)) fun (t38 : Int32 × gM) =>
      ob (some t38.1) fun z28 =>
      ob (some t38.2) fun m29 =>
      ob (if z28 ≤ x19 then
          some (x19, m29)
        else
          ob (some (g_up m29 0 (upd (m29 0) 25 x20))) fun m36 =>
          some (z28, m36)) fun (t37 : Int32 × gM) =>
      ob (some t37.1) fun x34 =>
      ob (some t37.2) fun m35 =>
      f_X10_clear_L72  n x34 (x20 + 1) m35
def f_X10_clear_L130  : Nat → Int32 → gM → Option (Int32 × gM)
  | 0, _, _ => none
  | n + 1, x42, m43 =>
    if 40 ≤ x42 then
      some (x42, m43)
    else
      ob (a_st 40 11 x42 0 m43) fun m47 =>
      f_X10_clear_L130  n (x42 + 1) m47
def f_X10_clear_L158 (x48 : Int32) : Nat → Int32 → gM → Option (Int32 × gM)
  | 0, _, _ => none
  | n + 1, x53, m54 =>
    if 4 ≤ x53 then
      some (x53, m54)
    else
      ob (f_X10_takesHour x48 x53 m54) fun m58 =>
      f_X10_clear_L158 x48 n (x53 + 1) m58
def f_X10_clear_L151  : Nat → Int32 → gM → Option (Int32 × gM)
  | 0, _, _ => none
  | n + 1, x48, m49 =>
    if 3 ≤ x48 then
      some (x48, m49)
    else
      ob (f_X10_clear_L158 x48 f_fuel 0 m49) fun t59 =>
      ob (some t59.1) fun y55 =>
      ob (some t59.2) fun m56 =>
      f_X10_clear_L151  n (x48 + 1) m56
def f_X10_clear_L183  : Nat → Int32 → gM → Option (Int32 × gM)
  | 0, _, _ => none
  | n + 1, x60, m61 =>
    if (m61 0 7) ≤ x60 then
      some (x60, m61)
    else
      ob (a_ld 40 8 x60 m61) fun v65 =>
      ob (if v65 = 1 then
          ob (a_ld 40 11 x60 m61) fun v69 =>
          some (-v69)
        else
          ob (a_ld 40 11 x60 m61) fun v68 =>
          some v68) fun (z67 : Int32) =>
      ob (a_ld 40 5 x60 m61) fun v70 =>
      ob (a_ld 40 6 x60 m61) fun v71 =>
      ob (a_ld 40 7 x60 m61) fun v72 =>
      ob (a_ld 40 6 x60 m61) fun v73 =>
      ob (a_ld 40 7 x60 m61) fun v74 =>
      ob (a_ld 120 41 (((12 * (m61 0 0)) + (4 * v73)) + v74) m61) fun v75 =>
      ob (f_X10_trades v70 v71 v72 z67 v75 m61) fun m76 =>
      f_X10_clear_L183  n (x60 + 1) m76
def f_X10_clear_L287 (x77 : Int32) : Nat → Int32 → gM → Option (Int32 × gM)
  | 0, _, _ => none
  | n + 1, x82, m83 =>
    if 4 ≤ x82 then
      some (x82, m83)
    else
      ob (if (((m83 0 25) >>> (x77 &&& 31)) &&& 1) = 1 then
          ob (a_ld 5 15 x77 m83) fun v89 =>
          if ((v89 >>> (x82 &&& 31)) &&& 1) = 1 then
            some 1
          else
            some 0
        else
          some 0) fun (z88 : Int32) =>
      ob (if z88 = 0 then
          some 0
        else
          ob (a_ld 5 16 x77 m83) fun v93 =>
          if v93 = 1 then
            ob (a_ld 5 18 x77 m83) fun v96 =>
            some (-v96)
          else
            ob (a_ld 5 18 x77 m83) fun v95 =>
            some v95) fun (z92 : Int32) =>
      ob (a_ld 5 13 x77 m83) fun v97 =>
      ob (a_ld 5 14 x77 m83) fun v98 =>
      ob (a_ld 5 14 x77 m83) fun v99 =>
      ob (a_ld 120 41 (((12 * (m83 0 0)) + (4 * v99)) + x82) m83) fun v100 =>
      ob (f_X10_trades v97 v98 x82 z92 v100 m83) fun m101 =>
      f_X10_clear_L287 x77 n (x82 + 1) m101
def f_X10_clear_L277  : Nat → Int32 → gM → Option (Int32 × gM)
  | 0, _, _ => none
  | n + 1, x77, m78 =>
    if (m78 0 16) ≤ x77 then
      some (x77, m78)
    else
      ob (f_X10_clear_L287 x77 f_fuel 0 m78) fun t102 =>
      ob (some t102.1) fun y84 =>
      ob (some t102.2) fun m85 =>
      f_X10_clear_L277  n (x77 + 1) m85
def f_X10_clear_L425 (x103 : Int32) : Nat → Int32 → gM → Option (Int32 × gM)
  | 0, _, _ => none
  | n + 1, x108, m109 =>
    if 3 ≤ x108 then
      some (x108, m109)
    else
      ob (if x103 = x108 then
          some m109
        else
          ob (f_X10_givesRights x103 x108 m109) fun m115 =>
          some m115) fun (m114 : gM) =>
      f_X10_clear_L425 x103 n (x108 + 1) m114
def f_X10_clear_L418  : Nat → Int32 → gM → Option (Int32 × gM)
  | 0, _, _ => none
  | n + 1, x103, m104 =>
    if 3 ≤ x103 then
      some (x103, m104)
    else
      ob (f_X10_clear_L425 x103 f_fuel 0 m104) fun t116 =>
      ob (some t116.1) fun y110 =>
      ob (some t116.2) fun m111 =>
      f_X10_clear_L418  n (x103 + 1) m111
def f_X10_clear (me : gM) : Option (Int32 × gM) :=
  ob (if (me 0 1) = 1 then
      some 1
    else
      some 0) fun (z2 : Int32) =>
  ob (some (g_up me 0 (upd (me 0) 67 z2))) fun m3 =>
  if (m3 0 67) ≤ 0 then
    ob (f_X10_clear_L28  f_fuel 0 m3) fun t124 =>
    ob (some t124.1) fun y7 =>
    ob (some t124.2) fun m8 =>
    ob (some (g_up m8 0 (upd (m8 0) 25 0))) fun m18 =>
    ob (f_X10_clear_L72  f_fuel (-1000000000) 0 m18) fun t123 =>
    ob (some t123.1) fun y22 =>
    ob (some t123.2.1) fun y23 =>
    ob (some t123.2.2) fun m24 =>
    ob (f_X10_tries (m24 0 25) m24) fun w41 =>
    ob (some w41.1) fun r39 =>
    ob (some w41.2) fun m40 =>
    ob (f_X10_clear_L130  f_fuel 0 m40) fun t122 =>
    ob (some t122.1) fun y44 =>
    ob (some t122.2) fun m45 =>
    ob (f_X10_clear_L151  f_fuel 0 m45) fun t121 =>
    ob (some t121.1) fun y50 =>
    ob (some t121.2) fun m51 =>
    ob (f_X10_clear_L183  f_fuel 0 m51) fun t120 =>
    ob (some t120.1) fun y62 =>
    ob (some t120.2) fun m63 =>
    ob (f_X10_clear_L277  f_fuel 0 m63) fun t119 =>
    ob (some t119.1) fun y79 =>
    ob (some t119.2) fun m80 =>
    ob (f_X10_clear_L418  f_fuel 0 m80) fun t118 =>
    ob (some t118.1) fun y105 =>
    ob (some t118.2) fun m106 =>
    ob (some (g_up m106 0 (upd (m106 0) 1 1))) fun m117 =>
    some (y22, m117)
  else
    some (0, m3)
def f_X10_room_L14 (p1 : Int32) (p2 : Int32) (p3 : Int32) (p4 : Int32) : Nat → Int32 → Int32 → gM → Option (Int32 × Int32 × gM)
  | 0, _, _, _ => none
  | n + 1, x2, x3, m4 =>
    if x3 = 0 then
      some (x2, x3, m4)
    else
      if p4 ≤ x2 then
        some (x2, x3, m4)
      else
        ob (a_ld 12 48 ((4 * p1) + p3) m4) fun v10 =>
        ob (a_st 12 48 ((4 * p1) + p3) (v10 + 1) m4) fun m11 =>
        ob (a_ld 12 48 ((4 * p2) + p3) m11) fun v12 =>
        ob (a_st 12 48 ((4 * p2) + p3) (v12 - 1) m11) fun m13 =>
        ob (a_ld 12 48 p3 m13) fun v14 =>
        ob (a_ld 12 48 (4 + p3) m13) fun v15 =>
        ob (a_ld 12 48 (8 + p3) m13) fun v16 =>
        ob (f_X10_fits v14 v15 v16 m13) fun r17 =>
        ob (if r17 = 0 then
            some 0
          else
            some 1) fun (z19 : Int32) =>
        ob (some (x2 + z19)) fun (x20 : Int32) =>
        ob (a_ld 12 48 ((4 * p1) + p3) m13) fun v21 =>
        ob (if r17 = 0 then
            some 1
          else
            some 0) fun (z23 : Int32) =>
        ob (a_st 12 48 ((4 * p1) + p3) (v21 - z23) m13) fun m24 =>
        ob (a_ld 12 48 ((4 * p2) + p3) m24) fun v25 =>
        ob (if r17 = 0 then
            some 1
          else
            some 0) fun (z27 : Int32) =>
        ob (a_st 12 48 ((4 * p2) + p3) (v25 + z27) m24) fun m28 =>
        f_X10_room_L14 p1 p2 p3 p4 n x20 r17 m28
def f_X10_room (p1 : Int32) (p2 : Int32) (p3 : Int32) (p4 : Int32) (me : gM) : Option (Int32 × gM) :=
  if p1 = p2 then
    some (p4, me)
  else
    ob (f_X10_room_L14 p1 p2 p3 p4 f_fuel 0 1 me) fun t33 =>
    ob (some t33.1) fun y5 =>
    ob (some t33.2.1) fun y6 =>
    ob (some t33.2.2) fun m7 =>
    ob (a_ld 12 48 ((4 * p1) + p3) m7) fun v29 =>
    ob (a_st 12 48 ((4 * p1) + p3) (v29 - y5) m7) fun m30 =>
    ob (a_ld 12 48 ((4 * p2) + p3) m30) fun v31 =>
    ob (a_st 12 48 ((4 * p2) + p3) (v31 + y5) m30) fun m32 =>
    some (y5, m32)
def f_X10_restFor_L4 (me : gM) (p1 : Int32) : Nat → Int32 → Int32 → Option (Int32 × Int32)
  | 0, _, _ => none
  | n + 1, x1, x2 =>
    if p1 ≤ x2 then
      some (x1, x2)
    else
      ob (a_ld 60 33 x2 me) fun v6 =>
      ob (if v6 = 0 then
          ob (a_ld 60 32 x2 me) fun v9 =>
          if v9 ≤ 0 then
            some 0
          else
            ob (a_ld 60 29 x2 me) fun v11 =>
            ob (a_ld 60 29 p1 me) fun v12 =>
            if v11 = v12 then
              ob (a_ld 60 30 x2 me) fun v14 =>
              ob (a_ld 60 30 p1 me) fun v15 =>
              if v14 = v15 then
                some 0
              else
                some 1
            else
              some 0
        else
          some 0) fun (z8 : Int32) =>
      ob (if z8 = 0 then
          some 0
        else
          ob (a_ld 60 30 p1 me) fun v19 =>
          if v19 = 1 then
            ob (a_ld 60 31 x2 me) fun v24 =>
            ob (a_ld 60 31 p1 me) fun v25 =>
            if v25 < v24 then
              some 0
            else
              some 1
          else
            ob (a_ld 60 31 x2 me) fun v21 =>
            ob (a_ld 60 31 p1 me) fun v22 =>
            if v21 < v22 then
              some 0
            else
              some 1) fun (z18 : Int32) =>
      ob (if x1 = (-1) then
          some 1
        else
          ob (a_ld 60 30 p1 me) fun v29 =>
          if v29 = 1 then
            ob (a_ld 60 31 x2 me) fun v34 =>
            ob (a_ld 60 31 x1 me) fun v35 =>
            if v35 ≤ v34 then
              some 0
            else
              some 1
          else
            ob (a_ld 60 31 x2 me) fun v31 =>
            ob (a_ld 60 31 x1 me) fun v32 =>
            if v31 ≤ v32 then
              some 0
            else
              some 1) fun (z28 : Int32) =>
      ob (if z18 = 0 then
          some x1
        else
          if z28 = 0 then
            some x1
          else
            some x2) fun (z38 : Int32) =>
      f_X10_restFor_L4 me p1 n z38 (x2 + 1)
def f_X10_restFor (p1 : Int32) (me : gM) : Option (Int32) :=
  ob (f_X10_restFor_L4 me p1 f_fuel (-1) 0) fun t40 =>
  ob (some t40.1) fun y3 =>
  ob (some t40.2) fun y4 =>
  some y3
def f_X10_meets (p1 : Int32) (p2 : Int32) (me : gM) : Option (gM) :=
  ob (a_ld 60 29 p1 me) fun v1 =>
  ob (a_ld 60 30 p1 me) fun v2 =>
  ob (if v2 = 1 then
      some p2
    else
      some p1) fun (z4 : Int32) =>
  ob (a_ld 60 30 p1 me) fun v5 =>
  ob (if v5 = 1 then
      some p1
    else
      some p2) fun (z7 : Int32) =>
  ob (a_ld 60 32 p1 me) fun v8 =>
  ob (a_ld 60 32 p2 me) fun v9 =>
  ob (if v9 ≤ v8 then
      ob (a_ld 60 32 p2 me) fun v12 =>
      some v12
    else
      ob (a_ld 60 32 p1 me) fun v13 =>
      some v13) fun (z11 : Int32) =>
  ob (a_ld 60 27 p1 me) fun v14 =>
  ob (a_ld 60 27 p2 me) fun v15 =>
  ob (if v14 = v15 then
      some (0, me)
    else
      ob (a_ld 60 28 z4 me) fun v19 =>
      ob (a_ld 60 28 z7 me) fun v20 =>
      ob (f_X10_room v19 v20 v1 z11 me) fun w23 =>
      ob (some w23.1) fun r21 =>
      ob (some w23.2) fun m22 =>
      some (r21, m22)) fun (t42 : Int32 × gM) =>
  ob (some t42.1) fun z17 =>
  ob (some t42.2) fun m18 =>
  ob (a_ld 60 32 p1 m18) fun v24 =>
  ob (a_st 60 32 p1 (v24 - z17) m18) fun m25 =>
  ob (a_ld 60 32 p2 m25) fun v26 =>
  ob (a_st 60 32 p2 (v26 - z17) m25) fun m27 =>
  ob (a_ld 60 28 z4 m27) fun v28 =>
  ob (a_ld 12 48 ((4 * v28) + v1) m27) fun v29 =>
  ob (a_st 12 48 ((4 * v28) + v1) (v29 + z17) m27) fun m30 =>
  ob (a_ld 60 28 z7 m30) fun v31 =>
  ob (a_ld 12 48 ((4 * v31) + v1) m30) fun v32 =>
  ob (a_st 12 48 ((4 * v31) + v1) (v32 - z17) m30) fun m33 =>
  ob (a_ld 60 27 z4 m33) fun v34 =>
  ob (a_ld 60 28 z4 m33) fun v35 =>
  ob (a_ld 60 31 p2 m33) fun v36 =>
  ob (f_X10_trades v34 v35 v1 z17 v36 m33) fun m37 =>
  ob (a_ld 60 27 z7 m37) fun v38 =>
  ob (a_ld 60 28 z7 m37) fun v39 =>
  ob (a_ld 60 31 p2 m37) fun v40 =>
  ob (f_X10_trades v38 v39 v1 (-z17) v40 m37) fun m41 =>
  some m41
def f_X10_offer_L186  : Nat → Int32 → gM → Option (Int32 × gM)
  | 0, _, _ => none
  | n + 1, x32, m33 =>
    if 60 ≤ x32 then
      some (x32, m33)
    else
      ob (a_st 60 33 x32 0 m33) fun m37 =>
      f_X10_offer_L186  n (x32 + 1) m37
def f_X10_offer_L215 (x22 : Int32) : Nat → Int32 → gM → Option (Int32 × gM)
  | 0, _, _ => none
  | n + 1, x39, m40 =>
    if x39 = (-1) then
      some (x39, m40)
    else
      ob (a_ld 60 32 x22 m40) fun v44 =>
      if v44 ≤ 0 then
        some (x39, m40)
      else
        ob (a_st 60 33 x39 1 m40) fun m46 =>
        ob (f_X10_meets x22 x39 m46) fun m47 =>
        ob (f_X10_restFor x22 m47) fun r48 =>
        f_X10_offer_L215 x22 n r48 m47
def f_X10_offer (p1 : Int32) (p2 : Int32) (p3 : Int32) (p4 : Int32) (p5 : Int32) (p6 : Int32) (me : gM) : Option (Int32 × gM) :=
  ob (f_X10_isFirm p1) fun r1 =>
  ob (if r1 = 0 then
      some 1
    else
      ob (f_X10_isZone p2) fun r4 =>
      if r4 = 0 then
        some 1
      else
        ob (f_X10_isHour p3) fun r6 =>
        if r6 = 0 then
          some 1
        else
          ob (f_X10_in p5 0 300) fun r8 =>
          if r8 = 0 then
            some 2
          else
            ob (f_X10_in p6 1 10) fun r10 =>
            if r10 = 0 then
              some 2
            else
              some 0) fun (z3 : Int32) =>
  ob (some (g_up me 0 (upd (me 0) 67 z3))) fun m12 =>
  ob (if (m12 0 67) = 0 then
      ob (a_ld 6 4 p1 m12) fun v15 =>
      ob (if v15 = 1 then
          some 3
        else
          if (m12 0 1) = 0 then
            some 3
          else
            if (m12 0 33) = 60 then
              some 3
            else
              some 0) fun (z17 : Int32) =>
      ob (some (g_up m12 0 (upd (m12 0) 67 z17))) fun m20 =>
      some m20
    else
      some m12) fun (m14 : gM) =>
  if (m14 0 67) ≤ 0 then
    ob (some (m14 0 33)) fun (x22 : Int32) =>
    ob (some (g_up m14 0 (upd (m14 0) 33 ((m14 0 33) + 1)))) fun m23 =>
    ob (a_st 60 27 x22 p1 m23) fun m24 =>
    ob (a_st 60 28 x22 p2 m24) fun m25 =>
    ob (a_st 60 29 x22 p3 m25) fun m26 =>
    ob (if p4 = 0 then
        some 0
      else
        some 1) fun (z28 : Int32) =>
    ob (a_st 60 30 x22 z28 m26) fun m29 =>
    ob (a_st 60 31 x22 p5 m29) fun m30 =>
    ob (a_st 60 32 x22 p6 m30) fun m31 =>
    ob (f_X10_offer_L186  f_fuel 0 m31) fun t50 =>
    ob (some t50.1) fun y34 =>
    ob (some t50.2) fun m35 =>
    ob (f_X10_restFor x22 m35) fun r38 =>
    ob (f_X10_offer_L215 x22 f_fuel r38 m35) fun t49 =>
    ob (some t49.1) fun y41 =>
    ob (some t49.2) fun m42 =>
    some (x22, m42)
  else
    some (0, m14)
def f_X10_takeBack (p1 : Int32) (me : gM) : Option (Int32 × gM) :=
  ob (f_X10_in p1 0 ((me 0 33) - 1)) fun r1 =>
  ob (if r1 = 0 then
      some 1
    else
      ob (a_ld 60 32 p1 me) fun v4 =>
      if v4 = 0 then
        some 2
      else
        some 0) fun (z3 : Int32) =>
  ob (some (g_up me 0 (upd (me 0) 67 z3))) fun m6 =>
  if (m6 0 67) ≤ 0 then
    ob (a_ld 60 32 p1 m6) fun v8 =>
    ob (a_st 60 32 p1 0 m6) fun m9 =>
    some (v8, m9)
  else
    some (0, m6)
def f_X10_aid (p1 : Int32) (p2 : Int32) (p3 : Int32) (p4 : Int32) (p5 : Int32) (me : gM) : Option (Int32 × gM) :=
  ob (f_X10_isFirm p1) fun r1 =>
  ob (if r1 = 0 then
      some 1
    else
      ob (f_X10_isHour p2) fun r4 =>
      if r4 = 0 then
        some 1
      else
        ob (f_X10_in p4 0 300) fun r6 =>
        if r6 = 0 then
          some 2
        else
          ob (f_X10_in p5 1 10) fun r8 =>
          if r8 = 0 then
            some 2
          else
            ob (a_ld 6 4 p1 me) fun v10 =>
            if v10 = 1 then
              some 3
            else
              ob (a_ld 10 34 (me 0 0) me) fun v12 =>
              if v12 = 30 then
                some 3
              else
                some 0) fun (z3 : Int32) =>
  ob (some (g_up me 0 (upd (me 0) 67 z3))) fun m14 =>
  if (m14 0 67) ≤ 0 then
    ob (a_ld 10 34 (m14 0 0) m14) fun v16 =>
    ob (some ((30 * (m14 0 0)) + v16)) fun (x17 : Int32) =>
    ob (a_st 300 35 x17 p1 m14) fun m18 =>
    ob (a_st 300 36 x17 p2 m18) fun m19 =>
    ob (if p3 = 0 then
        some 0
      else
        some 1) fun (z21 : Int32) =>
    ob (a_st 300 37 x17 z21 m19) fun m22 =>
    ob (a_st 300 38 x17 p4 m22) fun m23 =>
    ob (a_st 300 39 x17 p5 m23) fun m24 =>
    ob (a_ld 10 34 (m24 0 0) m24) fun v25 =>
    ob (a_st 10 34 (m24 0 0) (v25 + 1) m24) fun m26 =>
    ob (a_ld 10 34 (m26 0 0) m26) fun v27 =>
    some ((v27 - 1), m26)
  else
    some (0, m14)
def f_X10_close (me : gM) : Option (Int32 × gM) :=
  ob (if (me 0 1) = 0 then
      some 1
    else
      if (me 0 0) = 9 then
        some 1
      else
        some 0) fun (z2 : Int32) =>
  ob (some (g_up me 0 (upd (me 0) 67 z2))) fun m4 =>
  if (m4 0 67) ≤ 0 then
    ob (some (g_up m4 0 (upd (m4 0) 0 ((m4 0 0) + 1)))) fun m6 =>
    ob (some (g_up m6 0 (upd (m6 0) 1 0))) fun m7 =>
    ob (some (g_up m7 0 (upd (m7 0) 7 0))) fun m8 =>
    ob (some (g_up m8 0 (upd (m8 0) 16 0))) fun m9 =>
    ob (some (g_up m9 0 (upd (m9 0) 26 0))) fun m10 =>
    ob (some (g_up m10 0 (upd (m10 0) 33 0))) fun m11 =>
    some ((m11 0 0), m11)
  else
    some (0, m4)
def f_X10_placeOf (p0 : Int32) (p1 : Int32) (p2 : Int32) (p3 : Int32) : Option (Int32) :=
  some ((((72 * p0) + (12 * p1)) + (4 * p2)) + p3)
def f_X10_gapOf (p1 : Int32) (p2 : Int32) (p3 : Int32) (p4 : Int32) (me : gM) : Option (Int32) :=
  ob (f_X10_placeOf p1 p2 p3 p4) fun r1 =>
  ob (a_ld 720 44 r1 me) fun v2 =>
  ob (if v2 = 1 then
      ob (a_ld 720 43 r1 me) fun v5 =>
      ob (a_ld 720 42 r1 me) fun v6 =>
      some (v5 - v6)
    else
      some 0) fun (z4 : Int32) =>
  some z4
def f_X10_read (p1 : Int32) (p2 : Int32) (p3 : Int32) (p4 : Int32) (p5 : Int32) (me : gM) : Option (Int32 × gM) :=
  ob (f_X10_isClosed p1 me) fun r1 =>
  ob (if r1 = 0 then
      some 1
    else
      ob (f_X10_isFirm p2) fun r4 =>
      if r4 = 0 then
        some 1
      else
        ob (f_X10_isZone p3) fun r6 =>
        if r6 = 0 then
          some 1
        else
          ob (f_X10_isHour p4) fun r8 =>
          if r8 = 0 then
            some 1
          else
            ob (f_X10_in p5 (-200) 200) fun r10 =>
            if r10 = 0 then
              some 2
            else
              some 0) fun (z3 : Int32) =>
  ob (some (g_up me 0 (upd (me 0) 67 z3))) fun m12 =>
  if (m12 0 67) ≤ 0 then
    ob (f_X10_placeOf p1 p2 p3 p4) fun r14 =>
    ob (a_st 720 43 r14 p5 m12) fun m15 =>
    ob (f_X10_placeOf p1 p2 p3 p4) fun r16 =>
    ob (a_st 720 44 r16 1 m15) fun m17 =>
    ob (f_X10_gapOf p1 p2 p3 p4 m17) fun r18 =>
    some (r18, m17)
  else
    some (0, m12)
def f_X10_gapIn_L15 (me : gM) (p1 : Int32) (p2 : Int32) (x2 : Int32) : Nat → Int32 → Int32 → Option (Int32 × Int32)
  | 0, _, _ => none
  | n + 1, x6, x7 =>
    if 3 ≤ x7 then
      some (x6, x7)
    else
      ob (f_X10_gapOf p1 x2 x7 p2 me) fun r11 =>
      ob (some (x6 + r11)) fun (x12 : Int32) =>
      f_X10_gapIn_L15 me p1 p2 x2 n x12 (x7 + 1)
def f_X10_gapIn_L5 (me : gM) (p1 : Int32) (p2 : Int32) : Nat → Int32 → Int32 → Option (Int32 × Int32)
  | 0, _, _ => none
  | n + 1, x1, x2 =>
    if 6 ≤ x2 then
      some (x1, x2)
    else
      ob (f_X10_gapIn_L15 me p1 p2 x2 f_fuel x1 0) fun t13 =>
      ob (some t13.1) fun y8 =>
      ob (some t13.2) fun y9 =>
      f_X10_gapIn_L5 me p1 p2 n y8 (x2 + 1)
def f_X10_gapIn (p1 : Int32) (p2 : Int32) (me : gM) : Option (Int32) :=
  ob (f_X10_gapIn_L5 me p1 p2 f_fuel 0 0) fun t14 =>
  ob (some t14.1) fun y3 =>
  ob (some t14.2) fun y4 =>
  some y3
def f_X10_lesser (p0 : Int32) (p1 : Int32) : Option (Int32) :=
  ob (if p1 ≤ p0 then
      some p1
    else
      some p0) fun (z2 : Int32) =>
  some z2
def f_X10_greater (p0 : Int32) (p1 : Int32) : Option (Int32) :=
  ob (if p0 ≤ p1 then
      some p1
    else
      some p0) fun (z2 : Int32) =>
  some z2
def f_X10_helps_L37 (x5 : Int32) : Nat → Int32 → gM → Option (Int32 × gM)
  | 0, _, _ => none
  | n + 1, x6, m7 =>
    if (x5 + 30) ≤ x6 then
      some (x6, m7)
    else
      ob (a_st 300 40 x6 0 m7) fun m11 =>
      f_X10_helps_L37 x5 n (x6 + 1) m11
def f_X10_helps_L95 (p1 : Int32) (p2 : Int32) (x5 : Int32) (z22 : Int32) (z4 : Int32) : Nat → Int32 → Int32 → Int32 → gM → Option (Int32 × Int32 × Int32 × gM)
  | 0, _, _, _, _ => none
  | n + 1, x23, x24, x25, m26 =>
    ob (a_ld 10 34 p1 m26) fun v31 =>
    if (x5 + v31) ≤ x25 then
      some (x23, x24, x25, m26)
    else
      ob (if x23 ≤ 0 then
          some (x23, x24, m26)
        else
          ob (a_ld 300 36 x25 m26) fun v37 =>
          if v37 = p2 then
            ob (a_ld 300 37 x25 m26) fun v39 =>
            if v39 = z4 then
              ob (a_ld 300 38 x25 m26) fun v41 =>
              if v41 = z22 then
                ob (a_ld 300 39 x25 m26) fun v43 =>
                ob (f_X10_lesser v43 x23) fun r44 =>
                ob (a_st 300 40 x25 r44 m26) fun m45 =>
                ob (a_ld 300 40 x25 m45) fun v46 =>
                ob (some (x23 - v46)) fun (x47 : Int32) =>
                some (x47, z22, m45)
              else
                some (x23, x24, m26)
            else
              some (x23, x24, m26)
          else
            some (x23, x24, m26)) fun (t48 : Int32 × Int32 × gM) =>
      ob (some t48.1) fun x34 =>
      ob (some t48.2.1) fun x35 =>
      ob (some t48.2.2) fun m36 =>
      f_X10_helps_L95 p1 p2 x5 z22 z4 n x34 x35 (x25 + 1) m36
def f_X10_helps_L64 (p1 : Int32) (p2 : Int32) (x5 : Int32) (z4 : Int32) : Nat → Int32 → Int32 → Int32 → gM → Option (Int32 × Int32 × Int32 × gM)
  | 0, _, _, _, _ => none
  | n + 1, x12, x13, x14, m15 =>
    if 300 < x14 then
      some (x12, x13, x14, m15)
    else
      ob (if z4 = 1 then
          some x14
        else
          some (300 - x14)) fun (z22 : Int32) =>
      ob (f_X10_helps_L95 p1 p2 x5 z22 z4 f_fuel x12 x13 x5 m15) fun t49 =>
      ob (some t49.1) fun y27 =>
      ob (some t49.2.1) fun y28 =>
      ob (some t49.2.2.1) fun y29 =>
      ob (some t49.2.2.2) fun m30 =>
      f_X10_helps_L64 p1 p2 x5 z4 n y27 y28 (x14 + 1) m30
def f_X10_helps (p1 : Int32) (p2 : Int32) (me : gM) : Option (Int32 × gM) :=
  ob (f_X10_gapIn p1 p2 me) fun r1 =>
  ob (f_X10_away r1) fun r2 =>
  ob (if 0 ≤ r1 then
      some 0
    else
      some 1) fun (z4 : Int32) =>
  ob (some (30 * p1)) fun (x5 : Int32) =>
  ob (f_X10_helps_L37 x5 f_fuel x5 me) fun t69 =>
  ob (some t69.1) fun y8 =>
  ob (some t69.2) fun m9 =>
  ob (f_X10_helps_L64 p1 p2 x5 z4 f_fuel r2 (-1) 0 m9) fun t68 =>
  ob (some t68.1) fun y16 =>
  ob (some t68.2.1) fun y17 =>
  ob (some t68.2.2.1) fun y18 =>
  ob (some t68.2.2.2) fun m19 =>
  if r1 = 0 then
    some ((-1), m19)
  else
    ob (a_ld 120 41 ((12 * p1) + p2) m19) fun v51 =>
    ob (a_ld 120 41 (((12 * p1) + 4) + p2) m19) fun v52 =>
    ob (a_ld 120 41 (((12 * p1) + 8) + p2) m19) fun v53 =>
    ob (f_X10_lesser v52 v53) fun r54 =>
    ob (f_X10_lesser v51 r54) fun r55 =>
    ob (a_ld 120 41 ((12 * p1) + p2) m19) fun v56 =>
    ob (a_ld 120 41 (((12 * p1) + 4) + p2) m19) fun v57 =>
    ob (a_ld 120 41 (((12 * p1) + 8) + p2) m19) fun v58 =>
    ob (f_X10_greater v57 v58) fun r59 =>
    ob (f_X10_greater v56 r59) fun r60 =>
    if z4 = 1 then
      ob (if y16 ≤ 0 then
          some y17
        else
          some 300) fun (z66 : Int32) =>
      ob (f_X10_greater z66 r60) fun r67 =>
      some (r67, m19)
    else
      ob (if y16 ≤ 0 then
          some y17
        else
          some 0) fun (z63 : Int32) =>
      ob (f_X10_lesser z63 r55) fun r64 =>
      some (r64, m19)
abbrev rmX10_trades : Room := { frames := 0, cells := 0, slots := 0, locals := 0 }
set_option maxHeartbeats 4000000 in
set_option maxRecDepth 100000 in
theorem c_X10_trades (l : Launch) (G : gG) {p1 : Int32} {p2 : Int32} {p3 : Int32} {p4 : Int32} {p5 : Int32} {me : gM} {m0 : gM}  (hf : f_X10_trades p1 p2 p3 p4 p5 me = some m0) : Met l yX10_trades wsX10_trades rmX10_trades (va_Pc [.ref (G.2.2.1 0), .int p1, .int p2, .int p3, .int p4, .int p5] (g_W ZM G me)) (g_Qv ZM G m0) 0 0 (g_A ZM G) := by
  refine Met.ofW (cc := cX10_trades) (maxL := 6) (ret := none) (by decide) rfl ?_
  intro p e s m args below meth c s₁ B hml hv
  obtain ⟨rfl, hW0⟩ := hv
  have hC : CallFix p m c cX10_trades 6 s ([.ref (G.2.2.1 0), .int p1, .int p2, .int p3, .int p4, .int p5] : List Value).toArray wsX10_trades RX10 := ⟨B.exec, B.bytes, hml, findClass_of_methodNamed B.named, atoms_spec (ws := wsX10_trades) B.pre⟩
  have hx := hC.1
  have hb := hC.2.1
  have hown := hC.2.2.2.1
  have hts := hC.2.2.2.2
  have hr := B.returns
  have hlocks := B.notSynchronized
  have hW := g_H_enter hW0
  have hi10 : ∀ w ∈ wsX100, w ∈ wsX10_trades := by decide +kernel
  have hl := lv_entry ([.ref (G.2.2.1 0), .int p1, .int p2, .int p3, .int p4, .int p5]) (n := 6) (Nat.le_of_ble_eq_true rfl)
  rw [lg_entry_eq]
  generalize (lg_sl ([.ref (G.2.2.1 0), .int p1, .int p2, .int p3, .int p4, .int p5]) ++ List.replicate (6 - (lg_sl ([.ref (G.2.2.1 0), .int p1, .int p2, .int p3, .int p4, .int p5])).length) Slot.unset).toArray = ls at hl ⊢
  have hl : lv_has ls 6 [(0, .ref (G.2.2.1 0)), (1, .int p1), (2, .int p2), (3, .int p3), (4, .int p4), (5, .int p5)] := hl
  obtain ⟨Q, hQ⟩ : ∃ Q, Q = MQ below (g_Qv ZM G m0) ([.ref (G.2.2.1 0), .int p1, .int p2, .int p3, .int p4, .int p5] : List Value).toArray s 0 0 (g_A ZM G) := ⟨_, rfl⟩
  refine g_goQ hQ ?_
  unfold f_X10_trades at hf
  refine g_start hW (fun H locs hW => ?_)
  refine lv_aload_n hx hb dX10_trades_0 rfl (lv_at hl 0 rfl) ?_
  refine g_getr hC hW (o := 0) (ci := 10) (k := 49) zm_k0 zm_b0 rfl hi10 (by decide) rfl (t := 42) zm_r0_49 (by decide +kernel) dX10_trades_1 ?_
  refine lv_bipush (v := 72) hx hb dX10_trades_4 (by decide) ?_
  refine lv_aload_n hx hb dX10_trades_6 rfl (lv_at hl 0 rfl) ?_
  refine g_geti hC hW (o := 0) (ci := 10) (k := 0) zm_k0 zm_b0 rfl hi10 (by decide) rfl (by decide +kernel) dX10_trades_7 ?_
  refine lv_imul hx hb dX10_trades_10 ?_
  refine lv_bipush (v := 12) hx hb dX10_trades_11 (by decide) ?_
  refine lv_iload_n hx hb dX10_trades_13 rfl (lv_at hl 1 rfl) ?_
  refine lv_imul hx hb dX10_trades_14 ?_
  refine lv_iadd hx hb dX10_trades_15 ?_
  refine lv_iconst (v := 4) hx hb dX10_trades_16 (by decide) ?_
  refine lv_iload_n hx hb dX10_trades_17 rfl (lv_at hl 2 rfl) ?_
  refine lv_imul hx hb dX10_trades_18 ?_
  refine lv_iadd hx hb dX10_trades_19 ?_
  refine lv_iload_n hx hb dX10_trades_20 rfl (lv_at hl 3 rfl) ?_
  refine lv_iadd hx hb dX10_trades_21 ?_
  refine lv_dup2_11 hx hb dX10_trades_22 rfl rfl ?_
  obtain ⟨v1, h9, hf⟩ := ob_inv hf
  refine g_ild hC hW zm_k42 zm_b42 zm_n42 h9 dX10_trades_23 ?_
  refine lv_iload hx hb dX10_trades_24 (lv_at hl 4 rfl) ?_
  refine lv_iadd hx hb dX10_trades_26 ?_
  obtain ⟨m2, h9, hf⟩ := ob_inv hf
  refine g_ist hC hW zm_k42 zm_b42 zm_n42 h9 dX10_trades_27 (fun H locs hW => ?_)
  refine lv_aload_n hx hb dX10_trades_28 rfl (lv_at hl 0 rfl) ?_
  refine g_getr hC hW (o := 0) (ci := 10) (k := 52) zm_k0 zm_b0 rfl hi10 (by decide) rfl (t := 45) zm_r0_52 (by decide +kernel) dX10_trades_29 ?_
  refine lv_bipush (v := 6) hx hb dX10_trades_32 (by decide) ?_
  refine lv_aload_n hx hb dX10_trades_34 rfl (lv_at hl 0 rfl) ?_
  refine g_geti hC hW (o := 0) (ci := 10) (k := 0) zm_k0 zm_b0 rfl hi10 (by decide) rfl (by decide +kernel) dX10_trades_35 ?_
  refine lv_imul hx hb dX10_trades_38 ?_
  refine lv_iload_n hx hb dX10_trades_39 rfl (lv_at hl 1 rfl) ?_
  refine lv_iadd hx hb dX10_trades_40 ?_
  refine lv_dup2_11 hx hb dX10_trades_41 rfl rfl ?_
  obtain ⟨v3, h9, hf⟩ := ob_inv hf
  refine g_ild hC hW zm_k45 zm_b45 zm_n45 h9 dX10_trades_42 ?_
  refine lv_iload hx hb dX10_trades_43 (lv_at hl 4 rfl) ?_
  refine lv_iload hx hb dX10_trades_45 (lv_at hl 5 rfl) ?_
  refine lv_imul hx hb dX10_trades_47 ?_
  refine lv_iadd hx hb dX10_trades_48 ?_
  obtain ⟨m4, h9, hf⟩ := ob_inv hf
  refine g_ist hC hW zm_k45 zm_b45 zm_n45 h9 dX10_trades_49 (fun H locs hW => ?_)
  cases hf
  subst hQ
  exact g_vret hC hW hr hlocks rfl dX10_trades_50
abbrev rmX10_givesRights : Room := { frames := 0, cells := 0, slots := 0, locals := 0 }
set_option maxHeartbeats 4000000 in
set_option maxRecDepth 100000 in
theorem c_X10_givesRights (l : Launch) (G : gG) {p1 : Int32} {p2 : Int32} {me : gM} {m0 : gM}  (hf : f_X10_givesRights p1 p2 me = some m0) : Met l yX10_givesRights wsX10_givesRights rmX10_givesRights (va_Pc [.ref (G.2.2.1 0), .int p1, .int p2] (g_W ZM G me)) (g_Qv ZM G m0) 0 0 (g_A ZM G) := by
  refine Met.ofW (cc := cX10_givesRights) (maxL := 9) (ret := none) (by decide) rfl ?_
  intro p e s m args below meth c s₁ B hml hv
  obtain ⟨rfl, hW0⟩ := hv
  have hC : CallFix p m c cX10_givesRights 9 s ([.ref (G.2.2.1 0), .int p1, .int p2] : List Value).toArray wsX10_givesRights RX10 := ⟨B.exec, B.bytes, hml, findClass_of_methodNamed B.named, atoms_spec (ws := wsX10_givesRights) B.pre⟩
  have hx := hC.1
  have hb := hC.2.1
  have hown := hC.2.2.2.1
  have hts := hC.2.2.2.2
  have hr := B.returns
  have hlocks := B.notSynchronized
  have hW := g_H_enter hW0
  have hi10 : ∀ w ∈ wsX100, w ∈ wsX10_givesRights := by decide +kernel
  have hl := lv_entry ([.ref (G.2.2.1 0), .int p1, .int p2]) (n := 9) (Nat.le_of_ble_eq_true rfl)
  rw [lg_entry_eq]
  generalize (lg_sl ([.ref (G.2.2.1 0), .int p1, .int p2]) ++ List.replicate (9 - (lg_sl ([.ref (G.2.2.1 0), .int p1, .int p2])).length) Slot.unset).toArray = ls at hl ⊢
  have hl : lv_has ls 9 [(0, .ref (G.2.2.1 0)), (1, .int p1), (2, .int p2)] := hl
  obtain ⟨Q, hQ⟩ : ∃ Q, Q = MQ below (g_Qv ZM G m0) ([.ref (G.2.2.1 0), .int p1, .int p2] : List Value).toArray s 0 0 (g_A ZM G) := ⟨_, rfl⟩
  refine g_goQ hQ ?_
  unfold f_X10_givesRights at hf
  refine g_start hW (fun H locs hW => ?_)
  refine lv_aload_n hx hb dX10_givesRights_0 rfl (lv_at hl 0 rfl) ?_
  refine g_getr hC hW (o := 0) (ci := 10) (k := 2) zm_k0 zm_b0 rfl hi10 (by decide) rfl (t := 1) zm_r0_2 (by decide +kernel) dX10_givesRights_1 ?_
  refine lv_iload_n hx hb dX10_givesRights_4 rfl (lv_at hl 1 rfl) ?_
  refine lv_iload_n hx hb dX10_givesRights_5 rfl (lv_at hl 2 rfl) ?_
  refine lv_iadd hx hb dX10_givesRights_6 ?_
  refine lv_iconst (v := 1) hx hb dX10_givesRights_7 (by decide) ?_
  obtain ⟨z2, hg, hf⟩ := ob_inv hf
  have hJ27 : ∀ (H : Heap) (locs : List Loc) (ls : Array Slot), g_H ZM G s H locs me → lv_has ls 9 [(0, .ref (G.2.2.1 0)), (1, .int p1), (2, .int p2)] → W p l e (headSpec wsX10_givesRights rmX10_givesRights).room s m ([.ref (G.2.2.1 0), .int p1, .int p2] : List Value).toArray below meth c H locs 0 0 Q (F0 m 27 ls [.int z2, .ref (G.2.2.1 1)]) := by
    intro H locs ls hW hl
    obtain ⟨v4, h9, hf⟩ := ob_inv hf
    refine g_ild hC hW zm_k1 zm_b1 zm_n1 h9 dX10_givesRights_27 ?_
    refine lv_istore_n (lv' := [(3, .int v4), (0, .ref (G.2.2.1 0)), (1, .int p1), (2, .int p2)]) hx hb dX10_givesRights_28 rfl hl (by decide) rfl (fun ls hl => ?_)
    refine lv_iconst (v := 0) hx hb dX10_givesRights_29 (by decide) ?_
    refine lv_istore (lv' := [(4, .int 0), (3, .int v4), (0, .ref (G.2.2.1 0)), (1, .int p1), (2, .int p2)]) hx hb dX10_givesRights_30 hl (by decide) rfl (fun ls hl => ?_)
    refine lv_iconst (v := 0) hx hb dX10_givesRights_32 (by decide) ?_
    refine lv_istore (lv' := [(5, .int 0), (4, .int 0), (3, .int v4), (0, .ref (G.2.2.1 0)), (1, .int p1), (2, .int p2)]) hx hb dX10_givesRights_33 hl (by decide) rfl (fun ls hl => ?_)
    refine lv_iconst (v := 0) hx hb dX10_givesRights_35 (by decide) ?_
    refine lv_istore (lv' := [(6, .int 0), (5, .int 0), (4, .int 0), (3, .int v4), (0, .ref (G.2.2.1 0)), (1, .int p1), (2, .int p2)]) hx hb dX10_givesRights_36 hl (by decide) rfl (fun ls hl => ?_)
    refine lv_iconst (v := 0) hx hb dX10_givesRights_38 (by decide) ?_
    refine lv_istore (lv' := [(7, .int 0), (6, .int 0), (5, .int 0), (4, .int 0), (3, .int v4), (0, .ref (G.2.2.1 0)), (1, .int p1), (2, .int p2)]) hx hb dX10_givesRights_39 hl (by decide) rfl (fun ls hl => ?_)
    have hL41 : ∀ (n : Nat) (x5 : Int32) (x6 : Int32) (y7 : Int32) (y8 : Int32) (H : Heap) (locs : List Loc) (ls : Array Slot), f_X10_givesRights_L41 me p1 p2 n x5 x6 = some (y7, y8) → g_H ZM G s H locs me → lv_has ls 9 [(0, .ref (G.2.2.1 0)), (1, .int p1), (2, .int p2), (3, .int v4), (4, .int 0), (5, .int 0), (6, .int x5), (7, .int x6)] → (∀ (H : Heap) (locs : List Loc) (ls : Array Slot), g_H ZM G s H locs me → lv_has ls 9 [(0, .ref (G.2.2.1 0)), (1, .int p1), (2, .int p2), (3, .int v4), (4, .int 0), (5, .int 0), (6, .int y7)] → W p l e (headSpec wsX10_givesRights rmX10_givesRights).room s m ([.ref (G.2.2.1 0), .int p1, .int p2] : List Value).toArray below meth c H locs 0 0 Q (F0 m 110 ls [])) → W p l e (headSpec wsX10_givesRights rmX10_givesRights).room s m ([.ref (G.2.2.1 0), .int p1, .int p2] : List Value).toArray below meth c H locs 0 0 Q (F0 m 41 ls []) := by
      intro n
      induction n with
      | zero =>
        intro x5 x6 y7 y8 H locs ls hf hW hl hE
        cases hf
      | succ n ih =>
        intro x5 x6 y7 y8 H locs ls hf hW hl hE
        rw [f_X10_givesRights_L41] at hf
        refine lv_iload hx hb dX10_givesRights_41 (lv_at hl 7 rfl) ?_
        refine lv_iconst (v := 4) hx hb dX10_givesRights_43 (by decide) ?_
        refine lv_icmp_ge (tgt := 110) hx hb dX10_givesRights_44 (by decide) (fun c9 => ?_) (fun c9 => ?_)
        · have hf := a_if_t c9 hf
          cases hf
          exact hE H locs ls hW (lv_sub hl [0, 1, 2, 3, 4, 5, 6] rfl)
        · have hf := a_if_f c9 hf
          refine lv_aload_n hx hb dX10_givesRights_47 rfl (lv_at hl 0 rfl) ?_
          refine g_getr hC hW (o := 0) (ci := 10) (k := 48) zm_k0 zm_b0 rfl hi10 (by decide) rfl (t := 41) zm_r0_48 (by decide +kernel) dX10_givesRights_48 ?_
          refine lv_bipush (v := 12) hx hb dX10_givesRights_51 (by decide) ?_
          refine lv_aload_n hx hb dX10_givesRights_53 rfl (lv_at hl 0 rfl) ?_
          refine g_geti hC hW (o := 0) (ci := 10) (k := 0) zm_k0 zm_b0 rfl hi10 (by decide) rfl (by decide +kernel) dX10_givesRights_54 ?_
          refine lv_imul hx hb dX10_givesRights_57 ?_
          refine lv_iconst (v := 4) hx hb dX10_givesRights_58 (by decide) ?_
          refine lv_iload_n hx hb dX10_givesRights_59 rfl (lv_at hl 2 rfl) ?_
          refine lv_imul hx hb dX10_givesRights_60 ?_
          refine lv_iadd hx hb dX10_givesRights_61 ?_
          refine lv_iload hx hb dX10_givesRights_62 (lv_at hl 7 rfl) ?_
          refine lv_iadd hx hb dX10_givesRights_64 ?_
          obtain ⟨v10, h9, hf⟩ := ob_inv hf
          refine g_ild hC hW zm_k41 zm_b41 zm_n41 h9 dX10_givesRights_65 ?_
          refine lv_aload_n hx hb dX10_givesRights_66 rfl (lv_at hl 0 rfl) ?_
          refine g_getr hC hW (o := 0) (ci := 10) (k := 48) zm_k0 zm_b0 rfl hi10 (by decide) rfl (t := 41) zm_r0_48 (by decide +kernel) dX10_givesRights_67 ?_
          refine lv_bipush (v := 12) hx hb dX10_givesRights_70 (by decide) ?_
          refine lv_aload_n hx hb dX10_givesRights_72 rfl (lv_at hl 0 rfl) ?_
          refine g_geti hC hW (o := 0) (ci := 10) (k := 0) zm_k0 zm_b0 rfl hi10 (by decide) rfl (by decide +kernel) dX10_givesRights_73 ?_
          refine lv_imul hx hb dX10_givesRights_76 ?_
          refine lv_iconst (v := 4) hx hb dX10_givesRights_77 (by decide) ?_
          refine lv_iload_n hx hb dX10_givesRights_78 rfl (lv_at hl 1 rfl) ?_
          refine lv_imul hx hb dX10_givesRights_79 ?_
          refine lv_iadd hx hb dX10_givesRights_80 ?_
          refine lv_iload hx hb dX10_givesRights_81 (lv_at hl 7 rfl) ?_
          refine lv_iadd hx hb dX10_givesRights_83 ?_
          obtain ⟨v11, h9, hf⟩ := ob_inv hf
          refine g_ild hC hW zm_k41 zm_b41 zm_n41 h9 dX10_givesRights_84 ?_
          refine lv_isub hx hb dX10_givesRights_85 ?_
          obtain ⟨x12, h9, hf⟩ := ob_inv hf
          refine g_nmi (Option.some.inj h9) ?_
          refine lv_istore (lv' := [(8, .int x12), (0, .ref (G.2.2.1 0)), (1, .int p1), (2, .int p2), (3, .int v4), (4, .int 0), (5, .int 0), (6, .int x5), (7, .int x6)]) hx hb dX10_givesRights_86 hl (by decide) rfl (fun ls hl => ?_)
          refine lv_iload hx hb dX10_givesRights_88 (lv_at hl 7 rfl) ?_
          refine lv_iload hx hb dX10_givesRights_90 (lv_at hl 0 rfl) ?_
          obtain ⟨z14, hg, hf⟩ := ob_inv hf
          have hJ101 : ∀ (H : Heap) (locs : List Loc) (ls : Array Slot), g_H ZM G s H locs me → lv_has ls 9 [(0, .ref (G.2.2.1 0)), (1, .int p1), (2, .int p2), (3, .int v4), (4, .int 0), (5, .int 0), (7, .int x6)] → W p l e (headSpec wsX10_givesRights rmX10_givesRights).room s m ([.ref (G.2.2.1 0), .int p1, .int p2] : List Value).toArray below meth c H locs 0 0 Q (F0 m 101 ls [.int z14, .int x5]) := by
            intro H locs ls hW hl
            refine lv_iadd hx hb dX10_givesRights_101 ?_
            obtain ⟨x15, h9, hf⟩ := ob_inv hf
            refine g_nmi (Option.some.inj h9) ?_
            refine lv_istore (lv' := [(6, .int x15), (0, .ref (G.2.2.1 0)), (1, .int p1), (2, .int p2), (3, .int v4), (4, .int 0), (5, .int 0), (7, .int x6)]) hx hb dX10_givesRights_102 hl (by decide) rfl (fun ls hl => ?_)
            refine lv_iinc (v := (x6 + 1)) (lv' := [(7, .int (x6 + 1)), (6, .int x15), (0, .ref (G.2.2.1 0)), (1, .int p1), (2, .int p2), (3, .int v4), (4, .int 0), (5, .int 0)]) hx hb dX10_givesRights_104 hl (k := 7) rfl (congrArg (fun z => x6 + z) (by decide)) (by decide) rfl (fun ls hl => ?_)
            refine lv_goto (tgt := 41) hx hb dX10_givesRights_107 (by decide) ?_
            exact ih _ _ _ _ _ _ _ hf hW (lv_sub hl [2, 3, 4, 5, 6, 7, 1, 0] rfl) hE
          replace hf := hg
          refine lv_if_le (tgt := 100) hx hb dX10_givesRights_92 (by decide) (fun c13 => ?_) (fun c13 => ?_)
          · have hf := a_if_t c13 hf
            refine lv_iconst (v := 0) hx hb dX10_givesRights_100 (by decide) ?_
            cases hf
            exact hJ101 H locs ls hW (lv_sub hl [1, 2, 3, 4, 5, 6, 8] rfl)
          · have hf := a_if_f c13 hf
            refine lv_iload hx hb dX10_givesRights_95 (lv_at hl 0 rfl) ?_
            refine lv_goto (tgt := 101) hx hb dX10_givesRights_97 (by decide) ?_
            cases hf
            exact hJ101 H locs ls hW (lv_sub hl [1, 2, 3, 4, 5, 6, 8] rfl)
    obtain ⟨⟨y7, y8⟩, hg, hf⟩ := ob_inv hf
    have hf := ob_inv2 hf
    refine hL41 _ _ _ _ _ _ _ _ hg hW (lv_sub hl [5, 6, 7, 4, 3, 2, 1, 0] rfl) (fun H locs ls hW hl => ?_)
    refine lv_sipush (v := 500) hx hb dX10_givesRights_110 (by decide) ?_
    refine lv_istore (lv' := [(7, .int 500), (0, .ref (G.2.2.1 0)), (1, .int p1), (2, .int p2), (3, .int v4), (4, .int 0), (5, .int 0), (6, .int y7)]) hx hb dX10_givesRights_113 hl (by decide) rfl (fun ls hl => ?_)
    have hL115 : ∀ (n : Nat) (x16 : Int32) (x17 : Int32) (x18 : Int32) (x19 : Int32) (m20 : gM) (y21 : Int32) (y22 : Int32) (y23 : Int32) (y24 : Int32) (m25 : gM) (H : Heap) (locs : List Loc) (ls : Array Slot), f_X10_givesRights_L115 p1 p2 n x16 x17 x18 x19 m20 = some (y21, y22, y23, y24, m25) → g_H ZM G s H locs m20 → lv_has ls 9 [(0, .ref (G.2.2.1 0)), (1, .int p1), (2, .int p2), (3, .int x16), (4, .int x17), (5, .int x18), (6, .int y7), (7, .int x19)] → (∀ (H : Heap) (locs : List Loc) (ls : Array Slot), g_H ZM G s H locs m25 → lv_has ls 9 [(0, .ref (G.2.2.1 0)), (1, .int p1), (2, .int p2), (4, .int y22), (5, .int y23), (6, .int y7)] → W p l e (headSpec wsX10_givesRights rmX10_givesRights).room s m ([.ref (G.2.2.1 0), .int p1, .int p2] : List Value).toArray below meth c H locs 0 0 Q (F0 m 256 ls [])) → W p l e (headSpec wsX10_givesRights rmX10_givesRights).room s m ([.ref (G.2.2.1 0), .int p1, .int p2] : List Value).toArray below meth c H locs 0 0 Q (F0 m 115 ls []) := by
      intro n
      induction n with
      | zero =>
        intro x16 x17 x18 x19 m20 y21 y22 y23 y24 m25 H locs ls hf hW hl hE
        cases hf
      | succ n ih =>
        intro x16 x17 x18 x19 m20 y21 y22 y23 y24 m25 H locs ls hf hW hl hE
        rw [f_X10_givesRights_L115] at hf
        refine lv_iload hx hb dX10_givesRights_115 (lv_at hl 7 rfl) ?_
        refine lv_if_lt (tgt := 256) hx hb dX10_givesRights_117 (by decide) (fun c26 => ?_) (fun c26 => ?_)
        · have hf := a_if_t c26 hf
          cases hf
          exact hE H locs ls hW (lv_sub hl [0, 1, 2, 4, 5, 6] rfl)
        · have hf := a_if_f c26 hf
          refine lv_iconst (v := 0) hx hb dX10_givesRights_120 (by decide) ?_
          refine lv_istore (lv' := [(8, .int 0), (0, .ref (G.2.2.1 0)), (1, .int p1), (2, .int p2), (3, .int x16), (4, .int x17), (5, .int x18), (6, .int y7), (7, .int x19)]) hx hb dX10_givesRights_121 hl (by decide) rfl (fun ls hl => ?_)
          have hL123 : ∀ (n : Nat) (x27 : Int32) (x28 : Int32) (x29 : Int32) (x30 : Int32) (m31 : gM) (y32 : Int32) (y33 : Int32) (y34 : Int32) (y35 : Int32) (m36 : gM) (H : Heap) (locs : List Loc) (ls : Array Slot), f_X10_givesRights_L123 p1 p2 x19 n x27 x28 x29 x30 m31 = some (y32, y33, y34, y35, m36) → g_H ZM G s H locs m31 → lv_has ls 9 [(0, .ref (G.2.2.1 0)), (1, .int p1), (2, .int p2), (3, .int x27), (4, .int x28), (5, .int x29), (6, .int y7), (7, .int x19), (8, .int x30)] → (∀ (H : Heap) (locs : List Loc) (ls : Array Slot), g_H ZM G s H locs m36 → lv_has ls 9 [(0, .ref (G.2.2.1 0)), (1, .int p1), (2, .int p2), (3, .int y32), (4, .int y33), (5, .int y34), (6, .int y7), (7, .int x19)] → W p l e (headSpec wsX10_givesRights rmX10_givesRights).room s m ([.ref (G.2.2.1 0), .int p1, .int p2] : List Value).toArray below meth c H locs 0 0 Q (F0 m 250 ls [])) → W p l e (headSpec wsX10_givesRights rmX10_givesRights).room s m ([.ref (G.2.2.1 0), .int p1, .int p2] : List Value).toArray below meth c H locs 0 0 Q (F0 m 123 ls []) := by
            intro n
            induction n with
            | zero =>
              intro x27 x28 x29 x30 m31 y32 y33 y34 y35 m36 H locs ls hf hW hl hE
              cases hf
            | succ n ih =>
              intro x27 x28 x29 x30 m31 y32 y33 y34 y35 m36 H locs ls hf hW hl hE
              rw [f_X10_givesRights_L123] at hf
              refine lv_iload hx hb dX10_givesRights_123 (lv_at hl 8 rfl) ?_
              refine lv_aload_n hx hb dX10_givesRights_125 rfl (lv_at hl 0 rfl) ?_
              refine g_geti hC hW (o := 0) (ci := 10) (k := 26) zm_k0 zm_b0 rfl hi10 (by decide) rfl (by decide +kernel) dX10_givesRights_126 ?_
              refine lv_icmp_ge (tgt := 250) hx hb dX10_givesRights_129 (by decide) (fun c37 => ?_) (fun c37 => ?_)
              · have hf := a_if_t c37 hf
                cases hf
                exact hE H locs ls hW (lv_sub hl [0, 1, 2, 3, 4, 5, 6, 7] rfl)
              · have hf := a_if_f c37 hf
                refine lv_aload_n hx hb dX10_givesRights_132 rfl (lv_at hl 0 rfl) ?_
                refine g_getr hC hW (o := 0) (ci := 10) (k := 28) zm_k0 zm_b0 rfl hi10 (by decide) rfl (t := 22) zm_r0_28 (by decide +kernel) dX10_givesRights_133 ?_
                refine lv_iload hx hb dX10_givesRights_136 (lv_at hl 8 rfl) ?_
                obtain ⟨v38, h9, hf⟩ := ob_inv hf
                refine g_ild hC hW zm_k22 zm_b22 zm_n22 h9 dX10_givesRights_138 ?_
                refine lv_iload_n hx hb dX10_givesRights_139 rfl (lv_at hl 1 rfl) ?_
                obtain ⟨⟨x40, x41, x42, m43⟩, hg, hf⟩ := ob_inv hf
                have hf := ob_inv4 hf
                have hJ244 : ∀ (H : Heap) (locs : List Loc) (ls : Array Slot), g_H ZM G s H locs m43 → lv_has ls 9 [(0, .ref (G.2.2.1 0)), (1, .int p1), (2, .int p2), (3, .int x40), (4, .int x41), (5, .int x42), (6, .int y7), (7, .int x19), (8, .int x30)] → W p l e (headSpec wsX10_givesRights rmX10_givesRights).room s m ([.ref (G.2.2.1 0), .int p1, .int p2] : List Value).toArray below meth c H locs 0 0 Q (F0 m 244 ls []) := by
                  intro H locs ls hW hl
                  refine lv_iinc (v := (x30 + 1)) (lv' := [(8, .int (x30 + 1)), (0, .ref (G.2.2.1 0)), (1, .int p1), (2, .int p2), (3, .int x40), (4, .int x41), (5, .int x42), (6, .int y7), (7, .int x19)]) hx hb dX10_givesRights_244 hl (k := 8) rfl (congrArg (fun z => x30 + z) (by decide)) (by decide) rfl (fun ls hl => ?_)
                  refine lv_goto (tgt := 123) hx hb dX10_givesRights_247 (by decide) ?_
                  exact ih _ _ _ _ _ _ _ _ _ _ _ _ _ hf hW (lv_sub hl [1, 2, 3, 4, 5, 6, 7, 8, 0] rfl) hE
                replace hf := hg
                refine lv_icmp_ne (tgt := 244) hx hb dX10_givesRights_140 (by decide) (fun c39 => ?_) (fun c39 => ?_)
                · have hf := a_if_f c39 hf
                  cases hf
                  exact hJ244 H locs ls hW (lv_sub hl [0, 1, 2, 3, 4, 5, 6, 7, 8] rfl)
                · have hf := a_if_t c39 hf
                  refine lv_aload_n hx hb dX10_givesRights_143 rfl (lv_at hl 0 rfl) ?_
                  refine g_getr hC hW (o := 0) (ci := 10) (k := 29) zm_k0 zm_b0 rfl hi10 (by decide) rfl (t := 23) zm_r0_29 (by decide +kernel) dX10_givesRights_144 ?_
                  refine lv_iload hx hb dX10_givesRights_147 (lv_at hl 8 rfl) ?_
                  obtain ⟨v44, h9, hf⟩ := ob_inv hf
                  refine g_ild hC hW zm_k23 zm_b23 zm_n23 h9 dX10_givesRights_149 ?_
                  refine lv_iload_n hx hb dX10_givesRights_150 rfl (lv_at hl 2 rfl) ?_
                  refine lv_icmp_ne (tgt := 244) hx hb dX10_givesRights_151 (by decide) (fun c45 => ?_) (fun c45 => ?_)
                  · have hf := a_if_f c45 hf
                    cases hf
                    exact hJ244 H locs ls hW (lv_sub hl [0, 1, 2, 3, 4, 5, 6, 7, 8] rfl)
                  · have hf := a_if_t c45 hf
                    refine lv_aload_n hx hb dX10_givesRights_154 rfl (lv_at hl 0 rfl) ?_
                    refine g_getr hC hW (o := 0) (ci := 10) (k := 31) zm_k0 zm_b0 rfl hi10 (by decide) rfl (t := 25) zm_r0_31 (by decide +kernel) dX10_givesRights_155 ?_
                    refine lv_iload hx hb dX10_givesRights_158 (lv_at hl 8 rfl) ?_
                    obtain ⟨v46, h9, hf⟩ := ob_inv hf
                    refine g_ild hC hW zm_k25 zm_b25 zm_n25 h9 dX10_givesRights_160 ?_
                    refine lv_iload hx hb dX10_givesRights_161 (lv_at hl 7 rfl) ?_
                    refine lv_icmp_ne (tgt := 244) hx hb dX10_givesRights_163 (by decide) (fun c47 => ?_) (fun c47 => ?_)
                    · have hf := a_if_f c47 hf
                      cases hf
                      exact hJ244 H locs ls hW (lv_sub hl [0, 1, 2, 3, 4, 5, 6, 7, 8] rfl)
                    · have hf := a_if_t c47 hf
                      refine lv_aload_n hx hb dX10_givesRights_166 rfl (lv_at hl 0 rfl) ?_
                      refine g_getr hC hW (o := 0) (ci := 10) (k := 32) zm_k0 zm_b0 rfl hi10 (by decide) rfl (t := 26) zm_r0_32 (by decide +kernel) dX10_givesRights_167 ?_
                      refine lv_iload hx hb dX10_givesRights_170 (lv_at hl 8 rfl) ?_
                      refine lv_aload_n hx hb dX10_givesRights_172 rfl (lv_at hl 0 rfl) ?_
                      refine g_getr hC hW (o := 0) (ci := 10) (k := 30) zm_k0 zm_b0 rfl hi10 (by decide) rfl (t := 24) zm_r0_30 (by decide +kernel) dX10_givesRights_173 ?_
                      refine lv_iload hx hb dX10_givesRights_176 (lv_at hl 8 rfl) ?_
                      obtain ⟨v48, h9, hf⟩ := ob_inv hf
                      refine g_ild hC hW zm_k24 zm_b24 zm_n24 h9 dX10_givesRights_178 ?_
                      refine lv_iload_n hx hb dX10_givesRights_179 rfl (lv_at hl 3 rfl) ?_
                      obtain ⟨z50, hg, hf⟩ := ob_inv hf
                      have hJ194 : ∀ (H : Heap) (locs : List Loc) (ls : Array Slot), g_H ZM G s H locs m31 → lv_has ls 9 [(0, .ref (G.2.2.1 0)), (1, .int p1), (2, .int p2), (3, .int x27), (4, .int x28), (5, .int x29), (6, .int y7), (7, .int x19), (8, .int x30)] → W p l e (headSpec wsX10_givesRights rmX10_givesRights).room s m ([.ref (G.2.2.1 0), .int p1, .int p2] : List Value).toArray below meth c H locs 0 0 Q (F0 m 194 ls [.int z50, .int x30, .ref (G.2.2.1 26)]) := by
                        intro H locs ls hW hl
                        obtain ⟨m52, h9, hf⟩ := ob_inv hf
                        refine g_ist hC hW zm_k26 zm_b26 zm_n26 h9 dX10_givesRights_194 (fun H locs hW => ?_)
                        refine lv_iload_n hx hb dX10_givesRights_195 rfl (lv_at hl 3 rfl) ?_
                        refine lv_aload_n hx hb dX10_givesRights_196 rfl (lv_at hl 0 rfl) ?_
                        refine g_getr hC hW (o := 0) (ci := 10) (k := 32) zm_k0 zm_b0 rfl hi10 (by decide) rfl (t := 26) zm_r0_32 (by decide +kernel) dX10_givesRights_197 ?_
                        refine lv_iload hx hb dX10_givesRights_200 (lv_at hl 8 rfl) ?_
                        obtain ⟨v53, h9, hf⟩ := ob_inv hf
                        refine g_ild hC hW zm_k26 zm_b26 zm_n26 h9 dX10_givesRights_202 ?_
                        refine lv_isub hx hb dX10_givesRights_203 ?_
                        obtain ⟨x54, h9, hf⟩ := ob_inv hf
                        refine g_nmi (Option.some.inj h9) ?_
                        refine lv_istore_n (lv' := [(3, .int x54), (0, .ref (G.2.2.1 0)), (1, .int p1), (2, .int p2), (4, .int x28), (5, .int x29), (6, .int y7), (7, .int x19), (8, .int x30)]) hx hb dX10_givesRights_204 rfl hl (by decide) rfl (fun ls hl => ?_)
                        refine lv_iload hx hb dX10_givesRights_205 (lv_at hl 4 rfl) ?_
                        refine lv_aload_n hx hb dX10_givesRights_207 rfl (lv_at hl 1 rfl) ?_
                        refine g_getr hC hW (o := 0) (ci := 10) (k := 30) zm_k0 zm_b0 rfl hi10 (by decide) rfl (t := 24) zm_r0_30 (by decide +kernel) dX10_givesRights_208 ?_
                        refine lv_iload hx hb dX10_givesRights_211 (lv_at hl 8 rfl) ?_
                        obtain ⟨v55, h9, hf⟩ := ob_inv hf
                        refine g_ild hC hW zm_k24 zm_b24 zm_n24 h9 dX10_givesRights_213 ?_
                        refine lv_aload_n hx hb dX10_givesRights_214 rfl (lv_at hl 1 rfl) ?_
                        refine g_getr hC hW (o := 0) (ci := 10) (k := 32) zm_k0 zm_b0 rfl hi10 (by decide) rfl (t := 26) zm_r0_32 (by decide +kernel) dX10_givesRights_215 ?_
                        refine lv_iload hx hb dX10_givesRights_218 (lv_at hl 8 rfl) ?_
                        obtain ⟨v56, h9, hf⟩ := ob_inv hf
                        refine g_ild hC hW zm_k26 zm_b26 zm_n26 h9 dX10_givesRights_220 ?_
                        refine lv_isub hx hb dX10_givesRights_221 ?_
                        refine lv_iadd hx hb dX10_givesRights_222 ?_
                        obtain ⟨x57, h9, hf⟩ := ob_inv hf
                        refine g_nmi (Option.some.inj h9) ?_
                        refine lv_istore (lv' := [(4, .int x57), (3, .int x54), (0, .ref (G.2.2.1 0)), (1, .int p1), (2, .int p2), (5, .int x29), (6, .int y7), (7, .int x19), (8, .int x30)]) hx hb dX10_givesRights_223 hl (by decide) rfl (fun ls hl => ?_)
                        refine lv_aload_n hx hb dX10_givesRights_225 rfl (lv_at hl 2 rfl) ?_
                        refine g_getr hC hW (o := 0) (ci := 10) (k := 32) zm_k0 zm_b0 rfl hi10 (by decide) rfl (t := 26) zm_r0_32 (by decide +kernel) dX10_givesRights_226 ?_
                        refine lv_iload hx hb dX10_givesRights_229 (lv_at hl 8 rfl) ?_
                        obtain ⟨v58, h9, hf⟩ := ob_inv hf
                        refine g_ild hC hW zm_k26 zm_b26 zm_n26 h9 dX10_givesRights_231 ?_
                        obtain ⟨z60, hg, hf⟩ := ob_inv hf
                        have hJ242 : ∀ (H : Heap) (locs : List Loc) (ls : Array Slot), g_H ZM G s H locs m52 → lv_has ls 9 [(0, .ref (G.2.2.1 0)), (1, .int p1), (2, .int p2), (3, .int x54), (4, .int x57), (6, .int y7), (7, .int x19), (8, .int x30)] → W p l e (headSpec wsX10_givesRights rmX10_givesRights).room s m ([.ref (G.2.2.1 0), .int p1, .int p2] : List Value).toArray below meth c H locs 0 0 Q (F0 m 242 ls [.int z60]) := by
                          intro H locs ls hW hl
                          refine lv_istore (lv' := [(5, .int z60), (0, .ref (G.2.2.1 0)), (1, .int p1), (2, .int p2), (3, .int x54), (4, .int x57), (6, .int y7), (7, .int x19), (8, .int x30)]) hx hb dX10_givesRights_242 hl (by decide) rfl (fun ls hl => ?_)
                          cases hf
                          exact hJ244 H locs ls hW (lv_sub hl [1, 2, 3, 4, 5, 0, 6, 7, 8] rfl)
                        replace hf := hg
                        refine lv_if_le (tgt := 240) hx hb dX10_givesRights_232 (by decide) (fun c59 => ?_) (fun c59 => ?_)
                        · have hf := a_if_t c59 hf
                          refine lv_iload hx hb dX10_givesRights_240 (lv_at hl 5 rfl) ?_
                          cases hf
                          exact hJ242 H locs ls hW (lv_sub hl [2, 3, 4, 1, 0, 6, 7, 8] rfl)
                        · have hf := a_if_f c59 hf
                          refine lv_iload hx hb dX10_givesRights_235 (lv_at hl 7 rfl) ?_
                          refine lv_goto (tgt := 242) hx hb dX10_givesRights_237 (by decide) ?_
                          cases hf
                          exact hJ242 H locs ls hW (lv_sub hl [2, 3, 4, 1, 0, 6, 7, 8] rfl)
                      replace hf := hg
                      refine lv_icmp_ge (tgt := 193) hx hb dX10_givesRights_180 (by decide) (fun c49 => ?_) (fun c49 => ?_)
                      · have hf := a_if_t c49 hf
                        refine lv_iload_n hx hb dX10_givesRights_193 rfl (lv_at hl 3 rfl) ?_
                        cases hf
                        exact hJ194 H locs ls hW (lv_sub hl [0, 1, 2, 3, 4, 5, 6, 7, 8] rfl)
                      · have hf := a_if_f c49 hf
                        refine lv_aload_n hx hb dX10_givesRights_183 rfl (lv_at hl 0 rfl) ?_
                        refine g_getr hC hW (o := 0) (ci := 10) (k := 30) zm_k0 zm_b0 rfl hi10 (by decide) rfl (t := 24) zm_r0_30 (by decide +kernel) dX10_givesRights_184 ?_
                        refine lv_iload hx hb dX10_givesRights_187 (lv_at hl 8 rfl) ?_
                        obtain ⟨v51, h9, hf⟩ := ob_inv hf
                        refine g_ild hC hW zm_k24 zm_b24 zm_n24 h9 dX10_givesRights_189 ?_
                        refine lv_goto (tgt := 194) hx hb dX10_givesRights_190 (by decide) ?_
                        cases hf
                        exact hJ194 H locs ls hW (lv_sub hl [0, 1, 2, 3, 4, 5, 6, 7, 8] rfl)
          obtain ⟨⟨y32, y33, y34, y35, m36⟩, hg, hf⟩ := ob_inv hf
          have hf := ob_inv5 hf
          refine hL123 _ _ _ _ _ _ _ _ _ _ _ _ _ _ hg hW (lv_sub hl [1, 2, 3, 4, 5, 6, 7, 8, 0] rfl) (fun H locs ls hW hl => ?_)
          refine lv_iinc (v := (x19 + (-1))) (lv' := [(7, .int (x19 + (-1))), (0, .ref (G.2.2.1 0)), (1, .int p1), (2, .int p2), (3, .int y32), (4, .int y33), (5, .int y34), (6, .int y7)]) hx hb dX10_givesRights_250 hl (k := 7) rfl (congrArg (fun z => x19 + z) (by decide)) (by decide) rfl (fun ls hl => ?_)
          refine lv_goto (tgt := 115) hx hb dX10_givesRights_253 (by decide) ?_
          exact ih _ _ _ _ _ _ _ _ _ _ _ _ _ hf hW (lv_sub hl [1, 2, 3, 4, 5, 6, 7, 0] rfl) hE
    obtain ⟨⟨y21, y22, y23, y24, m25⟩, hg, hf⟩ := ob_inv hf
    have hf := ob_inv5 hf
    refine hL115 _ _ _ _ _ _ _ _ _ _ _ _ _ _ hg hW (lv_sub hl [1, 2, 3, 4, 5, 6, 7, 0] rfl) (fun H locs ls hW hl => ?_)
    refine lv_iconst (v := 0) hx hb dX10_givesRights_256 (by decide) ?_
    refine lv_istore (lv' := [(7, .int 0), (0, .ref (G.2.2.1 0)), (1, .int p1), (2, .int p2), (4, .int y22), (5, .int y23), (6, .int y7)]) hx hb dX10_givesRights_257 hl (by decide) rfl (fun ls hl => ?_)
    have hL259 : ∀ (n : Nat) (x63 : Int32) (m64 : gM) (y65 : Int32) (m66 : gM) (H : Heap) (locs : List Loc) (ls : Array Slot), f_X10_givesRights_L259 p1 p2 y22 y23 y7 n x63 m64 = some (y65, m66) → g_H ZM G s H locs m64 → lv_has ls 9 [(0, .ref (G.2.2.1 0)), (1, .int p1), (2, .int p2), (4, .int y22), (5, .int y23), (6, .int y7), (7, .int x63)] → (∀ (H : Heap) (locs : List Loc) (ls : Array Slot), g_H ZM G s H locs m66 → lv_has ls 9 [] → W p l e (headSpec wsX10_givesRights rmX10_givesRights).room s m ([.ref (G.2.2.1 0), .int p1, .int p2] : List Value).toArray below meth c H locs 0 0 Q (F0 m 341 ls [])) → W p l e (headSpec wsX10_givesRights rmX10_givesRights).room s m ([.ref (G.2.2.1 0), .int p1, .int p2] : List Value).toArray below meth c H locs 0 0 Q (F0 m 259 ls []) := by
      intro n
      induction n with
      | zero =>
        intro x63 m64 y65 m66 H locs ls hf hW hl hE
        cases hf
      | succ n ih =>
        intro x63 m64 y65 m66 H locs ls hf hW hl hE
        rw [f_X10_givesRights_L259] at hf
        refine lv_iload hx hb dX10_givesRights_259 (lv_at hl 6 rfl) ?_
        refine lv_aload_n hx hb dX10_givesRights_261 rfl (lv_at hl 0 rfl) ?_
        refine g_geti hC hW (o := 0) (ci := 10) (k := 26) zm_k0 zm_b0 rfl hi10 (by decide) rfl (by decide +kernel) dX10_givesRights_262 ?_
        refine lv_icmp_ge (tgt := 341) hx hb dX10_givesRights_265 (by decide) (fun c67 => ?_) (fun c67 => ?_)
        · have hf := a_if_t c67 hf
          cases hf
          exact hE H locs ls hW (lv_sub hl [] rfl)
        · have hf := a_if_f c67 hf
          refine lv_aload_n hx hb dX10_givesRights_268 rfl (lv_at hl 0 rfl) ?_
          refine g_getr hC hW (o := 0) (ci := 10) (k := 28) zm_k0 zm_b0 rfl hi10 (by decide) rfl (t := 22) zm_r0_28 (by decide +kernel) dX10_givesRights_269 ?_
          refine lv_iload hx hb dX10_givesRights_272 (lv_at hl 6 rfl) ?_
          obtain ⟨v68, h9, hf⟩ := ob_inv hf
          refine g_ild hC hW zm_k22 zm_b22 zm_n22 h9 dX10_givesRights_274 ?_
          refine lv_iload_n hx hb dX10_givesRights_275 rfl (lv_at hl 1 rfl) ?_
          obtain ⟨m70, hg, hf⟩ := ob_inv hf
          have hJ335 : ∀ (H : Heap) (locs : List Loc) (ls : Array Slot), g_H ZM G s H locs m70 → lv_has ls 9 [(0, .ref (G.2.2.1 0)), (1, .int p1), (2, .int p2), (4, .int y22), (5, .int y23), (6, .int y7), (7, .int x63)] → W p l e (headSpec wsX10_givesRights rmX10_givesRights).room s m ([.ref (G.2.2.1 0), .int p1, .int p2] : List Value).toArray below meth c H locs 0 0 Q (F0 m 335 ls []) := by
            intro H locs ls hW hl
            refine lv_iinc (v := (x63 + 1)) (lv' := [(7, .int (x63 + 1)), (0, .ref (G.2.2.1 0)), (1, .int p1), (2, .int p2), (4, .int y22), (5, .int y23), (6, .int y7)]) hx hb dX10_givesRights_335 hl (k := 6) rfl (congrArg (fun z => x63 + z) (by decide)) (by decide) rfl (fun ls hl => ?_)
            refine lv_goto (tgt := 259) hx hb dX10_givesRights_338 (by decide) ?_
            exact ih _ _ _ _ _ _ _ hf hW (lv_sub hl [1, 2, 3, 4, 5, 6, 0] rfl) hE
          replace hf := hg
          refine lv_icmp_ne (tgt := 335) hx hb dX10_givesRights_276 (by decide) (fun c69 => ?_) (fun c69 => ?_)
          · have hf := a_if_f c69 hf
            cases hf
            exact hJ335 H locs ls hW (lv_sub hl [0, 1, 2, 3, 4, 5, 6] rfl)
          · have hf := a_if_t c69 hf
            refine lv_aload_n hx hb dX10_givesRights_279 rfl (lv_at hl 0 rfl) ?_
            refine g_getr hC hW (o := 0) (ci := 10) (k := 29) zm_k0 zm_b0 rfl hi10 (by decide) rfl (t := 23) zm_r0_29 (by decide +kernel) dX10_givesRights_280 ?_
            refine lv_iload hx hb dX10_givesRights_283 (lv_at hl 6 rfl) ?_
            obtain ⟨v71, h9, hf⟩ := ob_inv hf
            refine g_ild hC hW zm_k23 zm_b23 zm_n23 h9 dX10_givesRights_285 ?_
            refine lv_iload_n hx hb dX10_givesRights_286 rfl (lv_at hl 2 rfl) ?_
            refine lv_icmp_ne (tgt := 335) hx hb dX10_givesRights_287 (by decide) (fun c72 => ?_) (fun c72 => ?_)
            · have hf := a_if_f c72 hf
              cases hf
              exact hJ335 H locs ls hW (lv_sub hl [0, 1, 2, 3, 4, 5, 6] rfl)
            · have hf := a_if_t c72 hf
              refine lv_aload_n hx hb dX10_givesRights_290 rfl (lv_at hl 0 rfl) ?_
              refine g_getr hC hW (o := 0) (ci := 10) (k := 52) zm_k0 zm_b0 rfl hi10 (by decide) rfl (t := 45) zm_r0_52 (by decide +kernel) dX10_givesRights_291 ?_
              refine lv_bipush (v := 6) hx hb dX10_givesRights_294 (by decide) ?_
              refine lv_aload_n hx hb dX10_givesRights_296 rfl (lv_at hl 0 rfl) ?_
              refine g_geti hC hW (o := 0) (ci := 10) (k := 0) zm_k0 zm_b0 rfl hi10 (by decide) rfl (by decide +kernel) dX10_givesRights_297 ?_
              refine lv_imul hx hb dX10_givesRights_300 ?_
              refine lv_aload_n hx hb dX10_givesRights_301 rfl (lv_at hl 0 rfl) ?_
              refine g_getr hC hW (o := 0) (ci := 10) (k := 27) zm_k0 zm_b0 rfl hi10 (by decide) rfl (t := 21) zm_r0_27 (by decide +kernel) dX10_givesRights_302 ?_
              refine lv_iload hx hb dX10_givesRights_305 (lv_at hl 6 rfl) ?_
              obtain ⟨v73, h9, hf⟩ := ob_inv hf
              refine g_ild hC hW zm_k21 zm_b21 zm_n21 h9 dX10_givesRights_307 ?_
              refine lv_iadd hx hb dX10_givesRights_308 ?_
              refine lv_dup2_11 hx hb dX10_givesRights_309 rfl rfl ?_
              obtain ⟨v74, h9, hf⟩ := ob_inv hf
              refine g_ild hC hW zm_k45 zm_b45 zm_n45 h9 dX10_givesRights_310 ?_
              refine lv_aload_n hx hb dX10_givesRights_311 rfl (lv_at hl 0 rfl) ?_
              refine g_getr hC hW (o := 0) (ci := 10) (k := 32) zm_k0 zm_b0 rfl hi10 (by decide) rfl (t := 26) zm_r0_32 (by decide +kernel) dX10_givesRights_312 ?_
              refine lv_iload hx hb dX10_givesRights_315 (lv_at hl 6 rfl) ?_
              obtain ⟨v75, h9, hf⟩ := ob_inv hf
              refine g_ild hC hW zm_k26 zm_b26 zm_n26 h9 dX10_givesRights_317 ?_
              refine lv_iload hx hb dX10_givesRights_318 (lv_at hl 5 rfl) ?_
              refine lv_iload hx hb dX10_givesRights_320 (lv_at hl 3 rfl) ?_
              obtain ⟨z77, hg, hf⟩ := ob_inv hf
              have hJ331 : ∀ (H : Heap) (locs : List Loc) (ls : Array Slot), g_H ZM G s H locs m64 → lv_has ls 9 [(0, .ref (G.2.2.1 0)), (1, .int p1), (2, .int p2), (4, .int y22), (5, .int y23), (6, .int y7), (7, .int x63)] → W p l e (headSpec wsX10_givesRights rmX10_givesRights).room s m ([.ref (G.2.2.1 0), .int p1, .int p2] : List Value).toArray below meth c H locs 0 0 Q (F0 m 331 ls [.int z77, .int y7, .int v75, .int v74, .int ((6 * (m64 0 0)) + v73), .ref (G.2.2.1 45)]) := by
                intro H locs ls hW hl
                refine lv_isub hx hb dX10_givesRights_331 ?_
                refine lv_imul hx hb dX10_givesRights_332 ?_
                refine lv_iadd hx hb dX10_givesRights_333 ?_
                obtain ⟨m78, h9, hf⟩ := ob_inv hf
                refine g_ist hC hW zm_k45 zm_b45 zm_n45 h9 dX10_givesRights_334 (fun H locs hW => ?_)
                cases hf
                exact hJ335 H locs ls hW (lv_sub hl [0, 1, 2, 3, 4, 5, 6] rfl)
              replace hf := hg
              refine lv_if_le (tgt := 330) hx hb dX10_givesRights_322 (by decide) (fun c76 => ?_) (fun c76 => ?_)
              · have hf := a_if_t c76 hf
                refine lv_iconst (v := 0) hx hb dX10_givesRights_330 (by decide) ?_
                cases hf
                exact hJ331 H locs ls hW (lv_sub hl [0, 1, 2, 3, 4, 5, 6] rfl)
              · have hf := a_if_f c76 hf
                refine lv_iload hx hb dX10_givesRights_325 (lv_at hl 4 rfl) ?_
                refine lv_goto (tgt := 331) hx hb dX10_givesRights_327 (by decide) ?_
                cases hf
                exact hJ331 H locs ls hW (lv_sub hl [0, 1, 2, 3, 4, 5, 6] rfl)
    obtain ⟨⟨y65, m66⟩, hg, hf⟩ := ob_inv hf
    have hf := ob_inv2 hf
    refine hL259 _ _ _ _ _ _ _ _ hg hW (lv_sub hl [1, 2, 3, 4, 5, 6, 0] rfl) (fun H locs ls hW hl => ?_)
    cases hf
    subst hQ
    exact g_vret hC hW hr hlocks rfl dX10_givesRights_341
  replace hf := hg
  refine lv_icmp_ne (tgt := 15) hx hb dX10_givesRights_8 (by decide) (fun c1 => ?_) (fun c1 => ?_)
  · have hf := a_if_f c1 hf
    refine lv_iload_n hx hb dX10_givesRights_15 rfl (lv_at hl 1 rfl) ?_
    refine lv_iload_n hx hb dX10_givesRights_16 rfl (lv_at hl 2 rfl) ?_
    refine lv_iadd hx hb dX10_givesRights_17 ?_
    refine lv_iconst (v := 3) hx hb dX10_givesRights_18 (by decide) ?_
    refine lv_icmp_ne (tgt := 26) hx hb dX10_givesRights_19 (by decide) (fun c3 => ?_) (fun c3 => ?_)
    · have hf := a_if_f c3 hf
      refine lv_iconst (v := 2) hx hb dX10_givesRights_26 (by decide) ?_
      cases hf
      exact hJ27 H locs ls hW (lv_sub hl [0, 1, 2] rfl)
    · have hf := a_if_t c3 hf
      refine lv_iconst (v := 1) hx hb dX10_givesRights_22 (by decide) ?_
      refine lv_goto (tgt := 27) hx hb dX10_givesRights_23 (by decide) ?_
      cases hf
      exact hJ27 H locs ls hW (lv_sub hl [0, 1, 2] rfl)
  · have hf := a_if_t c1 hf
    refine lv_iconst (v := 0) hx hb dX10_givesRights_11 (by decide) ?_
    refine lv_goto (tgt := 27) hx hb dX10_givesRights_12 (by decide) ?_
    cases hf
    exact hJ27 H locs ls hW (lv_sub hl [0, 1, 2] rfl)
abbrev rmX10_takesHour : Room := { frames := 2, cells := 0, slots := 0, locals := 53 }
set_option maxHeartbeats 4000000 in
set_option maxRecDepth 100000 in
theorem c_X10_takesHour (l : Launch) (G : gG) {p1 : Int32} {p2 : Int32} {me : gM} {m0 : gM}  (hf : f_X10_takesHour p1 p2 me = some m0) : Met l yX10_takesHour wsX10_takesHour rmX10_takesHour (va_Pc [.ref (G.2.2.1 0), .int p1, .int p2] (g_W ZM G me)) (g_Qv ZM G m0) 0 0 (g_A ZM G) := by
  refine Met.ofW (cc := cX10_takesHour) (maxL := 6) (ret := none) (by decide) rfl ?_
  intro p e s m args below meth c s₁ B hml hv
  obtain ⟨rfl, hW0⟩ := hv
  have hC : CallFix p m c cX10_takesHour 6 s ([.ref (G.2.2.1 0), .int p1, .int p2] : List Value).toArray wsX10_takesHour RX10 := ⟨B.exec, B.bytes, hml, findClass_of_methodNamed B.named, atoms_spec (ws := wsX10_takesHour) B.pre⟩
  have hx := hC.1
  have hb := hC.2.1
  have hown := hC.2.2.2.1
  have hts := hC.2.2.2.2
  have hr := B.returns
  have hlocks := B.notSynchronized
  have hW := g_H_enter hW0
  have hi10 : ∀ w ∈ wsX100, w ∈ wsX10_takesHour := by decide +kernel
  have hl := lv_entry ([.ref (G.2.2.1 0), .int p1, .int p2]) (n := 6) (Nat.le_of_ble_eq_true rfl)
  rw [lg_entry_eq]
  generalize (lg_sl ([.ref (G.2.2.1 0), .int p1, .int p2]) ++ List.replicate (6 - (lg_sl ([.ref (G.2.2.1 0), .int p1, .int p2])).length) Slot.unset).toArray = ls at hl ⊢
  have hl : lv_has ls 6 [(0, .ref (G.2.2.1 0)), (1, .int p1), (2, .int p2)] := hl
  obtain ⟨Q, hQ⟩ : ∃ Q, Q = MQ below (g_Qv ZM G m0) ([.ref (G.2.2.1 0), .int p1, .int p2] : List Value).toArray s 0 0 (g_A ZM G) := ⟨_, rfl⟩
  refine g_goQ hQ ?_
  unfold f_X10_takesHour at hf
  refine g_start hW (fun H locs hW => ?_)
  refine lv_iconst (v := 4) hx hb dX10_takesHour_0 (by decide) ?_
  refine lv_iload_n hx hb dX10_takesHour_1 rfl (lv_at hl 1 rfl) ?_
  refine lv_imul hx hb dX10_takesHour_2 ?_
  refine lv_iload_n hx hb dX10_takesHour_3 rfl (lv_at hl 2 rfl) ?_
  refine lv_iadd hx hb dX10_takesHour_4 ?_
  obtain ⟨x1, h9, hf⟩ := ob_inv hf
  refine g_nmi (Option.some.inj h9) ?_
  refine lv_istore_n (lv' := [(3, .int x1), (0, .ref (G.2.2.1 0)), (1, .int p1), (2, .int p2)]) hx hb dX10_takesHour_5 rfl hl (by decide) rfl (fun ls hl => ?_)
  refine lv_aload_n hx hb dX10_takesHour_6 rfl (lv_at hl 1 rfl) ?_
  refine g_getr hC hW (o := 0) (ci := 10) (k := 55) zm_k0 zm_b0 rfl hi10 (by decide) rfl (t := 48) zm_r0_55 (by decide +kernel) dX10_takesHour_7 ?_
  refine lv_iload_n hx hb dX10_takesHour_10 rfl (lv_at hl 0 rfl) ?_
  refine lv_aload_n hx hb dX10_takesHour_11 rfl (lv_at hl 1 rfl) ?_
  refine g_getr hC hW (o := 0) (ci := 10) (k := 63) zm_k0 zm_b0 rfl hi10 (by decide) rfl (t := 54) zm_r0_63 (by decide +kernel) dX10_takesHour_12 ?_
  refine lv_iload_n hx hb dX10_takesHour_15 rfl (lv_at hl 0 rfl) ?_
  obtain ⟨v2, h9, hf⟩ := ob_inv hf
  refine g_ild hC hW zm_k54 zm_b54 zm_n54 h9 dX10_takesHour_16 ?_
  obtain ⟨m3, h9, hf⟩ := ob_inv hf
  refine g_ist hC hW zm_k48 zm_b48 zm_n48 h9 dX10_takesHour_17 (fun H locs hW => ?_)
  refine lv_aload_n hx hb dX10_takesHour_18 rfl (lv_at hl 1 rfl) ?_
  refine g_getr hC hW (o := 0) (ci := 10) (k := 48) zm_k0 zm_b0 rfl hi10 (by decide) rfl (t := 41) zm_r0_48 (by decide +kernel) dX10_takesHour_19 ?_
  refine lv_bipush (v := 12) hx hb dX10_takesHour_22 (by decide) ?_
  refine lv_aload_n hx hb dX10_takesHour_24 rfl (lv_at hl 1 rfl) ?_
  refine g_geti hC hW (o := 0) (ci := 10) (k := 0) zm_k0 zm_b0 rfl hi10 (by decide) rfl (by decide +kernel) dX10_takesHour_25 ?_
  refine lv_imul hx hb dX10_takesHour_28 ?_
  refine lv_iload_n hx hb dX10_takesHour_29 rfl (lv_at hl 0 rfl) ?_
  refine lv_iadd hx hb dX10_takesHour_30 ?_
  refine lv_aload_n hx hb dX10_takesHour_31 rfl (lv_at hl 1 rfl) ?_
  refine g_getr hC hW (o := 0) (ci := 10) (k := 64) zm_k0 zm_b0 rfl hi10 (by decide) rfl (t := 55) zm_r0_64 (by decide +kernel) dX10_takesHour_32 ?_
  refine lv_iload_n hx hb dX10_takesHour_35 rfl (lv_at hl 0 rfl) ?_
  obtain ⟨v4, h9, hf⟩ := ob_inv hf
  refine g_ild hC hW zm_k55 zm_b55 zm_n55 h9 dX10_takesHour_36 ?_
  obtain ⟨m5, h9, hf⟩ := ob_inv hf
  refine g_ist hC hW zm_k41 zm_b41 zm_n41 h9 dX10_takesHour_37 (fun H locs hW => ?_)
  refine lv_aload_n hx hb dX10_takesHour_38 rfl (lv_at hl 1 rfl) ?_
  refine g_getr hC hW (o := 0) (ci := 10) (k := 63) zm_k0 zm_b0 rfl hi10 (by decide) rfl (t := 54) zm_r0_63 (by decide +kernel) dX10_takesHour_39 ?_
  refine lv_iload_n hx hb dX10_takesHour_42 rfl (lv_at hl 0 rfl) ?_
  obtain ⟨v6, h9, hf⟩ := ob_inv hf
  refine g_ild hC hW zm_k54 zm_b54 zm_n54 h9 dX10_takesHour_43 ?_
  refine lv_aload_n hx hb dX10_takesHour_44 rfl (lv_at hl 1 rfl) ?_
  refine g_getr hC hW (o := 0) (ci := 10) (k := 62) zm_k0 zm_b0 rfl hi10 (by decide) rfl (t := 53) zm_r0_62 (by decide +kernel) dX10_takesHour_45 ?_
  refine lv_iload_n hx hb dX10_takesHour_48 rfl (lv_at hl 0 rfl) ?_
  obtain ⟨v7, h9, hf⟩ := ob_inv hf
  refine g_ild hC hW zm_k53 zm_b53 zm_n53 h9 dX10_takesHour_49 ?_
  refine lv_isub hx hb dX10_takesHour_50 ?_
  obtain ⟨x8, h9, hf⟩ := ob_inv hf
  refine g_nmi (Option.some.inj h9) ?_
  refine lv_istore (lv' := [(4, .int x8), (3, .int x1), (0, .ref (G.2.2.1 0)), (1, .int p1), (2, .int p2)]) hx hb dX10_takesHour_51 hl (by decide) rfl (fun ls hl => ?_)
  refine lv_aload_n hx hb dX10_takesHour_53 rfl (lv_at hl 2 rfl) ?_
  refine g_getr hC hW (o := 0) (ci := 10) (k := 61) zm_k0 zm_b0 rfl hi10 (by decide) rfl (t := 52) zm_r0_61 (by decide +kernel) dX10_takesHour_54 ?_
  refine lv_sipush (v := 161) hx hb dX10_takesHour_57 (by decide) ?_
  refine lv_iload_n hx hb dX10_takesHour_60 rfl (lv_at hl 1 rfl) ?_
  refine lv_imul hx hb dX10_takesHour_61 ?_
  refine lv_bipush (v := 80) hx hb dX10_takesHour_62 (by decide) ?_
  refine lv_iadd hx hb dX10_takesHour_64 ?_
  refine lv_iload hx hb dX10_takesHour_65 (lv_at hl 0 rfl) ?_
  refine lv_iadd hx hb dX10_takesHour_67 ?_
  obtain ⟨v9, h9, hf⟩ := ob_inv hf
  refine g_ild hC hW zm_k52 zm_b52 zm_n52 h9 dX10_takesHour_68 ?_
  refine lv_istore (lv' := [(5, .int v9), (4, .int x8), (3, .int x1), (0, .ref (G.2.2.1 0)), (1, .int p1), (2, .int p2)]) hx hb dX10_takesHour_69 hl (by decide) rfl (fun ls hl => ?_)
  refine lv_aload_n hx hb dX10_takesHour_71 rfl (lv_at hl 3 rfl) ?_
  refine lv_iload_n hx hb dX10_takesHour_72 rfl (lv_at hl 4 rfl) ?_
  refine lv_iload_n hx hb dX10_takesHour_73 rfl (lv_at hl 5 rfl) ?_
  refine lv_iconst (v := 1) hx hb dX10_takesHour_74 (by decide) ?_
  refine lv_iload hx hb dX10_takesHour_75 (lv_at hl 0 rfl) ?_
  obtain ⟨m10, hg, hf⟩ := ob_inv hf
  refine g_cVv hC hW (o := 0) (ci := 10) (As := [.int p1, .int p2, .int 1, .int v9]) (rest := []) zm_k0 zm_b0 rfl (c_X10_takes l G  hg) (cwV 4 hts gX10_takesHour_X10_takes rfl rfl rfl (by decide +kernel) ⟨Nat.le_of_ble_eq_true rfl, Nat.le_of_ble_eq_true rfl⟩) rfl hl.1 rfl (Nat.le_of_ble_eq_true rfl) dX10_takesHour_77 ⟨Nat.le_of_ble_eq_true rfl, Nat.le_of_ble_eq_true rfl⟩ (fun H locs hW => ?_)
  refine lv_aload_n hx hb dX10_takesHour_80 rfl (lv_at hl 3 rfl) ?_
  refine lv_iload_n hx hb dX10_takesHour_81 rfl (lv_at hl 4 rfl) ?_
  refine lv_iload_n hx hb dX10_takesHour_82 rfl (lv_at hl 5 rfl) ?_
  refine lv_iconst (v := 0) hx hb dX10_takesHour_83 (by decide) ?_
  refine lv_iload hx hb dX10_takesHour_84 (lv_at hl 1 rfl) ?_
  refine lv_iload hx hb dX10_takesHour_86 (lv_at hl 0 rfl) ?_
  refine lv_iadd hx hb dX10_takesHour_88 ?_
  obtain ⟨m11, hg, hf⟩ := ob_inv hf
  refine g_cVv hC hW (o := 0) (ci := 10) (As := [.int p1, .int p2, .int 0, .int (x8 + v9)]) (rest := []) zm_k0 zm_b0 rfl (c_X10_takes l G  hg) (cwV 4 hts gX10_takesHour_X10_takes rfl rfl rfl (by decide +kernel) ⟨Nat.le_of_ble_eq_true rfl, Nat.le_of_ble_eq_true rfl⟩) rfl hl.1 rfl (Nat.le_of_ble_eq_true rfl) dX10_takesHour_89 ⟨Nat.le_of_ble_eq_true rfl, Nat.le_of_ble_eq_true rfl⟩ (fun H locs hW => ?_)
  cases hf
  subst hQ
  exact g_vret hC hW hr hlocks rfl dX10_takesHour_92
abbrev rmX10_clear : Room := { frames := 4, cells := 0, slots := 0, locals := 100 }
set_option maxHeartbeats 4000000 in
set_option maxRecDepth 100000 in
theorem c_X10_clear (l : Launch) (G : gG)  {me : gM} {r0 : Int32} {m0 : gM}  (hf : f_X10_clear me = some (r0, m0)) : Met l yX10_clear wsX10_clear rmX10_clear (va_Pc [.ref (G.2.2.1 0)] (g_W ZM G me)) (g_Qi ZM G r0 m0) 0 0 (g_A ZM G) := by
  refine Met.ofW (cc := cX10_clear) (maxL := 6) (ret := (some .int)) (by decide) rfl ?_
  intro p e s m args below meth c s₁ B hml hv
  obtain ⟨rfl, hW0⟩ := hv
  have hC : CallFix p m c cX10_clear 6 s ([.ref (G.2.2.1 0)] : List Value).toArray wsX10_clear RX10 := ⟨B.exec, B.bytes, hml, findClass_of_methodNamed B.named, atoms_spec (ws := wsX10_clear) B.pre⟩
  have hx := hC.1
  have hb := hC.2.1
  have hown := hC.2.2.2.1
  have hts := hC.2.2.2.2
  have hr := B.returns
  have hlocks := B.notSynchronized
  have hW := g_H_enter hW0
  have hi10 : ∀ w ∈ wsX100, w ∈ wsX10_clear := by decide +kernel
  have hl := lv_entry ([.ref (G.2.2.1 0)]) (n := 6) (Nat.le_of_ble_eq_true rfl)
  rw [lg_entry_eq]
  generalize (lg_sl ([.ref (G.2.2.1 0)]) ++ List.replicate (6 - (lg_sl ([.ref (G.2.2.1 0)])).length) Slot.unset).toArray = ls at hl ⊢
  have hl : lv_has ls 6 [(0, .ref (G.2.2.1 0))] := hl
  obtain ⟨Q, hQ⟩ : ∃ Q, Q = MQ below (g_Qi ZM G r0 m0) ([.ref (G.2.2.1 0)] : List Value).toArray s 0 0 (g_A ZM G) := ⟨_, rfl⟩
  refine g_goQ hQ ?_
  unfold f_X10_clear at hf
  refine g_start hW (fun H locs hW => ?_)
  refine lv_aload_n hx hb dX10_clear_0 rfl (lv_at hl 0 rfl) ?_
  refine lv_aload_n hx hb dX10_clear_1 rfl (lv_at hl 0 rfl) ?_
  refine g_geti hC hW (o := 0) (ci := 10) (k := 1) zm_k0 zm_b0 rfl hi10 (by decide) rfl (by decide +kernel) dX10_clear_2 ?_
  refine lv_iconst (v := 1) hx hb dX10_clear_5 (by decide) ?_
  obtain ⟨z2, hg, hf⟩ := ob_inv hf
  have hJ14 : ∀ (H : Heap) (locs : List Loc) (ls : Array Slot), g_H ZM G s H locs me → lv_has ls 6 [(0, .ref (G.2.2.1 0))] → W p l e (headSpec wsX10_clear rmX10_clear).room s m ([.ref (G.2.2.1 0)] : List Value).toArray below meth c H locs 0 0 Q (F0 m 14 ls [.int z2, .ref (G.2.2.1 0)]) := by
    intro H locs ls hW hl
    obtain ⟨m3, h9, hf⟩ := ob_inv hf
    refine g_puti hC hW (o := 0) (ci := 10) (k := 67) zm_k0 zm_b0 rfl hi10 tyX10_ok nmX10 (by decide) rfl rfl rfl (by decide +kernel) dX10_clear_14 (fun H locs hW => ?_)
    rw [Option.some.inj h9] at hW
    refine lv_aload_n hx hb dX10_clear_17 rfl (lv_at hl 0 rfl) ?_
    refine g_geti hC hW (o := 0) (ci := 10) (k := 67) zm_k0 zm_b0 rfl hi10 (by decide) rfl (by decide +kernel) dX10_clear_18 ?_
    refine lv_if_le (tgt := 26) hx hb dX10_clear_21 (by decide) (fun c4 => ?_) (fun c4 => ?_)
    · have hf := a_if_t c4 hf
      refine lv_iconst (v := 0) hx hb dX10_clear_26 (by decide) ?_
      refine lv_istore_n (lv' := [(1, .int 0), (0, .ref (G.2.2.1 0))]) hx hb dX10_clear_27 rfl hl (by decide) rfl (fun ls hl => ?_)
      have hL28 : ∀ (n : Nat) (x5 : Int32) (m6 : gM) (y7 : Int32) (m8 : gM) (H : Heap) (locs : List Loc) (ls : Array Slot), f_X10_clear_L28  n x5 m6 = some (y7, m8) → g_H ZM G s H locs m6 → lv_has ls 6 [(0, .ref (G.2.2.1 0)), (1, .int x5)] → (∀ (H : Heap) (locs : List Loc) (ls : Array Slot), g_H ZM G s H locs m8 → lv_has ls 6 [(0, .ref (G.2.2.1 0))] → W p l e (headSpec wsX10_clear rmX10_clear).room s m ([.ref (G.2.2.1 0)] : List Value).toArray below meth c H locs 0 0 Q (F0 m 62 ls [])) → W p l e (headSpec wsX10_clear rmX10_clear).room s m ([.ref (G.2.2.1 0)] : List Value).toArray below meth c H locs 0 0 Q (F0 m 28 ls []) := by
        intro n
        induction n with
        | zero =>
          intro x5 m6 y7 m8 H locs ls hf hW hl hE
          cases hf
        | succ n ih =>
          intro x5 m6 y7 m8 H locs ls hf hW hl hE
          rw [f_X10_clear_L28] at hf
          refine lv_iload_n hx hb dX10_clear_28 rfl (lv_at hl 1 rfl) ?_
          refine lv_iconst (v := 3) hx hb dX10_clear_29 (by decide) ?_
          refine lv_icmp_ge (tgt := 62) hx hb dX10_clear_30 (by decide) (fun c9 => ?_) (fun c9 => ?_)
          · have hf := a_if_t c9 hf
            cases hf
            exact hE H locs ls hW (lv_sub hl [0] rfl)
          · have hf := a_if_f c9 hf
            refine lv_iconst (v := 0) hx hb dX10_clear_33 (by decide) ?_
            refine lv_istore_n (lv' := [(2, .int 0), (0, .ref (G.2.2.1 0)), (1, .int x5)]) hx hb dX10_clear_34 rfl hl (by decide) rfl (fun ls hl => ?_)
            have hL35 : ∀ (n : Nat) (x10 : Int32) (m11 : gM) (y12 : Int32) (m13 : gM) (H : Heap) (locs : List Loc) (ls : Array Slot), f_X10_clear_L35 x5 n x10 m11 = some (y12, m13) → g_H ZM G s H locs m11 → lv_has ls 6 [(0, .ref (G.2.2.1 0)), (1, .int x5), (2, .int x10)] → (∀ (H : Heap) (locs : List Loc) (ls : Array Slot), g_H ZM G s H locs m13 → lv_has ls 6 [(0, .ref (G.2.2.1 0)), (1, .int x5)] → W p l e (headSpec wsX10_clear rmX10_clear).room s m ([.ref (G.2.2.1 0)] : List Value).toArray below meth c H locs 0 0 Q (F0 m 56 ls [])) → W p l e (headSpec wsX10_clear rmX10_clear).room s m ([.ref (G.2.2.1 0)] : List Value).toArray below meth c H locs 0 0 Q (F0 m 35 ls []) := by
              intro n
              induction n with
              | zero =>
                intro x10 m11 y12 m13 H locs ls hf hW hl hE
                cases hf
              | succ n ih =>
                intro x10 m11 y12 m13 H locs ls hf hW hl hE
                rw [f_X10_clear_L35] at hf
                refine lv_iload_n hx hb dX10_clear_35 rfl (lv_at hl 2 rfl) ?_
                refine lv_iconst (v := 4) hx hb dX10_clear_36 (by decide) ?_
                refine lv_icmp_ge (tgt := 56) hx hb dX10_clear_37 (by decide) (fun c14 => ?_) (fun c14 => ?_)
                · have hf := a_if_t c14 hf
                  cases hf
                  exact hE H locs ls hW (lv_sub hl [0, 1] rfl)
                · have hf := a_if_f c14 hf
                  refine lv_aload_n hx hb dX10_clear_40 rfl (lv_at hl 0 rfl) ?_
                  obtain ⟨m15, hg, hf⟩ := ob_inv hf
                  refine g_cVv hC hW (o := 0) (ci := 10) (As := []) (rest := []) zm_k0 zm_b0 rfl (c_X10_forgets l G  hg) (cwV 0 hts gX10_clear_X10_forgets rfl rfl rfl (by decide +kernel) ⟨Nat.le_of_ble_eq_true rfl, Nat.le_of_ble_eq_true rfl⟩) rfl hl.1 rfl (Nat.le_of_ble_eq_true rfl) dX10_clear_41 ⟨Nat.le_of_ble_eq_true rfl, Nat.le_of_ble_eq_true rfl⟩ (fun H locs hW => ?_)
                  refine lv_aload_n hx hb dX10_clear_44 rfl (lv_at hl 0 rfl) ?_
                  refine lv_iload_n hx hb dX10_clear_45 rfl (lv_at hl 1 rfl) ?_
                  refine lv_iload_n hx hb dX10_clear_46 rfl (lv_at hl 2 rfl) ?_
                  obtain ⟨m16, hg, hf⟩ := ob_inv hf
                  refine g_cVv hC hW (o := 0) (ci := 10) (As := [.int x5, .int x10]) (rest := []) zm_k0 zm_b0 rfl (c_X10_weighs l G  hg) (cwV 2 hts gX10_clear_X10_weighs rfl rfl rfl (by decide +kernel) ⟨Nat.le_of_ble_eq_true rfl, Nat.le_of_ble_eq_true rfl⟩) rfl hl.1 rfl (Nat.le_of_ble_eq_true rfl) dX10_clear_47 ⟨Nat.le_of_ble_eq_true rfl, Nat.le_of_ble_eq_true rfl⟩ (fun H locs hW => ?_)
                  refine lv_iinc (v := (x10 + 1)) (lv' := [(2, .int (x10 + 1)), (0, .ref (G.2.2.1 0)), (1, .int x5)]) hx hb dX10_clear_50 hl (k := 2) rfl (congrArg (fun z => x10 + z) (by decide)) (by decide) rfl (fun ls hl => ?_)
                  refine lv_goto (tgt := 35) hx hb dX10_clear_53 (by decide) ?_
                  exact ih _ _ _ _ _ _ _ hf hW (lv_sub hl [1, 2, 0] rfl) hE
            obtain ⟨⟨y12, m13⟩, hg, hf⟩ := ob_inv hf
            have hf := ob_inv2 hf
            refine hL35 _ _ _ _ _ _ _ _ hg hW (lv_sub hl [1, 2, 0] rfl) (fun H locs ls hW hl => ?_)
            refine lv_iinc (v := (x5 + 1)) (lv' := [(1, .int (x5 + 1)), (0, .ref (G.2.2.1 0))]) hx hb dX10_clear_56 hl (k := 1) rfl (congrArg (fun z => x5 + z) (by decide)) (by decide) rfl (fun ls hl => ?_)
            refine lv_goto (tgt := 28) hx hb dX10_clear_59 (by decide) ?_
            exact ih _ _ _ _ _ _ _ hf hW (lv_sub hl [1, 0] rfl) hE
      obtain ⟨⟨y7, m8⟩, hg, hf⟩ := ob_inv hf
      have hf := ob_inv2 hf
      refine hL28 _ _ _ _ _ _ _ _ hg hW (lv_sub hl [1, 0] rfl) (fun H locs ls hW hl => ?_)
      refine lv_ldc (v := (-1000000000)) hx hb hown (hts _ (by decide +kernel : Cond.constant RX10 223 (-1000000000) ∈ wsX10_clear)) dX10_clear_62 ?_
      refine lv_istore_n (lv' := [(1, .int (-1000000000)), (0, .ref (G.2.2.1 0))]) hx hb dX10_clear_64 rfl hl (by decide) rfl (fun ls hl => ?_)
      refine lv_aload_n hx hb dX10_clear_65 rfl (lv_at hl 1 rfl) ?_
      refine lv_iconst (v := 0) hx hb dX10_clear_66 (by decide) ?_
      obtain ⟨m18, h9, hf⟩ := ob_inv hf
      refine g_puti hC hW (o := 0) (ci := 10) (k := 25) zm_k0 zm_b0 rfl hi10 tyX10_ok nmX10 (by decide) rfl rfl rfl (by decide +kernel) dX10_clear_67 (fun H locs hW => ?_)
      rw [Option.some.inj h9] at hW
      refine lv_iconst (v := 0) hx hb dX10_clear_70 (by decide) ?_
      refine lv_istore_n (lv' := [(2, .int 0), (1, .int (-1000000000)), (0, .ref (G.2.2.1 0))]) hx hb dX10_clear_71 rfl hl (by decide) rfl (fun ls hl => ?_)
      have hL72 : ∀ (n : Nat) (x19 : Int32) (x20 : Int32) (m21 : gM) (y22 : Int32) (y23 : Int32) (m24 : gM) (H : Heap) (locs : List Loc) (ls : Array Slot), f_X10_clear_L72  n x19 x20 m21 = some (y22, y23, m24) → g_H ZM G s H locs m21 → lv_has ls 6 [(0, .ref (G.2.2.1 0)), (1, .int x19), (2, .int x20)] → (∀ (H : Heap) (locs : List Loc) (ls : Array Slot), g_H ZM G s H locs m24 → lv_has ls 6 [(0, .ref (G.2.2.1 0)), (1, .int y22)] → W p l e (headSpec wsX10_clear rmX10_clear).room s m ([.ref (G.2.2.1 0)] : List Value).toArray below meth c H locs 0 0 Q (F0 m 119 ls [])) → W p l e (headSpec wsX10_clear rmX10_clear).room s m ([.ref (G.2.2.1 0)] : List Value).toArray below meth c H locs 0 0 Q (F0 m 72 ls []) := by
        intro n
        induction n with
        | zero =>
          intro x19 x20 m21 y22 y23 m24 H locs ls hf hW hl hE
          cases hf
        | succ n ih =>
          intro x19 x20 m21 y22 y23 m24 H locs ls hf hW hl hE
          rw [f_X10_clear_L72] at hf
          refine lv_iload_n hx hb dX10_clear_72 rfl (lv_at hl 2 rfl) ?_
          refine lv_iconst (v := 1) hx hb dX10_clear_73 (by decide) ?_
          refine lv_aload_n hx hb dX10_clear_74 rfl (lv_at hl 0 rfl) ?_
          refine g_geti hC hW (o := 0) (ci := 10) (k := 16) zm_k0 zm_b0 rfl hi10 (by decide) rfl (by decide +kernel) dX10_clear_75 ?_
          refine lv_ishl hx hb dX10_clear_78 ?_
          refine lv_icmp_ge (tgt := 119) hx hb dX10_clear_79 (by decide) (fun c25 => ?_) (fun c25 => ?_)
          · have hf := a_if_t c25 hf
            cases hf
            exact hE H locs ls hW (lv_sub hl [0, 1] rfl)
          · have hf := a_if_f c25 hf
            refine lv_aload_n hx hb dX10_clear_82 rfl (lv_at hl 0 rfl) ?_
            refine lv_iload_n hx hb dX10_clear_83 rfl (lv_at hl 2 rfl) ?_
            obtain ⟨r26, hg, hf⟩ := ob_inv hf
            refine g_cVi hC hW (o := 0) (ci := 10) (As := [.int x20]) (rest := []) zm_k0 zm_b0 rfl (c_X10_isAllowed l G  hg) (cwV 1 hts gX10_clear_X10_isAllowed rfl rfl rfl (by decide +kernel) ⟨Nat.le_of_ble_eq_true rfl, Nat.le_of_ble_eq_true rfl⟩) rfl hl.1 rfl (Nat.le_of_ble_eq_true rfl) dX10_clear_84 ⟨Nat.le_of_ble_eq_true rfl, Nat.le_of_ble_eq_true rfl⟩ (fun H locs hW => ?_)
            obtain ⟨⟨z28, m29⟩, hg, hf⟩ := ob_inv hf
            have hf := ob_inv2 hf
            have hJ100 : ∀ (H : Heap) (locs : List Loc) (ls : Array Slot), g_H ZM G s H locs m29 → lv_has ls 6 [(0, .ref (G.2.2.1 0)), (1, .int x19), (2, .int x20)] → W p l e (headSpec wsX10_clear rmX10_clear).room s m ([.ref (G.2.2.1 0)] : List Value).toArray below meth c H locs 0 0 Q (F0 m 100 ls [.int z28]) := by
              intro H locs ls hW hl
              refine lv_istore_n (lv' := [(3, .int z28), (0, .ref (G.2.2.1 0)), (1, .int x19), (2, .int x20)]) hx hb dX10_clear_100 rfl hl (by decide) rfl (fun ls hl => ?_)
              refine lv_iload_n hx hb dX10_clear_101 rfl (lv_at hl 0 rfl) ?_
              refine lv_iload_n hx hb dX10_clear_102 rfl (lv_at hl 2 rfl) ?_
              obtain ⟨⟨x34, m35⟩, hg, hf⟩ := ob_inv hf
              have hf := ob_inv2 hf
              have hJ113 : ∀ (H : Heap) (locs : List Loc) (ls : Array Slot), g_H ZM G s H locs m35 → lv_has ls 6 [(0, .ref (G.2.2.1 0)), (1, .int x34), (2, .int x20)] → W p l e (headSpec wsX10_clear rmX10_clear).room s m ([.ref (G.2.2.1 0)] : List Value).toArray below meth c H locs 0 0 Q (F0 m 113 ls []) := by
                intro H locs ls hW hl
                refine lv_iinc (v := (x20 + 1)) (lv' := [(2, .int (x20 + 1)), (0, .ref (G.2.2.1 0)), (1, .int x34)]) hx hb dX10_clear_113 hl (k := 2) rfl (congrArg (fun z => x20 + z) (by decide)) (by decide) rfl (fun ls hl => ?_)
                refine lv_goto (tgt := 72) hx hb dX10_clear_116 (by decide) ?_
                exact ih _ _ _ _ _ _ _ _ _ hf hW (lv_sub hl [1, 2, 0] rfl) hE
              replace hf := hg
              refine lv_icmp_le (tgt := 113) hx hb dX10_clear_103 (by decide) (fun c33 => ?_) (fun c33 => ?_)
              · have hf := a_if_t c33 hf
                cases hf
                exact hJ113 H locs ls hW (lv_sub hl [1, 2, 3] rfl)
              · have hf := a_if_f c33 hf
                refine lv_iload_n hx hb dX10_clear_106 rfl (lv_at hl 0 rfl) ?_
                refine lv_istore_n (lv' := [(1, .int z28), (3, .int z28), (0, .ref (G.2.2.1 0)), (2, .int x20)]) hx hb dX10_clear_107 rfl hl (by decide) rfl (fun ls hl => ?_)
                refine lv_aload_n hx hb dX10_clear_108 rfl (lv_at hl 2 rfl) ?_
                refine lv_iload_n hx hb dX10_clear_109 rfl (lv_at hl 3 rfl) ?_
                obtain ⟨m36, h9, hf⟩ := ob_inv hf
                refine g_puti hC hW (o := 0) (ci := 10) (k := 25) zm_k0 zm_b0 rfl hi10 tyX10_ok nmX10 (by decide) rfl rfl rfl (by decide +kernel) dX10_clear_110 (fun H locs hW => ?_)
                rw [Option.some.inj h9] at hW
                cases hf
                exact hJ113 H locs ls hW (lv_sub hl [2, 0, 3] rfl)
            replace hf := hg
            refine lv_if_eq (tgt := 98) hx hb dX10_clear_87 (by decide) (fun c27 => ?_) (fun c27 => ?_)
            · have hf := a_if_t c27 hf
              refine lv_ldc (v := (-1000000000)) hx hb hown (hts _ (by decide +kernel : Cond.constant RX10 223 (-1000000000) ∈ wsX10_clear)) dX10_clear_98 ?_
              cases hf
              exact hJ100 H locs ls hW (lv_sub hl [0, 1, 2] rfl)
            · have hf := a_if_f c27 hf
              refine lv_aload_n hx hb dX10_clear_90 rfl (lv_at hl 0 rfl) ?_
              refine lv_iload_n hx hb dX10_clear_91 rfl (lv_at hl 2 rfl) ?_
              obtain ⟨⟨r30, m31⟩, hg, hf⟩ := ob_inv hf
              have hf := ob_inv2 hf
              refine g_cVi hC hW (o := 0) (ci := 10) (As := [.int x20]) (rest := []) zm_k0 zm_b0 rfl (c_X10_tries l G  hg) (cwV 1 hts gX10_clear_X10_tries rfl rfl rfl (by decide +kernel) ⟨Nat.le_of_ble_eq_true rfl, Nat.le_of_ble_eq_true rfl⟩) rfl hl.1 rfl (Nat.le_of_ble_eq_true rfl) dX10_clear_92 ⟨Nat.le_of_ble_eq_true rfl, Nat.le_of_ble_eq_true rfl⟩ (fun H locs hW => ?_)
              refine lv_goto (tgt := 100) hx hb dX10_clear_95 (by decide) ?_
              cases hf
              exact hJ100 H locs ls hW (lv_sub hl [0, 1, 2] rfl)
      obtain ⟨⟨y22, y23, m24⟩, hg, hf⟩ := ob_inv hf
      have hf := ob_inv3 hf
      refine hL72 _ _ _ _ _ _ _ _ _ _ hg hW (lv_sub hl [2, 1, 0] rfl) (fun H locs ls hW hl => ?_)
      refine lv_aload_n hx hb dX10_clear_119 rfl (lv_at hl 0 rfl) ?_
      refine lv_aload_n hx hb dX10_clear_120 rfl (lv_at hl 0 rfl) ?_
      refine g_geti hC hW (o := 0) (ci := 10) (k := 25) zm_k0 zm_b0 rfl hi10 (by decide) rfl (by decide +kernel) dX10_clear_121 ?_
      obtain ⟨⟨r39, m40⟩, hg, hf⟩ := ob_inv hf
      have hf := ob_inv2 hf
      refine g_cVi hC hW (o := 0) (ci := 10) (As := [.int (m24 0 25)]) (rest := []) zm_k0 zm_b0 rfl (c_X10_tries l G  hg) (cwV 1 hts gX10_clear_X10_tries rfl rfl rfl (by decide +kernel) ⟨Nat.le_of_ble_eq_true rfl, Nat.le_of_ble_eq_true rfl⟩) rfl hl.1 rfl (Nat.le_of_ble_eq_true rfl) dX10_clear_124 ⟨Nat.le_of_ble_eq_true rfl, Nat.le_of_ble_eq_true rfl⟩ (fun H locs hW => ?_)
      refine lv_pop hx hb dX10_clear_127 rfl ?_
      refine lv_iconst (v := 0) hx hb dX10_clear_128 (by decide) ?_
      refine lv_istore_n (lv' := [(2, .int 0), (0, .ref (G.2.2.1 0)), (1, .int y22)]) hx hb dX10_clear_129 rfl hl (by decide) rfl (fun ls hl => ?_)
      have hL130 : ∀ (n : Nat) (x42 : Int32) (m43 : gM) (y44 : Int32) (m45 : gM) (H : Heap) (locs : List Loc) (ls : Array Slot), f_X10_clear_L130  n x42 m43 = some (y44, m45) → g_H ZM G s H locs m43 → lv_has ls 6 [(0, .ref (G.2.2.1 0)), (1, .int y22), (2, .int x42)] → (∀ (H : Heap) (locs : List Loc) (ls : Array Slot), g_H ZM G s H locs m45 → lv_has ls 6 [(0, .ref (G.2.2.1 0)), (1, .int y22)] → W p l e (headSpec wsX10_clear rmX10_clear).room s m ([.ref (G.2.2.1 0)] : List Value).toArray below meth c H locs 0 0 Q (F0 m 149 ls [])) → W p l e (headSpec wsX10_clear rmX10_clear).room s m ([.ref (G.2.2.1 0)] : List Value).toArray below meth c H locs 0 0 Q (F0 m 130 ls []) := by
        intro n
        induction n with
        | zero =>
          intro x42 m43 y44 m45 H locs ls hf hW hl hE
          cases hf
        | succ n ih =>
          intro x42 m43 y44 m45 H locs ls hf hW hl hE
          rw [f_X10_clear_L130] at hf
          refine lv_iload_n hx hb dX10_clear_130 rfl (lv_at hl 2 rfl) ?_
          refine lv_bipush (v := 40) hx hb dX10_clear_131 (by decide) ?_
          refine lv_icmp_ge (tgt := 149) hx hb dX10_clear_133 (by decide) (fun c46 => ?_) (fun c46 => ?_)
          · have hf := a_if_t c46 hf
            cases hf
            exact hE H locs ls hW (lv_sub hl [0, 1] rfl)
          · have hf := a_if_f c46 hf
            refine lv_aload_n hx hb dX10_clear_136 rfl (lv_at hl 0 rfl) ?_
            refine g_getr hC hW (o := 0) (ci := 10) (k := 14) zm_k0 zm_b0 rfl hi10 (by decide) rfl (t := 11) zm_r0_14 (by decide +kernel) dX10_clear_137 ?_
            refine lv_iload_n hx hb dX10_clear_140 rfl (lv_at hl 2 rfl) ?_
            refine lv_iconst (v := 0) hx hb dX10_clear_141 (by decide) ?_
            obtain ⟨m47, h9, hf⟩ := ob_inv hf
            refine g_ist hC hW zm_k11 zm_b11 zm_n11 h9 dX10_clear_142 (fun H locs hW => ?_)
            refine lv_iinc (v := (x42 + 1)) (lv' := [(2, .int (x42 + 1)), (0, .ref (G.2.2.1 0)), (1, .int y22)]) hx hb dX10_clear_143 hl (k := 2) rfl (congrArg (fun z => x42 + z) (by decide)) (by decide) rfl (fun ls hl => ?_)
            refine lv_goto (tgt := 130) hx hb dX10_clear_146 (by decide) ?_
            exact ih _ _ _ _ _ _ _ hf hW (lv_sub hl [1, 2, 0] rfl) hE
      obtain ⟨⟨y44, m45⟩, hg, hf⟩ := ob_inv hf
      have hf := ob_inv2 hf
      refine hL130 _ _ _ _ _ _ _ _ hg hW (lv_sub hl [1, 2, 0] rfl) (fun H locs ls hW hl => ?_)
      refine lv_iconst (v := 0) hx hb dX10_clear_149 (by decide) ?_
      refine lv_istore_n (lv' := [(2, .int 0), (0, .ref (G.2.2.1 0)), (1, .int y22)]) hx hb dX10_clear_150 rfl hl (by decide) rfl (fun ls hl => ?_)
      have hL151 : ∀ (n : Nat) (x48 : Int32) (m49 : gM) (y50 : Int32) (m51 : gM) (H : Heap) (locs : List Loc) (ls : Array Slot), f_X10_clear_L151  n x48 m49 = some (y50, m51) → g_H ZM G s H locs m49 → lv_has ls 6 [(0, .ref (G.2.2.1 0)), (1, .int y22), (2, .int x48)] → (∀ (H : Heap) (locs : List Loc) (ls : Array Slot), g_H ZM G s H locs m51 → lv_has ls 6 [(0, .ref (G.2.2.1 0)), (1, .int y22)] → W p l e (headSpec wsX10_clear rmX10_clear).room s m ([.ref (G.2.2.1 0)] : List Value).toArray below meth c H locs 0 0 Q (F0 m 181 ls [])) → W p l e (headSpec wsX10_clear rmX10_clear).room s m ([.ref (G.2.2.1 0)] : List Value).toArray below meth c H locs 0 0 Q (F0 m 151 ls []) := by
        intro n
        induction n with
        | zero =>
          intro x48 m49 y50 m51 H locs ls hf hW hl hE
          cases hf
        | succ n ih =>
          intro x48 m49 y50 m51 H locs ls hf hW hl hE
          rw [f_X10_clear_L151] at hf
          refine lv_iload_n hx hb dX10_clear_151 rfl (lv_at hl 2 rfl) ?_
          refine lv_iconst (v := 3) hx hb dX10_clear_152 (by decide) ?_
          refine lv_icmp_ge (tgt := 181) hx hb dX10_clear_153 (by decide) (fun c52 => ?_) (fun c52 => ?_)
          · have hf := a_if_t c52 hf
            cases hf
            exact hE H locs ls hW (lv_sub hl [0, 1] rfl)
          · have hf := a_if_f c52 hf
            refine lv_iconst (v := 0) hx hb dX10_clear_156 (by decide) ?_
            refine lv_istore_n (lv' := [(3, .int 0), (0, .ref (G.2.2.1 0)), (1, .int y22), (2, .int x48)]) hx hb dX10_clear_157 rfl hl (by decide) rfl (fun ls hl => ?_)
            have hL158 : ∀ (n : Nat) (x53 : Int32) (m54 : gM) (y55 : Int32) (m56 : gM) (H : Heap) (locs : List Loc) (ls : Array Slot), f_X10_clear_L158 x48 n x53 m54 = some (y55, m56) → g_H ZM G s H locs m54 → lv_has ls 6 [(0, .ref (G.2.2.1 0)), (1, .int y22), (2, .int x48), (3, .int x53)] → (∀ (H : Heap) (locs : List Loc) (ls : Array Slot), g_H ZM G s H locs m56 → lv_has ls 6 [(0, .ref (G.2.2.1 0)), (1, .int y22), (2, .int x48)] → W p l e (headSpec wsX10_clear rmX10_clear).room s m ([.ref (G.2.2.1 0)] : List Value).toArray below meth c H locs 0 0 Q (F0 m 175 ls [])) → W p l e (headSpec wsX10_clear rmX10_clear).room s m ([.ref (G.2.2.1 0)] : List Value).toArray below meth c H locs 0 0 Q (F0 m 158 ls []) := by
              intro n
              induction n with
              | zero =>
                intro x53 m54 y55 m56 H locs ls hf hW hl hE
                cases hf
              | succ n ih =>
                intro x53 m54 y55 m56 H locs ls hf hW hl hE
                rw [f_X10_clear_L158] at hf
                refine lv_iload_n hx hb dX10_clear_158 rfl (lv_at hl 3 rfl) ?_
                refine lv_iconst (v := 4) hx hb dX10_clear_159 (by decide) ?_
                refine lv_icmp_ge (tgt := 175) hx hb dX10_clear_160 (by decide) (fun c57 => ?_) (fun c57 => ?_)
                · have hf := a_if_t c57 hf
                  cases hf
                  exact hE H locs ls hW (lv_sub hl [0, 1, 2] rfl)
                · have hf := a_if_f c57 hf
                  refine lv_aload_n hx hb dX10_clear_163 rfl (lv_at hl 0 rfl) ?_
                  refine lv_iload_n hx hb dX10_clear_164 rfl (lv_at hl 2 rfl) ?_
                  refine lv_iload_n hx hb dX10_clear_165 rfl (lv_at hl 3 rfl) ?_
                  obtain ⟨m58, hg, hf⟩ := ob_inv hf
                  refine g_cVv hC hW (o := 0) (ci := 10) (As := [.int x48, .int x53]) (rest := []) zm_k0 zm_b0 rfl (c_X10_takesHour l G  hg) (cwV 2 hts gX10_clear_X10_takesHour rfl rfl rfl (by decide +kernel) ⟨Nat.le_of_ble_eq_true rfl, Nat.le_of_ble_eq_true rfl⟩) rfl hl.1 rfl (Nat.le_of_ble_eq_true rfl) dX10_clear_166 ⟨Nat.le_of_ble_eq_true rfl, Nat.le_of_ble_eq_true rfl⟩ (fun H locs hW => ?_)
                  refine lv_iinc (v := (x53 + 1)) (lv' := [(3, .int (x53 + 1)), (0, .ref (G.2.2.1 0)), (1, .int y22), (2, .int x48)]) hx hb dX10_clear_169 hl (k := 3) rfl (congrArg (fun z => x53 + z) (by decide)) (by decide) rfl (fun ls hl => ?_)
                  refine lv_goto (tgt := 158) hx hb dX10_clear_172 (by decide) ?_
                  exact ih _ _ _ _ _ _ _ hf hW (lv_sub hl [1, 2, 3, 0] rfl) hE
            obtain ⟨⟨y55, m56⟩, hg, hf⟩ := ob_inv hf
            have hf := ob_inv2 hf
            refine hL158 _ _ _ _ _ _ _ _ hg hW (lv_sub hl [1, 2, 3, 0] rfl) (fun H locs ls hW hl => ?_)
            refine lv_iinc (v := (x48 + 1)) (lv' := [(2, .int (x48 + 1)), (0, .ref (G.2.2.1 0)), (1, .int y22)]) hx hb dX10_clear_175 hl (k := 2) rfl (congrArg (fun z => x48 + z) (by decide)) (by decide) rfl (fun ls hl => ?_)
            refine lv_goto (tgt := 151) hx hb dX10_clear_178 (by decide) ?_
            exact ih _ _ _ _ _ _ _ hf hW (lv_sub hl [1, 2, 0] rfl) hE
      obtain ⟨⟨y50, m51⟩, hg, hf⟩ := ob_inv hf
      have hf := ob_inv2 hf
      refine hL151 _ _ _ _ _ _ _ _ hg hW (lv_sub hl [1, 2, 0] rfl) (fun H locs ls hW hl => ?_)
      refine lv_iconst (v := 0) hx hb dX10_clear_181 (by decide) ?_
      refine lv_istore_n (lv' := [(2, .int 0), (0, .ref (G.2.2.1 0)), (1, .int y22)]) hx hb dX10_clear_182 rfl hl (by decide) rfl (fun ls hl => ?_)
      have hL183 : ∀ (n : Nat) (x60 : Int32) (m61 : gM) (y62 : Int32) (m63 : gM) (H : Heap) (locs : List Loc) (ls : Array Slot), f_X10_clear_L183  n x60 m61 = some (y62, m63) → g_H ZM G s H locs m61 → lv_has ls 6 [(0, .ref (G.2.2.1 0)), (1, .int y22), (2, .int x60)] → (∀ (H : Heap) (locs : List Loc) (ls : Array Slot), g_H ZM G s H locs m63 → lv_has ls 6 [(0, .ref (G.2.2.1 0)), (1, .int y22)] → W p l e (headSpec wsX10_clear rmX10_clear).room s m ([.ref (G.2.2.1 0)] : List Value).toArray below meth c H locs 0 0 Q (F0 m 275 ls [])) → W p l e (headSpec wsX10_clear rmX10_clear).room s m ([.ref (G.2.2.1 0)] : List Value).toArray below meth c H locs 0 0 Q (F0 m 183 ls []) := by
        intro n
        induction n with
        | zero =>
          intro x60 m61 y62 m63 H locs ls hf hW hl hE
          cases hf
        | succ n ih =>
          intro x60 m61 y62 m63 H locs ls hf hW hl hE
          rw [f_X10_clear_L183] at hf
          refine lv_iload_n hx hb dX10_clear_183 rfl (lv_at hl 2 rfl) ?_
          refine lv_aload_n hx hb dX10_clear_184 rfl (lv_at hl 0 rfl) ?_
          refine g_geti hC hW (o := 0) (ci := 10) (k := 7) zm_k0 zm_b0 rfl hi10 (by decide) rfl (by decide +kernel) dX10_clear_185 ?_
          refine lv_icmp_ge (tgt := 275) hx hb dX10_clear_188 (by decide) (fun c64 => ?_) (fun c64 => ?_)
          · have hf := a_if_t c64 hf
            cases hf
            exact hE H locs ls hW (lv_sub hl [0, 1] rfl)
          · have hf := a_if_f c64 hf
            refine lv_aload_n hx hb dX10_clear_191 rfl (lv_at hl 0 rfl) ?_
            refine g_getr hC hW (o := 0) (ci := 10) (k := 11) zm_k0 zm_b0 rfl hi10 (by decide) rfl (t := 8) zm_r0_11 (by decide +kernel) dX10_clear_192 ?_
            refine lv_iload_n hx hb dX10_clear_195 rfl (lv_at hl 2 rfl) ?_
            obtain ⟨v65, h9, hf⟩ := ob_inv hf
            refine g_ild hC hW zm_k8 zm_b8 zm_n8 h9 dX10_clear_196 ?_
            refine lv_iconst (v := 1) hx hb dX10_clear_197 (by decide) ?_
            obtain ⟨z67, hg, hf⟩ := ob_inv hf
            have hJ217 : ∀ (H : Heap) (locs : List Loc) (ls : Array Slot), g_H ZM G s H locs m61 → lv_has ls 6 [(0, .ref (G.2.2.1 0)), (1, .int y22), (2, .int x60)] → W p l e (headSpec wsX10_clear rmX10_clear).room s m ([.ref (G.2.2.1 0)] : List Value).toArray below meth c H locs 0 0 Q (F0 m 217 ls [.int z67]) := by
              intro H locs ls hW hl
              refine lv_istore_n (lv' := [(3, .int z67), (0, .ref (G.2.2.1 0)), (1, .int y22), (2, .int x60)]) hx hb dX10_clear_217 rfl hl (by decide) rfl (fun ls hl => ?_)
              refine lv_aload_n hx hb dX10_clear_218 rfl (lv_at hl 1 rfl) ?_
              refine lv_aload_n hx hb dX10_clear_219 rfl (lv_at hl 1 rfl) ?_
              refine g_getr hC hW (o := 0) (ci := 10) (k := 8) zm_k0 zm_b0 rfl hi10 (by decide) rfl (t := 5) zm_r0_8 (by decide +kernel) dX10_clear_220 ?_
              refine lv_iload_n hx hb dX10_clear_223 rfl (lv_at hl 3 rfl) ?_
              obtain ⟨v70, h9, hf⟩ := ob_inv hf
              refine g_ild hC hW zm_k5 zm_b5 zm_n5 h9 dX10_clear_224 ?_
              refine lv_aload_n hx hb dX10_clear_225 rfl (lv_at hl 1 rfl) ?_
              refine g_getr hC hW (o := 0) (ci := 10) (k := 9) zm_k0 zm_b0 rfl hi10 (by decide) rfl (t := 6) zm_r0_9 (by decide +kernel) dX10_clear_226 ?_
              refine lv_iload_n hx hb dX10_clear_229 rfl (lv_at hl 3 rfl) ?_
              obtain ⟨v71, h9, hf⟩ := ob_inv hf
              refine g_ild hC hW zm_k6 zm_b6 zm_n6 h9 dX10_clear_230 ?_
              refine lv_aload_n hx hb dX10_clear_231 rfl (lv_at hl 1 rfl) ?_
              refine g_getr hC hW (o := 0) (ci := 10) (k := 10) zm_k0 zm_b0 rfl hi10 (by decide) rfl (t := 7) zm_r0_10 (by decide +kernel) dX10_clear_232 ?_
              refine lv_iload_n hx hb dX10_clear_235 rfl (lv_at hl 3 rfl) ?_
              obtain ⟨v72, h9, hf⟩ := ob_inv hf
              refine g_ild hC hW zm_k7 zm_b7 zm_n7 h9 dX10_clear_236 ?_
              refine lv_iload_n hx hb dX10_clear_237 rfl (lv_at hl 0 rfl) ?_
              refine lv_aload_n hx hb dX10_clear_238 rfl (lv_at hl 1 rfl) ?_
              refine g_getr hC hW (o := 0) (ci := 10) (k := 48) zm_k0 zm_b0 rfl hi10 (by decide) rfl (t := 41) zm_r0_48 (by decide +kernel) dX10_clear_239 ?_
              refine lv_bipush (v := 12) hx hb dX10_clear_242 (by decide) ?_
              refine lv_aload_n hx hb dX10_clear_244 rfl (lv_at hl 1 rfl) ?_
              refine g_geti hC hW (o := 0) (ci := 10) (k := 0) zm_k0 zm_b0 rfl hi10 (by decide) rfl (by decide +kernel) dX10_clear_245 ?_
              refine lv_imul hx hb dX10_clear_248 ?_
              refine lv_iconst (v := 4) hx hb dX10_clear_249 (by decide) ?_
              refine lv_aload_n hx hb dX10_clear_250 rfl (lv_at hl 1 rfl) ?_
              refine g_getr hC hW (o := 0) (ci := 10) (k := 9) zm_k0 zm_b0 rfl hi10 (by decide) rfl (t := 6) zm_r0_9 (by decide +kernel) dX10_clear_251 ?_
              refine lv_iload_n hx hb dX10_clear_254 rfl (lv_at hl 3 rfl) ?_
              obtain ⟨v73, h9, hf⟩ := ob_inv hf
              refine g_ild hC hW zm_k6 zm_b6 zm_n6 h9 dX10_clear_255 ?_
              refine lv_imul hx hb dX10_clear_256 ?_
              refine lv_iadd hx hb dX10_clear_257 ?_
              refine lv_aload_n hx hb dX10_clear_258 rfl (lv_at hl 1 rfl) ?_
              refine g_getr hC hW (o := 0) (ci := 10) (k := 10) zm_k0 zm_b0 rfl hi10 (by decide) rfl (t := 7) zm_r0_10 (by decide +kernel) dX10_clear_259 ?_
              refine lv_iload_n hx hb dX10_clear_262 rfl (lv_at hl 3 rfl) ?_
              obtain ⟨v74, h9, hf⟩ := ob_inv hf
              refine g_ild hC hW zm_k7 zm_b7 zm_n7 h9 dX10_clear_263 ?_
              refine lv_iadd hx hb dX10_clear_264 ?_
              obtain ⟨v75, h9, hf⟩ := ob_inv hf
              refine g_ild hC hW zm_k41 zm_b41 zm_n41 h9 dX10_clear_265 ?_
              obtain ⟨m76, hg, hf⟩ := ob_inv hf
              refine g_cVv hC hW (o := 0) (ci := 10) (As := [.int v70, .int v71, .int v72, .int z67, .int v75]) (rest := []) zm_k0 zm_b0 rfl (c_X10_trades l G  hg) (cwV 5 hts gX10_clear_X10_trades rfl rfl rfl (by decide +kernel) ⟨Nat.le_of_ble_eq_true rfl, Nat.le_of_ble_eq_true rfl⟩) rfl hl.1 rfl (Nat.le_of_ble_eq_true rfl) dX10_clear_266 ⟨Nat.le_of_ble_eq_true rfl, Nat.le_of_ble_eq_true rfl⟩ (fun H locs hW => ?_)
              refine lv_iinc (v := (x60 + 1)) (lv' := [(2, .int (x60 + 1)), (3, .int z67), (0, .ref (G.2.2.1 0)), (1, .int y22)]) hx hb dX10_clear_269 hl (k := 3) rfl (congrArg (fun z => x60 + z) (by decide)) (by decide) rfl (fun ls hl => ?_)
              refine lv_goto (tgt := 183) hx hb dX10_clear_272 (by decide) ?_
              exact ih _ _ _ _ _ _ _ hf hW (lv_sub hl [2, 3, 0] rfl) hE
            replace hf := hg
            refine lv_icmp_ne (tgt := 211) hx hb dX10_clear_198 (by decide) (fun c66 => ?_) (fun c66 => ?_)
            · have hf := a_if_f c66 hf
              refine lv_aload_n hx hb dX10_clear_211 rfl (lv_at hl 0 rfl) ?_
              refine g_getr hC hW (o := 0) (ci := 10) (k := 14) zm_k0 zm_b0 rfl hi10 (by decide) rfl (t := 11) zm_r0_14 (by decide +kernel) dX10_clear_212 ?_
              refine lv_iload_n hx hb dX10_clear_215 rfl (lv_at hl 2 rfl) ?_
              obtain ⟨v68, h9, hf⟩ := ob_inv hf
              refine g_ild hC hW zm_k11 zm_b11 zm_n11 h9 dX10_clear_216 ?_
              cases hf
              exact hJ217 H locs ls hW (lv_sub hl [0, 1, 2] rfl)
            · have hf := a_if_t c66 hf
              refine lv_aload_n hx hb dX10_clear_201 rfl (lv_at hl 0 rfl) ?_
              refine g_getr hC hW (o := 0) (ci := 10) (k := 14) zm_k0 zm_b0 rfl hi10 (by decide) rfl (t := 11) zm_r0_14 (by decide +kernel) dX10_clear_202 ?_
              refine lv_iload_n hx hb dX10_clear_205 rfl (lv_at hl 2 rfl) ?_
              obtain ⟨v69, h9, hf⟩ := ob_inv hf
              refine g_ild hC hW zm_k11 zm_b11 zm_n11 h9 dX10_clear_206 ?_
              refine lv_ineg hx hb dX10_clear_207 ?_
              refine lv_goto (tgt := 217) hx hb dX10_clear_208 (by decide) ?_
              cases hf
              exact hJ217 H locs ls hW (lv_sub hl [0, 1, 2] rfl)
      obtain ⟨⟨y62, m63⟩, hg, hf⟩ := ob_inv hf
      have hf := ob_inv2 hf
      refine hL183 _ _ _ _ _ _ _ _ hg hW (lv_sub hl [1, 2, 0] rfl) (fun H locs ls hW hl => ?_)
      refine lv_iconst (v := 0) hx hb dX10_clear_275 (by decide) ?_
      refine lv_istore_n (lv' := [(2, .int 0), (0, .ref (G.2.2.1 0)), (1, .int y22)]) hx hb dX10_clear_276 rfl hl (by decide) rfl (fun ls hl => ?_)
      have hL277 : ∀ (n : Nat) (x77 : Int32) (m78 : gM) (y79 : Int32) (m80 : gM) (H : Heap) (locs : List Loc) (ls : Array Slot), f_X10_clear_L277  n x77 m78 = some (y79, m80) → g_H ZM G s H locs m78 → lv_has ls 6 [(0, .ref (G.2.2.1 0)), (1, .int y22), (2, .int x77)] → (∀ (H : Heap) (locs : List Loc) (ls : Array Slot), g_H ZM G s H locs m80 → lv_has ls 6 [(0, .ref (G.2.2.1 0)), (1, .int y22)] → W p l e (headSpec wsX10_clear rmX10_clear).room s m ([.ref (G.2.2.1 0)] : List Value).toArray below meth c H locs 0 0 Q (F0 m 416 ls [])) → W p l e (headSpec wsX10_clear rmX10_clear).room s m ([.ref (G.2.2.1 0)] : List Value).toArray below meth c H locs 0 0 Q (F0 m 277 ls []) := by
        intro n
        induction n with
        | zero =>
          intro x77 m78 y79 m80 H locs ls hf hW hl hE
          cases hf
        | succ n ih =>
          intro x77 m78 y79 m80 H locs ls hf hW hl hE
          rw [f_X10_clear_L277] at hf
          refine lv_iload_n hx hb dX10_clear_277 rfl (lv_at hl 2 rfl) ?_
          refine lv_aload_n hx hb dX10_clear_278 rfl (lv_at hl 0 rfl) ?_
          refine g_geti hC hW (o := 0) (ci := 10) (k := 16) zm_k0 zm_b0 rfl hi10 (by decide) rfl (by decide +kernel) dX10_clear_279 ?_
          refine lv_icmp_ge (tgt := 416) hx hb dX10_clear_282 (by decide) (fun c81 => ?_) (fun c81 => ?_)
          · have hf := a_if_t c81 hf
            cases hf
            exact hE H locs ls hW (lv_sub hl [0, 1] rfl)
          · have hf := a_if_f c81 hf
            refine lv_iconst (v := 0) hx hb dX10_clear_285 (by decide) ?_
            refine lv_istore_n (lv' := [(3, .int 0), (0, .ref (G.2.2.1 0)), (1, .int y22), (2, .int x77)]) hx hb dX10_clear_286 rfl hl (by decide) rfl (fun ls hl => ?_)
            have hL287 : ∀ (n : Nat) (x82 : Int32) (m83 : gM) (y84 : Int32) (m85 : gM) (H : Heap) (locs : List Loc) (ls : Array Slot), f_X10_clear_L287 x77 n x82 m83 = some (y84, m85) → g_H ZM G s H locs m83 → lv_has ls 6 [(0, .ref (G.2.2.1 0)), (1, .int y22), (2, .int x77), (3, .int x82)] → (∀ (H : Heap) (locs : List Loc) (ls : Array Slot), g_H ZM G s H locs m85 → lv_has ls 6 [(0, .ref (G.2.2.1 0)), (1, .int y22), (2, .int x77)] → W p l e (headSpec wsX10_clear rmX10_clear).room s m ([.ref (G.2.2.1 0)] : List Value).toArray below meth c H locs 0 0 Q (F0 m 410 ls [])) → W p l e (headSpec wsX10_clear rmX10_clear).room s m ([.ref (G.2.2.1 0)] : List Value).toArray below meth c H locs 0 0 Q (F0 m 287 ls []) := by
              intro n
              induction n with
              | zero =>
                intro x82 m83 y84 m85 H locs ls hf hW hl hE
                cases hf
              | succ n ih =>
                intro x82 m83 y84 m85 H locs ls hf hW hl hE
                rw [f_X10_clear_L287] at hf
                refine lv_iload_n hx hb dX10_clear_287 rfl (lv_at hl 3 rfl) ?_
                refine lv_iconst (v := 4) hx hb dX10_clear_288 (by decide) ?_
                refine lv_icmp_ge (tgt := 410) hx hb dX10_clear_289 (by decide) (fun c86 => ?_) (fun c86 => ?_)
                · have hf := a_if_t c86 hf
                  cases hf
                  exact hE H locs ls hW (lv_sub hl [0, 1, 2] rfl)
                · have hf := a_if_f c86 hf
                  refine lv_aload_n hx hb dX10_clear_292 rfl (lv_at hl 0 rfl) ?_
                  refine g_geti hC hW (o := 0) (ci := 10) (k := 25) zm_k0 zm_b0 rfl hi10 (by decide) rfl (by decide +kernel) dX10_clear_293 ?_
                  refine lv_iload_n hx hb dX10_clear_296 rfl (lv_at hl 2 rfl) ?_
                  refine lv_ishr hx hb dX10_clear_297 ?_
                  refine lv_iconst (v := 1) hx hb dX10_clear_298 (by decide) ?_
                  refine lv_iand hx hb dX10_clear_299 ?_
                  refine lv_iconst (v := 1) hx hb dX10_clear_300 (by decide) ?_
                  obtain ⟨z88, hg, hf⟩ := ob_inv hf
                  have hJ323 : ∀ (H : Heap) (locs : List Loc) (ls : Array Slot), g_H ZM G s H locs m83 → lv_has ls 6 [(0, .ref (G.2.2.1 0)), (1, .int y22), (2, .int x77), (3, .int x82)] → W p l e (headSpec wsX10_clear rmX10_clear).room s m ([.ref (G.2.2.1 0)] : List Value).toArray below meth c H locs 0 0 Q (F0 m 323 ls [.int z88]) := by
                    intro H locs ls hW hl
                    refine lv_istore (lv' := [(4, .int z88), (0, .ref (G.2.2.1 0)), (1, .int y22), (2, .int x77), (3, .int x82)]) hx hb dX10_clear_323 hl (by decide) rfl (fun ls hl => ?_)
                    refine lv_iload hx hb dX10_clear_325 (lv_at hl 0 rfl) ?_
                    obtain ⟨z92, hg, hf⟩ := ob_inv hf
                    have hJ360 : ∀ (H : Heap) (locs : List Loc) (ls : Array Slot), g_H ZM G s H locs m83 → lv_has ls 6 [(0, .ref (G.2.2.1 0)), (1, .int y22), (2, .int x77), (3, .int x82)] → W p l e (headSpec wsX10_clear rmX10_clear).room s m ([.ref (G.2.2.1 0)] : List Value).toArray below meth c H locs 0 0 Q (F0 m 360 ls [.int z92]) := by
                      intro H locs ls hW hl
                      refine lv_istore (lv' := [(5, .int z92), (0, .ref (G.2.2.1 0)), (1, .int y22), (2, .int x77), (3, .int x82)]) hx hb dX10_clear_360 hl (by decide) rfl (fun ls hl => ?_)
                      refine lv_aload_n hx hb dX10_clear_362 rfl (lv_at hl 1 rfl) ?_
                      refine lv_aload_n hx hb dX10_clear_363 rfl (lv_at hl 1 rfl) ?_
                      refine g_getr hC hW (o := 0) (ci := 10) (k := 17) zm_k0 zm_b0 rfl hi10 (by decide) rfl (t := 13) zm_r0_17 (by decide +kernel) dX10_clear_364 ?_
                      refine lv_iload_n hx hb dX10_clear_367 rfl (lv_at hl 3 rfl) ?_
                      obtain ⟨v97, h9, hf⟩ := ob_inv hf
                      refine g_ild hC hW zm_k13 zm_b13 zm_n13 h9 dX10_clear_368 ?_
                      refine lv_aload_n hx hb dX10_clear_369 rfl (lv_at hl 1 rfl) ?_
                      refine g_getr hC hW (o := 0) (ci := 10) (k := 18) zm_k0 zm_b0 rfl hi10 (by decide) rfl (t := 14) zm_r0_18 (by decide +kernel) dX10_clear_370 ?_
                      refine lv_iload_n hx hb dX10_clear_373 rfl (lv_at hl 3 rfl) ?_
                      obtain ⟨v98, h9, hf⟩ := ob_inv hf
                      refine g_ild hC hW zm_k14 zm_b14 zm_n14 h9 dX10_clear_374 ?_
                      refine lv_iload_n hx hb dX10_clear_375 rfl (lv_at hl 4 rfl) ?_
                      refine lv_iload hx hb dX10_clear_376 (lv_at hl 0 rfl) ?_
                      refine lv_aload_n hx hb dX10_clear_378 rfl (lv_at hl 1 rfl) ?_
                      refine g_getr hC hW (o := 0) (ci := 10) (k := 48) zm_k0 zm_b0 rfl hi10 (by decide) rfl (t := 41) zm_r0_48 (by decide +kernel) dX10_clear_379 ?_
                      refine lv_bipush (v := 12) hx hb dX10_clear_382 (by decide) ?_
                      refine lv_aload_n hx hb dX10_clear_384 rfl (lv_at hl 1 rfl) ?_
                      refine g_geti hC hW (o := 0) (ci := 10) (k := 0) zm_k0 zm_b0 rfl hi10 (by decide) rfl (by decide +kernel) dX10_clear_385 ?_
                      refine lv_imul hx hb dX10_clear_388 ?_
                      refine lv_iconst (v := 4) hx hb dX10_clear_389 (by decide) ?_
                      refine lv_aload_n hx hb dX10_clear_390 rfl (lv_at hl 1 rfl) ?_
                      refine g_getr hC hW (o := 0) (ci := 10) (k := 18) zm_k0 zm_b0 rfl hi10 (by decide) rfl (t := 14) zm_r0_18 (by decide +kernel) dX10_clear_391 ?_
                      refine lv_iload_n hx hb dX10_clear_394 rfl (lv_at hl 3 rfl) ?_
                      obtain ⟨v99, h9, hf⟩ := ob_inv hf
                      refine g_ild hC hW zm_k14 zm_b14 zm_n14 h9 dX10_clear_395 ?_
                      refine lv_imul hx hb dX10_clear_396 ?_
                      refine lv_iadd hx hb dX10_clear_397 ?_
                      refine lv_iload_n hx hb dX10_clear_398 rfl (lv_at hl 4 rfl) ?_
                      refine lv_iadd hx hb dX10_clear_399 ?_
                      obtain ⟨v100, h9, hf⟩ := ob_inv hf
                      refine g_ild hC hW zm_k41 zm_b41 zm_n41 h9 dX10_clear_400 ?_
                      obtain ⟨m101, hg, hf⟩ := ob_inv hf
                      refine g_cVv hC hW (o := 0) (ci := 10) (As := [.int v97, .int v98, .int x82, .int z92, .int v100]) (rest := []) zm_k0 zm_b0 rfl (c_X10_trades l G  hg) (cwV 5 hts gX10_clear_X10_trades rfl rfl rfl (by decide +kernel) ⟨Nat.le_of_ble_eq_true rfl, Nat.le_of_ble_eq_true rfl⟩) rfl hl.1 rfl (Nat.le_of_ble_eq_true rfl) dX10_clear_401 ⟨Nat.le_of_ble_eq_true rfl, Nat.le_of_ble_eq_true rfl⟩ (fun H locs hW => ?_)
                      refine lv_iinc (v := (x82 + 1)) (lv' := [(3, .int (x82 + 1)), (5, .int z92), (0, .ref (G.2.2.1 0)), (1, .int y22), (2, .int x77)]) hx hb dX10_clear_404 hl (k := 4) rfl (congrArg (fun z => x82 + z) (by decide)) (by decide) rfl (fun ls hl => ?_)
                      refine lv_goto (tgt := 287) hx hb dX10_clear_407 (by decide) ?_
                      exact ih _ _ _ _ _ _ _ hf hW (lv_sub hl [2, 3, 4, 0] rfl) hE
                    replace hf := hg
                    refine lv_if_ne (tgt := 334) hx hb dX10_clear_327 (by decide) (fun c91 => ?_) (fun c91 => ?_)
                    · have hf := a_if_f c91 hf
                      refine lv_aload_n hx hb dX10_clear_334 rfl (lv_at hl 1 rfl) ?_
                      refine g_getr hC hW (o := 0) (ci := 10) (k := 20) zm_k0 zm_b0 rfl hi10 (by decide) rfl (t := 16) zm_r0_20 (by decide +kernel) dX10_clear_335 ?_
                      refine lv_iload_n hx hb dX10_clear_338 rfl (lv_at hl 3 rfl) ?_
                      obtain ⟨v93, h9, hf⟩ := ob_inv hf
                      refine g_ild hC hW zm_k16 zm_b16 zm_n16 h9 dX10_clear_339 ?_
                      refine lv_iconst (v := 1) hx hb dX10_clear_340 (by decide) ?_
                      refine lv_icmp_ne (tgt := 354) hx hb dX10_clear_341 (by decide) (fun c94 => ?_) (fun c94 => ?_)
                      · have hf := a_if_f c94 hf
                        refine lv_aload_n hx hb dX10_clear_354 rfl (lv_at hl 1 rfl) ?_
                        refine g_getr hC hW (o := 0) (ci := 10) (k := 22) zm_k0 zm_b0 rfl hi10 (by decide) rfl (t := 18) zm_r0_22 (by decide +kernel) dX10_clear_355 ?_
                        refine lv_iload_n hx hb dX10_clear_358 rfl (lv_at hl 3 rfl) ?_
                        obtain ⟨v95, h9, hf⟩ := ob_inv hf
                        refine g_ild hC hW zm_k18 zm_b18 zm_n18 h9 dX10_clear_359 ?_
                        cases hf
                        exact hJ360 H locs ls hW (lv_sub hl [1, 2, 3, 4] rfl)
                      · have hf := a_if_t c94 hf
                        refine lv_aload_n hx hb dX10_clear_344 rfl (lv_at hl 1 rfl) ?_
                        refine g_getr hC hW (o := 0) (ci := 10) (k := 22) zm_k0 zm_b0 rfl hi10 (by decide) rfl (t := 18) zm_r0_22 (by decide +kernel) dX10_clear_345 ?_
                        refine lv_iload_n hx hb dX10_clear_348 rfl (lv_at hl 3 rfl) ?_
                        obtain ⟨v96, h9, hf⟩ := ob_inv hf
                        refine g_ild hC hW zm_k18 zm_b18 zm_n18 h9 dX10_clear_349 ?_
                        refine lv_ineg hx hb dX10_clear_350 ?_
                        refine lv_goto (tgt := 360) hx hb dX10_clear_351 (by decide) ?_
                        cases hf
                        exact hJ360 H locs ls hW (lv_sub hl [1, 2, 3, 4] rfl)
                    · have hf := a_if_t c91 hf
                      refine lv_iconst (v := 0) hx hb dX10_clear_330 (by decide) ?_
                      refine lv_goto (tgt := 360) hx hb dX10_clear_331 (by decide) ?_
                      cases hf
                      exact hJ360 H locs ls hW (lv_sub hl [1, 2, 3, 4] rfl)
                  replace hf := hg
                  refine lv_icmp_ne (tgt := 322) hx hb dX10_clear_301 (by decide) (fun c87 => ?_) (fun c87 => ?_)
                  · have hf := a_if_f c87 hf
                    refine lv_iconst (v := 0) hx hb dX10_clear_322 (by decide) ?_
                    cases hf
                    exact hJ323 H locs ls hW (lv_sub hl [0, 1, 2, 3] rfl)
                  · have hf := a_if_t c87 hf
                    refine lv_aload_n hx hb dX10_clear_304 rfl (lv_at hl 0 rfl) ?_
                    refine g_getr hC hW (o := 0) (ci := 10) (k := 19) zm_k0 zm_b0 rfl hi10 (by decide) rfl (t := 15) zm_r0_19 (by decide +kernel) dX10_clear_305 ?_
                    refine lv_iload_n hx hb dX10_clear_308 rfl (lv_at hl 2 rfl) ?_
                    obtain ⟨v89, h9, hf⟩ := ob_inv hf
                    refine g_ild hC hW zm_k15 zm_b15 zm_n15 h9 dX10_clear_309 ?_
                    refine lv_iload_n hx hb dX10_clear_310 rfl (lv_at hl 3 rfl) ?_
                    refine lv_ishr hx hb dX10_clear_311 ?_
                    refine lv_iconst (v := 1) hx hb dX10_clear_312 (by decide) ?_
                    refine lv_iand hx hb dX10_clear_313 ?_
                    refine lv_iconst (v := 1) hx hb dX10_clear_314 (by decide) ?_
                    refine lv_icmp_ne (tgt := 322) hx hb dX10_clear_315 (by decide) (fun c90 => ?_) (fun c90 => ?_)
                    · have hf := a_if_f c90 hf
                      refine lv_iconst (v := 0) hx hb dX10_clear_322 (by decide) ?_
                      cases hf
                      exact hJ323 H locs ls hW (lv_sub hl [0, 1, 2, 3] rfl)
                    · have hf := a_if_t c90 hf
                      refine lv_iconst (v := 1) hx hb dX10_clear_318 (by decide) ?_
                      refine lv_goto (tgt := 323) hx hb dX10_clear_319 (by decide) ?_
                      cases hf
                      exact hJ323 H locs ls hW (lv_sub hl [0, 1, 2, 3] rfl)
            obtain ⟨⟨y84, m85⟩, hg, hf⟩ := ob_inv hf
            have hf := ob_inv2 hf
            refine hL287 _ _ _ _ _ _ _ _ hg hW (lv_sub hl [1, 2, 3, 0] rfl) (fun H locs ls hW hl => ?_)
            refine lv_iinc (v := (x77 + 1)) (lv' := [(2, .int (x77 + 1)), (0, .ref (G.2.2.1 0)), (1, .int y22)]) hx hb dX10_clear_410 hl (k := 2) rfl (congrArg (fun z => x77 + z) (by decide)) (by decide) rfl (fun ls hl => ?_)
            refine lv_goto (tgt := 277) hx hb dX10_clear_413 (by decide) ?_
            exact ih _ _ _ _ _ _ _ hf hW (lv_sub hl [1, 2, 0] rfl) hE
      obtain ⟨⟨y79, m80⟩, hg, hf⟩ := ob_inv hf
      have hf := ob_inv2 hf
      refine hL277 _ _ _ _ _ _ _ _ hg hW (lv_sub hl [1, 2, 0] rfl) (fun H locs ls hW hl => ?_)
      refine lv_iconst (v := 0) hx hb dX10_clear_416 (by decide) ?_
      refine lv_istore_n (lv' := [(2, .int 0), (0, .ref (G.2.2.1 0)), (1, .int y22)]) hx hb dX10_clear_417 rfl hl (by decide) rfl (fun ls hl => ?_)
      have hL418 : ∀ (n : Nat) (x103 : Int32) (m104 : gM) (y105 : Int32) (m106 : gM) (H : Heap) (locs : List Loc) (ls : Array Slot), f_X10_clear_L418  n x103 m104 = some (y105, m106) → g_H ZM G s H locs m104 → lv_has ls 6 [(0, .ref (G.2.2.1 0)), (1, .int y22), (2, .int x103)] → (∀ (H : Heap) (locs : List Loc) (ls : Array Slot), g_H ZM G s H locs m106 → lv_has ls 6 [(0, .ref (G.2.2.1 0)), (1, .int y22)] → W p l e (headSpec wsX10_clear rmX10_clear).room s m ([.ref (G.2.2.1 0)] : List Value).toArray below meth c H locs 0 0 Q (F0 m 453 ls [])) → W p l e (headSpec wsX10_clear rmX10_clear).room s m ([.ref (G.2.2.1 0)] : List Value).toArray below meth c H locs 0 0 Q (F0 m 418 ls []) := by
        intro n
        induction n with
        | zero =>
          intro x103 m104 y105 m106 H locs ls hf hW hl hE
          cases hf
        | succ n ih =>
          intro x103 m104 y105 m106 H locs ls hf hW hl hE
          rw [f_X10_clear_L418] at hf
          refine lv_iload_n hx hb dX10_clear_418 rfl (lv_at hl 2 rfl) ?_
          refine lv_iconst (v := 3) hx hb dX10_clear_419 (by decide) ?_
          refine lv_icmp_ge (tgt := 453) hx hb dX10_clear_420 (by decide) (fun c107 => ?_) (fun c107 => ?_)
          · have hf := a_if_t c107 hf
            cases hf
            exact hE H locs ls hW (lv_sub hl [0, 1] rfl)
          · have hf := a_if_f c107 hf
            refine lv_iconst (v := 0) hx hb dX10_clear_423 (by decide) ?_
            refine lv_istore_n (lv' := [(3, .int 0), (0, .ref (G.2.2.1 0)), (1, .int y22), (2, .int x103)]) hx hb dX10_clear_424 rfl hl (by decide) rfl (fun ls hl => ?_)
            have hL425 : ∀ (n : Nat) (x108 : Int32) (m109 : gM) (y110 : Int32) (m111 : gM) (H : Heap) (locs : List Loc) (ls : Array Slot), f_X10_clear_L425 x103 n x108 m109 = some (y110, m111) → g_H ZM G s H locs m109 → lv_has ls 6 [(0, .ref (G.2.2.1 0)), (1, .int y22), (2, .int x103), (3, .int x108)] → (∀ (H : Heap) (locs : List Loc) (ls : Array Slot), g_H ZM G s H locs m111 → lv_has ls 6 [(0, .ref (G.2.2.1 0)), (1, .int y22), (2, .int x103)] → W p l e (headSpec wsX10_clear rmX10_clear).room s m ([.ref (G.2.2.1 0)] : List Value).toArray below meth c H locs 0 0 Q (F0 m 447 ls [])) → W p l e (headSpec wsX10_clear rmX10_clear).room s m ([.ref (G.2.2.1 0)] : List Value).toArray below meth c H locs 0 0 Q (F0 m 425 ls []) := by
              intro n
              induction n with
              | zero =>
                intro x108 m109 y110 m111 H locs ls hf hW hl hE
                cases hf
              | succ n ih =>
                intro x108 m109 y110 m111 H locs ls hf hW hl hE
                rw [f_X10_clear_L425] at hf
                refine lv_iload_n hx hb dX10_clear_425 rfl (lv_at hl 3 rfl) ?_
                refine lv_iconst (v := 3) hx hb dX10_clear_426 (by decide) ?_
                refine lv_icmp_ge (tgt := 447) hx hb dX10_clear_427 (by decide) (fun c112 => ?_) (fun c112 => ?_)
                · have hf := a_if_t c112 hf
                  cases hf
                  exact hE H locs ls hW (lv_sub hl [0, 1, 2] rfl)
                · have hf := a_if_f c112 hf
                  refine lv_iload_n hx hb dX10_clear_430 rfl (lv_at hl 2 rfl) ?_
                  refine lv_iload_n hx hb dX10_clear_431 rfl (lv_at hl 3 rfl) ?_
                  obtain ⟨m114, hg, hf⟩ := ob_inv hf
                  have hJ441 : ∀ (H : Heap) (locs : List Loc) (ls : Array Slot), g_H ZM G s H locs m114 → lv_has ls 6 [(0, .ref (G.2.2.1 0)), (1, .int y22), (2, .int x103), (3, .int x108)] → W p l e (headSpec wsX10_clear rmX10_clear).room s m ([.ref (G.2.2.1 0)] : List Value).toArray below meth c H locs 0 0 Q (F0 m 441 ls []) := by
                    intro H locs ls hW hl
                    refine lv_iinc (v := (x108 + 1)) (lv' := [(3, .int (x108 + 1)), (0, .ref (G.2.2.1 0)), (1, .int y22), (2, .int x103)]) hx hb dX10_clear_441 hl (k := 3) rfl (congrArg (fun z => x108 + z) (by decide)) (by decide) rfl (fun ls hl => ?_)
                    refine lv_goto (tgt := 425) hx hb dX10_clear_444 (by decide) ?_
                    exact ih _ _ _ _ _ _ _ hf hW (lv_sub hl [1, 2, 3, 0] rfl) hE
                  replace hf := hg
                  refine lv_icmp_eq (tgt := 441) hx hb dX10_clear_432 (by decide) (fun c113 => ?_) (fun c113 => ?_)
                  · have hf := a_if_t c113 hf
                    cases hf
                    exact hJ441 H locs ls hW (lv_sub hl [0, 1, 2, 3] rfl)
                  · have hf := a_if_f c113 hf
                    refine lv_aload_n hx hb dX10_clear_435 rfl (lv_at hl 0 rfl) ?_
                    refine lv_iload_n hx hb dX10_clear_436 rfl (lv_at hl 2 rfl) ?_
                    refine lv_iload_n hx hb dX10_clear_437 rfl (lv_at hl 3 rfl) ?_
                    obtain ⟨m115, hg, hf⟩ := ob_inv hf
                    refine g_cVv hC hW (o := 0) (ci := 10) (As := [.int x103, .int x108]) (rest := []) zm_k0 zm_b0 rfl (c_X10_givesRights l G  hg) (cwV 2 hts gX10_clear_X10_givesRights rfl rfl rfl (by decide +kernel) ⟨Nat.le_of_ble_eq_true rfl, Nat.le_of_ble_eq_true rfl⟩) rfl hl.1 rfl (Nat.le_of_ble_eq_true rfl) dX10_clear_438 ⟨Nat.le_of_ble_eq_true rfl, Nat.le_of_ble_eq_true rfl⟩ (fun H locs hW => ?_)
                    cases hf
                    exact hJ441 H locs ls hW (lv_sub hl [0, 1, 2, 3] rfl)
            obtain ⟨⟨y110, m111⟩, hg, hf⟩ := ob_inv hf
            have hf := ob_inv2 hf
            refine hL425 _ _ _ _ _ _ _ _ hg hW (lv_sub hl [1, 2, 3, 0] rfl) (fun H locs ls hW hl => ?_)
            refine lv_iinc (v := (x103 + 1)) (lv' := [(2, .int (x103 + 1)), (0, .ref (G.2.2.1 0)), (1, .int y22)]) hx hb dX10_clear_447 hl (k := 2) rfl (congrArg (fun z => x103 + z) (by decide)) (by decide) rfl (fun ls hl => ?_)
            refine lv_goto (tgt := 418) hx hb dX10_clear_450 (by decide) ?_
            exact ih _ _ _ _ _ _ _ hf hW (lv_sub hl [1, 2, 0] rfl) hE
      obtain ⟨⟨y105, m106⟩, hg, hf⟩ := ob_inv hf
      have hf := ob_inv2 hf
      refine hL418 _ _ _ _ _ _ _ _ hg hW (lv_sub hl [1, 2, 0] rfl) (fun H locs ls hW hl => ?_)
      refine lv_aload_n hx hb dX10_clear_453 rfl (lv_at hl 0 rfl) ?_
      refine lv_iconst (v := 1) hx hb dX10_clear_454 (by decide) ?_
      obtain ⟨m117, h9, hf⟩ := ob_inv hf
      refine g_puti hC hW (o := 0) (ci := 10) (k := 1) zm_k0 zm_b0 rfl hi10 tyX10_ok nmX10 (by decide) rfl rfl rfl (by decide +kernel) dX10_clear_455 (fun H locs hW => ?_)
      rw [Option.some.inj h9] at hW
      refine lv_iload_n hx hb dX10_clear_458 rfl (lv_at hl 1 rfl) ?_
      cases hf
      subst hQ
      exact g_iret hC hW hr hlocks rfl rfl dX10_clear_459
    · have hf := a_if_f c4 hf
      refine lv_iconst (v := 0) hx hb dX10_clear_24 (by decide) ?_
      cases hf
      subst hQ
      exact g_iret hC hW hr hlocks rfl rfl dX10_clear_25
  replace hf := hg
  refine lv_icmp_ne (tgt := 13) hx hb dX10_clear_6 (by decide) (fun c1 => ?_) (fun c1 => ?_)
  · have hf := a_if_f c1 hf
    refine lv_iconst (v := 0) hx hb dX10_clear_13 (by decide) ?_
    cases hf
    exact hJ14 H locs ls hW (lv_sub hl [0] rfl)
  · have hf := a_if_t c1 hf
    refine lv_iconst (v := 1) hx hb dX10_clear_9 (by decide) ?_
    refine lv_goto (tgt := 14) hx hb dX10_clear_10 (by decide) ?_
    cases hf
    exact hJ14 H locs ls hW (lv_sub hl [0] rfl)
abbrev rmX10_room : Room := { frames := 2, cells := 0, slots := 0, locals := 43 }
set_option maxHeartbeats 4000000 in
set_option maxRecDepth 100000 in
theorem c_X10_room (l : Launch) (G : gG) {p1 : Int32} {p2 : Int32} {p3 : Int32} {p4 : Int32} {me : gM} {r0 : Int32} {m0 : gM}  (hf : f_X10_room p1 p2 p3 p4 me = some (r0, m0)) : Met l yX10_room wsX10_room rmX10_room (va_Pc [.ref (G.2.2.1 0), .int p1, .int p2, .int p3, .int p4] (g_W ZM G me)) (g_Qi ZM G r0 m0) 0 0 (g_A ZM G) := by
  refine Met.ofW (cc := cX10_room) (maxL := 7) (ret := (some .int)) (by decide) rfl ?_
  intro p e s m args below meth c s₁ B hml hv
  obtain ⟨rfl, hW0⟩ := hv
  have hC : CallFix p m c cX10_room 7 s ([.ref (G.2.2.1 0), .int p1, .int p2, .int p3, .int p4] : List Value).toArray wsX10_room RX10 := ⟨B.exec, B.bytes, hml, findClass_of_methodNamed B.named, atoms_spec (ws := wsX10_room) B.pre⟩
  have hx := hC.1
  have hb := hC.2.1
  have hown := hC.2.2.2.1
  have hts := hC.2.2.2.2
  have hr := B.returns
  have hlocks := B.notSynchronized
  have hW := g_H_enter hW0
  have hi10 : ∀ w ∈ wsX100, w ∈ wsX10_room := by decide +kernel
  have hl := lv_entry ([.ref (G.2.2.1 0), .int p1, .int p2, .int p3, .int p4]) (n := 7) (Nat.le_of_ble_eq_true rfl)
  rw [lg_entry_eq]
  generalize (lg_sl ([.ref (G.2.2.1 0), .int p1, .int p2, .int p3, .int p4]) ++ List.replicate (7 - (lg_sl ([.ref (G.2.2.1 0), .int p1, .int p2, .int p3, .int p4])).length) Slot.unset).toArray = ls at hl ⊢
  have hl : lv_has ls 7 [(0, .ref (G.2.2.1 0)), (1, .int p1), (2, .int p2), (3, .int p3), (4, .int p4)] := hl
  obtain ⟨Q, hQ⟩ : ∃ Q, Q = MQ below (g_Qi ZM G r0 m0) ([.ref (G.2.2.1 0), .int p1, .int p2, .int p3, .int p4] : List Value).toArray s 0 0 (g_A ZM G) := ⟨_, rfl⟩
  refine g_goQ hQ ?_
  unfold f_X10_room at hf
  refine g_start hW (fun H locs hW => ?_)
  refine lv_iload_n hx hb dX10_room_0 rfl (lv_at hl 1 rfl) ?_
  refine lv_iload_n hx hb dX10_room_1 rfl (lv_at hl 2 rfl) ?_
  refine lv_icmp_ne (tgt := 8) hx hb dX10_room_2 (by decide) (fun c1 => ?_) (fun c1 => ?_)
  · have hf := a_if_f c1 hf
    refine lv_iconst (v := 0) hx hb dX10_room_8 (by decide) ?_
    refine lv_istore (lv' := [(5, .int 0), (0, .ref (G.2.2.1 0)), (1, .int p1), (2, .int p2), (3, .int p3), (4, .int p4)]) hx hb dX10_room_9 hl (by decide) rfl (fun ls hl => ?_)
    refine lv_iconst (v := 1) hx hb dX10_room_11 (by decide) ?_
    refine lv_istore (lv' := [(6, .int 1), (5, .int 0), (0, .ref (G.2.2.1 0)), (1, .int p1), (2, .int p2), (3, .int p3), (4, .int p4)]) hx hb dX10_room_12 hl (by decide) rfl (fun ls hl => ?_)
    have hL14 : ∀ (n : Nat) (x2 : Int32) (x3 : Int32) (m4 : gM) (y5 : Int32) (y6 : Int32) (m7 : gM) (H : Heap) (locs : List Loc) (ls : Array Slot), f_X10_room_L14 p1 p2 p3 p4 n x2 x3 m4 = some (y5, y6, m7) → g_H ZM G s H locs m4 → lv_has ls 7 [(0, .ref (G.2.2.1 0)), (1, .int p1), (2, .int p2), (3, .int p3), (4, .int p4), (5, .int x2), (6, .int x3)] → (∀ (H : Heap) (locs : List Loc) (ls : Array Slot), g_H ZM G s H locs m7 → lv_has ls 7 [(0, .ref (G.2.2.1 0)), (1, .int p1), (2, .int p2), (3, .int p3), (5, .int y5)] → W p l e (headSpec wsX10_room rmX10_room).room s m ([.ref (G.2.2.1 0), .int p1, .int p2, .int p3, .int p4] : List Value).toArray below meth c H locs 0 0 Q (F0 m 147 ls [])) → W p l e (headSpec wsX10_room rmX10_room).room s m ([.ref (G.2.2.1 0), .int p1, .int p2, .int p3, .int p4] : List Value).toArray below meth c H locs 0 0 Q (F0 m 14 ls []) := by
      intro n
      induction n with
      | zero =>
        intro x2 x3 m4 y5 y6 m7 H locs ls hf hW hl hE
        cases hf
      | succ n ih =>
        intro x2 x3 m4 y5 y6 m7 H locs ls hf hW hl hE
        rw [f_X10_room_L14] at hf
        refine lv_iload hx hb dX10_room_14 (lv_at hl 6 rfl) ?_
        refine lv_if_eq (tgt := 147) hx hb dX10_room_16 (by decide) (fun c8 => ?_) (fun c8 => ?_)
        · have hf := a_if_t c8 hf
          cases hf
          exact hE H locs ls hW (lv_sub hl [0, 1, 2, 3, 5] rfl)
        · have hf := a_if_f c8 hf
          refine lv_iload hx hb dX10_room_19 (lv_at hl 5 rfl) ?_
          refine lv_iload hx hb dX10_room_21 (lv_at hl 4 rfl) ?_
          refine lv_icmp_ge (tgt := 147) hx hb dX10_room_23 (by decide) (fun c9 => ?_) (fun c9 => ?_)
          · have hf := a_if_t c9 hf
            cases hf
            exact hE H locs ls hW (lv_sub hl [0, 1, 2, 3, 5] rfl)
          · have hf := a_if_f c9 hf
            refine lv_aload_n hx hb dX10_room_26 rfl (lv_at hl 0 rfl) ?_
            refine g_getr hC hW (o := 0) (ci := 10) (k := 55) zm_k0 zm_b0 rfl hi10 (by decide) rfl (t := 48) zm_r0_55 (by decide +kernel) dX10_room_27 ?_
            refine lv_iconst (v := 4) hx hb dX10_room_30 (by decide) ?_
            refine lv_iload_n hx hb dX10_room_31 rfl (lv_at hl 1 rfl) ?_
            refine lv_imul hx hb dX10_room_32 ?_
            refine lv_iload_n hx hb dX10_room_33 rfl (lv_at hl 3 rfl) ?_
            refine lv_iadd hx hb dX10_room_34 ?_
            refine lv_dup2_11 hx hb dX10_room_35 rfl rfl ?_
            obtain ⟨v10, h9, hf⟩ := ob_inv hf
            refine g_ild hC hW zm_k48 zm_b48 zm_n48 h9 dX10_room_36 ?_
            refine lv_iconst (v := 1) hx hb dX10_room_37 (by decide) ?_
            refine lv_iadd hx hb dX10_room_38 ?_
            obtain ⟨m11, h9, hf⟩ := ob_inv hf
            refine g_ist hC hW zm_k48 zm_b48 zm_n48 h9 dX10_room_39 (fun H locs hW => ?_)
            refine lv_aload_n hx hb dX10_room_40 rfl (lv_at hl 0 rfl) ?_
            refine g_getr hC hW (o := 0) (ci := 10) (k := 55) zm_k0 zm_b0 rfl hi10 (by decide) rfl (t := 48) zm_r0_55 (by decide +kernel) dX10_room_41 ?_
            refine lv_iconst (v := 4) hx hb dX10_room_44 (by decide) ?_
            refine lv_iload_n hx hb dX10_room_45 rfl (lv_at hl 2 rfl) ?_
            refine lv_imul hx hb dX10_room_46 ?_
            refine lv_iload_n hx hb dX10_room_47 rfl (lv_at hl 3 rfl) ?_
            refine lv_iadd hx hb dX10_room_48 ?_
            refine lv_dup2_11 hx hb dX10_room_49 rfl rfl ?_
            obtain ⟨v12, h9, hf⟩ := ob_inv hf
            refine g_ild hC hW zm_k48 zm_b48 zm_n48 h9 dX10_room_50 ?_
            refine lv_iconst (v := 1) hx hb dX10_room_51 (by decide) ?_
            refine lv_isub hx hb dX10_room_52 ?_
            obtain ⟨m13, h9, hf⟩ := ob_inv hf
            refine g_ist hC hW zm_k48 zm_b48 zm_n48 h9 dX10_room_53 (fun H locs hW => ?_)
            refine lv_aload_n hx hb dX10_room_54 rfl (lv_at hl 0 rfl) ?_
            refine lv_aload_n hx hb dX10_room_55 rfl (lv_at hl 0 rfl) ?_
            refine g_getr hC hW (o := 0) (ci := 10) (k := 55) zm_k0 zm_b0 rfl hi10 (by decide) rfl (t := 48) zm_r0_55 (by decide +kernel) dX10_room_56 ?_
            refine lv_iload_n hx hb dX10_room_59 rfl (lv_at hl 3 rfl) ?_
            obtain ⟨v14, h9, hf⟩ := ob_inv hf
            refine g_ild hC hW zm_k48 zm_b48 zm_n48 h9 dX10_room_60 ?_
            refine lv_aload_n hx hb dX10_room_61 rfl (lv_at hl 0 rfl) ?_
            refine g_getr hC hW (o := 0) (ci := 10) (k := 55) zm_k0 zm_b0 rfl hi10 (by decide) rfl (t := 48) zm_r0_55 (by decide +kernel) dX10_room_62 ?_
            refine lv_iconst (v := 4) hx hb dX10_room_65 (by decide) ?_
            refine lv_iload_n hx hb dX10_room_66 rfl (lv_at hl 3 rfl) ?_
            refine lv_iadd hx hb dX10_room_67 ?_
            obtain ⟨v15, h9, hf⟩ := ob_inv hf
            refine g_ild hC hW zm_k48 zm_b48 zm_n48 h9 dX10_room_68 ?_
            refine lv_aload_n hx hb dX10_room_69 rfl (lv_at hl 0 rfl) ?_
            refine g_getr hC hW (o := 0) (ci := 10) (k := 55) zm_k0 zm_b0 rfl hi10 (by decide) rfl (t := 48) zm_r0_55 (by decide +kernel) dX10_room_70 ?_
            refine lv_bipush (v := 8) hx hb dX10_room_73 (by decide) ?_
            refine lv_iload_n hx hb dX10_room_75 rfl (lv_at hl 3 rfl) ?_
            refine lv_iadd hx hb dX10_room_76 ?_
            obtain ⟨v16, h9, hf⟩ := ob_inv hf
            refine g_ild hC hW zm_k48 zm_b48 zm_n48 h9 dX10_room_77 ?_
            obtain ⟨r17, hg, hf⟩ := ob_inv hf
            refine g_cVi hC hW (o := 0) (ci := 10) (As := [.int v14, .int v15, .int v16]) (rest := []) zm_k0 zm_b0 rfl (c_X10_fits l G  hg) (cwV 3 hts gX10_room_X10_fits rfl rfl rfl (by decide +kernel) ⟨Nat.le_of_ble_eq_true rfl, Nat.le_of_ble_eq_true rfl⟩) rfl hl.1 rfl (Nat.le_of_ble_eq_true rfl) dX10_room_78 ⟨Nat.le_of_ble_eq_true rfl, Nat.le_of_ble_eq_true rfl⟩ (fun H locs hW => ?_)
            refine lv_istore (lv' := [(6, .int r17), (0, .ref (G.2.2.1 0)), (1, .int p1), (2, .int p2), (3, .int p3), (4, .int p4), (5, .int x2)]) hx hb dX10_room_81 hl (by decide) rfl (fun ls hl => ?_)
            refine lv_iload hx hb dX10_room_83 (lv_at hl 6 rfl) ?_
            refine lv_iload hx hb dX10_room_85 (lv_at hl 0 rfl) ?_
            obtain ⟨z19, hg, hf⟩ := ob_inv hf
            have hJ95 : ∀ (H : Heap) (locs : List Loc) (ls : Array Slot), g_H ZM G s H locs m13 → lv_has ls 7 [(0, .ref (G.2.2.1 0)), (1, .int p1), (2, .int p2), (3, .int p3), (4, .int p4), (6, .int r17)] → W p l e (headSpec wsX10_room rmX10_room).room s m ([.ref (G.2.2.1 0), .int p1, .int p2, .int p3, .int p4] : List Value).toArray below meth c H locs 0 0 Q (F0 m 95 ls [.int z19, .int x2]) := by
              intro H locs ls hW hl
              refine lv_iadd hx hb dX10_room_95 ?_
              obtain ⟨x20, h9, hf⟩ := ob_inv hf
              refine g_nmi (Option.some.inj h9) ?_
              refine lv_istore (lv' := [(5, .int x20), (0, .ref (G.2.2.1 0)), (1, .int p1), (2, .int p2), (3, .int p3), (4, .int p4), (6, .int r17)]) hx hb dX10_room_96 hl (by decide) rfl (fun ls hl => ?_)
              refine lv_aload_n hx hb dX10_room_98 rfl (lv_at hl 1 rfl) ?_
              refine g_getr hC hW (o := 0) (ci := 10) (k := 55) zm_k0 zm_b0 rfl hi10 (by decide) rfl (t := 48) zm_r0_55 (by decide +kernel) dX10_room_99 ?_
              refine lv_iconst (v := 4) hx hb dX10_room_102 (by decide) ?_
              refine lv_iload_n hx hb dX10_room_103 rfl (lv_at hl 2 rfl) ?_
              refine lv_imul hx hb dX10_room_104 ?_
              refine lv_iload_n hx hb dX10_room_105 rfl (lv_at hl 4 rfl) ?_
              refine lv_iadd hx hb dX10_room_106 ?_
              refine lv_dup2_11 hx hb dX10_room_107 rfl rfl ?_
              obtain ⟨v21, h9, hf⟩ := ob_inv hf
              refine g_ild hC hW zm_k48 zm_b48 zm_n48 h9 dX10_room_108 ?_
              refine lv_iload hx hb dX10_room_109 (lv_at hl 6 rfl) ?_
              obtain ⟨z23, hg, hf⟩ := ob_inv hf
              have hJ119 : ∀ (H : Heap) (locs : List Loc) (ls : Array Slot), g_H ZM G s H locs m13 → lv_has ls 7 [(0, .ref (G.2.2.1 0)), (1, .int p1), (2, .int p2), (3, .int p3), (4, .int p4), (5, .int x20), (6, .int r17)] → W p l e (headSpec wsX10_room rmX10_room).room s m ([.ref (G.2.2.1 0), .int p1, .int p2, .int p3, .int p4] : List Value).toArray below meth c H locs 0 0 Q (F0 m 119 ls [.int z23, .int v21, .int ((4 * p1) + p3), .ref (G.2.2.1 48)]) := by
                intro H locs ls hW hl
                refine lv_isub hx hb dX10_room_119 ?_
                obtain ⟨m24, h9, hf⟩ := ob_inv hf
                refine g_ist hC hW zm_k48 zm_b48 zm_n48 h9 dX10_room_120 (fun H locs hW => ?_)
                refine lv_aload_n hx hb dX10_room_121 rfl (lv_at hl 0 rfl) ?_
                refine g_getr hC hW (o := 0) (ci := 10) (k := 55) zm_k0 zm_b0 rfl hi10 (by decide) rfl (t := 48) zm_r0_55 (by decide +kernel) dX10_room_122 ?_
                refine lv_iconst (v := 4) hx hb dX10_room_125 (by decide) ?_
                refine lv_iload_n hx hb dX10_room_126 rfl (lv_at hl 2 rfl) ?_
                refine lv_imul hx hb dX10_room_127 ?_
                refine lv_iload_n hx hb dX10_room_128 rfl (lv_at hl 3 rfl) ?_
                refine lv_iadd hx hb dX10_room_129 ?_
                refine lv_dup2_11 hx hb dX10_room_130 rfl rfl ?_
                obtain ⟨v25, h9, hf⟩ := ob_inv hf
                refine g_ild hC hW zm_k48 zm_b48 zm_n48 h9 dX10_room_131 ?_
                refine lv_iload hx hb dX10_room_132 (lv_at hl 6 rfl) ?_
                obtain ⟨z27, hg, hf⟩ := ob_inv hf
                have hJ142 : ∀ (H : Heap) (locs : List Loc) (ls : Array Slot), g_H ZM G s H locs m24 → lv_has ls 7 [(0, .ref (G.2.2.1 0)), (1, .int p1), (2, .int p2), (3, .int p3), (4, .int p4), (5, .int x20), (6, .int r17)] → W p l e (headSpec wsX10_room rmX10_room).room s m ([.ref (G.2.2.1 0), .int p1, .int p2, .int p3, .int p4] : List Value).toArray below meth c H locs 0 0 Q (F0 m 142 ls [.int z27, .int v25, .int ((4 * p2) + p3), .ref (G.2.2.1 48)]) := by
                  intro H locs ls hW hl
                  refine lv_iadd hx hb dX10_room_142 ?_
                  obtain ⟨m28, h9, hf⟩ := ob_inv hf
                  refine g_ist hC hW zm_k48 zm_b48 zm_n48 h9 dX10_room_143 (fun H locs hW => ?_)
                  refine lv_goto (tgt := 14) hx hb dX10_room_144 (by decide) ?_
                  exact ih _ _ _ _ _ _ _ _ _ hf hW (lv_sub hl [0, 1, 2, 3, 4, 5, 6] rfl) hE
                replace hf := hg
                refine lv_if_eq (tgt := 141) hx hb dX10_room_134 (by decide) (fun c26 => ?_) (fun c26 => ?_)
                · have hf := a_if_t c26 hf
                  refine lv_iconst (v := 1) hx hb dX10_room_141 (by decide) ?_
                  cases hf
                  exact hJ142 H locs ls hW (lv_sub hl [0, 1, 2, 3, 4, 5, 6] rfl)
                · have hf := a_if_f c26 hf
                  refine lv_iconst (v := 0) hx hb dX10_room_137 (by decide) ?_
                  refine lv_goto (tgt := 142) hx hb dX10_room_138 (by decide) ?_
                  cases hf
                  exact hJ142 H locs ls hW (lv_sub hl [0, 1, 2, 3, 4, 5, 6] rfl)
              replace hf := hg
              refine lv_if_eq (tgt := 118) hx hb dX10_room_111 (by decide) (fun c22 => ?_) (fun c22 => ?_)
              · have hf := a_if_t c22 hf
                refine lv_iconst (v := 1) hx hb dX10_room_118 (by decide) ?_
                cases hf
                exact hJ119 H locs ls hW (lv_sub hl [1, 2, 3, 4, 5, 0, 6] rfl)
              · have hf := a_if_f c22 hf
                refine lv_iconst (v := 0) hx hb dX10_room_114 (by decide) ?_
                refine lv_goto (tgt := 119) hx hb dX10_room_115 (by decide) ?_
                cases hf
                exact hJ119 H locs ls hW (lv_sub hl [1, 2, 3, 4, 5, 0, 6] rfl)
            replace hf := hg
            refine lv_if_eq (tgt := 94) hx hb dX10_room_87 (by decide) (fun c18 => ?_) (fun c18 => ?_)
            · have hf := a_if_t c18 hf
              refine lv_iconst (v := 0) hx hb dX10_room_94 (by decide) ?_
              cases hf
              exact hJ95 H locs ls hW (lv_sub hl [1, 2, 3, 4, 5, 0] rfl)
            · have hf := a_if_f c18 hf
              refine lv_iconst (v := 1) hx hb dX10_room_90 (by decide) ?_
              refine lv_goto (tgt := 95) hx hb dX10_room_91 (by decide) ?_
              cases hf
              exact hJ95 H locs ls hW (lv_sub hl [1, 2, 3, 4, 5, 0] rfl)
    obtain ⟨⟨y5, y6, m7⟩, hg, hf⟩ := ob_inv hf
    have hf := ob_inv3 hf
    refine hL14 _ _ _ _ _ _ _ _ _ _ hg hW (lv_sub hl [2, 3, 4, 5, 6, 1, 0] rfl) (fun H locs ls hW hl => ?_)
    refine lv_aload_n hx hb dX10_room_147 rfl (lv_at hl 0 rfl) ?_
    refine g_getr hC hW (o := 0) (ci := 10) (k := 55) zm_k0 zm_b0 rfl hi10 (by decide) rfl (t := 48) zm_r0_55 (by decide +kernel) dX10_room_148 ?_
    refine lv_iconst (v := 4) hx hb dX10_room_151 (by decide) ?_
    refine lv_iload_n hx hb dX10_room_152 rfl (lv_at hl 1 rfl) ?_
    refine lv_imul hx hb dX10_room_153 ?_
    refine lv_iload_n hx hb dX10_room_154 rfl (lv_at hl 3 rfl) ?_
    refine lv_iadd hx hb dX10_room_155 ?_
    refine lv_dup2_11 hx hb dX10_room_156 rfl rfl ?_
    obtain ⟨v29, h9, hf⟩ := ob_inv hf
    refine g_ild hC hW zm_k48 zm_b48 zm_n48 h9 dX10_room_157 ?_
    refine lv_iload hx hb dX10_room_158 (lv_at hl 4 rfl) ?_
    refine lv_isub hx hb dX10_room_160 ?_
    obtain ⟨m30, h9, hf⟩ := ob_inv hf
    refine g_ist hC hW zm_k48 zm_b48 zm_n48 h9 dX10_room_161 (fun H locs hW => ?_)
    refine lv_aload_n hx hb dX10_room_162 rfl (lv_at hl 0 rfl) ?_
    refine g_getr hC hW (o := 0) (ci := 10) (k := 55) zm_k0 zm_b0 rfl hi10 (by decide) rfl (t := 48) zm_r0_55 (by decide +kernel) dX10_room_163 ?_
    refine lv_iconst (v := 4) hx hb dX10_room_166 (by decide) ?_
    refine lv_iload_n hx hb dX10_room_167 rfl (lv_at hl 2 rfl) ?_
    refine lv_imul hx hb dX10_room_168 ?_
    refine lv_iload_n hx hb dX10_room_169 rfl (lv_at hl 3 rfl) ?_
    refine lv_iadd hx hb dX10_room_170 ?_
    refine lv_dup2_11 hx hb dX10_room_171 rfl rfl ?_
    obtain ⟨v31, h9, hf⟩ := ob_inv hf
    refine g_ild hC hW zm_k48 zm_b48 zm_n48 h9 dX10_room_172 ?_
    refine lv_iload hx hb dX10_room_173 (lv_at hl 4 rfl) ?_
    refine lv_iadd hx hb dX10_room_175 ?_
    obtain ⟨m32, h9, hf⟩ := ob_inv hf
    refine g_ist hC hW zm_k48 zm_b48 zm_n48 h9 dX10_room_176 (fun H locs hW => ?_)
    refine lv_iload hx hb dX10_room_177 (lv_at hl 4 rfl) ?_
    cases hf
    subst hQ
    exact g_iret hC hW hr hlocks rfl rfl dX10_room_179
  · have hf := a_if_t c1 hf
    refine lv_iload hx hb dX10_room_5 (lv_at hl 4 rfl) ?_
    cases hf
    subst hQ
    exact g_iret hC hW hr hlocks rfl rfl dX10_room_7
abbrev rmX10_restFor : Room := { frames := 0, cells := 0, slots := 0, locals := 0 }
set_option maxHeartbeats 4000000 in
set_option maxRecDepth 100000 in
theorem c_X10_restFor (l : Launch) (G : gG) {p1 : Int32} {me : gM} {r0 : Int32}  (hf : f_X10_restFor p1 me = some r0) : Met l yX10_restFor wsX10_restFor rmX10_restFor (va_Pc [.ref (G.2.2.1 0), .int p1] (g_W ZM G me)) (g_Qi ZM G r0 me) 0 0 (g_A ZM G) := by
  refine Met.ofW (cc := cX10_restFor) (maxL := 6) (ret := (some .int)) (by decide) rfl ?_
  intro p e s m args below meth c s₁ B hml hv
  obtain ⟨rfl, hW0⟩ := hv
  have hC : CallFix p m c cX10_restFor 6 s ([.ref (G.2.2.1 0), .int p1] : List Value).toArray wsX10_restFor RX10 := ⟨B.exec, B.bytes, hml, findClass_of_methodNamed B.named, atoms_spec (ws := wsX10_restFor) B.pre⟩
  have hx := hC.1
  have hb := hC.2.1
  have hown := hC.2.2.2.1
  have hts := hC.2.2.2.2
  have hr := B.returns
  have hlocks := B.notSynchronized
  have hW := g_H_enter hW0
  have hi10 : ∀ w ∈ wsX100, w ∈ wsX10_restFor := by decide +kernel
  have hl := lv_entry ([.ref (G.2.2.1 0), .int p1]) (n := 6) (Nat.le_of_ble_eq_true rfl)
  rw [lg_entry_eq]
  generalize (lg_sl ([.ref (G.2.2.1 0), .int p1]) ++ List.replicate (6 - (lg_sl ([.ref (G.2.2.1 0), .int p1])).length) Slot.unset).toArray = ls at hl ⊢
  have hl : lv_has ls 6 [(0, .ref (G.2.2.1 0)), (1, .int p1)] := hl
  obtain ⟨Q, hQ⟩ : ∃ Q, Q = MQ below (g_Qi ZM G r0 me) ([.ref (G.2.2.1 0), .int p1] : List Value).toArray s 0 0 (g_A ZM G) := ⟨_, rfl⟩
  refine g_goQ hQ ?_
  unfold f_X10_restFor at hf
  refine g_start hW (fun H locs hW => ?_)
  refine lv_iconst (v := (-1)) hx hb dX10_restFor_0 (by decide) ?_
  refine lv_istore_n (lv' := [(2, .int (-1)), (0, .ref (G.2.2.1 0)), (1, .int p1)]) hx hb dX10_restFor_1 rfl hl (by decide) rfl (fun ls hl => ?_)
  refine lv_iconst (v := 0) hx hb dX10_restFor_2 (by decide) ?_
  refine lv_istore_n (lv' := [(3, .int 0), (2, .int (-1)), (0, .ref (G.2.2.1 0)), (1, .int p1)]) hx hb dX10_restFor_3 rfl hl (by decide) rfl (fun ls hl => ?_)
  have hL4 : ∀ (n : Nat) (x1 : Int32) (x2 : Int32) (y3 : Int32) (y4 : Int32) (H : Heap) (locs : List Loc) (ls : Array Slot), f_X10_restFor_L4 me p1 n x1 x2 = some (y3, y4) → g_H ZM G s H locs me → lv_has ls 6 [(0, .ref (G.2.2.1 0)), (1, .int p1), (2, .int x1), (3, .int x2)] → (∀ (H : Heap) (locs : List Loc) (ls : Array Slot), g_H ZM G s H locs me → lv_has ls 6 [(2, .int y3)] → W p l e (headSpec wsX10_restFor rmX10_restFor).room s m ([.ref (G.2.2.1 0), .int p1] : List Value).toArray below meth c H locs 0 0 Q (F0 m 196 ls [])) → W p l e (headSpec wsX10_restFor rmX10_restFor).room s m ([.ref (G.2.2.1 0), .int p1] : List Value).toArray below meth c H locs 0 0 Q (F0 m 4 ls []) := by
    intro n
    induction n with
    | zero =>
      intro x1 x2 y3 y4 H locs ls hf hW hl hE
      cases hf
    | succ n ih =>
      intro x1 x2 y3 y4 H locs ls hf hW hl hE
      rw [f_X10_restFor_L4] at hf
      refine lv_iload_n hx hb dX10_restFor_4 rfl (lv_at hl 3 rfl) ?_
      refine lv_iload_n hx hb dX10_restFor_5 rfl (lv_at hl 1 rfl) ?_
      refine lv_icmp_ge (tgt := 196) hx hb dX10_restFor_6 (by decide) (fun c5 => ?_) (fun c5 => ?_)
      · have hf := a_if_t c5 hf
        cases hf
        exact hE H locs ls hW (lv_sub hl [2] rfl)
      · have hf := a_if_f c5 hf
        refine lv_aload_n hx hb dX10_restFor_9 rfl (lv_at hl 0 rfl) ?_
        refine g_getr hC hW (o := 0) (ci := 10) (k := 40) zm_k0 zm_b0 rfl hi10 (by decide) rfl (t := 33) zm_r0_40 (by decide +kernel) dX10_restFor_10 ?_
        refine lv_iload_n hx hb dX10_restFor_13 rfl (lv_at hl 3 rfl) ?_
        obtain ⟨v6, h9, hf⟩ := ob_inv hf
        refine g_ild hC hW zm_k33 zm_b33 zm_n33 h9 dX10_restFor_14 ?_
        obtain ⟨z8, hg, hf⟩ := ob_inv hf
        have hJ62 : ∀ (H : Heap) (locs : List Loc) (ls : Array Slot), g_H ZM G s H locs me → lv_has ls 6 [(0, .ref (G.2.2.1 0)), (1, .int p1), (2, .int x1), (3, .int x2)] → W p l e (headSpec wsX10_restFor rmX10_restFor).room s m ([.ref (G.2.2.1 0), .int p1] : List Value).toArray below meth c H locs 0 0 Q (F0 m 62 ls [.int z8]) := by
          intro H locs ls hW hl
          refine lv_istore (lv' := [(4, .int z8), (0, .ref (G.2.2.1 0)), (1, .int p1), (2, .int x1), (3, .int x2)]) hx hb dX10_restFor_62 hl (by decide) rfl (fun ls hl => ?_)
          refine lv_iload hx hb dX10_restFor_64 (lv_at hl 0 rfl) ?_
          obtain ⟨z18, hg, hf⟩ := ob_inv hf
          have hJ117 : ∀ (H : Heap) (locs : List Loc) (ls : Array Slot), g_H ZM G s H locs me → lv_has ls 6 [(0, .ref (G.2.2.1 0)), (1, .int p1), (2, .int x1), (3, .int x2)] → W p l e (headSpec wsX10_restFor rmX10_restFor).room s m ([.ref (G.2.2.1 0), .int p1] : List Value).toArray below meth c H locs 0 0 Q (F0 m 117 ls [.int z18]) := by
            intro H locs ls hW hl
            refine lv_istore (lv' := [(4, .int z18), (0, .ref (G.2.2.1 0)), (1, .int p1), (2, .int x1), (3, .int x2)]) hx hb dX10_restFor_117 hl (by decide) rfl (fun ls hl => ?_)
            refine lv_iload_n hx hb dX10_restFor_119 rfl (lv_at hl 3 rfl) ?_
            refine lv_iconst (v := (-1)) hx hb dX10_restFor_120 (by decide) ?_
            obtain ⟨z28, hg, hf⟩ := ob_inv hf
            have hJ172 : ∀ (H : Heap) (locs : List Loc) (ls : Array Slot), g_H ZM G s H locs me → lv_has ls 6 [(0, .ref (G.2.2.1 0)), (1, .int p1), (2, .int x1), (3, .int x2), (4, .int z18)] → W p l e (headSpec wsX10_restFor rmX10_restFor).room s m ([.ref (G.2.2.1 0), .int p1] : List Value).toArray below meth c H locs 0 0 Q (F0 m 172 ls [.int z28]) := by
              intro H locs ls hW hl
              refine lv_istore (lv' := [(5, .int z28), (0, .ref (G.2.2.1 0)), (1, .int p1), (2, .int x1), (3, .int x2), (4, .int z18)]) hx hb dX10_restFor_172 hl (by decide) rfl (fun ls hl => ?_)
              refine lv_iload hx hb dX10_restFor_174 (lv_at hl 5 rfl) ?_
              obtain ⟨z38, hg, hf⟩ := ob_inv hf
              have hJ189 : ∀ (H : Heap) (locs : List Loc) (ls : Array Slot), g_H ZM G s H locs me → lv_has ls 6 [(0, .ref (G.2.2.1 0)), (1, .int p1), (3, .int x2)] → W p l e (headSpec wsX10_restFor rmX10_restFor).room s m ([.ref (G.2.2.1 0), .int p1] : List Value).toArray below meth c H locs 0 0 Q (F0 m 189 ls [.int z38]) := by
                intro H locs ls hW hl
                refine lv_istore_n (lv' := [(2, .int z38), (0, .ref (G.2.2.1 0)), (1, .int p1), (3, .int x2)]) hx hb dX10_restFor_189 rfl hl (by decide) rfl (fun ls hl => ?_)
                refine lv_iinc (v := (x2 + 1)) (lv' := [(3, .int (x2 + 1)), (2, .int z38), (0, .ref (G.2.2.1 0)), (1, .int p1)]) hx hb dX10_restFor_190 hl (k := 3) rfl (congrArg (fun z => x2 + z) (by decide)) (by decide) rfl (fun ls hl => ?_)
                refine lv_goto (tgt := 4) hx hb dX10_restFor_193 (by decide) ?_
                exact ih _ _ _ _ _ _ _ hf hW (lv_sub hl [2, 3, 1, 0] rfl) hE
              replace hf := hg
              refine lv_if_eq (tgt := 188) hx hb dX10_restFor_176 (by decide) (fun c37 => ?_) (fun c37 => ?_)
              · have hf := a_if_t c37 hf
                refine lv_iload_n hx hb dX10_restFor_188 rfl (lv_at hl 3 rfl) ?_
                cases hf
                exact hJ189 H locs ls hW (lv_sub hl [1, 2, 4] rfl)
              · have hf := a_if_f c37 hf
                refine lv_iload hx hb dX10_restFor_179 (lv_at hl 0 rfl) ?_
                refine lv_if_eq (tgt := 188) hx hb dX10_restFor_181 (by decide) (fun c39 => ?_) (fun c39 => ?_)
                · have hf := a_if_t c39 hf
                  refine lv_iload_n hx hb dX10_restFor_188 rfl (lv_at hl 3 rfl) ?_
                  cases hf
                  exact hJ189 H locs ls hW (lv_sub hl [1, 2, 4] rfl)
                · have hf := a_if_f c39 hf
                  refine lv_iload_n hx hb dX10_restFor_184 rfl (lv_at hl 4 rfl) ?_
                  refine lv_goto (tgt := 189) hx hb dX10_restFor_185 (by decide) ?_
                  cases hf
                  exact hJ189 H locs ls hW (lv_sub hl [1, 2, 4] rfl)
            replace hf := hg
            refine lv_icmp_eq (tgt := 167) hx hb dX10_restFor_121 (by decide) (fun c27 => ?_) (fun c27 => ?_)
            · have hf := a_if_t c27 hf
              refine lv_iconst (v := 1) hx hb dX10_restFor_167 (by decide) ?_
              refine lv_goto (tgt := 172) hx hb dX10_restFor_168 (by decide) ?_
              cases hf
              exact hJ172 H locs ls hW (lv_sub hl [1, 2, 3, 4, 0] rfl)
            · have hf := a_if_f c27 hf
              refine lv_aload_n hx hb dX10_restFor_124 rfl (lv_at hl 1 rfl) ?_
              refine g_getr hC hW (o := 0) (ci := 10) (k := 37) zm_k0 zm_b0 rfl hi10 (by decide) rfl (t := 30) zm_r0_37 (by decide +kernel) dX10_restFor_125 ?_
              refine lv_iload_n hx hb dX10_restFor_128 rfl (lv_at hl 2 rfl) ?_
              obtain ⟨v29, h9, hf⟩ := ob_inv hf
              refine g_ild hC hW zm_k30 zm_b30 zm_n30 h9 dX10_restFor_129 ?_
              refine lv_iconst (v := 1) hx hb dX10_restFor_130 (by decide) ?_
              refine lv_icmp_ne (tgt := 152) hx hb dX10_restFor_131 (by decide) (fun c30 => ?_) (fun c30 => ?_)
              · have hf := a_if_f c30 hf
                refine lv_aload_n hx hb dX10_restFor_152 rfl (lv_at hl 1 rfl) ?_
                refine g_getr hC hW (o := 0) (ci := 10) (k := 38) zm_k0 zm_b0 rfl hi10 (by decide) rfl (t := 31) zm_r0_38 (by decide +kernel) dX10_restFor_153 ?_
                refine lv_iload_n hx hb dX10_restFor_156 rfl (lv_at hl 4 rfl) ?_
                obtain ⟨v31, h9, hf⟩ := ob_inv hf
                refine g_ild hC hW zm_k31 zm_b31 zm_n31 h9 dX10_restFor_157 ?_
                refine lv_aload_n hx hb dX10_restFor_158 rfl (lv_at hl 1 rfl) ?_
                refine g_getr hC hW (o := 0) (ci := 10) (k := 38) zm_k0 zm_b0 rfl hi10 (by decide) rfl (t := 31) zm_r0_38 (by decide +kernel) dX10_restFor_159 ?_
                refine lv_iload_n hx hb dX10_restFor_162 rfl (lv_at hl 3 rfl) ?_
                obtain ⟨v32, h9, hf⟩ := ob_inv hf
                refine g_ild hC hW zm_k31 zm_b31 zm_n31 h9 dX10_restFor_163 ?_
                refine lv_icmp_le (tgt := 171) hx hb dX10_restFor_164 (by decide) (fun c33 => ?_) (fun c33 => ?_)
                · have hf := a_if_t c33 hf
                  refine lv_iconst (v := 0) hx hb dX10_restFor_171 (by decide) ?_
                  cases hf
                  exact hJ172 H locs ls hW (lv_sub hl [1, 2, 3, 4, 0] rfl)
                · have hf := a_if_f c33 hf
                  refine lv_iconst (v := 1) hx hb dX10_restFor_167 (by decide) ?_
                  refine lv_goto (tgt := 172) hx hb dX10_restFor_168 (by decide) ?_
                  cases hf
                  exact hJ172 H locs ls hW (lv_sub hl [1, 2, 3, 4, 0] rfl)
              · have hf := a_if_t c30 hf
                refine lv_aload_n hx hb dX10_restFor_134 rfl (lv_at hl 1 rfl) ?_
                refine g_getr hC hW (o := 0) (ci := 10) (k := 38) zm_k0 zm_b0 rfl hi10 (by decide) rfl (t := 31) zm_r0_38 (by decide +kernel) dX10_restFor_135 ?_
                refine lv_iload_n hx hb dX10_restFor_138 rfl (lv_at hl 4 rfl) ?_
                obtain ⟨v34, h9, hf⟩ := ob_inv hf
                refine g_ild hC hW zm_k31 zm_b31 zm_n31 h9 dX10_restFor_139 ?_
                refine lv_aload_n hx hb dX10_restFor_140 rfl (lv_at hl 1 rfl) ?_
                refine g_getr hC hW (o := 0) (ci := 10) (k := 38) zm_k0 zm_b0 rfl hi10 (by decide) rfl (t := 31) zm_r0_38 (by decide +kernel) dX10_restFor_141 ?_
                refine lv_iload_n hx hb dX10_restFor_144 rfl (lv_at hl 3 rfl) ?_
                obtain ⟨v35, h9, hf⟩ := ob_inv hf
                refine g_ild hC hW zm_k31 zm_b31 zm_n31 h9 dX10_restFor_145 ?_
                refine lv_icmp_ge (tgt := 171) hx hb dX10_restFor_146 (by decide) (fun c36 => ?_) (fun c36 => ?_)
                · have hf := a_if_t c36 hf
                  refine lv_iconst (v := 0) hx hb dX10_restFor_171 (by decide) ?_
                  cases hf
                  exact hJ172 H locs ls hW (lv_sub hl [1, 2, 3, 4, 0] rfl)
                · have hf := a_if_f c36 hf
                  refine lv_goto (tgt := 167) hx hb dX10_restFor_149 (by decide) ?_
                  refine lv_iconst (v := 1) hx hb dX10_restFor_167 (by decide) ?_
                  refine lv_goto (tgt := 172) hx hb dX10_restFor_168 (by decide) ?_
                  cases hf
                  exact hJ172 H locs ls hW (lv_sub hl [1, 2, 3, 4, 0] rfl)
          replace hf := hg
          refine lv_if_eq (tgt := 116) hx hb dX10_restFor_66 (by decide) (fun c17 => ?_) (fun c17 => ?_)
          · have hf := a_if_t c17 hf
            refine lv_iconst (v := 0) hx hb dX10_restFor_116 (by decide) ?_
            cases hf
            exact hJ117 H locs ls hW (lv_sub hl [1, 2, 3, 4] rfl)
          · have hf := a_if_f c17 hf
            refine lv_aload_n hx hb dX10_restFor_69 rfl (lv_at hl 1 rfl) ?_
            refine g_getr hC hW (o := 0) (ci := 10) (k := 37) zm_k0 zm_b0 rfl hi10 (by decide) rfl (t := 30) zm_r0_37 (by decide +kernel) dX10_restFor_70 ?_
            refine lv_iload_n hx hb dX10_restFor_73 rfl (lv_at hl 2 rfl) ?_
            obtain ⟨v19, h9, hf⟩ := ob_inv hf
            refine g_ild hC hW zm_k30 zm_b30 zm_n30 h9 dX10_restFor_74 ?_
            refine lv_iconst (v := 1) hx hb dX10_restFor_75 (by decide) ?_
            refine lv_icmp_ne (tgt := 97) hx hb dX10_restFor_76 (by decide) (fun c20 => ?_) (fun c20 => ?_)
            · have hf := a_if_f c20 hf
              refine lv_aload_n hx hb dX10_restFor_97 rfl (lv_at hl 1 rfl) ?_
              refine g_getr hC hW (o := 0) (ci := 10) (k := 38) zm_k0 zm_b0 rfl hi10 (by decide) rfl (t := 31) zm_r0_38 (by decide +kernel) dX10_restFor_98 ?_
              refine lv_iload_n hx hb dX10_restFor_101 rfl (lv_at hl 4 rfl) ?_
              obtain ⟨v21, h9, hf⟩ := ob_inv hf
              refine g_ild hC hW zm_k31 zm_b31 zm_n31 h9 dX10_restFor_102 ?_
              refine lv_aload_n hx hb dX10_restFor_103 rfl (lv_at hl 1 rfl) ?_
              refine g_getr hC hW (o := 0) (ci := 10) (k := 38) zm_k0 zm_b0 rfl hi10 (by decide) rfl (t := 31) zm_r0_38 (by decide +kernel) dX10_restFor_104 ?_
              refine lv_iload_n hx hb dX10_restFor_107 rfl (lv_at hl 2 rfl) ?_
              obtain ⟨v22, h9, hf⟩ := ob_inv hf
              refine g_ild hC hW zm_k31 zm_b31 zm_n31 h9 dX10_restFor_108 ?_
              refine lv_icmp_lt (tgt := 116) hx hb dX10_restFor_109 (by decide) (fun c23 => ?_) (fun c23 => ?_)
              · have hf := a_if_t c23 hf
                refine lv_iconst (v := 0) hx hb dX10_restFor_116 (by decide) ?_
                cases hf
                exact hJ117 H locs ls hW (lv_sub hl [1, 2, 3, 4] rfl)
              · have hf := a_if_f c23 hf
                refine lv_iconst (v := 1) hx hb dX10_restFor_112 (by decide) ?_
                refine lv_goto (tgt := 117) hx hb dX10_restFor_113 (by decide) ?_
                cases hf
                exact hJ117 H locs ls hW (lv_sub hl [1, 2, 3, 4] rfl)
            · have hf := a_if_t c20 hf
              refine lv_aload_n hx hb dX10_restFor_79 rfl (lv_at hl 1 rfl) ?_
              refine g_getr hC hW (o := 0) (ci := 10) (k := 38) zm_k0 zm_b0 rfl hi10 (by decide) rfl (t := 31) zm_r0_38 (by decide +kernel) dX10_restFor_80 ?_
              refine lv_iload_n hx hb dX10_restFor_83 rfl (lv_at hl 4 rfl) ?_
              obtain ⟨v24, h9, hf⟩ := ob_inv hf
              refine g_ild hC hW zm_k31 zm_b31 zm_n31 h9 dX10_restFor_84 ?_
              refine lv_aload_n hx hb dX10_restFor_85 rfl (lv_at hl 1 rfl) ?_
              refine g_getr hC hW (o := 0) (ci := 10) (k := 38) zm_k0 zm_b0 rfl hi10 (by decide) rfl (t := 31) zm_r0_38 (by decide +kernel) dX10_restFor_86 ?_
              refine lv_iload_n hx hb dX10_restFor_89 rfl (lv_at hl 2 rfl) ?_
              obtain ⟨v25, h9, hf⟩ := ob_inv hf
              refine g_ild hC hW zm_k31 zm_b31 zm_n31 h9 dX10_restFor_90 ?_
              refine lv_icmp_gt (tgt := 116) hx hb dX10_restFor_91 (by decide) (fun c26 => ?_) (fun c26 => ?_)
              · have hf := a_if_t c26 hf
                refine lv_iconst (v := 0) hx hb dX10_restFor_116 (by decide) ?_
                cases hf
                exact hJ117 H locs ls hW (lv_sub hl [1, 2, 3, 4] rfl)
              · have hf := a_if_f c26 hf
                refine lv_goto (tgt := 112) hx hb dX10_restFor_94 (by decide) ?_
                refine lv_iconst (v := 1) hx hb dX10_restFor_112 (by decide) ?_
                refine lv_goto (tgt := 117) hx hb dX10_restFor_113 (by decide) ?_
                cases hf
                exact hJ117 H locs ls hW (lv_sub hl [1, 2, 3, 4] rfl)
        replace hf := hg
        refine lv_if_ne (tgt := 61) hx hb dX10_restFor_15 (by decide) (fun c7 => ?_) (fun c7 => ?_)
        · have hf := a_if_f c7 hf
          refine lv_iconst (v := 0) hx hb dX10_restFor_61 (by decide) ?_
          cases hf
          exact hJ62 H locs ls hW (lv_sub hl [0, 1, 2, 3] rfl)
        · have hf := a_if_t c7 hf
          refine lv_aload_n hx hb dX10_restFor_18 rfl (lv_at hl 0 rfl) ?_
          refine g_getr hC hW (o := 0) (ci := 10) (k := 39) zm_k0 zm_b0 rfl hi10 (by decide) rfl (t := 32) zm_r0_39 (by decide +kernel) dX10_restFor_19 ?_
          refine lv_iload_n hx hb dX10_restFor_22 rfl (lv_at hl 3 rfl) ?_
          obtain ⟨v9, h9, hf⟩ := ob_inv hf
          refine g_ild hC hW zm_k32 zm_b32 zm_n32 h9 dX10_restFor_23 ?_
          refine lv_if_le (tgt := 61) hx hb dX10_restFor_24 (by decide) (fun c10 => ?_) (fun c10 => ?_)
          · have hf := a_if_t c10 hf
            refine lv_iconst (v := 0) hx hb dX10_restFor_61 (by decide) ?_
            cases hf
            exact hJ62 H locs ls hW (lv_sub hl [0, 1, 2, 3] rfl)
          · have hf := a_if_f c10 hf
            refine lv_aload_n hx hb dX10_restFor_27 rfl (lv_at hl 0 rfl) ?_
            refine g_getr hC hW (o := 0) (ci := 10) (k := 36) zm_k0 zm_b0 rfl hi10 (by decide) rfl (t := 29) zm_r0_36 (by decide +kernel) dX10_restFor_28 ?_
            refine lv_iload_n hx hb dX10_restFor_31 rfl (lv_at hl 3 rfl) ?_
            obtain ⟨v11, h9, hf⟩ := ob_inv hf
            refine g_ild hC hW zm_k29 zm_b29 zm_n29 h9 dX10_restFor_32 ?_
            refine lv_aload_n hx hb dX10_restFor_33 rfl (lv_at hl 0 rfl) ?_
            refine g_getr hC hW (o := 0) (ci := 10) (k := 36) zm_k0 zm_b0 rfl hi10 (by decide) rfl (t := 29) zm_r0_36 (by decide +kernel) dX10_restFor_34 ?_
            refine lv_iload_n hx hb dX10_restFor_37 rfl (lv_at hl 1 rfl) ?_
            obtain ⟨v12, h9, hf⟩ := ob_inv hf
            refine g_ild hC hW zm_k29 zm_b29 zm_n29 h9 dX10_restFor_38 ?_
            refine lv_icmp_ne (tgt := 61) hx hb dX10_restFor_39 (by decide) (fun c13 => ?_) (fun c13 => ?_)
            · have hf := a_if_f c13 hf
              refine lv_iconst (v := 0) hx hb dX10_restFor_61 (by decide) ?_
              cases hf
              exact hJ62 H locs ls hW (lv_sub hl [0, 1, 2, 3] rfl)
            · have hf := a_if_t c13 hf
              refine lv_aload_n hx hb dX10_restFor_42 rfl (lv_at hl 0 rfl) ?_
              refine g_getr hC hW (o := 0) (ci := 10) (k := 37) zm_k0 zm_b0 rfl hi10 (by decide) rfl (t := 30) zm_r0_37 (by decide +kernel) dX10_restFor_43 ?_
              refine lv_iload_n hx hb dX10_restFor_46 rfl (lv_at hl 3 rfl) ?_
              obtain ⟨v14, h9, hf⟩ := ob_inv hf
              refine g_ild hC hW zm_k30 zm_b30 zm_n30 h9 dX10_restFor_47 ?_
              refine lv_aload_n hx hb dX10_restFor_48 rfl (lv_at hl 0 rfl) ?_
              refine g_getr hC hW (o := 0) (ci := 10) (k := 37) zm_k0 zm_b0 rfl hi10 (by decide) rfl (t := 30) zm_r0_37 (by decide +kernel) dX10_restFor_49 ?_
              refine lv_iload_n hx hb dX10_restFor_52 rfl (lv_at hl 1 rfl) ?_
              obtain ⟨v15, h9, hf⟩ := ob_inv hf
              refine g_ild hC hW zm_k30 zm_b30 zm_n30 h9 dX10_restFor_53 ?_
              refine lv_icmp_eq (tgt := 61) hx hb dX10_restFor_54 (by decide) (fun c16 => ?_) (fun c16 => ?_)
              · have hf := a_if_t c16 hf
                refine lv_iconst (v := 0) hx hb dX10_restFor_61 (by decide) ?_
                cases hf
                exact hJ62 H locs ls hW (lv_sub hl [0, 1, 2, 3] rfl)
              · have hf := a_if_f c16 hf
                refine lv_iconst (v := 1) hx hb dX10_restFor_57 (by decide) ?_
                refine lv_goto (tgt := 62) hx hb dX10_restFor_58 (by decide) ?_
                cases hf
                exact hJ62 H locs ls hW (lv_sub hl [0, 1, 2, 3] rfl)
  obtain ⟨⟨y3, y4⟩, hg, hf⟩ := ob_inv hf
  have hf := ob_inv2 hf
  refine hL4 _ _ _ _ _ _ _ _ hg hW (lv_sub hl [2, 3, 1, 0] rfl) (fun H locs ls hW hl => ?_)
  refine lv_iload_n hx hb dX10_restFor_196 rfl (lv_at hl 0 rfl) ?_
  cases hf
  subst hQ
  exact g_iret hC hW hr hlocks rfl rfl dX10_restFor_197
abbrev rmX10_meets : Room := { frames := 3, cells := 0, slots := 0, locals := 69 }
set_option maxHeartbeats 4000000 in
set_option maxRecDepth 100000 in
theorem c_X10_meets (l : Launch) (G : gG) {p1 : Int32} {p2 : Int32} {me : gM} {m0 : gM}  (hf : f_X10_meets p1 p2 me = some m0) : Met l yX10_meets wsX10_meets rmX10_meets (va_Pc [.ref (G.2.2.1 0), .int p1, .int p2] (g_W ZM G me)) (g_Qv ZM G m0) 0 0 (g_A ZM G) := by
  refine Met.ofW (cc := cX10_meets) (maxL := 8) (ret := none) (by decide) rfl ?_
  intro p e s m args below meth c s₁ B hml hv
  obtain ⟨rfl, hW0⟩ := hv
  have hC : CallFix p m c cX10_meets 8 s ([.ref (G.2.2.1 0), .int p1, .int p2] : List Value).toArray wsX10_meets RX10 := ⟨B.exec, B.bytes, hml, findClass_of_methodNamed B.named, atoms_spec (ws := wsX10_meets) B.pre⟩
  have hx := hC.1
  have hb := hC.2.1
  have hown := hC.2.2.2.1
  have hts := hC.2.2.2.2
  have hr := B.returns
  have hlocks := B.notSynchronized
  have hW := g_H_enter hW0
  have hi10 : ∀ w ∈ wsX100, w ∈ wsX10_meets := by decide +kernel
  have hl := lv_entry ([.ref (G.2.2.1 0), .int p1, .int p2]) (n := 8) (Nat.le_of_ble_eq_true rfl)
  rw [lg_entry_eq]
  generalize (lg_sl ([.ref (G.2.2.1 0), .int p1, .int p2]) ++ List.replicate (8 - (lg_sl ([.ref (G.2.2.1 0), .int p1, .int p2])).length) Slot.unset).toArray = ls at hl ⊢
  have hl : lv_has ls 8 [(0, .ref (G.2.2.1 0)), (1, .int p1), (2, .int p2)] := hl
  obtain ⟨Q, hQ⟩ : ∃ Q, Q = MQ below (g_Qv ZM G m0) ([.ref (G.2.2.1 0), .int p1, .int p2] : List Value).toArray s 0 0 (g_A ZM G) := ⟨_, rfl⟩
  refine g_goQ hQ ?_
  unfold f_X10_meets at hf
  refine g_start hW (fun H locs hW => ?_)
  refine lv_aload_n hx hb dX10_meets_0 rfl (lv_at hl 0 rfl) ?_
  refine g_getr hC hW (o := 0) (ci := 10) (k := 36) zm_k0 zm_b0 rfl hi10 (by decide) rfl (t := 29) zm_r0_36 (by decide +kernel) dX10_meets_1 ?_
  refine lv_iload_n hx hb dX10_meets_4 rfl (lv_at hl 1 rfl) ?_
  obtain ⟨v1, h9, hf⟩ := ob_inv hf
  refine g_ild hC hW zm_k29 zm_b29 zm_n29 h9 dX10_meets_5 ?_
  refine lv_istore_n (lv' := [(3, .int v1), (0, .ref (G.2.2.1 0)), (1, .int p1), (2, .int p2)]) hx hb dX10_meets_6 rfl hl (by decide) rfl (fun ls hl => ?_)
  refine lv_aload_n hx hb dX10_meets_7 rfl (lv_at hl 1 rfl) ?_
  refine g_getr hC hW (o := 0) (ci := 10) (k := 37) zm_k0 zm_b0 rfl hi10 (by decide) rfl (t := 30) zm_r0_37 (by decide +kernel) dX10_meets_8 ?_
  refine lv_iload_n hx hb dX10_meets_11 rfl (lv_at hl 2 rfl) ?_
  obtain ⟨v2, h9, hf⟩ := ob_inv hf
  refine g_ild hC hW zm_k30 zm_b30 zm_n30 h9 dX10_meets_12 ?_
  refine lv_iconst (v := 1) hx hb dX10_meets_13 (by decide) ?_
  obtain ⟨z4, hg, hf⟩ := ob_inv hf
  have hJ22 : ∀ (H : Heap) (locs : List Loc) (ls : Array Slot), g_H ZM G s H locs me → lv_has ls 8 [(0, .ref (G.2.2.1 0)), (1, .int p1), (2, .int p2), (3, .int v1)] → W p l e (headSpec wsX10_meets rmX10_meets).room s m ([.ref (G.2.2.1 0), .int p1, .int p2] : List Value).toArray below meth c H locs 0 0 Q (F0 m 22 ls [.int z4]) := by
    intro H locs ls hW hl
    refine lv_istore (lv' := [(4, .int z4), (0, .ref (G.2.2.1 0)), (1, .int p1), (2, .int p2), (3, .int v1)]) hx hb dX10_meets_22 hl (by decide) rfl (fun ls hl => ?_)
    refine lv_aload_n hx hb dX10_meets_24 rfl (lv_at hl 1 rfl) ?_
    refine g_getr hC hW (o := 0) (ci := 10) (k := 37) zm_k0 zm_b0 rfl hi10 (by decide) rfl (t := 30) zm_r0_37 (by decide +kernel) dX10_meets_25 ?_
    refine lv_iload_n hx hb dX10_meets_28 rfl (lv_at hl 2 rfl) ?_
    obtain ⟨v5, h9, hf⟩ := ob_inv hf
    refine g_ild hC hW zm_k30 zm_b30 zm_n30 h9 dX10_meets_29 ?_
    refine lv_iconst (v := 1) hx hb dX10_meets_30 (by decide) ?_
    obtain ⟨z7, hg, hf⟩ := ob_inv hf
    have hJ39 : ∀ (H : Heap) (locs : List Loc) (ls : Array Slot), g_H ZM G s H locs me → lv_has ls 8 [(0, .ref (G.2.2.1 0)), (1, .int p1), (2, .int p2), (3, .int v1), (4, .int z4)] → W p l e (headSpec wsX10_meets rmX10_meets).room s m ([.ref (G.2.2.1 0), .int p1, .int p2] : List Value).toArray below meth c H locs 0 0 Q (F0 m 39 ls [.int z7]) := by
      intro H locs ls hW hl
      refine lv_istore (lv' := [(5, .int z7), (0, .ref (G.2.2.1 0)), (1, .int p1), (2, .int p2), (3, .int v1), (4, .int z4)]) hx hb dX10_meets_39 hl (by decide) rfl (fun ls hl => ?_)
      refine lv_aload_n hx hb dX10_meets_41 rfl (lv_at hl 1 rfl) ?_
      refine g_getr hC hW (o := 0) (ci := 10) (k := 39) zm_k0 zm_b0 rfl hi10 (by decide) rfl (t := 32) zm_r0_39 (by decide +kernel) dX10_meets_42 ?_
      refine lv_iload_n hx hb dX10_meets_45 rfl (lv_at hl 2 rfl) ?_
      obtain ⟨v8, h9, hf⟩ := ob_inv hf
      refine g_ild hC hW zm_k32 zm_b32 zm_n32 h9 dX10_meets_46 ?_
      refine lv_aload_n hx hb dX10_meets_47 rfl (lv_at hl 1 rfl) ?_
      refine g_getr hC hW (o := 0) (ci := 10) (k := 39) zm_k0 zm_b0 rfl hi10 (by decide) rfl (t := 32) zm_r0_39 (by decide +kernel) dX10_meets_48 ?_
      refine lv_iload_n hx hb dX10_meets_51 rfl (lv_at hl 3 rfl) ?_
      obtain ⟨v9, h9, hf⟩ := ob_inv hf
      refine g_ild hC hW zm_k32 zm_b32 zm_n32 h9 dX10_meets_52 ?_
      obtain ⟨z11, hg, hf⟩ := ob_inv hf
      have hJ71 : ∀ (H : Heap) (locs : List Loc) (ls : Array Slot), g_H ZM G s H locs me → lv_has ls 8 [(0, .ref (G.2.2.1 0)), (1, .int p1), (2, .int p2), (3, .int v1), (4, .int z4), (5, .int z7)] → W p l e (headSpec wsX10_meets rmX10_meets).room s m ([.ref (G.2.2.1 0), .int p1, .int p2] : List Value).toArray below meth c H locs 0 0 Q (F0 m 71 ls [.int z11]) := by
        intro H locs ls hW hl
        refine lv_istore (lv' := [(6, .int z11), (0, .ref (G.2.2.1 0)), (1, .int p1), (2, .int p2), (3, .int v1), (4, .int z4), (5, .int z7)]) hx hb dX10_meets_71 hl (by decide) rfl (fun ls hl => ?_)
        refine lv_aload_n hx hb dX10_meets_73 rfl (lv_at hl 1 rfl) ?_
        refine g_getr hC hW (o := 0) (ci := 10) (k := 34) zm_k0 zm_b0 rfl hi10 (by decide) rfl (t := 27) zm_r0_34 (by decide +kernel) dX10_meets_74 ?_
        refine lv_iload_n hx hb dX10_meets_77 rfl (lv_at hl 2 rfl) ?_
        obtain ⟨v14, h9, hf⟩ := ob_inv hf
        refine g_ild hC hW zm_k27 zm_b27 zm_n27 h9 dX10_meets_78 ?_
        refine lv_aload_n hx hb dX10_meets_79 rfl (lv_at hl 1 rfl) ?_
        refine g_getr hC hW (o := 0) (ci := 10) (k := 34) zm_k0 zm_b0 rfl hi10 (by decide) rfl (t := 27) zm_r0_34 (by decide +kernel) dX10_meets_80 ?_
        refine lv_iload_n hx hb dX10_meets_83 rfl (lv_at hl 3 rfl) ?_
        obtain ⟨v15, h9, hf⟩ := ob_inv hf
        refine g_ild hC hW zm_k27 zm_b27 zm_n27 h9 dX10_meets_84 ?_
        obtain ⟨⟨z17, m18⟩, hg, hf⟩ := ob_inv hf
        have hf := ob_inv2 hf
        have hJ113 : ∀ (H : Heap) (locs : List Loc) (ls : Array Slot), g_H ZM G s H locs m18 → lv_has ls 8 [(0, .ref (G.2.2.1 0)), (1, .int p1), (2, .int p2), (3, .int v1), (4, .int z4), (5, .int z7)] → W p l e (headSpec wsX10_meets rmX10_meets).room s m ([.ref (G.2.2.1 0), .int p1, .int p2] : List Value).toArray below meth c H locs 0 0 Q (F0 m 113 ls [.int z17]) := by
          intro H locs ls hW hl
          refine lv_istore (lv' := [(7, .int z17), (0, .ref (G.2.2.1 0)), (1, .int p1), (2, .int p2), (3, .int v1), (4, .int z4), (5, .int z7)]) hx hb dX10_meets_113 hl (by decide) rfl (fun ls hl => ?_)
          refine lv_aload_n hx hb dX10_meets_115 rfl (lv_at hl 1 rfl) ?_
          refine g_getr hC hW (o := 0) (ci := 10) (k := 39) zm_k0 zm_b0 rfl hi10 (by decide) rfl (t := 32) zm_r0_39 (by decide +kernel) dX10_meets_116 ?_
          refine lv_iload_n hx hb dX10_meets_119 rfl (lv_at hl 2 rfl) ?_
          refine lv_dup2_11 hx hb dX10_meets_120 rfl rfl ?_
          obtain ⟨v24, h9, hf⟩ := ob_inv hf
          refine g_ild hC hW zm_k32 zm_b32 zm_n32 h9 dX10_meets_121 ?_
          refine lv_iload hx hb dX10_meets_122 (lv_at hl 0 rfl) ?_
          refine lv_isub hx hb dX10_meets_124 ?_
          obtain ⟨m25, h9, hf⟩ := ob_inv hf
          refine g_ist hC hW zm_k32 zm_b32 zm_n32 h9 dX10_meets_125 (fun H locs hW => ?_)
          refine lv_aload_n hx hb dX10_meets_126 rfl (lv_at hl 1 rfl) ?_
          refine g_getr hC hW (o := 0) (ci := 10) (k := 39) zm_k0 zm_b0 rfl hi10 (by decide) rfl (t := 32) zm_r0_39 (by decide +kernel) dX10_meets_127 ?_
          refine lv_iload_n hx hb dX10_meets_130 rfl (lv_at hl 3 rfl) ?_
          refine lv_dup2_11 hx hb dX10_meets_131 rfl rfl ?_
          obtain ⟨v26, h9, hf⟩ := ob_inv hf
          refine g_ild hC hW zm_k32 zm_b32 zm_n32 h9 dX10_meets_132 ?_
          refine lv_iload hx hb dX10_meets_133 (lv_at hl 0 rfl) ?_
          refine lv_isub hx hb dX10_meets_135 ?_
          obtain ⟨m27, h9, hf⟩ := ob_inv hf
          refine g_ist hC hW zm_k32 zm_b32 zm_n32 h9 dX10_meets_136 (fun H locs hW => ?_)
          refine lv_aload_n hx hb dX10_meets_137 rfl (lv_at hl 1 rfl) ?_
          refine g_getr hC hW (o := 0) (ci := 10) (k := 55) zm_k0 zm_b0 rfl hi10 (by decide) rfl (t := 48) zm_r0_55 (by decide +kernel) dX10_meets_138 ?_
          refine lv_iconst (v := 4) hx hb dX10_meets_141 (by decide) ?_
          refine lv_aload_n hx hb dX10_meets_142 rfl (lv_at hl 1 rfl) ?_
          refine g_getr hC hW (o := 0) (ci := 10) (k := 35) zm_k0 zm_b0 rfl hi10 (by decide) rfl (t := 28) zm_r0_35 (by decide +kernel) dX10_meets_143 ?_
          refine lv_iload hx hb dX10_meets_146 (lv_at hl 5 rfl) ?_
          obtain ⟨v28, h9, hf⟩ := ob_inv hf
          refine g_ild hC hW zm_k28 zm_b28 zm_n28 h9 dX10_meets_148 ?_
          refine lv_imul hx hb dX10_meets_149 ?_
          refine lv_iload_n hx hb dX10_meets_150 rfl (lv_at hl 4 rfl) ?_
          refine lv_iadd hx hb dX10_meets_151 ?_
          refine lv_dup2_11 hx hb dX10_meets_152 rfl rfl ?_
          obtain ⟨v29, h9, hf⟩ := ob_inv hf
          refine g_ild hC hW zm_k48 zm_b48 zm_n48 h9 dX10_meets_153 ?_
          refine lv_iload hx hb dX10_meets_154 (lv_at hl 0 rfl) ?_
          refine lv_iadd hx hb dX10_meets_156 ?_
          obtain ⟨m30, h9, hf⟩ := ob_inv hf
          refine g_ist hC hW zm_k48 zm_b48 zm_n48 h9 dX10_meets_157 (fun H locs hW => ?_)
          refine lv_aload_n hx hb dX10_meets_158 rfl (lv_at hl 1 rfl) ?_
          refine g_getr hC hW (o := 0) (ci := 10) (k := 55) zm_k0 zm_b0 rfl hi10 (by decide) rfl (t := 48) zm_r0_55 (by decide +kernel) dX10_meets_159 ?_
          refine lv_iconst (v := 4) hx hb dX10_meets_162 (by decide) ?_
          refine lv_aload_n hx hb dX10_meets_163 rfl (lv_at hl 1 rfl) ?_
          refine g_getr hC hW (o := 0) (ci := 10) (k := 35) zm_k0 zm_b0 rfl hi10 (by decide) rfl (t := 28) zm_r0_35 (by decide +kernel) dX10_meets_164 ?_
          refine lv_iload hx hb dX10_meets_167 (lv_at hl 6 rfl) ?_
          obtain ⟨v31, h9, hf⟩ := ob_inv hf
          refine g_ild hC hW zm_k28 zm_b28 zm_n28 h9 dX10_meets_169 ?_
          refine lv_imul hx hb dX10_meets_170 ?_
          refine lv_iload_n hx hb dX10_meets_171 rfl (lv_at hl 4 rfl) ?_
          refine lv_iadd hx hb dX10_meets_172 ?_
          refine lv_dup2_11 hx hb dX10_meets_173 rfl rfl ?_
          obtain ⟨v32, h9, hf⟩ := ob_inv hf
          refine g_ild hC hW zm_k48 zm_b48 zm_n48 h9 dX10_meets_174 ?_
          refine lv_iload hx hb dX10_meets_175 (lv_at hl 0 rfl) ?_
          refine lv_isub hx hb dX10_meets_177 ?_
          obtain ⟨m33, h9, hf⟩ := ob_inv hf
          refine g_ist hC hW zm_k48 zm_b48 zm_n48 h9 dX10_meets_178 (fun H locs hW => ?_)
          refine lv_aload_n hx hb dX10_meets_179 rfl (lv_at hl 1 rfl) ?_
          refine lv_aload_n hx hb dX10_meets_180 rfl (lv_at hl 1 rfl) ?_
          refine g_getr hC hW (o := 0) (ci := 10) (k := 34) zm_k0 zm_b0 rfl hi10 (by decide) rfl (t := 27) zm_r0_34 (by decide +kernel) dX10_meets_181 ?_
          refine lv_iload hx hb dX10_meets_184 (lv_at hl 5 rfl) ?_
          obtain ⟨v34, h9, hf⟩ := ob_inv hf
          refine g_ild hC hW zm_k27 zm_b27 zm_n27 h9 dX10_meets_186 ?_
          refine lv_aload_n hx hb dX10_meets_187 rfl (lv_at hl 1 rfl) ?_
          refine g_getr hC hW (o := 0) (ci := 10) (k := 35) zm_k0 zm_b0 rfl hi10 (by decide) rfl (t := 28) zm_r0_35 (by decide +kernel) dX10_meets_188 ?_
          refine lv_iload hx hb dX10_meets_191 (lv_at hl 5 rfl) ?_
          obtain ⟨v35, h9, hf⟩ := ob_inv hf
          refine g_ild hC hW zm_k28 zm_b28 zm_n28 h9 dX10_meets_193 ?_
          refine lv_iload_n hx hb dX10_meets_194 rfl (lv_at hl 4 rfl) ?_
          refine lv_iload hx hb dX10_meets_195 (lv_at hl 0 rfl) ?_
          refine lv_aload_n hx hb dX10_meets_197 rfl (lv_at hl 1 rfl) ?_
          refine g_getr hC hW (o := 0) (ci := 10) (k := 38) zm_k0 zm_b0 rfl hi10 (by decide) rfl (t := 31) zm_r0_38 (by decide +kernel) dX10_meets_198 ?_
          refine lv_iload_n hx hb dX10_meets_201 rfl (lv_at hl 3 rfl) ?_
          obtain ⟨v36, h9, hf⟩ := ob_inv hf
          refine g_ild hC hW zm_k31 zm_b31 zm_n31 h9 dX10_meets_202 ?_
          obtain ⟨m37, hg, hf⟩ := ob_inv hf
          refine g_cVv hC hW (o := 0) (ci := 10) (As := [.int v34, .int v35, .int v1, .int z17, .int v36]) (rest := []) zm_k0 zm_b0 rfl (c_X10_trades l G  hg) (cwV 5 hts gX10_meets_X10_trades rfl rfl rfl (by decide +kernel) ⟨Nat.le_of_ble_eq_true rfl, Nat.le_of_ble_eq_true rfl⟩) rfl hl.1 rfl (Nat.le_of_ble_eq_true rfl) dX10_meets_203 ⟨Nat.le_of_ble_eq_true rfl, Nat.le_of_ble_eq_true rfl⟩ (fun H locs hW => ?_)
          refine lv_aload_n hx hb dX10_meets_206 rfl (lv_at hl 1 rfl) ?_
          refine lv_aload_n hx hb dX10_meets_207 rfl (lv_at hl 1 rfl) ?_
          refine g_getr hC hW (o := 0) (ci := 10) (k := 34) zm_k0 zm_b0 rfl hi10 (by decide) rfl (t := 27) zm_r0_34 (by decide +kernel) dX10_meets_208 ?_
          refine lv_iload hx hb dX10_meets_211 (lv_at hl 6 rfl) ?_
          obtain ⟨v38, h9, hf⟩ := ob_inv hf
          refine g_ild hC hW zm_k27 zm_b27 zm_n27 h9 dX10_meets_213 ?_
          refine lv_aload_n hx hb dX10_meets_214 rfl (lv_at hl 1 rfl) ?_
          refine g_getr hC hW (o := 0) (ci := 10) (k := 35) zm_k0 zm_b0 rfl hi10 (by decide) rfl (t := 28) zm_r0_35 (by decide +kernel) dX10_meets_215 ?_
          refine lv_iload hx hb dX10_meets_218 (lv_at hl 6 rfl) ?_
          obtain ⟨v39, h9, hf⟩ := ob_inv hf
          refine g_ild hC hW zm_k28 zm_b28 zm_n28 h9 dX10_meets_220 ?_
          refine lv_iload_n hx hb dX10_meets_221 rfl (lv_at hl 4 rfl) ?_
          refine lv_iload hx hb dX10_meets_222 (lv_at hl 0 rfl) ?_
          refine lv_ineg hx hb dX10_meets_224 ?_
          refine lv_aload_n hx hb dX10_meets_225 rfl (lv_at hl 1 rfl) ?_
          refine g_getr hC hW (o := 0) (ci := 10) (k := 38) zm_k0 zm_b0 rfl hi10 (by decide) rfl (t := 31) zm_r0_38 (by decide +kernel) dX10_meets_226 ?_
          refine lv_iload_n hx hb dX10_meets_229 rfl (lv_at hl 3 rfl) ?_
          obtain ⟨v40, h9, hf⟩ := ob_inv hf
          refine g_ild hC hW zm_k31 zm_b31 zm_n31 h9 dX10_meets_230 ?_
          obtain ⟨m41, hg, hf⟩ := ob_inv hf
          refine g_cVv hC hW (o := 0) (ci := 10) (As := [.int v38, .int v39, .int v1, .int (-z17), .int v40]) (rest := []) zm_k0 zm_b0 rfl (c_X10_trades l G  hg) (cwV 5 hts gX10_meets_X10_trades rfl rfl rfl (by decide +kernel) ⟨Nat.le_of_ble_eq_true rfl, Nat.le_of_ble_eq_true rfl⟩) rfl hl.1 rfl (Nat.le_of_ble_eq_true rfl) dX10_meets_231 ⟨Nat.le_of_ble_eq_true rfl, Nat.le_of_ble_eq_true rfl⟩ (fun H locs hW => ?_)
          cases hf
          subst hQ
          exact g_vret hC hW hr hlocks rfl dX10_meets_234
        replace hf := hg
        refine lv_icmp_ne (tgt := 92) hx hb dX10_meets_85 (by decide) (fun c16 => ?_) (fun c16 => ?_)
        · have hf := a_if_f c16 hf
          refine lv_aload_n hx hb dX10_meets_92 rfl (lv_at hl 1 rfl) ?_
          refine lv_aload_n hx hb dX10_meets_93 rfl (lv_at hl 1 rfl) ?_
          refine g_getr hC hW (o := 0) (ci := 10) (k := 35) zm_k0 zm_b0 rfl hi10 (by decide) rfl (t := 28) zm_r0_35 (by decide +kernel) dX10_meets_94 ?_
          refine lv_iload hx hb dX10_meets_97 (lv_at hl 5 rfl) ?_
          obtain ⟨v19, h9, hf⟩ := ob_inv hf
          refine g_ild hC hW zm_k28 zm_b28 zm_n28 h9 dX10_meets_99 ?_
          refine lv_aload_n hx hb dX10_meets_100 rfl (lv_at hl 1 rfl) ?_
          refine g_getr hC hW (o := 0) (ci := 10) (k := 35) zm_k0 zm_b0 rfl hi10 (by decide) rfl (t := 28) zm_r0_35 (by decide +kernel) dX10_meets_101 ?_
          refine lv_iload hx hb dX10_meets_104 (lv_at hl 6 rfl) ?_
          obtain ⟨v20, h9, hf⟩ := ob_inv hf
          refine g_ild hC hW zm_k28 zm_b28 zm_n28 h9 dX10_meets_106 ?_
          refine lv_iload_n hx hb dX10_meets_107 rfl (lv_at hl 4 rfl) ?_
          refine lv_iload hx hb dX10_meets_108 (lv_at hl 0 rfl) ?_
          obtain ⟨⟨r21, m22⟩, hg, hf⟩ := ob_inv hf
          have hf := ob_inv2 hf
          refine g_cVi hC hW (o := 0) (ci := 10) (As := [.int v19, .int v20, .int v1, .int z11]) (rest := []) zm_k0 zm_b0 rfl (c_X10_room l G  hg) (cwV 4 hts gX10_meets_X10_room rfl rfl rfl (by decide +kernel) ⟨Nat.le_of_ble_eq_true rfl, Nat.le_of_ble_eq_true rfl⟩) rfl hl.1 rfl (Nat.le_of_ble_eq_true rfl) dX10_meets_110 ⟨Nat.le_of_ble_eq_true rfl, Nat.le_of_ble_eq_true rfl⟩ (fun H locs hW => ?_)
          cases hf
          exact hJ113 H locs ls hW (lv_sub hl [1, 2, 3, 4, 5, 6] rfl)
        · have hf := a_if_t c16 hf
          refine lv_iconst (v := 0) hx hb dX10_meets_88 (by decide) ?_
          refine lv_goto (tgt := 113) hx hb dX10_meets_89 (by decide) ?_
          cases hf
          exact hJ113 H locs ls hW (lv_sub hl [1, 2, 3, 4, 5, 6] rfl)
      replace hf := hg
      refine lv_icmp_ge (tgt := 65) hx hb dX10_meets_53 (by decide) (fun c10 => ?_) (fun c10 => ?_)
      · have hf := a_if_t c10 hf
        refine lv_aload_n hx hb dX10_meets_65 rfl (lv_at hl 1 rfl) ?_
        refine g_getr hC hW (o := 0) (ci := 10) (k := 39) zm_k0 zm_b0 rfl hi10 (by decide) rfl (t := 32) zm_r0_39 (by decide +kernel) dX10_meets_66 ?_
        refine lv_iload_n hx hb dX10_meets_69 rfl (lv_at hl 3 rfl) ?_
        obtain ⟨v12, h9, hf⟩ := ob_inv hf
        refine g_ild hC hW zm_k32 zm_b32 zm_n32 h9 dX10_meets_70 ?_
        cases hf
        exact hJ71 H locs ls hW (lv_sub hl [1, 2, 3, 4, 5, 0] rfl)
      · have hf := a_if_f c10 hf
        refine lv_aload_n hx hb dX10_meets_56 rfl (lv_at hl 1 rfl) ?_
        refine g_getr hC hW (o := 0) (ci := 10) (k := 39) zm_k0 zm_b0 rfl hi10 (by decide) rfl (t := 32) zm_r0_39 (by decide +kernel) dX10_meets_57 ?_
        refine lv_iload_n hx hb dX10_meets_60 rfl (lv_at hl 2 rfl) ?_
        obtain ⟨v13, h9, hf⟩ := ob_inv hf
        refine g_ild hC hW zm_k32 zm_b32 zm_n32 h9 dX10_meets_61 ?_
        refine lv_goto (tgt := 71) hx hb dX10_meets_62 (by decide) ?_
        cases hf
        exact hJ71 H locs ls hW (lv_sub hl [1, 2, 3, 4, 5, 0] rfl)
    replace hf := hg
    refine lv_icmp_ne (tgt := 38) hx hb dX10_meets_31 (by decide) (fun c6 => ?_) (fun c6 => ?_)
    · have hf := a_if_f c6 hf
      refine lv_iload_n hx hb dX10_meets_38 rfl (lv_at hl 3 rfl) ?_
      cases hf
      exact hJ39 H locs ls hW (lv_sub hl [1, 2, 3, 4, 0] rfl)
    · have hf := a_if_t c6 hf
      refine lv_iload_n hx hb dX10_meets_34 rfl (lv_at hl 2 rfl) ?_
      refine lv_goto (tgt := 39) hx hb dX10_meets_35 (by decide) ?_
      cases hf
      exact hJ39 H locs ls hW (lv_sub hl [1, 2, 3, 4, 0] rfl)
  replace hf := hg
  refine lv_icmp_ne (tgt := 21) hx hb dX10_meets_14 (by decide) (fun c3 => ?_) (fun c3 => ?_)
  · have hf := a_if_f c3 hf
    refine lv_iload_n hx hb dX10_meets_21 rfl (lv_at hl 2 rfl) ?_
    cases hf
    exact hJ22 H locs ls hW (lv_sub hl [1, 2, 3, 0] rfl)
  · have hf := a_if_t c3 hf
    refine lv_iload_n hx hb dX10_meets_17 rfl (lv_at hl 3 rfl) ?_
    refine lv_goto (tgt := 22) hx hb dX10_meets_18 (by decide) ?_
    cases hf
    exact hJ22 H locs ls hW (lv_sub hl [1, 2, 3, 0] rfl)
abbrev rmX10_offer : Room := { frames := 4, cells := 0, slots := 0, locals := 96 }
set_option maxHeartbeats 4000000 in
set_option maxRecDepth 100000 in
theorem c_X10_offer (l : Launch) (G : gG) {p1 : Int32} {p2 : Int32} {p3 : Int32} {p4 : Int32} {p5 : Int32} {p6 : Int32} {me : gM} {r0 : Int32} {m0 : gM}  (hf : f_X10_offer p1 p2 p3 p4 p5 p6 me = some (r0, m0)) : Met l yX10_offer wsX10_offer rmX10_offer (va_Pc [.ref (G.2.2.1 0), .int p1, .int p2, .int p3, .int p4, .int p5, .int p6] (g_W ZM G me)) (g_Qi ZM G r0 m0) 0 0 (g_A ZM G) := by
  refine Met.ofW (cc := cX10_offer) (maxL := 9) (ret := (some .int)) (by decide) rfl ?_
  intro p e s m args below meth c s₁ B hml hv
  obtain ⟨rfl, hW0⟩ := hv
  have hC : CallFix p m c cX10_offer 9 s ([.ref (G.2.2.1 0), .int p1, .int p2, .int p3, .int p4, .int p5, .int p6] : List Value).toArray wsX10_offer RX10 := ⟨B.exec, B.bytes, hml, findClass_of_methodNamed B.named, atoms_spec (ws := wsX10_offer) B.pre⟩
  have hx := hC.1
  have hb := hC.2.1
  have hown := hC.2.2.2.1
  have hts := hC.2.2.2.2
  have hr := B.returns
  have hlocks := B.notSynchronized
  have hW := g_H_enter hW0
  have hi10 : ∀ w ∈ wsX100, w ∈ wsX10_offer := by decide +kernel
  have hl := lv_entry ([.ref (G.2.2.1 0), .int p1, .int p2, .int p3, .int p4, .int p5, .int p6]) (n := 9) (Nat.le_of_ble_eq_true rfl)
  rw [lg_entry_eq]
  generalize (lg_sl ([.ref (G.2.2.1 0), .int p1, .int p2, .int p3, .int p4, .int p5, .int p6]) ++ List.replicate (9 - (lg_sl ([.ref (G.2.2.1 0), .int p1, .int p2, .int p3, .int p4, .int p5, .int p6])).length) Slot.unset).toArray = ls at hl ⊢
  have hl : lv_has ls 9 [(0, .ref (G.2.2.1 0)), (1, .int p1), (2, .int p2), (3, .int p3), (4, .int p4), (5, .int p5), (6, .int p6)] := hl
  obtain ⟨Q, hQ⟩ : ∃ Q, Q = MQ below (g_Qi ZM G r0 m0) ([.ref (G.2.2.1 0), .int p1, .int p2, .int p3, .int p4, .int p5, .int p6] : List Value).toArray s 0 0 (g_A ZM G) := ⟨_, rfl⟩
  refine g_goQ hQ ?_
  unfold f_X10_offer at hf
  refine g_start hW (fun H locs hW => ?_)
  refine lv_aload_n hx hb dX10_offer_0 rfl (lv_at hl 0 rfl) ?_
  refine lv_iload_n hx hb dX10_offer_1 rfl (lv_at hl 1 rfl) ?_
  obtain ⟨r1, hg, hf⟩ := ob_inv hf
  refine g_cSi hC hW (As := [.int p1]) (rest := [.ref (G.2.2.1 0)]) (c_X10_isFirm l G  hg) (va_cwS 1 hts gX10_offer_X10_isFirm rfl rfl rfl (by decide +kernel) ⟨Nat.le_of_ble_eq_true rfl, Nat.le_of_ble_eq_true rfl⟩) rfl hl.1 rfl (Nat.le_of_ble_eq_true rfl) dX10_offer_2 ⟨Nat.le_of_ble_eq_true rfl, Nat.le_of_ble_eq_true rfl⟩ (fun H locs hW => ?_)
  obtain ⟨z3, hg, hf⟩ := ob_inv hf
  have hJ54 : ∀ (H : Heap) (locs : List Loc) (ls : Array Slot), g_H ZM G s H locs me → lv_has ls 9 [(0, .ref (G.2.2.1 0)), (1, .int p1), (2, .int p2), (3, .int p3), (4, .int p4), (5, .int p5), (6, .int p6)] → W p l e (headSpec wsX10_offer rmX10_offer).room s m ([.ref (G.2.2.1 0), .int p1, .int p2, .int p3, .int p4, .int p5, .int p6] : List Value).toArray below meth c H locs 0 0 Q (F0 m 54 ls [.int z3, .ref (G.2.2.1 0)]) := by
    intro H locs ls hW hl
    obtain ⟨m12, h9, hf⟩ := ob_inv hf
    refine g_puti hC hW (o := 0) (ci := 10) (k := 67) zm_k0 zm_b0 rfl hi10 tyX10_ok nmX10 (by decide) rfl rfl rfl (by decide +kernel) dX10_offer_54 (fun H locs hW => ?_)
    rw [Option.some.inj h9] at hW
    refine lv_aload_n hx hb dX10_offer_57 rfl (lv_at hl 0 rfl) ?_
    refine g_geti hC hW (o := 0) (ci := 10) (k := 67) zm_k0 zm_b0 rfl hi10 (by decide) rfl (by decide +kernel) dX10_offer_58 ?_
    obtain ⟨m14, hg, hf⟩ := ob_inv hf
    have hJ99 : ∀ (H : Heap) (locs : List Loc) (ls : Array Slot), g_H ZM G s H locs m14 → lv_has ls 9 [(0, .ref (G.2.2.1 0)), (1, .int p1), (2, .int p2), (3, .int p3), (4, .int p4), (5, .int p5), (6, .int p6)] → W p l e (headSpec wsX10_offer rmX10_offer).room s m ([.ref (G.2.2.1 0), .int p1, .int p2, .int p3, .int p4, .int p5, .int p6] : List Value).toArray below meth c H locs 0 0 Q (F0 m 99 ls []) := by
      intro H locs ls hW hl
      refine lv_aload_n hx hb dX10_offer_99 rfl (lv_at hl 0 rfl) ?_
      refine g_geti hC hW (o := 0) (ci := 10) (k := 67) zm_k0 zm_b0 rfl hi10 (by decide) rfl (by decide +kernel) dX10_offer_100 ?_
      refine lv_if_le (tgt := 108) hx hb dX10_offer_103 (by decide) (fun c21 => ?_) (fun c21 => ?_)
      · have hf := a_if_t c21 hf
        refine lv_aload_n hx hb dX10_offer_108 rfl (lv_at hl 0 rfl) ?_
        refine g_geti hC hW (o := 0) (ci := 10) (k := 33) zm_k0 zm_b0 rfl hi10 (by decide) rfl (by decide +kernel) dX10_offer_109 ?_
        obtain ⟨x22, h9, hf⟩ := ob_inv hf
        refine g_nmi (Option.some.inj h9) ?_
        refine lv_istore (lv' := [(7, .int x22), (0, .ref (G.2.2.1 0)), (1, .int p1), (2, .int p2), (3, .int p3), (4, .int p4), (5, .int p5), (6, .int p6)]) hx hb dX10_offer_112 hl (by decide) rfl (fun ls hl => ?_)
        refine lv_aload_n hx hb dX10_offer_114 rfl (lv_at hl 1 rfl) ?_
        refine lv_dup hx hb dX10_offer_115 rfl ?_
        refine g_geti hC hW (o := 0) (ci := 10) (k := 33) zm_k0 zm_b0 rfl hi10 (by decide) rfl (by decide +kernel) dX10_offer_116 ?_
        refine lv_iconst (v := 1) hx hb dX10_offer_119 (by decide) ?_
        refine lv_iadd hx hb dX10_offer_120 ?_
        obtain ⟨m23, h9, hf⟩ := ob_inv hf
        refine g_puti hC hW (o := 0) (ci := 10) (k := 33) zm_k0 zm_b0 rfl hi10 tyX10_ok nmX10 (by decide) rfl rfl rfl (by decide +kernel) dX10_offer_121 (fun H locs hW => ?_)
        rw [Option.some.inj h9] at hW
        refine lv_aload_n hx hb dX10_offer_124 rfl (lv_at hl 1 rfl) ?_
        refine g_getr hC hW (o := 0) (ci := 10) (k := 34) zm_k0 zm_b0 rfl hi10 (by decide) rfl (t := 27) zm_r0_34 (by decide +kernel) dX10_offer_125 ?_
        refine lv_iload hx hb dX10_offer_128 (lv_at hl 0 rfl) ?_
        refine lv_iload_n hx hb dX10_offer_130 rfl (lv_at hl 2 rfl) ?_
        obtain ⟨m24, h9, hf⟩ := ob_inv hf
        refine g_ist hC hW zm_k27 zm_b27 zm_n27 h9 dX10_offer_131 (fun H locs hW => ?_)
        refine lv_aload_n hx hb dX10_offer_132 rfl (lv_at hl 1 rfl) ?_
        refine g_getr hC hW (o := 0) (ci := 10) (k := 35) zm_k0 zm_b0 rfl hi10 (by decide) rfl (t := 28) zm_r0_35 (by decide +kernel) dX10_offer_133 ?_
        refine lv_iload hx hb dX10_offer_136 (lv_at hl 0 rfl) ?_
        refine lv_iload_n hx hb dX10_offer_138 rfl (lv_at hl 3 rfl) ?_
        obtain ⟨m25, h9, hf⟩ := ob_inv hf
        refine g_ist hC hW zm_k28 zm_b28 zm_n28 h9 dX10_offer_139 (fun H locs hW => ?_)
        refine lv_aload_n hx hb dX10_offer_140 rfl (lv_at hl 1 rfl) ?_
        refine g_getr hC hW (o := 0) (ci := 10) (k := 36) zm_k0 zm_b0 rfl hi10 (by decide) rfl (t := 29) zm_r0_36 (by decide +kernel) dX10_offer_141 ?_
        refine lv_iload hx hb dX10_offer_144 (lv_at hl 0 rfl) ?_
        refine lv_iload_n hx hb dX10_offer_146 rfl (lv_at hl 4 rfl) ?_
        obtain ⟨m26, h9, hf⟩ := ob_inv hf
        refine g_ist hC hW zm_k29 zm_b29 zm_n29 h9 dX10_offer_147 (fun H locs hW => ?_)
        refine lv_aload_n hx hb dX10_offer_148 rfl (lv_at hl 1 rfl) ?_
        refine g_getr hC hW (o := 0) (ci := 10) (k := 37) zm_k0 zm_b0 rfl hi10 (by decide) rfl (t := 30) zm_r0_37 (by decide +kernel) dX10_offer_149 ?_
        refine lv_iload hx hb dX10_offer_152 (lv_at hl 0 rfl) ?_
        refine lv_iload hx hb dX10_offer_154 (lv_at hl 5 rfl) ?_
        obtain ⟨z28, hg, hf⟩ := ob_inv hf
        have hJ164 : ∀ (H : Heap) (locs : List Loc) (ls : Array Slot), g_H ZM G s H locs m26 → lv_has ls 9 [(0, .ref (G.2.2.1 0)), (5, .int p5), (6, .int p6), (7, .int x22)] → W p l e (headSpec wsX10_offer rmX10_offer).room s m ([.ref (G.2.2.1 0), .int p1, .int p2, .int p3, .int p4, .int p5, .int p6] : List Value).toArray below meth c H locs 0 0 Q (F0 m 164 ls [.int z28, .int x22, .ref (G.2.2.1 30)]) := by
          intro H locs ls hW hl
          obtain ⟨m29, h9, hf⟩ := ob_inv hf
          refine g_ist hC hW zm_k30 zm_b30 zm_n30 h9 dX10_offer_164 (fun H locs hW => ?_)
          refine lv_aload_n hx hb dX10_offer_165 rfl (lv_at hl 0 rfl) ?_
          refine g_getr hC hW (o := 0) (ci := 10) (k := 38) zm_k0 zm_b0 rfl hi10 (by decide) rfl (t := 31) zm_r0_38 (by decide +kernel) dX10_offer_166 ?_
          refine lv_iload hx hb dX10_offer_169 (lv_at hl 3 rfl) ?_
          refine lv_iload hx hb dX10_offer_171 (lv_at hl 1 rfl) ?_
          obtain ⟨m30, h9, hf⟩ := ob_inv hf
          refine g_ist hC hW zm_k31 zm_b31 zm_n31 h9 dX10_offer_173 (fun H locs hW => ?_)
          refine lv_aload_n hx hb dX10_offer_174 rfl (lv_at hl 0 rfl) ?_
          refine g_getr hC hW (o := 0) (ci := 10) (k := 39) zm_k0 zm_b0 rfl hi10 (by decide) rfl (t := 32) zm_r0_39 (by decide +kernel) dX10_offer_175 ?_
          refine lv_iload hx hb dX10_offer_178 (lv_at hl 3 rfl) ?_
          refine lv_iload hx hb dX10_offer_180 (lv_at hl 2 rfl) ?_
          obtain ⟨m31, h9, hf⟩ := ob_inv hf
          refine g_ist hC hW zm_k32 zm_b32 zm_n32 h9 dX10_offer_182 (fun H locs hW => ?_)
          refine lv_iconst (v := 0) hx hb dX10_offer_183 (by decide) ?_
          refine lv_istore (lv' := [(8, .int 0), (0, .ref (G.2.2.1 0)), (5, .int p5), (6, .int p6), (7, .int x22)]) hx hb dX10_offer_184 hl (by decide) rfl (fun ls hl => ?_)
          have hL186 : ∀ (n : Nat) (x32 : Int32) (m33 : gM) (y34 : Int32) (m35 : gM) (H : Heap) (locs : List Loc) (ls : Array Slot), f_X10_offer_L186  n x32 m33 = some (y34, m35) → g_H ZM G s H locs m33 → lv_has ls 9 [(0, .ref (G.2.2.1 0)), (7, .int x22), (8, .int x32)] → (∀ (H : Heap) (locs : List Loc) (ls : Array Slot), g_H ZM G s H locs m35 → lv_has ls 9 [(0, .ref (G.2.2.1 0)), (7, .int x22)] → W p l e (headSpec wsX10_offer rmX10_offer).room s m ([.ref (G.2.2.1 0), .int p1, .int p2, .int p3, .int p4, .int p5, .int p6] : List Value).toArray below meth c H locs 0 0 Q (F0 m 207 ls [])) → W p l e (headSpec wsX10_offer rmX10_offer).room s m ([.ref (G.2.2.1 0), .int p1, .int p2, .int p3, .int p4, .int p5, .int p6] : List Value).toArray below meth c H locs 0 0 Q (F0 m 186 ls []) := by
            intro n
            induction n with
            | zero =>
              intro x32 m33 y34 m35 H locs ls hf hW hl hE
              cases hf
            | succ n ih =>
              intro x32 m33 y34 m35 H locs ls hf hW hl hE
              rw [f_X10_offer_L186] at hf
              refine lv_iload hx hb dX10_offer_186 (lv_at hl 2 rfl) ?_
              refine lv_bipush (v := 60) hx hb dX10_offer_188 (by decide) ?_
              refine lv_icmp_ge (tgt := 207) hx hb dX10_offer_190 (by decide) (fun c36 => ?_) (fun c36 => ?_)
              · have hf := a_if_t c36 hf
                cases hf
                exact hE H locs ls hW (lv_sub hl [0, 1] rfl)
              · have hf := a_if_f c36 hf
                refine lv_aload_n hx hb dX10_offer_193 rfl (lv_at hl 0 rfl) ?_
                refine g_getr hC hW (o := 0) (ci := 10) (k := 40) zm_k0 zm_b0 rfl hi10 (by decide) rfl (t := 33) zm_r0_40 (by decide +kernel) dX10_offer_194 ?_
                refine lv_iload hx hb dX10_offer_197 (lv_at hl 2 rfl) ?_
                refine lv_iconst (v := 0) hx hb dX10_offer_199 (by decide) ?_
                obtain ⟨m37, h9, hf⟩ := ob_inv hf
                refine g_ist hC hW zm_k33 zm_b33 zm_n33 h9 dX10_offer_200 (fun H locs hW => ?_)
                refine lv_iinc (v := (x32 + 1)) (lv' := [(8, .int (x32 + 1)), (0, .ref (G.2.2.1 0)), (7, .int x22)]) hx hb dX10_offer_201 hl (k := 2) rfl (congrArg (fun z => x32 + z) (by decide)) (by decide) rfl (fun ls hl => ?_)
                refine lv_goto (tgt := 186) hx hb dX10_offer_204 (by decide) ?_
                exact ih _ _ _ _ _ _ _ hf hW (lv_sub hl [1, 2, 0] rfl) hE
          obtain ⟨⟨y34, m35⟩, hg, hf⟩ := ob_inv hf
          have hf := ob_inv2 hf
          refine hL186 _ _ _ _ _ _ _ _ hg hW (lv_sub hl [1, 4, 0] rfl) (fun H locs ls hW hl => ?_)
          refine lv_aload_n hx hb dX10_offer_207 rfl (lv_at hl 0 rfl) ?_
          refine lv_iload hx hb dX10_offer_208 (lv_at hl 1 rfl) ?_
          obtain ⟨r38, hg, hf⟩ := ob_inv hf
          refine g_cVi hC hW (o := 0) (ci := 10) (As := [.int x22]) (rest := []) zm_k0 zm_b0 rfl (c_X10_restFor l G  hg) (cwV 1 hts gX10_offer_X10_restFor rfl rfl rfl (by decide +kernel) ⟨Nat.le_of_ble_eq_true rfl, Nat.le_of_ble_eq_true rfl⟩) rfl hl.1 rfl (Nat.le_of_ble_eq_true rfl) dX10_offer_210 ⟨Nat.le_of_ble_eq_true rfl, Nat.le_of_ble_eq_true rfl⟩ (fun H locs hW => ?_)
          refine lv_istore (lv' := [(8, .int r38), (0, .ref (G.2.2.1 0)), (7, .int x22)]) hx hb dX10_offer_213 hl (by decide) rfl (fun ls hl => ?_)
          have hL215 : ∀ (n : Nat) (x39 : Int32) (m40 : gM) (y41 : Int32) (m42 : gM) (H : Heap) (locs : List Loc) (ls : Array Slot), f_X10_offer_L215 x22 n x39 m40 = some (y41, m42) → g_H ZM G s H locs m40 → lv_has ls 9 [(0, .ref (G.2.2.1 0)), (7, .int x22), (8, .int x39)] → (∀ (H : Heap) (locs : List Loc) (ls : Array Slot), g_H ZM G s H locs m42 → lv_has ls 9 [(7, .int x22)] → W p l e (headSpec wsX10_offer rmX10_offer).room s m ([.ref (G.2.2.1 0), .int p1, .int p2, .int p3, .int p4, .int p5, .int p6] : List Value).toArray below meth c H locs 0 0 Q (F0 m 258 ls [])) → W p l e (headSpec wsX10_offer rmX10_offer).room s m ([.ref (G.2.2.1 0), .int p1, .int p2, .int p3, .int p4, .int p5, .int p6] : List Value).toArray below meth c H locs 0 0 Q (F0 m 215 ls []) := by
            intro n
            induction n with
            | zero =>
              intro x39 m40 y41 m42 H locs ls hf hW hl hE
              cases hf
            | succ n ih =>
              intro x39 m40 y41 m42 H locs ls hf hW hl hE
              rw [f_X10_offer_L215] at hf
              refine lv_iload hx hb dX10_offer_215 (lv_at hl 2 rfl) ?_
              refine lv_iconst (v := (-1)) hx hb dX10_offer_217 (by decide) ?_
              refine lv_icmp_eq (tgt := 258) hx hb dX10_offer_218 (by decide) (fun c43 => ?_) (fun c43 => ?_)
              · have hf := a_if_t c43 hf
                cases hf
                exact hE H locs ls hW (lv_sub hl [1] rfl)
              · have hf := a_if_f c43 hf
                refine lv_aload_n hx hb dX10_offer_221 rfl (lv_at hl 0 rfl) ?_
                refine g_getr hC hW (o := 0) (ci := 10) (k := 39) zm_k0 zm_b0 rfl hi10 (by decide) rfl (t := 32) zm_r0_39 (by decide +kernel) dX10_offer_222 ?_
                refine lv_iload hx hb dX10_offer_225 (lv_at hl 1 rfl) ?_
                obtain ⟨v44, h9, hf⟩ := ob_inv hf
                refine g_ild hC hW zm_k32 zm_b32 zm_n32 h9 dX10_offer_227 ?_
                refine lv_if_le (tgt := 258) hx hb dX10_offer_228 (by decide) (fun c45 => ?_) (fun c45 => ?_)
                · have hf := a_if_t c45 hf
                  cases hf
                  exact hE H locs ls hW (lv_sub hl [1] rfl)
                · have hf := a_if_f c45 hf
                  refine lv_aload_n hx hb dX10_offer_231 rfl (lv_at hl 0 rfl) ?_
                  refine g_getr hC hW (o := 0) (ci := 10) (k := 40) zm_k0 zm_b0 rfl hi10 (by decide) rfl (t := 33) zm_r0_40 (by decide +kernel) dX10_offer_232 ?_
                  refine lv_iload hx hb dX10_offer_235 (lv_at hl 2 rfl) ?_
                  refine lv_iconst (v := 1) hx hb dX10_offer_237 (by decide) ?_
                  obtain ⟨m46, h9, hf⟩ := ob_inv hf
                  refine g_ist hC hW zm_k33 zm_b33 zm_n33 h9 dX10_offer_238 (fun H locs hW => ?_)
                  refine lv_aload_n hx hb dX10_offer_239 rfl (lv_at hl 0 rfl) ?_
                  refine lv_iload hx hb dX10_offer_240 (lv_at hl 1 rfl) ?_
                  refine lv_iload hx hb dX10_offer_242 (lv_at hl 2 rfl) ?_
                  obtain ⟨m47, hg, hf⟩ := ob_inv hf
                  refine g_cVv hC hW (o := 0) (ci := 10) (As := [.int x22, .int x39]) (rest := []) zm_k0 zm_b0 rfl (c_X10_meets l G  hg) (cwV 2 hts gX10_offer_X10_meets rfl rfl rfl (by decide +kernel) ⟨Nat.le_of_ble_eq_true rfl, Nat.le_of_ble_eq_true rfl⟩) rfl hl.1 rfl (Nat.le_of_ble_eq_true rfl) dX10_offer_244 ⟨Nat.le_of_ble_eq_true rfl, Nat.le_of_ble_eq_true rfl⟩ (fun H locs hW => ?_)
                  refine lv_aload_n hx hb dX10_offer_247 rfl (lv_at hl 0 rfl) ?_
                  refine lv_iload hx hb dX10_offer_248 (lv_at hl 1 rfl) ?_
                  obtain ⟨r48, hg, hf⟩ := ob_inv hf
                  refine g_cVi hC hW (o := 0) (ci := 10) (As := [.int x22]) (rest := []) zm_k0 zm_b0 rfl (c_X10_restFor l G  hg) (cwV 1 hts gX10_offer_X10_restFor rfl rfl rfl (by decide +kernel) ⟨Nat.le_of_ble_eq_true rfl, Nat.le_of_ble_eq_true rfl⟩) rfl hl.1 rfl (Nat.le_of_ble_eq_true rfl) dX10_offer_250 ⟨Nat.le_of_ble_eq_true rfl, Nat.le_of_ble_eq_true rfl⟩ (fun H locs hW => ?_)
                  refine lv_istore (lv' := [(8, .int r48), (0, .ref (G.2.2.1 0)), (7, .int x22)]) hx hb dX10_offer_253 hl (by decide) rfl (fun ls hl => ?_)
                  refine lv_goto (tgt := 215) hx hb dX10_offer_255 (by decide) ?_
                  exact ih _ _ _ _ _ _ _ hf hW (lv_sub hl [1, 2, 0] rfl) hE
          obtain ⟨⟨y41, m42⟩, hg, hf⟩ := ob_inv hf
          have hf := ob_inv2 hf
          refine hL215 _ _ _ _ _ _ _ _ hg hW (lv_sub hl [1, 2, 0] rfl) (fun H locs ls hW hl => ?_)
          refine lv_iload hx hb dX10_offer_258 (lv_at hl 0 rfl) ?_
          cases hf
          subst hQ
          exact g_iret hC hW hr hlocks rfl rfl dX10_offer_260
        replace hf := hg
        refine lv_if_eq (tgt := 163) hx hb dX10_offer_156 (by decide) (fun c27 => ?_) (fun c27 => ?_)
        · have hf := a_if_t c27 hf
          refine lv_iconst (v := 0) hx hb dX10_offer_163 (by decide) ?_
          cases hf
          exact hJ164 H locs ls hW (lv_sub hl [1, 6, 7, 0] rfl)
        · have hf := a_if_f c27 hf
          refine lv_iconst (v := 1) hx hb dX10_offer_159 (by decide) ?_
          refine lv_goto (tgt := 164) hx hb dX10_offer_160 (by decide) ?_
          cases hf
          exact hJ164 H locs ls hW (lv_sub hl [1, 6, 7, 0] rfl)
      · have hf := a_if_f c21 hf
        refine lv_iconst (v := 0) hx hb dX10_offer_106 (by decide) ?_
        cases hf
        subst hQ
        exact g_iret hC hW hr hlocks rfl rfl dX10_offer_107
    replace hf := hg
    refine lv_if_ne (tgt := 99) hx hb dX10_offer_61 (by decide) (fun c13 => ?_) (fun c13 => ?_)
    · have hf := a_if_f c13 hf
      cases hf
      exact hJ99 H locs ls hW (lv_sub hl [0, 1, 2, 3, 4, 5, 6] rfl)
    · have hf := a_if_t c13 hf
      refine lv_aload_n hx hb dX10_offer_64 rfl (lv_at hl 0 rfl) ?_
      refine lv_aload_n hx hb dX10_offer_65 rfl (lv_at hl 0 rfl) ?_
      refine g_getr hC hW (o := 0) (ci := 10) (k := 5) zm_k0 zm_b0 rfl hi10 (by decide) rfl (t := 4) zm_r0_5 (by decide +kernel) dX10_offer_66 ?_
      refine lv_iload_n hx hb dX10_offer_69 rfl (lv_at hl 1 rfl) ?_
      obtain ⟨v15, h9, hf⟩ := ob_inv hf
      refine g_ild hC hW zm_k4 zm_b4 zm_n4 h9 dX10_offer_70 ?_
      refine lv_iconst (v := 1) hx hb dX10_offer_71 (by decide) ?_
      obtain ⟨z17, hg, hf⟩ := ob_inv hf
      have hJ96 : ∀ (H : Heap) (locs : List Loc) (ls : Array Slot), g_H ZM G s H locs m12 → lv_has ls 9 [(0, .ref (G.2.2.1 0)), (1, .int p1), (2, .int p2), (3, .int p3), (4, .int p4), (5, .int p5), (6, .int p6)] → W p l e (headSpec wsX10_offer rmX10_offer).room s m ([.ref (G.2.2.1 0), .int p1, .int p2, .int p3, .int p4, .int p5, .int p6] : List Value).toArray below meth c H locs 0 0 Q (F0 m 96 ls [.int z17, .ref (G.2.2.1 0)]) := by
        intro H locs ls hW hl
        obtain ⟨m20, h9, hf⟩ := ob_inv hf
        refine g_puti hC hW (o := 0) (ci := 10) (k := 67) zm_k0 zm_b0 rfl hi10 tyX10_ok nmX10 (by decide) rfl rfl rfl (by decide +kernel) dX10_offer_96 (fun H locs hW => ?_)
        rw [Option.some.inj h9] at hW
        cases hf
        exact hJ99 H locs ls hW (lv_sub hl [0, 1, 2, 3, 4, 5, 6] rfl)
      replace hf := hg
      refine lv_icmp_eq (tgt := 91) hx hb dX10_offer_72 (by decide) (fun c16 => ?_) (fun c16 => ?_)
      · have hf := a_if_t c16 hf
        refine lv_iconst (v := 3) hx hb dX10_offer_91 (by decide) ?_
        refine lv_goto (tgt := 96) hx hb dX10_offer_92 (by decide) ?_
        cases hf
        exact hJ96 H locs ls hW (lv_sub hl [0, 1, 2, 3, 4, 5, 6] rfl)
      · have hf := a_if_f c16 hf
        refine lv_aload_n hx hb dX10_offer_75 rfl (lv_at hl 0 rfl) ?_
        refine g_geti hC hW (o := 0) (ci := 10) (k := 1) zm_k0 zm_b0 rfl hi10 (by decide) rfl (by decide +kernel) dX10_offer_76 ?_
        refine lv_if_eq (tgt := 91) hx hb dX10_offer_79 (by decide) (fun c18 => ?_) (fun c18 => ?_)
        · have hf := a_if_t c18 hf
          refine lv_iconst (v := 3) hx hb dX10_offer_91 (by decide) ?_
          refine lv_goto (tgt := 96) hx hb dX10_offer_92 (by decide) ?_
          cases hf
          exact hJ96 H locs ls hW (lv_sub hl [0, 1, 2, 3, 4, 5, 6] rfl)
        · have hf := a_if_f c18 hf
          refine lv_aload_n hx hb dX10_offer_82 rfl (lv_at hl 0 rfl) ?_
          refine g_geti hC hW (o := 0) (ci := 10) (k := 33) zm_k0 zm_b0 rfl hi10 (by decide) rfl (by decide +kernel) dX10_offer_83 ?_
          refine lv_bipush (v := 60) hx hb dX10_offer_86 (by decide) ?_
          refine lv_icmp_ne (tgt := 95) hx hb dX10_offer_88 (by decide) (fun c19 => ?_) (fun c19 => ?_)
          · have hf := a_if_f c19 hf
            refine lv_iconst (v := 0) hx hb dX10_offer_95 (by decide) ?_
            cases hf
            exact hJ96 H locs ls hW (lv_sub hl [0, 1, 2, 3, 4, 5, 6] rfl)
          · have hf := a_if_t c19 hf
            refine lv_iconst (v := 3) hx hb dX10_offer_91 (by decide) ?_
            refine lv_goto (tgt := 96) hx hb dX10_offer_92 (by decide) ?_
            cases hf
            exact hJ96 H locs ls hW (lv_sub hl [0, 1, 2, 3, 4, 5, 6] rfl)
  replace hf := hg
  refine lv_if_eq (tgt := 22) hx hb dX10_offer_5 (by decide) (fun c2 => ?_) (fun c2 => ?_)
  · have hf := a_if_t c2 hf
    refine lv_iconst (v := 1) hx hb dX10_offer_22 (by decide) ?_
    refine lv_goto (tgt := 54) hx hb dX10_offer_23 (by decide) ?_
    cases hf
    exact hJ54 H locs ls hW (lv_sub hl [0, 1, 2, 3, 4, 5, 6] rfl)
  · have hf := a_if_f c2 hf
    refine lv_iload_n hx hb dX10_offer_8 rfl (lv_at hl 2 rfl) ?_
    obtain ⟨r4, hg, hf⟩ := ob_inv hf
    refine g_cSi hC hW (As := [.int p2]) (rest := [.ref (G.2.2.1 0)]) (c_X10_isZone l G  hg) (va_cwS 1 hts gX10_offer_X10_isZone rfl rfl rfl (by decide +kernel) ⟨Nat.le_of_ble_eq_true rfl, Nat.le_of_ble_eq_true rfl⟩) rfl hl.1 rfl (Nat.le_of_ble_eq_true rfl) dX10_offer_9 ⟨Nat.le_of_ble_eq_true rfl, Nat.le_of_ble_eq_true rfl⟩ (fun H locs hW => ?_)
    refine lv_if_eq (tgt := 22) hx hb dX10_offer_12 (by decide) (fun c5 => ?_) (fun c5 => ?_)
    · have hf := a_if_t c5 hf
      refine lv_iconst (v := 1) hx hb dX10_offer_22 (by decide) ?_
      refine lv_goto (tgt := 54) hx hb dX10_offer_23 (by decide) ?_
      cases hf
      exact hJ54 H locs ls hW (lv_sub hl [0, 1, 2, 3, 4, 5, 6] rfl)
    · have hf := a_if_f c5 hf
      refine lv_iload_n hx hb dX10_offer_15 rfl (lv_at hl 3 rfl) ?_
      obtain ⟨r6, hg, hf⟩ := ob_inv hf
      refine g_cSi hC hW (As := [.int p3]) (rest := [.ref (G.2.2.1 0)]) (c_X10_isHour l G  hg) (va_cwS 1 hts gX10_offer_X10_isHour rfl rfl rfl (by decide +kernel) ⟨Nat.le_of_ble_eq_true rfl, Nat.le_of_ble_eq_true rfl⟩) rfl hl.1 rfl (Nat.le_of_ble_eq_true rfl) dX10_offer_16 ⟨Nat.le_of_ble_eq_true rfl, Nat.le_of_ble_eq_true rfl⟩ (fun H locs hW => ?_)
      refine lv_if_ne (tgt := 26) hx hb dX10_offer_19 (by decide) (fun c7 => ?_) (fun c7 => ?_)
      · have hf := a_if_f c7 hf
        refine lv_iload hx hb dX10_offer_26 (lv_at hl 5 rfl) ?_
        refine lv_iconst (v := 0) hx hb dX10_offer_28 (by decide) ?_
        refine lv_sipush (v := 300) hx hb dX10_offer_29 (by decide) ?_
        obtain ⟨r8, hg, hf⟩ := ob_inv hf
        refine g_cSi hC hW (As := [.int p5, .int 0, .int 300]) (rest := [.ref (G.2.2.1 0)]) (c_X10_in l G  hg) (va_cwS 3 hts gX10_offer_X10_in rfl rfl rfl (by decide +kernel) ⟨Nat.le_of_ble_eq_true rfl, Nat.le_of_ble_eq_true rfl⟩) rfl hl.1 rfl (Nat.le_of_ble_eq_true rfl) dX10_offer_32 ⟨Nat.le_of_ble_eq_true rfl, Nat.le_of_ble_eq_true rfl⟩ (fun H locs hW => ?_)
        refine lv_if_eq (tgt := 49) hx hb dX10_offer_35 (by decide) (fun c9 => ?_) (fun c9 => ?_)
        · have hf := a_if_t c9 hf
          refine lv_iconst (v := 2) hx hb dX10_offer_49 (by decide) ?_
          refine lv_goto (tgt := 54) hx hb dX10_offer_50 (by decide) ?_
          cases hf
          exact hJ54 H locs ls hW (lv_sub hl [0, 1, 2, 3, 4, 5, 6] rfl)
        · have hf := a_if_f c9 hf
          refine lv_iload hx hb dX10_offer_38 (lv_at hl 6 rfl) ?_
          refine lv_iconst (v := 1) hx hb dX10_offer_40 (by decide) ?_
          refine lv_bipush (v := 10) hx hb dX10_offer_41 (by decide) ?_
          obtain ⟨r10, hg, hf⟩ := ob_inv hf
          refine g_cSi hC hW (As := [.int p6, .int 1, .int 10]) (rest := [.ref (G.2.2.1 0)]) (c_X10_in l G  hg) (va_cwS 3 hts gX10_offer_X10_in rfl rfl rfl (by decide +kernel) ⟨Nat.le_of_ble_eq_true rfl, Nat.le_of_ble_eq_true rfl⟩) rfl hl.1 rfl (Nat.le_of_ble_eq_true rfl) dX10_offer_43 ⟨Nat.le_of_ble_eq_true rfl, Nat.le_of_ble_eq_true rfl⟩ (fun H locs hW => ?_)
          refine lv_if_ne (tgt := 53) hx hb dX10_offer_46 (by decide) (fun c11 => ?_) (fun c11 => ?_)
          · have hf := a_if_f c11 hf
            refine lv_iconst (v := 0) hx hb dX10_offer_53 (by decide) ?_
            cases hf
            exact hJ54 H locs ls hW (lv_sub hl [0, 1, 2, 3, 4, 5, 6] rfl)
          · have hf := a_if_t c11 hf
            refine lv_iconst (v := 2) hx hb dX10_offer_49 (by decide) ?_
            refine lv_goto (tgt := 54) hx hb dX10_offer_50 (by decide) ?_
            cases hf
            exact hJ54 H locs ls hW (lv_sub hl [0, 1, 2, 3, 4, 5, 6] rfl)
      · have hf := a_if_t c7 hf
        refine lv_iconst (v := 1) hx hb dX10_offer_22 (by decide) ?_
        refine lv_goto (tgt := 54) hx hb dX10_offer_23 (by decide) ?_
        cases hf
        exact hJ54 H locs ls hW (lv_sub hl [0, 1, 2, 3, 4, 5, 6] rfl)
abbrev rmX10_takeBack : Room := { frames := 1, cells := 0, slots := 0, locals := 22 }
set_option maxHeartbeats 4000000 in
set_option maxRecDepth 100000 in
theorem c_X10_takeBack (l : Launch) (G : gG) {p1 : Int32} {me : gM} {r0 : Int32} {m0 : gM}  (hf : f_X10_takeBack p1 me = some (r0, m0)) : Met l yX10_takeBack wsX10_takeBack rmX10_takeBack (va_Pc [.ref (G.2.2.1 0), .int p1] (g_W ZM G me)) (g_Qi ZM G r0 m0) 0 0 (g_A ZM G) := by
  refine Met.ofW (cc := cX10_takeBack) (maxL := 3) (ret := (some .int)) (by decide) rfl ?_
  intro p e s m args below meth c s₁ B hml hv
  obtain ⟨rfl, hW0⟩ := hv
  have hC : CallFix p m c cX10_takeBack 3 s ([.ref (G.2.2.1 0), .int p1] : List Value).toArray wsX10_takeBack RX10 := ⟨B.exec, B.bytes, hml, findClass_of_methodNamed B.named, atoms_spec (ws := wsX10_takeBack) B.pre⟩
  have hx := hC.1
  have hb := hC.2.1
  have hown := hC.2.2.2.1
  have hts := hC.2.2.2.2
  have hr := B.returns
  have hlocks := B.notSynchronized
  have hW := g_H_enter hW0
  have hi10 : ∀ w ∈ wsX100, w ∈ wsX10_takeBack := by decide +kernel
  have hl := lv_entry ([.ref (G.2.2.1 0), .int p1]) (n := 3) (Nat.le_of_ble_eq_true rfl)
  rw [lg_entry_eq]
  generalize (lg_sl ([.ref (G.2.2.1 0), .int p1]) ++ List.replicate (3 - (lg_sl ([.ref (G.2.2.1 0), .int p1])).length) Slot.unset).toArray = ls at hl ⊢
  have hl : lv_has ls 3 [(0, .ref (G.2.2.1 0)), (1, .int p1)] := hl
  obtain ⟨Q, hQ⟩ : ∃ Q, Q = MQ below (g_Qi ZM G r0 m0) ([.ref (G.2.2.1 0), .int p1] : List Value).toArray s 0 0 (g_A ZM G) := ⟨_, rfl⟩
  refine g_goQ hQ ?_
  unfold f_X10_takeBack at hf
  refine g_start hW (fun H locs hW => ?_)
  refine lv_aload_n hx hb dX10_takeBack_0 rfl (lv_at hl 0 rfl) ?_
  refine lv_iload_n hx hb dX10_takeBack_1 rfl (lv_at hl 1 rfl) ?_
  refine lv_iconst (v := 0) hx hb dX10_takeBack_2 (by decide) ?_
  refine lv_aload_n hx hb dX10_takeBack_3 rfl (lv_at hl 0 rfl) ?_
  refine g_geti hC hW (o := 0) (ci := 10) (k := 33) zm_k0 zm_b0 rfl hi10 (by decide) rfl (by decide +kernel) dX10_takeBack_4 ?_
  refine lv_iconst (v := 1) hx hb dX10_takeBack_7 (by decide) ?_
  refine lv_isub hx hb dX10_takeBack_8 ?_
  obtain ⟨r1, hg, hf⟩ := ob_inv hf
  refine g_cSi hC hW (As := [.int p1, .int 0, .int ((me 0 33) - 1)]) (rest := [.ref (G.2.2.1 0)]) (c_X10_in l G  hg) (va_cwS 3 hts gX10_takeBack_X10_in rfl rfl rfl (by decide +kernel) ⟨Nat.le_of_ble_eq_true rfl, Nat.le_of_ble_eq_true rfl⟩) rfl hl.1 rfl (Nat.le_of_ble_eq_true rfl) dX10_takeBack_9 ⟨Nat.le_of_ble_eq_true rfl, Nat.le_of_ble_eq_true rfl⟩ (fun H locs hW => ?_)
  obtain ⟨z3, hg, hf⟩ := ob_inv hf
  have hJ33 : ∀ (H : Heap) (locs : List Loc) (ls : Array Slot), g_H ZM G s H locs me → lv_has ls 3 [(0, .ref (G.2.2.1 0)), (1, .int p1)] → W p l e (headSpec wsX10_takeBack rmX10_takeBack).room s m ([.ref (G.2.2.1 0), .int p1] : List Value).toArray below meth c H locs 0 0 Q (F0 m 33 ls [.int z3, .ref (G.2.2.1 0)]) := by
    intro H locs ls hW hl
    obtain ⟨m6, h9, hf⟩ := ob_inv hf
    refine g_puti hC hW (o := 0) (ci := 10) (k := 67) zm_k0 zm_b0 rfl hi10 tyX10_ok nmX10 (by decide) rfl rfl rfl (by decide +kernel) dX10_takeBack_33 (fun H locs hW => ?_)
    rw [Option.some.inj h9] at hW
    refine lv_aload_n hx hb dX10_takeBack_36 rfl (lv_at hl 0 rfl) ?_
    refine g_geti hC hW (o := 0) (ci := 10) (k := 67) zm_k0 zm_b0 rfl hi10 (by decide) rfl (by decide +kernel) dX10_takeBack_37 ?_
    refine lv_if_le (tgt := 45) hx hb dX10_takeBack_40 (by decide) (fun c7 => ?_) (fun c7 => ?_)
    · have hf := a_if_t c7 hf
      refine lv_aload_n hx hb dX10_takeBack_45 rfl (lv_at hl 0 rfl) ?_
      refine g_getr hC hW (o := 0) (ci := 10) (k := 39) zm_k0 zm_b0 rfl hi10 (by decide) rfl (t := 32) zm_r0_39 (by decide +kernel) dX10_takeBack_46 ?_
      refine lv_iload_n hx hb dX10_takeBack_49 rfl (lv_at hl 1 rfl) ?_
      obtain ⟨v8, h9, hf⟩ := ob_inv hf
      refine g_ild hC hW zm_k32 zm_b32 zm_n32 h9 dX10_takeBack_50 ?_
      refine lv_istore_n (lv' := [(2, .int v8), (0, .ref (G.2.2.1 0)), (1, .int p1)]) hx hb dX10_takeBack_51 rfl hl (by decide) rfl (fun ls hl => ?_)
      refine lv_aload_n hx hb dX10_takeBack_52 rfl (lv_at hl 1 rfl) ?_
      refine g_getr hC hW (o := 0) (ci := 10) (k := 39) zm_k0 zm_b0 rfl hi10 (by decide) rfl (t := 32) zm_r0_39 (by decide +kernel) dX10_takeBack_53 ?_
      refine lv_iload_n hx hb dX10_takeBack_56 rfl (lv_at hl 2 rfl) ?_
      refine lv_iconst (v := 0) hx hb dX10_takeBack_57 (by decide) ?_
      obtain ⟨m9, h9, hf⟩ := ob_inv hf
      refine g_ist hC hW zm_k32 zm_b32 zm_n32 h9 dX10_takeBack_58 (fun H locs hW => ?_)
      refine lv_iload_n hx hb dX10_takeBack_59 rfl (lv_at hl 0 rfl) ?_
      cases hf
      subst hQ
      exact g_iret hC hW hr hlocks rfl rfl dX10_takeBack_60
    · have hf := a_if_f c7 hf
      refine lv_iconst (v := 0) hx hb dX10_takeBack_43 (by decide) ?_
      cases hf
      subst hQ
      exact g_iret hC hW hr hlocks rfl rfl dX10_takeBack_44
  replace hf := hg
  refine lv_if_ne (tgt := 19) hx hb dX10_takeBack_12 (by decide) (fun c2 => ?_) (fun c2 => ?_)
  · have hf := a_if_f c2 hf
    refine lv_aload_n hx hb dX10_takeBack_19 rfl (lv_at hl 0 rfl) ?_
    refine g_getr hC hW (o := 0) (ci := 10) (k := 39) zm_k0 zm_b0 rfl hi10 (by decide) rfl (t := 32) zm_r0_39 (by decide +kernel) dX10_takeBack_20 ?_
    refine lv_iload_n hx hb dX10_takeBack_23 rfl (lv_at hl 1 rfl) ?_
    obtain ⟨v4, h9, hf⟩ := ob_inv hf
    refine g_ild hC hW zm_k32 zm_b32 zm_n32 h9 dX10_takeBack_24 ?_
    refine lv_if_ne (tgt := 32) hx hb dX10_takeBack_25 (by decide) (fun c5 => ?_) (fun c5 => ?_)
    · have hf := a_if_f c5 hf
      refine lv_iconst (v := 0) hx hb dX10_takeBack_32 (by decide) ?_
      cases hf
      exact hJ33 H locs ls hW (lv_sub hl [0, 1] rfl)
    · have hf := a_if_t c5 hf
      refine lv_iconst (v := 2) hx hb dX10_takeBack_28 (by decide) ?_
      refine lv_goto (tgt := 33) hx hb dX10_takeBack_29 (by decide) ?_
      cases hf
      exact hJ33 H locs ls hW (lv_sub hl [0, 1] rfl)
  · have hf := a_if_t c2 hf
    refine lv_iconst (v := 1) hx hb dX10_takeBack_15 (by decide) ?_
    refine lv_goto (tgt := 33) hx hb dX10_takeBack_16 (by decide) ?_
    cases hf
    exact hJ33 H locs ls hW (lv_sub hl [0, 1] rfl)
abbrev rmX10_aid : Room := { frames := 2, cells := 0, slots := 0, locals := 42 }
set_option maxHeartbeats 4000000 in
set_option maxRecDepth 100000 in
theorem c_X10_aid (l : Launch) (G : gG) {p1 : Int32} {p2 : Int32} {p3 : Int32} {p4 : Int32} {p5 : Int32} {me : gM} {r0 : Int32} {m0 : gM}  (hf : f_X10_aid p1 p2 p3 p4 p5 me = some (r0, m0)) : Met l yX10_aid wsX10_aid rmX10_aid (va_Pc [.ref (G.2.2.1 0), .int p1, .int p2, .int p3, .int p4, .int p5] (g_W ZM G me)) (g_Qi ZM G r0 m0) 0 0 (g_A ZM G) := by
  refine Met.ofW (cc := cX10_aid) (maxL := 7) (ret := (some .int)) (by decide) rfl ?_
  intro p e s m args below meth c s₁ B hml hv
  obtain ⟨rfl, hW0⟩ := hv
  have hC : CallFix p m c cX10_aid 7 s ([.ref (G.2.2.1 0), .int p1, .int p2, .int p3, .int p4, .int p5] : List Value).toArray wsX10_aid RX10 := ⟨B.exec, B.bytes, hml, findClass_of_methodNamed B.named, atoms_spec (ws := wsX10_aid) B.pre⟩
  have hx := hC.1
  have hb := hC.2.1
  have hown := hC.2.2.2.1
  have hts := hC.2.2.2.2
  have hr := B.returns
  have hlocks := B.notSynchronized
  have hW := g_H_enter hW0
  have hi10 : ∀ w ∈ wsX100, w ∈ wsX10_aid := by decide +kernel
  have hl := lv_entry ([.ref (G.2.2.1 0), .int p1, .int p2, .int p3, .int p4, .int p5]) (n := 7) (Nat.le_of_ble_eq_true rfl)
  rw [lg_entry_eq]
  generalize (lg_sl ([.ref (G.2.2.1 0), .int p1, .int p2, .int p3, .int p4, .int p5]) ++ List.replicate (7 - (lg_sl ([.ref (G.2.2.1 0), .int p1, .int p2, .int p3, .int p4, .int p5])).length) Slot.unset).toArray = ls at hl ⊢
  have hl : lv_has ls 7 [(0, .ref (G.2.2.1 0)), (1, .int p1), (2, .int p2), (3, .int p3), (4, .int p4), (5, .int p5)] := hl
  obtain ⟨Q, hQ⟩ : ∃ Q, Q = MQ below (g_Qi ZM G r0 m0) ([.ref (G.2.2.1 0), .int p1, .int p2, .int p3, .int p4, .int p5] : List Value).toArray s 0 0 (g_A ZM G) := ⟨_, rfl⟩
  refine g_goQ hQ ?_
  unfold f_X10_aid at hf
  refine g_start hW (fun H locs hW => ?_)
  refine lv_aload_n hx hb dX10_aid_0 rfl (lv_at hl 0 rfl) ?_
  refine lv_iload_n hx hb dX10_aid_1 rfl (lv_at hl 1 rfl) ?_
  obtain ⟨r1, hg, hf⟩ := ob_inv hf
  refine g_cSi hC hW (As := [.int p1]) (rest := [.ref (G.2.2.1 0)]) (c_X10_isFirm l G  hg) (va_cwS 1 hts gX10_aid_X10_isFirm rfl rfl rfl (by decide +kernel) ⟨Nat.le_of_ble_eq_true rfl, Nat.le_of_ble_eq_true rfl⟩) rfl hl.1 rfl (Nat.le_of_ble_eq_true rfl) dX10_aid_2 ⟨Nat.le_of_ble_eq_true rfl, Nat.le_of_ble_eq_true rfl⟩ (fun H locs hW => ?_)
  obtain ⟨z3, hg, hf⟩ := ob_inv hf
  have hJ75 : ∀ (H : Heap) (locs : List Loc) (ls : Array Slot), g_H ZM G s H locs me → lv_has ls 7 [(0, .ref (G.2.2.1 0)), (1, .int p1), (2, .int p2), (3, .int p3), (4, .int p4), (5, .int p5)] → W p l e (headSpec wsX10_aid rmX10_aid).room s m ([.ref (G.2.2.1 0), .int p1, .int p2, .int p3, .int p4, .int p5] : List Value).toArray below meth c H locs 0 0 Q (F0 m 75 ls [.int z3, .ref (G.2.2.1 0)]) := by
    intro H locs ls hW hl
    obtain ⟨m14, h9, hf⟩ := ob_inv hf
    refine g_puti hC hW (o := 0) (ci := 10) (k := 67) zm_k0 zm_b0 rfl hi10 tyX10_ok nmX10 (by decide) rfl rfl rfl (by decide +kernel) dX10_aid_75 (fun H locs hW => ?_)
    rw [Option.some.inj h9] at hW
    refine lv_aload_n hx hb dX10_aid_78 rfl (lv_at hl 0 rfl) ?_
    refine g_geti hC hW (o := 0) (ci := 10) (k := 67) zm_k0 zm_b0 rfl hi10 (by decide) rfl (by decide +kernel) dX10_aid_79 ?_
    refine lv_if_le (tgt := 87) hx hb dX10_aid_82 (by decide) (fun c15 => ?_) (fun c15 => ?_)
    · have hf := a_if_t c15 hf
      refine lv_bipush (v := 30) hx hb dX10_aid_87 (by decide) ?_
      refine lv_aload_n hx hb dX10_aid_89 rfl (lv_at hl 0 rfl) ?_
      refine g_geti hC hW (o := 0) (ci := 10) (k := 0) zm_k0 zm_b0 rfl hi10 (by decide) rfl (by decide +kernel) dX10_aid_90 ?_
      refine lv_imul hx hb dX10_aid_93 ?_
      refine lv_aload_n hx hb dX10_aid_94 rfl (lv_at hl 0 rfl) ?_
      refine g_getr hC hW (o := 0) (ci := 10) (k := 41) zm_k0 zm_b0 rfl hi10 (by decide) rfl (t := 34) zm_r0_41 (by decide +kernel) dX10_aid_95 ?_
      refine lv_aload_n hx hb dX10_aid_98 rfl (lv_at hl 0 rfl) ?_
      refine g_geti hC hW (o := 0) (ci := 10) (k := 0) zm_k0 zm_b0 rfl hi10 (by decide) rfl (by decide +kernel) dX10_aid_99 ?_
      obtain ⟨v16, h9, hf⟩ := ob_inv hf
      refine g_ild hC hW zm_k34 zm_b34 zm_n34 h9 dX10_aid_102 ?_
      refine lv_iadd hx hb dX10_aid_103 ?_
      obtain ⟨x17, h9, hf⟩ := ob_inv hf
      refine g_nmi (Option.some.inj h9) ?_
      refine lv_istore (lv' := [(6, .int x17), (0, .ref (G.2.2.1 0)), (1, .int p1), (2, .int p2), (3, .int p3), (4, .int p4), (5, .int p5)]) hx hb dX10_aid_104 hl (by decide) rfl (fun ls hl => ?_)
      refine lv_aload_n hx hb dX10_aid_106 rfl (lv_at hl 1 rfl) ?_
      refine g_getr hC hW (o := 0) (ci := 10) (k := 42) zm_k0 zm_b0 rfl hi10 (by decide) rfl (t := 35) zm_r0_42 (by decide +kernel) dX10_aid_107 ?_
      refine lv_iload hx hb dX10_aid_110 (lv_at hl 0 rfl) ?_
      refine lv_iload_n hx hb dX10_aid_112 rfl (lv_at hl 2 rfl) ?_
      obtain ⟨m18, h9, hf⟩ := ob_inv hf
      refine g_ist hC hW zm_k35 zm_b35 zm_n35 h9 dX10_aid_113 (fun H locs hW => ?_)
      refine lv_aload_n hx hb dX10_aid_114 rfl (lv_at hl 1 rfl) ?_
      refine g_getr hC hW (o := 0) (ci := 10) (k := 43) zm_k0 zm_b0 rfl hi10 (by decide) rfl (t := 36) zm_r0_43 (by decide +kernel) dX10_aid_115 ?_
      refine lv_iload hx hb dX10_aid_118 (lv_at hl 0 rfl) ?_
      refine lv_iload_n hx hb dX10_aid_120 rfl (lv_at hl 3 rfl) ?_
      obtain ⟨m19, h9, hf⟩ := ob_inv hf
      refine g_ist hC hW zm_k36 zm_b36 zm_n36 h9 dX10_aid_121 (fun H locs hW => ?_)
      refine lv_aload_n hx hb dX10_aid_122 rfl (lv_at hl 1 rfl) ?_
      refine g_getr hC hW (o := 0) (ci := 10) (k := 44) zm_k0 zm_b0 rfl hi10 (by decide) rfl (t := 37) zm_r0_44 (by decide +kernel) dX10_aid_123 ?_
      refine lv_iload hx hb dX10_aid_126 (lv_at hl 0 rfl) ?_
      refine lv_iload_n hx hb dX10_aid_128 rfl (lv_at hl 4 rfl) ?_
      obtain ⟨z21, hg, hf⟩ := ob_inv hf
      have hJ137 : ∀ (H : Heap) (locs : List Loc) (ls : Array Slot), g_H ZM G s H locs m19 → lv_has ls 7 [(0, .ref (G.2.2.1 0)), (4, .int p4), (5, .int p5), (6, .int x17)] → W p l e (headSpec wsX10_aid rmX10_aid).room s m ([.ref (G.2.2.1 0), .int p1, .int p2, .int p3, .int p4, .int p5] : List Value).toArray below meth c H locs 0 0 Q (F0 m 137 ls [.int z21, .int x17, .ref (G.2.2.1 37)]) := by
        intro H locs ls hW hl
        obtain ⟨m22, h9, hf⟩ := ob_inv hf
        refine g_ist hC hW zm_k37 zm_b37 zm_n37 h9 dX10_aid_137 (fun H locs hW => ?_)
        refine lv_aload_n hx hb dX10_aid_138 rfl (lv_at hl 0 rfl) ?_
        refine g_getr hC hW (o := 0) (ci := 10) (k := 45) zm_k0 zm_b0 rfl hi10 (by decide) rfl (t := 38) zm_r0_45 (by decide +kernel) dX10_aid_139 ?_
        refine lv_iload hx hb dX10_aid_142 (lv_at hl 3 rfl) ?_
        refine lv_iload hx hb dX10_aid_144 (lv_at hl 1 rfl) ?_
        obtain ⟨m23, h9, hf⟩ := ob_inv hf
        refine g_ist hC hW zm_k38 zm_b38 zm_n38 h9 dX10_aid_146 (fun H locs hW => ?_)
        refine lv_aload_n hx hb dX10_aid_147 rfl (lv_at hl 0 rfl) ?_
        refine g_getr hC hW (o := 0) (ci := 10) (k := 46) zm_k0 zm_b0 rfl hi10 (by decide) rfl (t := 39) zm_r0_46 (by decide +kernel) dX10_aid_148 ?_
        refine lv_iload hx hb dX10_aid_151 (lv_at hl 3 rfl) ?_
        refine lv_iload hx hb dX10_aid_153 (lv_at hl 2 rfl) ?_
        obtain ⟨m24, h9, hf⟩ := ob_inv hf
        refine g_ist hC hW zm_k39 zm_b39 zm_n39 h9 dX10_aid_155 (fun H locs hW => ?_)
        refine lv_aload_n hx hb dX10_aid_156 rfl (lv_at hl 0 rfl) ?_
        refine g_getr hC hW (o := 0) (ci := 10) (k := 41) zm_k0 zm_b0 rfl hi10 (by decide) rfl (t := 34) zm_r0_41 (by decide +kernel) dX10_aid_157 ?_
        refine lv_aload_n hx hb dX10_aid_160 rfl (lv_at hl 0 rfl) ?_
        refine g_geti hC hW (o := 0) (ci := 10) (k := 0) zm_k0 zm_b0 rfl hi10 (by decide) rfl (by decide +kernel) dX10_aid_161 ?_
        refine lv_dup2_11 hx hb dX10_aid_164 rfl rfl ?_
        obtain ⟨v25, h9, hf⟩ := ob_inv hf
        refine g_ild hC hW zm_k34 zm_b34 zm_n34 h9 dX10_aid_165 ?_
        refine lv_iconst (v := 1) hx hb dX10_aid_166 (by decide) ?_
        refine lv_iadd hx hb dX10_aid_167 ?_
        obtain ⟨m26, h9, hf⟩ := ob_inv hf
        refine g_ist hC hW zm_k34 zm_b34 zm_n34 h9 dX10_aid_168 (fun H locs hW => ?_)
        refine lv_aload_n hx hb dX10_aid_169 rfl (lv_at hl 0 rfl) ?_
        refine g_getr hC hW (o := 0) (ci := 10) (k := 41) zm_k0 zm_b0 rfl hi10 (by decide) rfl (t := 34) zm_r0_41 (by decide +kernel) dX10_aid_170 ?_
        refine lv_aload_n hx hb dX10_aid_173 rfl (lv_at hl 0 rfl) ?_
        refine g_geti hC hW (o := 0) (ci := 10) (k := 0) zm_k0 zm_b0 rfl hi10 (by decide) rfl (by decide +kernel) dX10_aid_174 ?_
        obtain ⟨v27, h9, hf⟩ := ob_inv hf
        refine g_ild hC hW zm_k34 zm_b34 zm_n34 h9 dX10_aid_177 ?_
        refine lv_iconst (v := 1) hx hb dX10_aid_178 (by decide) ?_
        refine lv_isub hx hb dX10_aid_179 ?_
        cases hf
        subst hQ
        exact g_iret hC hW hr hlocks rfl rfl dX10_aid_180
      replace hf := hg
      refine lv_if_eq (tgt := 136) hx hb dX10_aid_129 (by decide) (fun c20 => ?_) (fun c20 => ?_)
      · have hf := a_if_t c20 hf
        refine lv_iconst (v := 0) hx hb dX10_aid_136 (by decide) ?_
        cases hf
        exact hJ137 H locs ls hW (lv_sub hl [1, 5, 6, 0] rfl)
      · have hf := a_if_f c20 hf
        refine lv_iconst (v := 1) hx hb dX10_aid_132 (by decide) ?_
        refine lv_goto (tgt := 137) hx hb dX10_aid_133 (by decide) ?_
        cases hf
        exact hJ137 H locs ls hW (lv_sub hl [1, 5, 6, 0] rfl)
    · have hf := a_if_f c15 hf
      refine lv_iconst (v := 0) hx hb dX10_aid_85 (by decide) ?_
      cases hf
      subst hQ
      exact g_iret hC hW hr hlocks rfl rfl dX10_aid_86
  replace hf := hg
  refine lv_if_eq (tgt := 15) hx hb dX10_aid_5 (by decide) (fun c2 => ?_) (fun c2 => ?_)
  · have hf := a_if_t c2 hf
    refine lv_iconst (v := 1) hx hb dX10_aid_15 (by decide) ?_
    refine lv_goto (tgt := 75) hx hb dX10_aid_16 (by decide) ?_
    cases hf
    exact hJ75 H locs ls hW (lv_sub hl [0, 1, 2, 3, 4, 5] rfl)
  · have hf := a_if_f c2 hf
    refine lv_iload_n hx hb dX10_aid_8 rfl (lv_at hl 2 rfl) ?_
    obtain ⟨r4, hg, hf⟩ := ob_inv hf
    refine g_cSi hC hW (As := [.int p2]) (rest := [.ref (G.2.2.1 0)]) (c_X10_isHour l G  hg) (va_cwS 1 hts gX10_aid_X10_isHour rfl rfl rfl (by decide +kernel) ⟨Nat.le_of_ble_eq_true rfl, Nat.le_of_ble_eq_true rfl⟩) rfl hl.1 rfl (Nat.le_of_ble_eq_true rfl) dX10_aid_9 ⟨Nat.le_of_ble_eq_true rfl, Nat.le_of_ble_eq_true rfl⟩ (fun H locs hW => ?_)
    refine lv_if_ne (tgt := 19) hx hb dX10_aid_12 (by decide) (fun c5 => ?_) (fun c5 => ?_)
    · have hf := a_if_f c5 hf
      refine lv_iload hx hb dX10_aid_19 (lv_at hl 4 rfl) ?_
      refine lv_iconst (v := 0) hx hb dX10_aid_21 (by decide) ?_
      refine lv_sipush (v := 300) hx hb dX10_aid_22 (by decide) ?_
      obtain ⟨r6, hg, hf⟩ := ob_inv hf
      refine g_cSi hC hW (As := [.int p4, .int 0, .int 300]) (rest := [.ref (G.2.2.1 0)]) (c_X10_in l G  hg) (va_cwS 3 hts gX10_aid_X10_in rfl rfl rfl (by decide +kernel) ⟨Nat.le_of_ble_eq_true rfl, Nat.le_of_ble_eq_true rfl⟩) rfl hl.1 rfl (Nat.le_of_ble_eq_true rfl) dX10_aid_25 ⟨Nat.le_of_ble_eq_true rfl, Nat.le_of_ble_eq_true rfl⟩ (fun H locs hW => ?_)
      refine lv_if_eq (tgt := 42) hx hb dX10_aid_28 (by decide) (fun c7 => ?_) (fun c7 => ?_)
      · have hf := a_if_t c7 hf
        refine lv_iconst (v := 2) hx hb dX10_aid_42 (by decide) ?_
        refine lv_goto (tgt := 75) hx hb dX10_aid_43 (by decide) ?_
        cases hf
        exact hJ75 H locs ls hW (lv_sub hl [0, 1, 2, 3, 4, 5] rfl)
      · have hf := a_if_f c7 hf
        refine lv_iload hx hb dX10_aid_31 (lv_at hl 5 rfl) ?_
        refine lv_iconst (v := 1) hx hb dX10_aid_33 (by decide) ?_
        refine lv_bipush (v := 10) hx hb dX10_aid_34 (by decide) ?_
        obtain ⟨r8, hg, hf⟩ := ob_inv hf
        refine g_cSi hC hW (As := [.int p5, .int 1, .int 10]) (rest := [.ref (G.2.2.1 0)]) (c_X10_in l G  hg) (va_cwS 3 hts gX10_aid_X10_in rfl rfl rfl (by decide +kernel) ⟨Nat.le_of_ble_eq_true rfl, Nat.le_of_ble_eq_true rfl⟩) rfl hl.1 rfl (Nat.le_of_ble_eq_true rfl) dX10_aid_36 ⟨Nat.le_of_ble_eq_true rfl, Nat.le_of_ble_eq_true rfl⟩ (fun H locs hW => ?_)
        refine lv_if_ne (tgt := 46) hx hb dX10_aid_39 (by decide) (fun c9 => ?_) (fun c9 => ?_)
        · have hf := a_if_f c9 hf
          refine lv_aload_n hx hb dX10_aid_46 rfl (lv_at hl 0 rfl) ?_
          refine g_getr hC hW (o := 0) (ci := 10) (k := 5) zm_k0 zm_b0 rfl hi10 (by decide) rfl (t := 4) zm_r0_5 (by decide +kernel) dX10_aid_47 ?_
          refine lv_iload_n hx hb dX10_aid_50 rfl (lv_at hl 1 rfl) ?_
          obtain ⟨v10, h9, hf⟩ := ob_inv hf
          refine g_ild hC hW zm_k4 zm_b4 zm_n4 h9 dX10_aid_51 ?_
          refine lv_iconst (v := 1) hx hb dX10_aid_52 (by decide) ?_
          refine lv_icmp_eq (tgt := 70) hx hb dX10_aid_53 (by decide) (fun c11 => ?_) (fun c11 => ?_)
          · have hf := a_if_t c11 hf
            refine lv_iconst (v := 3) hx hb dX10_aid_70 (by decide) ?_
            refine lv_goto (tgt := 75) hx hb dX10_aid_71 (by decide) ?_
            cases hf
            exact hJ75 H locs ls hW (lv_sub hl [0, 1, 2, 3, 4, 5] rfl)
          · have hf := a_if_f c11 hf
            refine lv_aload_n hx hb dX10_aid_56 rfl (lv_at hl 0 rfl) ?_
            refine g_getr hC hW (o := 0) (ci := 10) (k := 41) zm_k0 zm_b0 rfl hi10 (by decide) rfl (t := 34) zm_r0_41 (by decide +kernel) dX10_aid_57 ?_
            refine lv_aload_n hx hb dX10_aid_60 rfl (lv_at hl 0 rfl) ?_
            refine g_geti hC hW (o := 0) (ci := 10) (k := 0) zm_k0 zm_b0 rfl hi10 (by decide) rfl (by decide +kernel) dX10_aid_61 ?_
            obtain ⟨v12, h9, hf⟩ := ob_inv hf
            refine g_ild hC hW zm_k34 zm_b34 zm_n34 h9 dX10_aid_64 ?_
            refine lv_bipush (v := 30) hx hb dX10_aid_65 (by decide) ?_
            refine lv_icmp_ne (tgt := 74) hx hb dX10_aid_67 (by decide) (fun c13 => ?_) (fun c13 => ?_)
            · have hf := a_if_f c13 hf
              refine lv_iconst (v := 0) hx hb dX10_aid_74 (by decide) ?_
              cases hf
              exact hJ75 H locs ls hW (lv_sub hl [0, 1, 2, 3, 4, 5] rfl)
            · have hf := a_if_t c13 hf
              refine lv_iconst (v := 3) hx hb dX10_aid_70 (by decide) ?_
              refine lv_goto (tgt := 75) hx hb dX10_aid_71 (by decide) ?_
              cases hf
              exact hJ75 H locs ls hW (lv_sub hl [0, 1, 2, 3, 4, 5] rfl)
        · have hf := a_if_t c9 hf
          refine lv_iconst (v := 2) hx hb dX10_aid_42 (by decide) ?_
          refine lv_goto (tgt := 75) hx hb dX10_aid_43 (by decide) ?_
          cases hf
          exact hJ75 H locs ls hW (lv_sub hl [0, 1, 2, 3, 4, 5] rfl)
    · have hf := a_if_t c5 hf
      refine lv_iconst (v := 1) hx hb dX10_aid_15 (by decide) ?_
      refine lv_goto (tgt := 75) hx hb dX10_aid_16 (by decide) ?_
      cases hf
      exact hJ75 H locs ls hW (lv_sub hl [0, 1, 2, 3, 4, 5] rfl)
abbrev rmX10_close : Room := { frames := 0, cells := 0, slots := 0, locals := 0 }
set_option maxHeartbeats 4000000 in
set_option maxRecDepth 100000 in
theorem c_X10_close (l : Launch) (G : gG)  {me : gM} {r0 : Int32} {m0 : gM}  (hf : f_X10_close me = some (r0, m0)) : Met l yX10_close wsX10_close rmX10_close (va_Pc [.ref (G.2.2.1 0)] (g_W ZM G me)) (g_Qi ZM G r0 m0) 0 0 (g_A ZM G) := by
  refine Met.ofW (cc := cX10_close) (maxL := 1) (ret := (some .int)) (by decide) rfl ?_
  intro p e s m args below meth c s₁ B hml hv
  obtain ⟨rfl, hW0⟩ := hv
  have hC : CallFix p m c cX10_close 1 s ([.ref (G.2.2.1 0)] : List Value).toArray wsX10_close RX10 := ⟨B.exec, B.bytes, hml, findClass_of_methodNamed B.named, atoms_spec (ws := wsX10_close) B.pre⟩
  have hx := hC.1
  have hb := hC.2.1
  have hown := hC.2.2.2.1
  have hts := hC.2.2.2.2
  have hr := B.returns
  have hlocks := B.notSynchronized
  have hW := g_H_enter hW0
  have hi10 : ∀ w ∈ wsX100, w ∈ wsX10_close := by decide +kernel
  have hl := lv_entry ([.ref (G.2.2.1 0)]) (n := 1) (Nat.le_of_ble_eq_true rfl)
  rw [lg_entry_eq]
  generalize (lg_sl ([.ref (G.2.2.1 0)]) ++ List.replicate (1 - (lg_sl ([.ref (G.2.2.1 0)])).length) Slot.unset).toArray = ls at hl ⊢
  have hl : lv_has ls 1 [(0, .ref (G.2.2.1 0))] := hl
  obtain ⟨Q, hQ⟩ : ∃ Q, Q = MQ below (g_Qi ZM G r0 m0) ([.ref (G.2.2.1 0)] : List Value).toArray s 0 0 (g_A ZM G) := ⟨_, rfl⟩
  refine g_goQ hQ ?_
  unfold f_X10_close at hf
  refine g_start hW (fun H locs hW => ?_)
  refine lv_aload_n hx hb dX10_close_0 rfl (lv_at hl 0 rfl) ?_
  refine lv_aload_n hx hb dX10_close_1 rfl (lv_at hl 0 rfl) ?_
  refine g_geti hC hW (o := 0) (ci := 10) (k := 1) zm_k0 zm_b0 rfl hi10 (by decide) rfl (by decide +kernel) dX10_close_2 ?_
  obtain ⟨z2, hg, hf⟩ := ob_inv hf
  have hJ22 : ∀ (H : Heap) (locs : List Loc) (ls : Array Slot), g_H ZM G s H locs me → lv_has ls 1 [(0, .ref (G.2.2.1 0))] → W p l e (headSpec wsX10_close rmX10_close).room s m ([.ref (G.2.2.1 0)] : List Value).toArray below meth c H locs 0 0 Q (F0 m 22 ls [.int z2, .ref (G.2.2.1 0)]) := by
    intro H locs ls hW hl
    obtain ⟨m4, h9, hf⟩ := ob_inv hf
    refine g_puti hC hW (o := 0) (ci := 10) (k := 67) zm_k0 zm_b0 rfl hi10 tyX10_ok nmX10 (by decide) rfl rfl rfl (by decide +kernel) dX10_close_22 (fun H locs hW => ?_)
    rw [Option.some.inj h9] at hW
    refine lv_aload_n hx hb dX10_close_25 rfl (lv_at hl 0 rfl) ?_
    refine g_geti hC hW (o := 0) (ci := 10) (k := 67) zm_k0 zm_b0 rfl hi10 (by decide) rfl (by decide +kernel) dX10_close_26 ?_
    refine lv_if_le (tgt := 34) hx hb dX10_close_29 (by decide) (fun c5 => ?_) (fun c5 => ?_)
    · have hf := a_if_t c5 hf
      refine lv_aload_n hx hb dX10_close_34 rfl (lv_at hl 0 rfl) ?_
      refine lv_dup hx hb dX10_close_35 rfl ?_
      refine g_geti hC hW (o := 0) (ci := 10) (k := 0) zm_k0 zm_b0 rfl hi10 (by decide) rfl (by decide +kernel) dX10_close_36 ?_
      refine lv_iconst (v := 1) hx hb dX10_close_39 (by decide) ?_
      refine lv_iadd hx hb dX10_close_40 ?_
      obtain ⟨m6, h9, hf⟩ := ob_inv hf
      refine g_puti hC hW (o := 0) (ci := 10) (k := 0) zm_k0 zm_b0 rfl hi10 tyX10_ok nmX10 (by decide) rfl rfl rfl (by decide +kernel) dX10_close_41 (fun H locs hW => ?_)
      rw [Option.some.inj h9] at hW
      refine lv_aload_n hx hb dX10_close_44 rfl (lv_at hl 0 rfl) ?_
      refine lv_iconst (v := 0) hx hb dX10_close_45 (by decide) ?_
      obtain ⟨m7, h9, hf⟩ := ob_inv hf
      refine g_puti hC hW (o := 0) (ci := 10) (k := 1) zm_k0 zm_b0 rfl hi10 tyX10_ok nmX10 (by decide) rfl rfl rfl (by decide +kernel) dX10_close_46 (fun H locs hW => ?_)
      rw [Option.some.inj h9] at hW
      refine lv_aload_n hx hb dX10_close_49 rfl (lv_at hl 0 rfl) ?_
      refine lv_iconst (v := 0) hx hb dX10_close_50 (by decide) ?_
      obtain ⟨m8, h9, hf⟩ := ob_inv hf
      refine g_puti hC hW (o := 0) (ci := 10) (k := 7) zm_k0 zm_b0 rfl hi10 tyX10_ok nmX10 (by decide) rfl rfl rfl (by decide +kernel) dX10_close_51 (fun H locs hW => ?_)
      rw [Option.some.inj h9] at hW
      refine lv_aload_n hx hb dX10_close_54 rfl (lv_at hl 0 rfl) ?_
      refine lv_iconst (v := 0) hx hb dX10_close_55 (by decide) ?_
      obtain ⟨m9, h9, hf⟩ := ob_inv hf
      refine g_puti hC hW (o := 0) (ci := 10) (k := 16) zm_k0 zm_b0 rfl hi10 tyX10_ok nmX10 (by decide) rfl rfl rfl (by decide +kernel) dX10_close_56 (fun H locs hW => ?_)
      rw [Option.some.inj h9] at hW
      refine lv_aload_n hx hb dX10_close_59 rfl (lv_at hl 0 rfl) ?_
      refine lv_iconst (v := 0) hx hb dX10_close_60 (by decide) ?_
      obtain ⟨m10, h9, hf⟩ := ob_inv hf
      refine g_puti hC hW (o := 0) (ci := 10) (k := 26) zm_k0 zm_b0 rfl hi10 tyX10_ok nmX10 (by decide) rfl rfl rfl (by decide +kernel) dX10_close_61 (fun H locs hW => ?_)
      rw [Option.some.inj h9] at hW
      refine lv_aload_n hx hb dX10_close_64 rfl (lv_at hl 0 rfl) ?_
      refine lv_iconst (v := 0) hx hb dX10_close_65 (by decide) ?_
      obtain ⟨m11, h9, hf⟩ := ob_inv hf
      refine g_puti hC hW (o := 0) (ci := 10) (k := 33) zm_k0 zm_b0 rfl hi10 tyX10_ok nmX10 (by decide) rfl rfl rfl (by decide +kernel) dX10_close_66 (fun H locs hW => ?_)
      rw [Option.some.inj h9] at hW
      refine lv_aload_n hx hb dX10_close_69 rfl (lv_at hl 0 rfl) ?_
      refine g_geti hC hW (o := 0) (ci := 10) (k := 0) zm_k0 zm_b0 rfl hi10 (by decide) rfl (by decide +kernel) dX10_close_70 ?_
      cases hf
      subst hQ
      exact g_iret hC hW hr hlocks rfl rfl dX10_close_73
    · have hf := a_if_f c5 hf
      refine lv_iconst (v := 0) hx hb dX10_close_32 (by decide) ?_
      cases hf
      subst hQ
      exact g_iret hC hW hr hlocks rfl rfl dX10_close_33
  replace hf := hg
  refine lv_if_eq (tgt := 17) hx hb dX10_close_5 (by decide) (fun c1 => ?_) (fun c1 => ?_)
  · have hf := a_if_t c1 hf
    refine lv_iconst (v := 1) hx hb dX10_close_17 (by decide) ?_
    refine lv_goto (tgt := 22) hx hb dX10_close_18 (by decide) ?_
    cases hf
    exact hJ22 H locs ls hW (lv_sub hl [0] rfl)
  · have hf := a_if_f c1 hf
    refine lv_aload_n hx hb dX10_close_8 rfl (lv_at hl 0 rfl) ?_
    refine g_geti hC hW (o := 0) (ci := 10) (k := 0) zm_k0 zm_b0 rfl hi10 (by decide) rfl (by decide +kernel) dX10_close_9 ?_
    refine lv_bipush (v := 9) hx hb dX10_close_12 (by decide) ?_
    refine lv_icmp_ne (tgt := 21) hx hb dX10_close_14 (by decide) (fun c3 => ?_) (fun c3 => ?_)
    · have hf := a_if_f c3 hf
      refine lv_iconst (v := 0) hx hb dX10_close_21 (by decide) ?_
      cases hf
      exact hJ22 H locs ls hW (lv_sub hl [0] rfl)
    · have hf := a_if_t c3 hf
      refine lv_iconst (v := 1) hx hb dX10_close_17 (by decide) ?_
      refine lv_goto (tgt := 22) hx hb dX10_close_18 (by decide) ?_
      cases hf
      exact hJ22 H locs ls hW (lv_sub hl [0] rfl)
abbrev rmX10_placeOf : Room := { frames := 0, cells := 0, slots := 0, locals := 0 }
set_option maxHeartbeats 4000000 in
set_option maxRecDepth 100000 in
theorem c_X10_placeOf (l : Launch) (G : gG) {p0 : Int32} {p1 : Int32} {p2 : Int32} {p3 : Int32} {me : gM} {r0 : Int32}  (hf : f_X10_placeOf p0 p1 p2 p3 = some r0) : Met l yX10_placeOf wsX10_placeOf rmX10_placeOf (va_Pc [.int p0, .int p1, .int p2, .int p3] (g_W ZM G me)) (g_Qi ZM G r0 me) 0 0 (g_A ZM G) := by
  refine Met.ofW (cc := cX10_placeOf) (maxL := 4) (ret := (some .int)) (by decide) rfl ?_
  intro p e s m args below meth c s₁ B hml hv
  obtain ⟨rfl, hW0⟩ := hv
  have hC : CallFix p m c cX10_placeOf 4 s ([.int p0, .int p1, .int p2, .int p3] : List Value).toArray wsX10_placeOf RX10 := ⟨B.exec, B.bytes, hml, findClass_of_methodNamed B.named, atoms_spec (ws := wsX10_placeOf) B.pre⟩
  have hx := hC.1
  have hb := hC.2.1
  have hown := hC.2.2.2.1
  have hts := hC.2.2.2.2
  have hr := B.returns
  have hlocks := B.notSynchronized
  have hW := g_H_enter hW0
  have hl := lv_entry ([.int p0, .int p1, .int p2, .int p3]) (n := 4) (Nat.le_of_ble_eq_true rfl)
  rw [lg_entry_eq]
  generalize (lg_sl ([.int p0, .int p1, .int p2, .int p3]) ++ List.replicate (4 - (lg_sl ([.int p0, .int p1, .int p2, .int p3])).length) Slot.unset).toArray = ls at hl ⊢
  have hl : lv_has ls 4 [(0, .int p0), (1, .int p1), (2, .int p2), (3, .int p3)] := hl
  obtain ⟨Q, hQ⟩ : ∃ Q, Q = MQ below (g_Qi ZM G r0 me) ([.int p0, .int p1, .int p2, .int p3] : List Value).toArray s 0 0 (g_A ZM G) := ⟨_, rfl⟩
  refine g_goQ hQ ?_
  unfold f_X10_placeOf at hf
  refine g_start hW (fun H locs hW => ?_)
  refine lv_bipush (v := 72) hx hb dX10_placeOf_0 (by decide) ?_
  refine lv_iload_n hx hb dX10_placeOf_2 rfl (lv_at hl 0 rfl) ?_
  refine lv_imul hx hb dX10_placeOf_3 ?_
  refine lv_bipush (v := 12) hx hb dX10_placeOf_4 (by decide) ?_
  refine lv_iload_n hx hb dX10_placeOf_6 rfl (lv_at hl 1 rfl) ?_
  refine lv_imul hx hb dX10_placeOf_7 ?_
  refine lv_iadd hx hb dX10_placeOf_8 ?_
  refine lv_iconst (v := 4) hx hb dX10_placeOf_9 (by decide) ?_
  refine lv_iload_n hx hb dX10_placeOf_10 rfl (lv_at hl 2 rfl) ?_
  refine lv_imul hx hb dX10_placeOf_11 ?_
  refine lv_iadd hx hb dX10_placeOf_12 ?_
  refine lv_iload_n hx hb dX10_placeOf_13 rfl (lv_at hl 3 rfl) ?_
  refine lv_iadd hx hb dX10_placeOf_14 ?_
  cases hf
  subst hQ
  exact g_iret hC hW hr hlocks rfl rfl dX10_placeOf_15
abbrev rmX10_gapOf : Room := { frames := 1, cells := 0, slots := 0, locals := 23 }
set_option maxHeartbeats 4000000 in
set_option maxRecDepth 100000 in
theorem c_X10_gapOf (l : Launch) (G : gG) {p1 : Int32} {p2 : Int32} {p3 : Int32} {p4 : Int32} {me : gM} {r0 : Int32}  (hf : f_X10_gapOf p1 p2 p3 p4 me = some r0) : Met l yX10_gapOf wsX10_gapOf rmX10_gapOf (va_Pc [.ref (G.2.2.1 0), .int p1, .int p2, .int p3, .int p4] (g_W ZM G me)) (g_Qi ZM G r0 me) 0 0 (g_A ZM G) := by
  refine Met.ofW (cc := cX10_gapOf) (maxL := 6) (ret := (some .int)) (by decide) rfl ?_
  intro p e s m args below meth c s₁ B hml hv
  obtain ⟨rfl, hW0⟩ := hv
  have hC : CallFix p m c cX10_gapOf 6 s ([.ref (G.2.2.1 0), .int p1, .int p2, .int p3, .int p4] : List Value).toArray wsX10_gapOf RX10 := ⟨B.exec, B.bytes, hml, findClass_of_methodNamed B.named, atoms_spec (ws := wsX10_gapOf) B.pre⟩
  have hx := hC.1
  have hb := hC.2.1
  have hown := hC.2.2.2.1
  have hts := hC.2.2.2.2
  have hr := B.returns
  have hlocks := B.notSynchronized
  have hW := g_H_enter hW0
  have hi10 : ∀ w ∈ wsX100, w ∈ wsX10_gapOf := by decide +kernel
  have hl := lv_entry ([.ref (G.2.2.1 0), .int p1, .int p2, .int p3, .int p4]) (n := 6) (Nat.le_of_ble_eq_true rfl)
  rw [lg_entry_eq]
  generalize (lg_sl ([.ref (G.2.2.1 0), .int p1, .int p2, .int p3, .int p4]) ++ List.replicate (6 - (lg_sl ([.ref (G.2.2.1 0), .int p1, .int p2, .int p3, .int p4])).length) Slot.unset).toArray = ls at hl ⊢
  have hl : lv_has ls 6 [(0, .ref (G.2.2.1 0)), (1, .int p1), (2, .int p2), (3, .int p3), (4, .int p4)] := hl
  obtain ⟨Q, hQ⟩ : ∃ Q, Q = MQ below (g_Qi ZM G r0 me) ([.ref (G.2.2.1 0), .int p1, .int p2, .int p3, .int p4] : List Value).toArray s 0 0 (g_A ZM G) := ⟨_, rfl⟩
  refine g_goQ hQ ?_
  unfold f_X10_gapOf at hf
  refine g_start hW (fun H locs hW => ?_)
  refine lv_iload_n hx hb dX10_gapOf_0 rfl (lv_at hl 1 rfl) ?_
  refine lv_iload_n hx hb dX10_gapOf_1 rfl (lv_at hl 2 rfl) ?_
  refine lv_iload_n hx hb dX10_gapOf_2 rfl (lv_at hl 3 rfl) ?_
  refine lv_iload hx hb dX10_gapOf_3 (lv_at hl 4 rfl) ?_
  obtain ⟨r1, hg, hf⟩ := ob_inv hf
  refine g_cSi hC hW (As := [.int p1, .int p2, .int p3, .int p4]) (rest := []) (c_X10_placeOf l G  hg) (va_cwS 4 hts gX10_gapOf_X10_placeOf rfl rfl rfl (by decide +kernel) ⟨Nat.le_of_ble_eq_true rfl, Nat.le_of_ble_eq_true rfl⟩) rfl hl.1 rfl (Nat.le_of_ble_eq_true rfl) dX10_gapOf_5 ⟨Nat.le_of_ble_eq_true rfl, Nat.le_of_ble_eq_true rfl⟩ (fun H locs hW => ?_)
  refine lv_istore (lv' := [(5, .int r1), (0, .ref (G.2.2.1 0)), (1, .int p1), (2, .int p2), (3, .int p3), (4, .int p4)]) hx hb dX10_gapOf_8 hl (by decide) rfl (fun ls hl => ?_)
  refine lv_aload_n hx hb dX10_gapOf_10 rfl (lv_at hl 1 rfl) ?_
  refine g_getr hC hW (o := 0) (ci := 10) (k := 51) zm_k0 zm_b0 rfl hi10 (by decide) rfl (t := 44) zm_r0_51 (by decide +kernel) dX10_gapOf_11 ?_
  refine lv_iload hx hb dX10_gapOf_14 (lv_at hl 0 rfl) ?_
  obtain ⟨v2, h9, hf⟩ := ob_inv hf
  refine g_ild hC hW zm_k44 zm_b44 zm_n44 h9 dX10_gapOf_16 ?_
  refine lv_iconst (v := 1) hx hb dX10_gapOf_17 (by decide) ?_
  obtain ⟨z4, hg, hf⟩ := ob_inv hf
  have hJ40 : ∀ (H : Heap) (locs : List Loc) (ls : Array Slot), g_H ZM G s H locs me → lv_has ls 6 [] → W p l e (headSpec wsX10_gapOf rmX10_gapOf).room s m ([.ref (G.2.2.1 0), .int p1, .int p2, .int p3, .int p4] : List Value).toArray below meth c H locs 0 0 Q (F0 m 40 ls [.int z4]) := by
    intro H locs ls hW hl
    cases hf
    subst hQ
    exact g_iret hC hW hr hlocks rfl rfl dX10_gapOf_40
  replace hf := hg
  refine lv_icmp_ne (tgt := 39) hx hb dX10_gapOf_18 (by decide) (fun c3 => ?_) (fun c3 => ?_)
  · have hf := a_if_f c3 hf
    refine lv_iconst (v := 0) hx hb dX10_gapOf_39 (by decide) ?_
    cases hf
    exact hJ40 H locs ls hW (lv_sub hl [] rfl)
  · have hf := a_if_t c3 hf
    refine lv_aload_n hx hb dX10_gapOf_21 rfl (lv_at hl 1 rfl) ?_
    refine g_getr hC hW (o := 0) (ci := 10) (k := 50) zm_k0 zm_b0 rfl hi10 (by decide) rfl (t := 43) zm_r0_50 (by decide +kernel) dX10_gapOf_22 ?_
    refine lv_iload hx hb dX10_gapOf_25 (lv_at hl 0 rfl) ?_
    obtain ⟨v5, h9, hf⟩ := ob_inv hf
    refine g_ild hC hW zm_k43 zm_b43 zm_n43 h9 dX10_gapOf_27 ?_
    refine lv_aload_n hx hb dX10_gapOf_28 rfl (lv_at hl 1 rfl) ?_
    refine g_getr hC hW (o := 0) (ci := 10) (k := 49) zm_k0 zm_b0 rfl hi10 (by decide) rfl (t := 42) zm_r0_49 (by decide +kernel) dX10_gapOf_29 ?_
    refine lv_iload hx hb dX10_gapOf_32 (lv_at hl 0 rfl) ?_
    obtain ⟨v6, h9, hf⟩ := ob_inv hf
    refine g_ild hC hW zm_k42 zm_b42 zm_n42 h9 dX10_gapOf_34 ?_
    refine lv_isub hx hb dX10_gapOf_35 ?_
    refine lv_goto (tgt := 40) hx hb dX10_gapOf_36 (by decide) ?_
    cases hf
    exact hJ40 H locs ls hW (lv_sub hl [] rfl)
abbrev rmX10_read : Room := { frames := 2, cells := 0, slots := 0, locals := 48 }
set_option maxHeartbeats 4000000 in
set_option maxRecDepth 100000 in
theorem c_X10_read (l : Launch) (G : gG) {p1 : Int32} {p2 : Int32} {p3 : Int32} {p4 : Int32} {p5 : Int32} {me : gM} {r0 : Int32} {m0 : gM}  (hf : f_X10_read p1 p2 p3 p4 p5 me = some (r0, m0)) : Met l yX10_read wsX10_read rmX10_read (va_Pc [.ref (G.2.2.1 0), .int p1, .int p2, .int p3, .int p4, .int p5] (g_W ZM G me)) (g_Qi ZM G r0 m0) 0 0 (g_A ZM G) := by
  refine Met.ofW (cc := cX10_read) (maxL := 6) (ret := (some .int)) (by decide) rfl ?_
  intro p e s m args below meth c s₁ B hml hv
  obtain ⟨rfl, hW0⟩ := hv
  have hC : CallFix p m c cX10_read 6 s ([.ref (G.2.2.1 0), .int p1, .int p2, .int p3, .int p4, .int p5] : List Value).toArray wsX10_read RX10 := ⟨B.exec, B.bytes, hml, findClass_of_methodNamed B.named, atoms_spec (ws := wsX10_read) B.pre⟩
  have hx := hC.1
  have hb := hC.2.1
  have hown := hC.2.2.2.1
  have hts := hC.2.2.2.2
  have hr := B.returns
  have hlocks := B.notSynchronized
  have hW := g_H_enter hW0
  have hi10 : ∀ w ∈ wsX100, w ∈ wsX10_read := by decide +kernel
  have hl := lv_entry ([.ref (G.2.2.1 0), .int p1, .int p2, .int p3, .int p4, .int p5]) (n := 6) (Nat.le_of_ble_eq_true rfl)
  rw [lg_entry_eq]
  generalize (lg_sl ([.ref (G.2.2.1 0), .int p1, .int p2, .int p3, .int p4, .int p5]) ++ List.replicate (6 - (lg_sl ([.ref (G.2.2.1 0), .int p1, .int p2, .int p3, .int p4, .int p5])).length) Slot.unset).toArray = ls at hl ⊢
  have hl : lv_has ls 6 [(0, .ref (G.2.2.1 0)), (1, .int p1), (2, .int p2), (3, .int p3), (4, .int p4), (5, .int p5)] := hl
  obtain ⟨Q, hQ⟩ : ∃ Q, Q = MQ below (g_Qi ZM G r0 m0) ([.ref (G.2.2.1 0), .int p1, .int p2, .int p3, .int p4, .int p5] : List Value).toArray s 0 0 (g_A ZM G) := ⟨_, rfl⟩
  refine g_goQ hQ ?_
  unfold f_X10_read at hf
  refine g_start hW (fun H locs hW => ?_)
  refine lv_aload_n hx hb dX10_read_0 rfl (lv_at hl 0 rfl) ?_
  refine lv_aload_n hx hb dX10_read_1 rfl (lv_at hl 0 rfl) ?_
  refine lv_iload_n hx hb dX10_read_2 rfl (lv_at hl 1 rfl) ?_
  obtain ⟨r1, hg, hf⟩ := ob_inv hf
  refine g_cVi hC hW (o := 0) (ci := 10) (As := [.int p1]) (rest := [.ref (G.2.2.1 0)]) zm_k0 zm_b0 rfl (c_X10_isClosed l G  hg) (cwV 1 hts gX10_read_X10_isClosed rfl rfl rfl (by decide +kernel) ⟨Nat.le_of_ble_eq_true rfl, Nat.le_of_ble_eq_true rfl⟩) rfl hl.1 rfl (Nat.le_of_ble_eq_true rfl) dX10_read_3 ⟨Nat.le_of_ble_eq_true rfl, Nat.le_of_ble_eq_true rfl⟩ (fun H locs hW => ?_)
  obtain ⟨z3, hg, hf⟩ := ob_inv hf
  have hJ54 : ∀ (H : Heap) (locs : List Loc) (ls : Array Slot), g_H ZM G s H locs me → lv_has ls 6 [(0, .ref (G.2.2.1 0)), (1, .int p1), (2, .int p2), (3, .int p3), (4, .int p4), (5, .int p5)] → W p l e (headSpec wsX10_read rmX10_read).room s m ([.ref (G.2.2.1 0), .int p1, .int p2, .int p3, .int p4, .int p5] : List Value).toArray below meth c H locs 0 0 Q (F0 m 54 ls [.int z3, .ref (G.2.2.1 0)]) := by
    intro H locs ls hW hl
    obtain ⟨m12, h9, hf⟩ := ob_inv hf
    refine g_puti hC hW (o := 0) (ci := 10) (k := 67) zm_k0 zm_b0 rfl hi10 tyX10_ok nmX10 (by decide) rfl rfl rfl (by decide +kernel) dX10_read_54 (fun H locs hW => ?_)
    rw [Option.some.inj h9] at hW
    refine lv_aload_n hx hb dX10_read_57 rfl (lv_at hl 0 rfl) ?_
    refine g_geti hC hW (o := 0) (ci := 10) (k := 67) zm_k0 zm_b0 rfl hi10 (by decide) rfl (by decide +kernel) dX10_read_58 ?_
    refine lv_if_le (tgt := 66) hx hb dX10_read_61 (by decide) (fun c13 => ?_) (fun c13 => ?_)
    · have hf := a_if_t c13 hf
      refine lv_aload_n hx hb dX10_read_66 rfl (lv_at hl 0 rfl) ?_
      refine g_getr hC hW (o := 0) (ci := 10) (k := 50) zm_k0 zm_b0 rfl hi10 (by decide) rfl (t := 43) zm_r0_50 (by decide +kernel) dX10_read_67 ?_
      refine lv_iload_n hx hb dX10_read_70 rfl (lv_at hl 1 rfl) ?_
      refine lv_iload_n hx hb dX10_read_71 rfl (lv_at hl 2 rfl) ?_
      refine lv_iload_n hx hb dX10_read_72 rfl (lv_at hl 3 rfl) ?_
      refine lv_iload hx hb dX10_read_73 (lv_at hl 4 rfl) ?_
      obtain ⟨r14, hg, hf⟩ := ob_inv hf
      refine g_cSi hC hW (As := [.int p1, .int p2, .int p3, .int p4]) (rest := [.ref (G.2.2.1 43)]) (c_X10_placeOf l G  hg) (va_cwS 4 hts gX10_read_X10_placeOf rfl rfl rfl (by decide +kernel) ⟨Nat.le_of_ble_eq_true rfl, Nat.le_of_ble_eq_true rfl⟩) rfl hl.1 rfl (Nat.le_of_ble_eq_true rfl) dX10_read_75 ⟨Nat.le_of_ble_eq_true rfl, Nat.le_of_ble_eq_true rfl⟩ (fun H locs hW => ?_)
      refine lv_iload hx hb dX10_read_78 (lv_at hl 5 rfl) ?_
      obtain ⟨m15, h9, hf⟩ := ob_inv hf
      refine g_ist hC hW zm_k43 zm_b43 zm_n43 h9 dX10_read_80 (fun H locs hW => ?_)
      refine lv_aload_n hx hb dX10_read_81 rfl (lv_at hl 0 rfl) ?_
      refine g_getr hC hW (o := 0) (ci := 10) (k := 51) zm_k0 zm_b0 rfl hi10 (by decide) rfl (t := 44) zm_r0_51 (by decide +kernel) dX10_read_82 ?_
      refine lv_iload_n hx hb dX10_read_85 rfl (lv_at hl 1 rfl) ?_
      refine lv_iload_n hx hb dX10_read_86 rfl (lv_at hl 2 rfl) ?_
      refine lv_iload_n hx hb dX10_read_87 rfl (lv_at hl 3 rfl) ?_
      refine lv_iload hx hb dX10_read_88 (lv_at hl 4 rfl) ?_
      obtain ⟨r16, hg, hf⟩ := ob_inv hf
      refine g_cSi hC hW (As := [.int p1, .int p2, .int p3, .int p4]) (rest := [.ref (G.2.2.1 44)]) (c_X10_placeOf l G  hg) (va_cwS 4 hts gX10_read_X10_placeOf rfl rfl rfl (by decide +kernel) ⟨Nat.le_of_ble_eq_true rfl, Nat.le_of_ble_eq_true rfl⟩) rfl hl.1 rfl (Nat.le_of_ble_eq_true rfl) dX10_read_90 ⟨Nat.le_of_ble_eq_true rfl, Nat.le_of_ble_eq_true rfl⟩ (fun H locs hW => ?_)
      refine lv_iconst (v := 1) hx hb dX10_read_93 (by decide) ?_
      obtain ⟨m17, h9, hf⟩ := ob_inv hf
      refine g_ist hC hW zm_k44 zm_b44 zm_n44 h9 dX10_read_94 (fun H locs hW => ?_)
      refine lv_aload_n hx hb dX10_read_95 rfl (lv_at hl 0 rfl) ?_
      refine lv_iload_n hx hb dX10_read_96 rfl (lv_at hl 1 rfl) ?_
      refine lv_iload_n hx hb dX10_read_97 rfl (lv_at hl 2 rfl) ?_
      refine lv_iload_n hx hb dX10_read_98 rfl (lv_at hl 3 rfl) ?_
      refine lv_iload hx hb dX10_read_99 (lv_at hl 4 rfl) ?_
      obtain ⟨r18, hg, hf⟩ := ob_inv hf
      refine g_cVi hC hW (o := 0) (ci := 10) (As := [.int p1, .int p2, .int p3, .int p4]) (rest := []) zm_k0 zm_b0 rfl (c_X10_gapOf l G  hg) (cwV 4 hts gX10_read_X10_gapOf rfl rfl rfl (by decide +kernel) ⟨Nat.le_of_ble_eq_true rfl, Nat.le_of_ble_eq_true rfl⟩) rfl hl.1 rfl (Nat.le_of_ble_eq_true rfl) dX10_read_101 ⟨Nat.le_of_ble_eq_true rfl, Nat.le_of_ble_eq_true rfl⟩ (fun H locs hW => ?_)
      cases hf
      subst hQ
      exact g_iret hC hW hr hlocks rfl rfl dX10_read_104
    · have hf := a_if_f c13 hf
      refine lv_iconst (v := 0) hx hb dX10_read_64 (by decide) ?_
      cases hf
      subst hQ
      exact g_iret hC hW hr hlocks rfl rfl dX10_read_65
  replace hf := hg
  refine lv_if_eq (tgt := 31) hx hb dX10_read_6 (by decide) (fun c2 => ?_) (fun c2 => ?_)
  · have hf := a_if_t c2 hf
    refine lv_iconst (v := 1) hx hb dX10_read_31 (by decide) ?_
    refine lv_goto (tgt := 54) hx hb dX10_read_32 (by decide) ?_
    cases hf
    exact hJ54 H locs ls hW (lv_sub hl [0, 1, 2, 3, 4, 5] rfl)
  · have hf := a_if_f c2 hf
    refine lv_iload_n hx hb dX10_read_9 rfl (lv_at hl 2 rfl) ?_
    obtain ⟨r4, hg, hf⟩ := ob_inv hf
    refine g_cSi hC hW (As := [.int p2]) (rest := [.ref (G.2.2.1 0)]) (c_X10_isFirm l G  hg) (va_cwS 1 hts gX10_read_X10_isFirm rfl rfl rfl (by decide +kernel) ⟨Nat.le_of_ble_eq_true rfl, Nat.le_of_ble_eq_true rfl⟩) rfl hl.1 rfl (Nat.le_of_ble_eq_true rfl) dX10_read_10 ⟨Nat.le_of_ble_eq_true rfl, Nat.le_of_ble_eq_true rfl⟩ (fun H locs hW => ?_)
    refine lv_if_eq (tgt := 31) hx hb dX10_read_13 (by decide) (fun c5 => ?_) (fun c5 => ?_)
    · have hf := a_if_t c5 hf
      refine lv_iconst (v := 1) hx hb dX10_read_31 (by decide) ?_
      refine lv_goto (tgt := 54) hx hb dX10_read_32 (by decide) ?_
      cases hf
      exact hJ54 H locs ls hW (lv_sub hl [0, 1, 2, 3, 4, 5] rfl)
    · have hf := a_if_f c5 hf
      refine lv_iload_n hx hb dX10_read_16 rfl (lv_at hl 3 rfl) ?_
      obtain ⟨r6, hg, hf⟩ := ob_inv hf
      refine g_cSi hC hW (As := [.int p3]) (rest := [.ref (G.2.2.1 0)]) (c_X10_isZone l G  hg) (va_cwS 1 hts gX10_read_X10_isZone rfl rfl rfl (by decide +kernel) ⟨Nat.le_of_ble_eq_true rfl, Nat.le_of_ble_eq_true rfl⟩) rfl hl.1 rfl (Nat.le_of_ble_eq_true rfl) dX10_read_17 ⟨Nat.le_of_ble_eq_true rfl, Nat.le_of_ble_eq_true rfl⟩ (fun H locs hW => ?_)
      refine lv_if_eq (tgt := 31) hx hb dX10_read_20 (by decide) (fun c7 => ?_) (fun c7 => ?_)
      · have hf := a_if_t c7 hf
        refine lv_iconst (v := 1) hx hb dX10_read_31 (by decide) ?_
        refine lv_goto (tgt := 54) hx hb dX10_read_32 (by decide) ?_
        cases hf
        exact hJ54 H locs ls hW (lv_sub hl [0, 1, 2, 3, 4, 5] rfl)
      · have hf := a_if_f c7 hf
        refine lv_iload hx hb dX10_read_23 (lv_at hl 4 rfl) ?_
        obtain ⟨r8, hg, hf⟩ := ob_inv hf
        refine g_cSi hC hW (As := [.int p4]) (rest := [.ref (G.2.2.1 0)]) (c_X10_isHour l G  hg) (va_cwS 1 hts gX10_read_X10_isHour rfl rfl rfl (by decide +kernel) ⟨Nat.le_of_ble_eq_true rfl, Nat.le_of_ble_eq_true rfl⟩) rfl hl.1 rfl (Nat.le_of_ble_eq_true rfl) dX10_read_25 ⟨Nat.le_of_ble_eq_true rfl, Nat.le_of_ble_eq_true rfl⟩ (fun H locs hW => ?_)
        refine lv_if_ne (tgt := 35) hx hb dX10_read_28 (by decide) (fun c9 => ?_) (fun c9 => ?_)
        · have hf := a_if_f c9 hf
          refine lv_iload hx hb dX10_read_35 (lv_at hl 5 rfl) ?_
          refine lv_sipush (v := (-200)) hx hb dX10_read_37 (by decide) ?_
          refine lv_sipush (v := 200) hx hb dX10_read_40 (by decide) ?_
          obtain ⟨r10, hg, hf⟩ := ob_inv hf
          refine g_cSi hC hW (As := [.int p5, .int (-200), .int 200]) (rest := [.ref (G.2.2.1 0)]) (c_X10_in l G  hg) (va_cwS 3 hts gX10_read_X10_in rfl rfl rfl (by decide +kernel) ⟨Nat.le_of_ble_eq_true rfl, Nat.le_of_ble_eq_true rfl⟩) rfl hl.1 rfl (Nat.le_of_ble_eq_true rfl) dX10_read_43 ⟨Nat.le_of_ble_eq_true rfl, Nat.le_of_ble_eq_true rfl⟩ (fun H locs hW => ?_)
          refine lv_if_ne (tgt := 53) hx hb dX10_read_46 (by decide) (fun c11 => ?_) (fun c11 => ?_)
          · have hf := a_if_f c11 hf
            refine lv_iconst (v := 0) hx hb dX10_read_53 (by decide) ?_
            cases hf
            exact hJ54 H locs ls hW (lv_sub hl [0, 1, 2, 3, 4, 5] rfl)
          · have hf := a_if_t c11 hf
            refine lv_iconst (v := 2) hx hb dX10_read_49 (by decide) ?_
            refine lv_goto (tgt := 54) hx hb dX10_read_50 (by decide) ?_
            cases hf
            exact hJ54 H locs ls hW (lv_sub hl [0, 1, 2, 3, 4, 5] rfl)
        · have hf := a_if_t c9 hf
          refine lv_iconst (v := 1) hx hb dX10_read_31 (by decide) ?_
          refine lv_goto (tgt := 54) hx hb dX10_read_32 (by decide) ?_
          cases hf
          exact hJ54 H locs ls hW (lv_sub hl [0, 1, 2, 3, 4, 5] rfl)
abbrev rmX10_gapIn : Room := { frames := 2, cells := 0, slots := 0, locals := 48 }
set_option maxHeartbeats 4000000 in
set_option maxRecDepth 100000 in
theorem c_X10_gapIn (l : Launch) (G : gG) {p1 : Int32} {p2 : Int32} {me : gM} {r0 : Int32}  (hf : f_X10_gapIn p1 p2 me = some r0) : Met l yX10_gapIn wsX10_gapIn rmX10_gapIn (va_Pc [.ref (G.2.2.1 0), .int p1, .int p2] (g_W ZM G me)) (g_Qi ZM G r0 me) 0 0 (g_A ZM G) := by
  refine Met.ofW (cc := cX10_gapIn) (maxL := 6) (ret := (some .int)) (by decide) rfl ?_
  intro p e s m args below meth c s₁ B hml hv
  obtain ⟨rfl, hW0⟩ := hv
  have hC : CallFix p m c cX10_gapIn 6 s ([.ref (G.2.2.1 0), .int p1, .int p2] : List Value).toArray wsX10_gapIn RX10 := ⟨B.exec, B.bytes, hml, findClass_of_methodNamed B.named, atoms_spec (ws := wsX10_gapIn) B.pre⟩
  have hx := hC.1
  have hb := hC.2.1
  have hown := hC.2.2.2.1
  have hts := hC.2.2.2.2
  have hr := B.returns
  have hlocks := B.notSynchronized
  have hW := g_H_enter hW0
  have hl := lv_entry ([.ref (G.2.2.1 0), .int p1, .int p2]) (n := 6) (Nat.le_of_ble_eq_true rfl)
  rw [lg_entry_eq]
  generalize (lg_sl ([.ref (G.2.2.1 0), .int p1, .int p2]) ++ List.replicate (6 - (lg_sl ([.ref (G.2.2.1 0), .int p1, .int p2])).length) Slot.unset).toArray = ls at hl ⊢
  have hl : lv_has ls 6 [(0, .ref (G.2.2.1 0)), (1, .int p1), (2, .int p2)] := hl
  obtain ⟨Q, hQ⟩ : ∃ Q, Q = MQ below (g_Qi ZM G r0 me) ([.ref (G.2.2.1 0), .int p1, .int p2] : List Value).toArray s 0 0 (g_A ZM G) := ⟨_, rfl⟩
  refine g_goQ hQ ?_
  unfold f_X10_gapIn at hf
  refine g_start hW (fun H locs hW => ?_)
  refine lv_iconst (v := 0) hx hb dX10_gapIn_0 (by decide) ?_
  refine lv_istore_n (lv' := [(3, .int 0), (0, .ref (G.2.2.1 0)), (1, .int p1), (2, .int p2)]) hx hb dX10_gapIn_1 rfl hl (by decide) rfl (fun ls hl => ?_)
  refine lv_iconst (v := 0) hx hb dX10_gapIn_2 (by decide) ?_
  refine lv_istore (lv' := [(4, .int 0), (3, .int 0), (0, .ref (G.2.2.1 0)), (1, .int p1), (2, .int p2)]) hx hb dX10_gapIn_3 hl (by decide) rfl (fun ls hl => ?_)
  have hL5 : ∀ (n : Nat) (x1 : Int32) (x2 : Int32) (y3 : Int32) (y4 : Int32) (H : Heap) (locs : List Loc) (ls : Array Slot), f_X10_gapIn_L5 me p1 p2 n x1 x2 = some (y3, y4) → g_H ZM G s H locs me → lv_has ls 6 [(0, .ref (G.2.2.1 0)), (1, .int p1), (2, .int p2), (3, .int x1), (4, .int x2)] → (∀ (H : Heap) (locs : List Loc) (ls : Array Slot), g_H ZM G s H locs me → lv_has ls 6 [(3, .int y3)] → W p l e (headSpec wsX10_gapIn rmX10_gapIn).room s m ([.ref (G.2.2.1 0), .int p1, .int p2] : List Value).toArray below meth c H locs 0 0 Q (F0 m 46 ls [])) → W p l e (headSpec wsX10_gapIn rmX10_gapIn).room s m ([.ref (G.2.2.1 0), .int p1, .int p2] : List Value).toArray below meth c H locs 0 0 Q (F0 m 5 ls []) := by
    intro n
    induction n with
    | zero =>
      intro x1 x2 y3 y4 H locs ls hf hW hl hE
      cases hf
    | succ n ih =>
      intro x1 x2 y3 y4 H locs ls hf hW hl hE
      rw [f_X10_gapIn_L5] at hf
      refine lv_iload hx hb dX10_gapIn_5 (lv_at hl 4 rfl) ?_
      refine lv_bipush (v := 6) hx hb dX10_gapIn_7 (by decide) ?_
      refine lv_icmp_ge (tgt := 46) hx hb dX10_gapIn_9 (by decide) (fun c5 => ?_) (fun c5 => ?_)
      · have hf := a_if_t c5 hf
        cases hf
        exact hE H locs ls hW (lv_sub hl [3] rfl)
      · have hf := a_if_f c5 hf
        refine lv_iconst (v := 0) hx hb dX10_gapIn_12 (by decide) ?_
        refine lv_istore (lv' := [(5, .int 0), (0, .ref (G.2.2.1 0)), (1, .int p1), (2, .int p2), (3, .int x1), (4, .int x2)]) hx hb dX10_gapIn_13 hl (by decide) rfl (fun ls hl => ?_)
        have hL15 : ∀ (n : Nat) (x6 : Int32) (x7 : Int32) (y8 : Int32) (y9 : Int32) (H : Heap) (locs : List Loc) (ls : Array Slot), f_X10_gapIn_L15 me p1 p2 x2 n x6 x7 = some (y8, y9) → g_H ZM G s H locs me → lv_has ls 6 [(0, .ref (G.2.2.1 0)), (1, .int p1), (2, .int p2), (3, .int x6), (4, .int x2), (5, .int x7)] → (∀ (H : Heap) (locs : List Loc) (ls : Array Slot), g_H ZM G s H locs me → lv_has ls 6 [(0, .ref (G.2.2.1 0)), (1, .int p1), (2, .int p2), (3, .int y8), (4, .int x2)] → W p l e (headSpec wsX10_gapIn rmX10_gapIn).room s m ([.ref (G.2.2.1 0), .int p1, .int p2] : List Value).toArray below meth c H locs 0 0 Q (F0 m 40 ls [])) → W p l e (headSpec wsX10_gapIn rmX10_gapIn).room s m ([.ref (G.2.2.1 0), .int p1, .int p2] : List Value).toArray below meth c H locs 0 0 Q (F0 m 15 ls []) := by
          intro n
          induction n with
          | zero =>
            intro x6 x7 y8 y9 H locs ls hf hW hl hE
            cases hf
          | succ n ih =>
            intro x6 x7 y8 y9 H locs ls hf hW hl hE
            rw [f_X10_gapIn_L15] at hf
            refine lv_iload hx hb dX10_gapIn_15 (lv_at hl 5 rfl) ?_
            refine lv_iconst (v := 3) hx hb dX10_gapIn_17 (by decide) ?_
            refine lv_icmp_ge (tgt := 40) hx hb dX10_gapIn_18 (by decide) (fun c10 => ?_) (fun c10 => ?_)
            · have hf := a_if_t c10 hf
              cases hf
              exact hE H locs ls hW (lv_sub hl [0, 1, 2, 3, 4] rfl)
            · have hf := a_if_f c10 hf
              refine lv_iload_n hx hb dX10_gapIn_21 rfl (lv_at hl 3 rfl) ?_
              refine lv_aload_n hx hb dX10_gapIn_22 rfl (lv_at hl 0 rfl) ?_
              refine lv_iload_n hx hb dX10_gapIn_23 rfl (lv_at hl 1 rfl) ?_
              refine lv_iload hx hb dX10_gapIn_24 (lv_at hl 4 rfl) ?_
              refine lv_iload hx hb dX10_gapIn_26 (lv_at hl 5 rfl) ?_
              refine lv_iload_n hx hb dX10_gapIn_28 rfl (lv_at hl 2 rfl) ?_
              obtain ⟨r11, hg, hf⟩ := ob_inv hf
              refine g_cVi hC hW (o := 0) (ci := 10) (As := [.int p1, .int x2, .int x7, .int p2]) (rest := [.int x6]) zm_k0 zm_b0 rfl (c_X10_gapOf l G  hg) (cwV 4 hts gX10_gapIn_X10_gapOf rfl rfl rfl (by decide +kernel) ⟨Nat.le_of_ble_eq_true rfl, Nat.le_of_ble_eq_true rfl⟩) rfl hl.1 rfl (Nat.le_of_ble_eq_true rfl) dX10_gapIn_29 ⟨Nat.le_of_ble_eq_true rfl, Nat.le_of_ble_eq_true rfl⟩ (fun H locs hW => ?_)
              refine lv_iadd hx hb dX10_gapIn_32 ?_
              obtain ⟨x12, h9, hf⟩ := ob_inv hf
              refine g_nmi (Option.some.inj h9) ?_
              refine lv_istore_n (lv' := [(3, .int x12), (0, .ref (G.2.2.1 0)), (1, .int p1), (2, .int p2), (4, .int x2), (5, .int x7)]) hx hb dX10_gapIn_33 rfl hl (by decide) rfl (fun ls hl => ?_)
              refine lv_iinc (v := (x7 + 1)) (lv' := [(5, .int (x7 + 1)), (3, .int x12), (0, .ref (G.2.2.1 0)), (1, .int p1), (2, .int p2), (4, .int x2)]) hx hb dX10_gapIn_34 hl (k := 5) rfl (congrArg (fun z => x7 + z) (by decide)) (by decide) rfl (fun ls hl => ?_)
              refine lv_goto (tgt := 15) hx hb dX10_gapIn_37 (by decide) ?_
              exact ih _ _ _ _ _ _ _ hf hW (lv_sub hl [2, 3, 4, 1, 5, 0] rfl) hE
        obtain ⟨⟨y8, y9⟩, hg, hf⟩ := ob_inv hf
        have hf := ob_inv2 hf
        refine hL15 _ _ _ _ _ _ _ _ hg hW (lv_sub hl [1, 2, 3, 4, 5, 0] rfl) (fun H locs ls hW hl => ?_)
        refine lv_iinc (v := (x2 + 1)) (lv' := [(4, .int (x2 + 1)), (0, .ref (G.2.2.1 0)), (1, .int p1), (2, .int p2), (3, .int y8)]) hx hb dX10_gapIn_40 hl (k := 4) rfl (congrArg (fun z => x2 + z) (by decide)) (by decide) rfl (fun ls hl => ?_)
        refine lv_goto (tgt := 5) hx hb dX10_gapIn_43 (by decide) ?_
        exact ih _ _ _ _ _ _ _ hf hW (lv_sub hl [1, 2, 3, 4, 0] rfl) hE
  obtain ⟨⟨y3, y4⟩, hg, hf⟩ := ob_inv hf
  have hf := ob_inv2 hf
  refine hL5 _ _ _ _ _ _ _ _ hg hW (lv_sub hl [2, 3, 4, 1, 0] rfl) (fun H locs ls hW hl => ?_)
  refine lv_iload_n hx hb dX10_gapIn_46 rfl (lv_at hl 0 rfl) ?_
  cases hf
  subst hQ
  exact g_iret hC hW hr hlocks rfl rfl dX10_gapIn_47
abbrev rmX10_lesser : Room := { frames := 0, cells := 0, slots := 0, locals := 0 }
set_option maxHeartbeats 4000000 in
set_option maxRecDepth 100000 in
theorem c_X10_lesser (l : Launch) (G : gG) {p0 : Int32} {p1 : Int32} {me : gM} {r0 : Int32}  (hf : f_X10_lesser p0 p1 = some r0) : Met l yX10_lesser wsX10_lesser rmX10_lesser (va_Pc [.int p0, .int p1] (g_W ZM G me)) (g_Qi ZM G r0 me) 0 0 (g_A ZM G) := by
  refine Met.ofW (cc := cX10_lesser) (maxL := 2) (ret := (some .int)) (by decide) rfl ?_
  intro p e s m args below meth c s₁ B hml hv
  obtain ⟨rfl, hW0⟩ := hv
  have hC : CallFix p m c cX10_lesser 2 s ([.int p0, .int p1] : List Value).toArray wsX10_lesser RX10 := ⟨B.exec, B.bytes, hml, findClass_of_methodNamed B.named, atoms_spec (ws := wsX10_lesser) B.pre⟩
  have hx := hC.1
  have hb := hC.2.1
  have hown := hC.2.2.2.1
  have hts := hC.2.2.2.2
  have hr := B.returns
  have hlocks := B.notSynchronized
  have hW := g_H_enter hW0
  have hl := lv_entry ([.int p0, .int p1]) (n := 2) (Nat.le_of_ble_eq_true rfl)
  rw [lg_entry_eq]
  generalize (lg_sl ([.int p0, .int p1]) ++ List.replicate (2 - (lg_sl ([.int p0, .int p1])).length) Slot.unset).toArray = ls at hl ⊢
  have hl : lv_has ls 2 [(0, .int p0), (1, .int p1)] := hl
  obtain ⟨Q, hQ⟩ : ∃ Q, Q = MQ below (g_Qi ZM G r0 me) ([.int p0, .int p1] : List Value).toArray s 0 0 (g_A ZM G) := ⟨_, rfl⟩
  refine g_goQ hQ ?_
  unfold f_X10_lesser at hf
  refine g_start hW (fun H locs hW => ?_)
  refine lv_iload_n hx hb dX10_lesser_0 rfl (lv_at hl 0 rfl) ?_
  refine lv_iload_n hx hb dX10_lesser_1 rfl (lv_at hl 1 rfl) ?_
  obtain ⟨z2, hg, hf⟩ := ob_inv hf
  have hJ10 : ∀ (H : Heap) (locs : List Loc) (ls : Array Slot), g_H ZM G s H locs me → lv_has ls 2 [] → W p l e (headSpec wsX10_lesser rmX10_lesser).room s m ([.int p0, .int p1] : List Value).toArray below meth c H locs 0 0 Q (F0 m 10 ls [.int z2]) := by
    intro H locs ls hW hl
    cases hf
    subst hQ
    exact g_iret hC hW hr hlocks rfl rfl dX10_lesser_10
  replace hf := hg
  refine lv_icmp_ge (tgt := 9) hx hb dX10_lesser_2 (by decide) (fun c1 => ?_) (fun c1 => ?_)
  · have hf := a_if_t c1 hf
    refine lv_iload_n hx hb dX10_lesser_9 rfl (lv_at hl 1 rfl) ?_
    cases hf
    exact hJ10 H locs ls hW (lv_sub hl [] rfl)
  · have hf := a_if_f c1 hf
    refine lv_iload_n hx hb dX10_lesser_5 rfl (lv_at hl 0 rfl) ?_
    refine lv_goto (tgt := 10) hx hb dX10_lesser_6 (by decide) ?_
    cases hf
    exact hJ10 H locs ls hW (lv_sub hl [] rfl)
abbrev rmX10_greater : Room := { frames := 0, cells := 0, slots := 0, locals := 0 }
set_option maxHeartbeats 4000000 in
set_option maxRecDepth 100000 in
theorem c_X10_greater (l : Launch) (G : gG) {p0 : Int32} {p1 : Int32} {me : gM} {r0 : Int32}  (hf : f_X10_greater p0 p1 = some r0) : Met l yX10_greater wsX10_greater rmX10_greater (va_Pc [.int p0, .int p1] (g_W ZM G me)) (g_Qi ZM G r0 me) 0 0 (g_A ZM G) := by
  refine Met.ofW (cc := cX10_greater) (maxL := 2) (ret := (some .int)) (by decide) rfl ?_
  intro p e s m args below meth c s₁ B hml hv
  obtain ⟨rfl, hW0⟩ := hv
  have hC : CallFix p m c cX10_greater 2 s ([.int p0, .int p1] : List Value).toArray wsX10_greater RX10 := ⟨B.exec, B.bytes, hml, findClass_of_methodNamed B.named, atoms_spec (ws := wsX10_greater) B.pre⟩
  have hx := hC.1
  have hb := hC.2.1
  have hown := hC.2.2.2.1
  have hts := hC.2.2.2.2
  have hr := B.returns
  have hlocks := B.notSynchronized
  have hW := g_H_enter hW0
  have hl := lv_entry ([.int p0, .int p1]) (n := 2) (Nat.le_of_ble_eq_true rfl)
  rw [lg_entry_eq]
  generalize (lg_sl ([.int p0, .int p1]) ++ List.replicate (2 - (lg_sl ([.int p0, .int p1])).length) Slot.unset).toArray = ls at hl ⊢
  have hl : lv_has ls 2 [(0, .int p0), (1, .int p1)] := hl
  obtain ⟨Q, hQ⟩ : ∃ Q, Q = MQ below (g_Qi ZM G r0 me) ([.int p0, .int p1] : List Value).toArray s 0 0 (g_A ZM G) := ⟨_, rfl⟩
  refine g_goQ hQ ?_
  unfold f_X10_greater at hf
  refine g_start hW (fun H locs hW => ?_)
  refine lv_iload_n hx hb dX10_greater_0 rfl (lv_at hl 0 rfl) ?_
  refine lv_iload_n hx hb dX10_greater_1 rfl (lv_at hl 1 rfl) ?_
  obtain ⟨z2, hg, hf⟩ := ob_inv hf
  have hJ10 : ∀ (H : Heap) (locs : List Loc) (ls : Array Slot), g_H ZM G s H locs me → lv_has ls 2 [] → W p l e (headSpec wsX10_greater rmX10_greater).room s m ([.int p0, .int p1] : List Value).toArray below meth c H locs 0 0 Q (F0 m 10 ls [.int z2]) := by
    intro H locs ls hW hl
    cases hf
    subst hQ
    exact g_iret hC hW hr hlocks rfl rfl dX10_greater_10
  replace hf := hg
  refine lv_icmp_le (tgt := 9) hx hb dX10_greater_2 (by decide) (fun c1 => ?_) (fun c1 => ?_)
  · have hf := a_if_t c1 hf
    refine lv_iload_n hx hb dX10_greater_9 rfl (lv_at hl 1 rfl) ?_
    cases hf
    exact hJ10 H locs ls hW (lv_sub hl [] rfl)
  · have hf := a_if_f c1 hf
    refine lv_iload_n hx hb dX10_greater_5 rfl (lv_at hl 0 rfl) ?_
    refine lv_goto (tgt := 10) hx hb dX10_greater_6 (by decide) ?_
    cases hf
    exact hJ10 H locs ls hW (lv_sub hl [] rfl)
abbrev rmX10_helps : Room := { frames := 3, cells := 0, slots := 0, locals := 73 }
set_option maxHeartbeats 4000000 in
set_option maxRecDepth 100000 in
theorem c_X10_helps (l : Launch) (G : gG) {p1 : Int32} {p2 : Int32} {me : gM} {r0 : Int32} {m0 : gM}  (hf : f_X10_helps p1 p2 me = some (r0, m0)) : Met l yX10_helps wsX10_helps rmX10_helps (va_Pc [.ref (G.2.2.1 0), .int p1, .int p2] (g_W ZM G me)) (g_Qi ZM G r0 m0) 0 0 (g_A ZM G) := by
  refine Met.ofW (cc := cX10_helps) (maxL := 11) (ret := (some .int)) (by decide) rfl ?_
  intro p e s m args below meth c s₁ B hml hv
  obtain ⟨rfl, hW0⟩ := hv
  have hC : CallFix p m c cX10_helps 11 s ([.ref (G.2.2.1 0), .int p1, .int p2] : List Value).toArray wsX10_helps RX10 := ⟨B.exec, B.bytes, hml, findClass_of_methodNamed B.named, atoms_spec (ws := wsX10_helps) B.pre⟩
  have hx := hC.1
  have hb := hC.2.1
  have hown := hC.2.2.2.1
  have hts := hC.2.2.2.2
  have hr := B.returns
  have hlocks := B.notSynchronized
  have hW := g_H_enter hW0
  have hi10 : ∀ w ∈ wsX100, w ∈ wsX10_helps := by decide +kernel
  have hl := lv_entry ([.ref (G.2.2.1 0), .int p1, .int p2]) (n := 11) (Nat.le_of_ble_eq_true rfl)
  rw [lg_entry_eq]
  generalize (lg_sl ([.ref (G.2.2.1 0), .int p1, .int p2]) ++ List.replicate (11 - (lg_sl ([.ref (G.2.2.1 0), .int p1, .int p2])).length) Slot.unset).toArray = ls at hl ⊢
  have hl : lv_has ls 11 [(0, .ref (G.2.2.1 0)), (1, .int p1), (2, .int p2)] := hl
  obtain ⟨Q, hQ⟩ : ∃ Q, Q = MQ below (g_Qi ZM G r0 m0) ([.ref (G.2.2.1 0), .int p1, .int p2] : List Value).toArray s 0 0 (g_A ZM G) := ⟨_, rfl⟩
  refine g_goQ hQ ?_
  unfold f_X10_helps at hf
  refine g_start hW (fun H locs hW => ?_)
  refine lv_aload_n hx hb dX10_helps_0 rfl (lv_at hl 0 rfl) ?_
  refine lv_iload_n hx hb dX10_helps_1 rfl (lv_at hl 1 rfl) ?_
  refine lv_iload_n hx hb dX10_helps_2 rfl (lv_at hl 2 rfl) ?_
  obtain ⟨r1, hg, hf⟩ := ob_inv hf
  refine g_cVi hC hW (o := 0) (ci := 10) (As := [.int p1, .int p2]) (rest := []) zm_k0 zm_b0 rfl (c_X10_gapIn l G  hg) (cwV 2 hts gX10_helps_X10_gapIn rfl rfl rfl (by decide +kernel) ⟨Nat.le_of_ble_eq_true rfl, Nat.le_of_ble_eq_true rfl⟩) rfl hl.1 rfl (Nat.le_of_ble_eq_true rfl) dX10_helps_3 ⟨Nat.le_of_ble_eq_true rfl, Nat.le_of_ble_eq_true rfl⟩ (fun H locs hW => ?_)
  refine lv_istore_n (lv' := [(3, .int r1), (0, .ref (G.2.2.1 0)), (1, .int p1), (2, .int p2)]) hx hb dX10_helps_6 rfl hl (by decide) rfl (fun ls hl => ?_)
  refine lv_iload_n hx hb dX10_helps_7 rfl (lv_at hl 0 rfl) ?_
  obtain ⟨r2, hg, hf⟩ := ob_inv hf
  refine g_cSi hC hW (As := [.int r1]) (rest := []) (c_X10_away l G  hg) (va_cwS 1 hts gX10_helps_X10_away rfl rfl rfl (by decide +kernel) ⟨Nat.le_of_ble_eq_true rfl, Nat.le_of_ble_eq_true rfl⟩) rfl hl.1 rfl (Nat.le_of_ble_eq_true rfl) dX10_helps_8 ⟨Nat.le_of_ble_eq_true rfl, Nat.le_of_ble_eq_true rfl⟩ (fun H locs hW => ?_)
  refine lv_istore (lv' := [(4, .int r2), (3, .int r1), (0, .ref (G.2.2.1 0)), (1, .int p1), (2, .int p2)]) hx hb dX10_helps_11 hl (by decide) rfl (fun ls hl => ?_)
  refine lv_iload_n hx hb dX10_helps_13 rfl (lv_at hl 1 rfl) ?_
  obtain ⟨z4, hg, hf⟩ := ob_inv hf
  have hJ22 : ∀ (H : Heap) (locs : List Loc) (ls : Array Slot), g_H ZM G s H locs me → lv_has ls 11 [(0, .ref (G.2.2.1 0)), (1, .int p1), (2, .int p2), (3, .int r1), (4, .int r2)] → W p l e (headSpec wsX10_helps rmX10_helps).room s m ([.ref (G.2.2.1 0), .int p1, .int p2] : List Value).toArray below meth c H locs 0 0 Q (F0 m 22 ls [.int z4]) := by
    intro H locs ls hW hl
    refine lv_istore (lv' := [(5, .int z4), (0, .ref (G.2.2.1 0)), (1, .int p1), (2, .int p2), (3, .int r1), (4, .int r2)]) hx hb dX10_helps_22 hl (by decide) rfl (fun ls hl => ?_)
    refine lv_iconst (v := (-1)) hx hb dX10_helps_24 (by decide) ?_
    refine lv_istore (lv' := [(6, .int (-1)), (5, .int z4), (0, .ref (G.2.2.1 0)), (1, .int p1), (2, .int p2), (3, .int r1), (4, .int r2)]) hx hb dX10_helps_25 hl (by decide) rfl (fun ls hl => ?_)
    refine lv_bipush (v := 30) hx hb dX10_helps_27 (by decide) ?_
    refine lv_iload_n hx hb dX10_helps_29 rfl (lv_at hl 3 rfl) ?_
    refine lv_imul hx hb dX10_helps_30 ?_
    obtain ⟨x5, h9, hf⟩ := ob_inv hf
    refine g_nmi (Option.some.inj h9) ?_
    refine lv_istore (lv' := [(7, .int x5), (6, .int (-1)), (5, .int z4), (0, .ref (G.2.2.1 0)), (1, .int p1), (2, .int p2), (3, .int r1), (4, .int r2)]) hx hb dX10_helps_31 hl (by decide) rfl (fun ls hl => ?_)
    refine lv_iload hx hb dX10_helps_33 (lv_at hl 0 rfl) ?_
    refine lv_istore (lv' := [(8, .int x5), (7, .int x5), (6, .int (-1)), (5, .int z4), (0, .ref (G.2.2.1 0)), (1, .int p1), (2, .int p2), (3, .int r1), (4, .int r2)]) hx hb dX10_helps_35 hl (by decide) rfl (fun ls hl => ?_)
    have hL37 : ∀ (n : Nat) (x6 : Int32) (m7 : gM) (y8 : Int32) (m9 : gM) (H : Heap) (locs : List Loc) (ls : Array Slot), f_X10_helps_L37 x5 n x6 m7 = some (y8, m9) → g_H ZM G s H locs m7 → lv_has ls 11 [(0, .ref (G.2.2.1 0)), (1, .int p1), (2, .int p2), (3, .int r1), (4, .int r2), (5, .int z4), (6, .int (-1)), (7, .int x5), (8, .int x6)] → (∀ (H : Heap) (locs : List Loc) (ls : Array Slot), g_H ZM G s H locs m9 → lv_has ls 11 [(0, .ref (G.2.2.1 0)), (1, .int p1), (2, .int p2), (3, .int r1), (4, .int r2), (5, .int z4), (6, .int (-1)), (7, .int x5)] → W p l e (headSpec wsX10_helps rmX10_helps).room s m ([.ref (G.2.2.1 0), .int p1, .int p2] : List Value).toArray below meth c H locs 0 0 Q (F0 m 61 ls [])) → W p l e (headSpec wsX10_helps rmX10_helps).room s m ([.ref (G.2.2.1 0), .int p1, .int p2] : List Value).toArray below meth c H locs 0 0 Q (F0 m 37 ls []) := by
      intro n
      induction n with
      | zero =>
        intro x6 m7 y8 m9 H locs ls hf hW hl hE
        cases hf
      | succ n ih =>
        intro x6 m7 y8 m9 H locs ls hf hW hl hE
        rw [f_X10_helps_L37] at hf
        refine lv_iload hx hb dX10_helps_37 (lv_at hl 8 rfl) ?_
        refine lv_iload hx hb dX10_helps_39 (lv_at hl 7 rfl) ?_
        refine lv_bipush (v := 30) hx hb dX10_helps_41 (by decide) ?_
        refine lv_iadd hx hb dX10_helps_43 ?_
        refine lv_icmp_ge (tgt := 61) hx hb dX10_helps_44 (by decide) (fun c10 => ?_) (fun c10 => ?_)
        · have hf := a_if_t c10 hf
          cases hf
          exact hE H locs ls hW (lv_sub hl [0, 1, 2, 3, 4, 5, 6, 7] rfl)
        · have hf := a_if_f c10 hf
          refine lv_aload_n hx hb dX10_helps_47 rfl (lv_at hl 0 rfl) ?_
          refine g_getr hC hW (o := 0) (ci := 10) (k := 47) zm_k0 zm_b0 rfl hi10 (by decide) rfl (t := 40) zm_r0_47 (by decide +kernel) dX10_helps_48 ?_
          refine lv_iload hx hb dX10_helps_51 (lv_at hl 8 rfl) ?_
          refine lv_iconst (v := 0) hx hb dX10_helps_53 (by decide) ?_
          obtain ⟨m11, h9, hf⟩ := ob_inv hf
          refine g_ist hC hW zm_k40 zm_b40 zm_n40 h9 dX10_helps_54 (fun H locs hW => ?_)
          refine lv_iinc (v := (x6 + 1)) (lv' := [(8, .int (x6 + 1)), (0, .ref (G.2.2.1 0)), (1, .int p1), (2, .int p2), (3, .int r1), (4, .int r2), (5, .int z4), (6, .int (-1)), (7, .int x5)]) hx hb dX10_helps_55 hl (k := 8) rfl (congrArg (fun z => x6 + z) (by decide)) (by decide) rfl (fun ls hl => ?_)
          refine lv_goto (tgt := 37) hx hb dX10_helps_58 (by decide) ?_
          exact ih _ _ _ _ _ _ _ hf hW (lv_sub hl [1, 2, 3, 4, 5, 6, 7, 8, 0] rfl) hE
    obtain ⟨⟨y8, m9⟩, hg, hf⟩ := ob_inv hf
    have hf := ob_inv2 hf
    refine hL37 _ _ _ _ _ _ _ _ hg hW (lv_sub hl [4, 5, 6, 7, 8, 3, 2, 1, 0] rfl) (fun H locs ls hW hl => ?_)
    refine lv_iconst (v := 0) hx hb dX10_helps_61 (by decide) ?_
    refine lv_istore (lv' := [(8, .int 0), (0, .ref (G.2.2.1 0)), (1, .int p1), (2, .int p2), (3, .int r1), (4, .int r2), (5, .int z4), (6, .int (-1)), (7, .int x5)]) hx hb dX10_helps_62 hl (by decide) rfl (fun ls hl => ?_)
    have hL64 : ∀ (n : Nat) (x12 : Int32) (x13 : Int32) (x14 : Int32) (m15 : gM) (y16 : Int32) (y17 : Int32) (y18 : Int32) (m19 : gM) (H : Heap) (locs : List Loc) (ls : Array Slot), f_X10_helps_L64 p1 p2 x5 z4 n x12 x13 x14 m15 = some (y16, y17, y18, m19) → g_H ZM G s H locs m15 → lv_has ls 11 [(0, .ref (G.2.2.1 0)), (1, .int p1), (2, .int p2), (3, .int r1), (4, .int x12), (5, .int z4), (6, .int x13), (7, .int x5), (8, .int x14)] → (∀ (H : Heap) (locs : List Loc) (ls : Array Slot), g_H ZM G s H locs m19 → lv_has ls 11 [(0, .ref (G.2.2.1 0)), (1, .int p1), (2, .int p2), (3, .int r1), (4, .int y16), (5, .int z4), (6, .int y17)] → W p l e (headSpec wsX10_helps rmX10_helps).room s m ([.ref (G.2.2.1 0), .int p1, .int p2] : List Value).toArray below meth c H locs 0 0 Q (F0 m 196 ls [])) → W p l e (headSpec wsX10_helps rmX10_helps).room s m ([.ref (G.2.2.1 0), .int p1, .int p2] : List Value).toArray below meth c H locs 0 0 Q (F0 m 64 ls []) := by
      intro n
      induction n with
      | zero =>
        intro x12 x13 x14 m15 y16 y17 y18 m19 H locs ls hf hW hl hE
        cases hf
      | succ n ih =>
        intro x12 x13 x14 m15 y16 y17 y18 m19 H locs ls hf hW hl hE
        rw [f_X10_helps_L64] at hf
        refine lv_iload hx hb dX10_helps_64 (lv_at hl 8 rfl) ?_
        refine lv_sipush (v := 300) hx hb dX10_helps_66 (by decide) ?_
        refine lv_icmp_gt (tgt := 196) hx hb dX10_helps_69 (by decide) (fun c20 => ?_) (fun c20 => ?_)
        · have hf := a_if_t c20 hf
          cases hf
          exact hE H locs ls hW (lv_sub hl [0, 1, 2, 3, 4, 5, 6] rfl)
        · have hf := a_if_f c20 hf
          refine lv_iload hx hb dX10_helps_72 (lv_at hl 5 rfl) ?_
          refine lv_iconst (v := 1) hx hb dX10_helps_74 (by decide) ?_
          obtain ⟨z22, hg, hf⟩ := ob_inv hf
          have hJ89 : ∀ (H : Heap) (locs : List Loc) (ls : Array Slot), g_H ZM G s H locs m15 → lv_has ls 11 [(0, .ref (G.2.2.1 0)), (1, .int p1), (2, .int p2), (3, .int r1), (4, .int x12), (5, .int z4), (6, .int x13), (7, .int x5), (8, .int x14)] → W p l e (headSpec wsX10_helps rmX10_helps).room s m ([.ref (G.2.2.1 0), .int p1, .int p2] : List Value).toArray below meth c H locs 0 0 Q (F0 m 89 ls [.int z22]) := by
            intro H locs ls hW hl
            refine lv_istore (lv' := [(9, .int z22), (0, .ref (G.2.2.1 0)), (1, .int p1), (2, .int p2), (3, .int r1), (4, .int x12), (5, .int z4), (6, .int x13), (7, .int x5), (8, .int x14)]) hx hb dX10_helps_89 hl (by decide) rfl (fun ls hl => ?_)
            refine lv_iload hx hb dX10_helps_91 (lv_at hl 8 rfl) ?_
            refine lv_istore (lv' := [(10, .int x5), (9, .int z22), (0, .ref (G.2.2.1 0)), (1, .int p1), (2, .int p2), (3, .int r1), (4, .int x12), (5, .int z4), (6, .int x13), (7, .int x5), (8, .int x14)]) hx hb dX10_helps_93 hl (by decide) rfl (fun ls hl => ?_)
            have hL95 : ∀ (n : Nat) (x23 : Int32) (x24 : Int32) (x25 : Int32) (m26 : gM) (y27 : Int32) (y28 : Int32) (y29 : Int32) (m30 : gM) (H : Heap) (locs : List Loc) (ls : Array Slot), f_X10_helps_L95 p1 p2 x5 z22 z4 n x23 x24 x25 m26 = some (y27, y28, y29, m30) → g_H ZM G s H locs m26 → lv_has ls 11 [(0, .ref (G.2.2.1 0)), (1, .int p1), (2, .int p2), (3, .int r1), (4, .int x23), (5, .int z4), (6, .int x24), (7, .int x5), (8, .int x14), (9, .int z22), (10, .int x25)] → (∀ (H : Heap) (locs : List Loc) (ls : Array Slot), g_H ZM G s H locs m30 → lv_has ls 11 [(0, .ref (G.2.2.1 0)), (1, .int p1), (2, .int p2), (3, .int r1), (4, .int y27), (5, .int z4), (6, .int y28), (7, .int x5), (8, .int x14)] → W p l e (headSpec wsX10_helps rmX10_helps).room s m ([.ref (G.2.2.1 0), .int p1, .int p2] : List Value).toArray below meth c H locs 0 0 Q (F0 m 190 ls [])) → W p l e (headSpec wsX10_helps rmX10_helps).room s m ([.ref (G.2.2.1 0), .int p1, .int p2] : List Value).toArray below meth c H locs 0 0 Q (F0 m 95 ls []) := by
              intro n
              induction n with
              | zero =>
                intro x23 x24 x25 m26 y27 y28 y29 m30 H locs ls hf hW hl hE
                cases hf
              | succ n ih =>
                intro x23 x24 x25 m26 y27 y28 y29 m30 H locs ls hf hW hl hE
                rw [f_X10_helps_L95] at hf
                refine lv_iload hx hb dX10_helps_95 (lv_at hl 10 rfl) ?_
                refine lv_iload hx hb dX10_helps_97 (lv_at hl 7 rfl) ?_
                refine lv_aload_n hx hb dX10_helps_99 rfl (lv_at hl 0 rfl) ?_
                refine g_getr hC hW (o := 0) (ci := 10) (k := 41) zm_k0 zm_b0 rfl hi10 (by decide) rfl (t := 34) zm_r0_41 (by decide +kernel) dX10_helps_100 ?_
                refine lv_iload_n hx hb dX10_helps_103 rfl (lv_at hl 1 rfl) ?_
                obtain ⟨v31, h9, hf⟩ := ob_inv hf
                refine g_ild hC hW zm_k34 zm_b34 zm_n34 h9 dX10_helps_104 ?_
                refine lv_iadd hx hb dX10_helps_105 ?_
                refine lv_icmp_ge (tgt := 190) hx hb dX10_helps_106 (by decide) (fun c32 => ?_) (fun c32 => ?_)
                · have hf := a_if_t c32 hf
                  cases hf
                  exact hE H locs ls hW (lv_sub hl [0, 1, 2, 3, 4, 5, 6, 7, 8] rfl)
                · have hf := a_if_f c32 hf
                  refine lv_iload hx hb dX10_helps_109 (lv_at hl 4 rfl) ?_
                  obtain ⟨⟨x34, x35, m36⟩, hg, hf⟩ := ob_inv hf
                  have hf := ob_inv3 hf
                  have hJ184 : ∀ (H : Heap) (locs : List Loc) (ls : Array Slot), g_H ZM G s H locs m36 → lv_has ls 11 [(0, .ref (G.2.2.1 0)), (1, .int p1), (2, .int p2), (3, .int r1), (4, .int x34), (5, .int z4), (6, .int x35), (7, .int x5), (8, .int x14), (9, .int z22), (10, .int x25)] → W p l e (headSpec wsX10_helps rmX10_helps).room s m ([.ref (G.2.2.1 0), .int p1, .int p2] : List Value).toArray below meth c H locs 0 0 Q (F0 m 184 ls []) := by
                    intro H locs ls hW hl
                    refine lv_iinc (v := (x25 + 1)) (lv' := [(10, .int (x25 + 1)), (0, .ref (G.2.2.1 0)), (1, .int p1), (2, .int p2), (3, .int r1), (4, .int x34), (5, .int z4), (6, .int x35), (7, .int x5), (8, .int x14), (9, .int z22)]) hx hb dX10_helps_184 hl (k := 10) rfl (congrArg (fun z => x25 + z) (by decide)) (by decide) rfl (fun ls hl => ?_)
                    refine lv_goto (tgt := 95) hx hb dX10_helps_187 (by decide) ?_
                    exact ih _ _ _ _ _ _ _ _ _ _ _ hf hW (lv_sub hl [1, 2, 3, 4, 5, 6, 7, 8, 9, 10, 0] rfl) hE
                  replace hf := hg
                  refine lv_if_le (tgt := 184) hx hb dX10_helps_111 (by decide) (fun c33 => ?_) (fun c33 => ?_)
                  · have hf := a_if_t c33 hf
                    cases hf
                    exact hJ184 H locs ls hW (lv_sub hl [0, 1, 2, 3, 4, 5, 6, 7, 8, 9, 10] rfl)
                  · have hf := a_if_f c33 hf
                    refine lv_aload_n hx hb dX10_helps_114 rfl (lv_at hl 0 rfl) ?_
                    refine g_getr hC hW (o := 0) (ci := 10) (k := 43) zm_k0 zm_b0 rfl hi10 (by decide) rfl (t := 36) zm_r0_43 (by decide +kernel) dX10_helps_115 ?_
                    refine lv_iload hx hb dX10_helps_118 (lv_at hl 10 rfl) ?_
                    obtain ⟨v37, h9, hf⟩ := ob_inv hf
                    refine g_ild hC hW zm_k36 zm_b36 zm_n36 h9 dX10_helps_120 ?_
                    refine lv_iload_n hx hb dX10_helps_121 rfl (lv_at hl 2 rfl) ?_
                    refine lv_icmp_ne (tgt := 184) hx hb dX10_helps_122 (by decide) (fun c38 => ?_) (fun c38 => ?_)
                    · have hf := a_if_f c38 hf
                      cases hf
                      exact hJ184 H locs ls hW (lv_sub hl [0, 1, 2, 3, 4, 5, 6, 7, 8, 9, 10] rfl)
                    · have hf := a_if_t c38 hf
                      refine lv_aload_n hx hb dX10_helps_125 rfl (lv_at hl 0 rfl) ?_
                      refine g_getr hC hW (o := 0) (ci := 10) (k := 44) zm_k0 zm_b0 rfl hi10 (by decide) rfl (t := 37) zm_r0_44 (by decide +kernel) dX10_helps_126 ?_
                      refine lv_iload hx hb dX10_helps_129 (lv_at hl 10 rfl) ?_
                      obtain ⟨v39, h9, hf⟩ := ob_inv hf
                      refine g_ild hC hW zm_k37 zm_b37 zm_n37 h9 dX10_helps_131 ?_
                      refine lv_iload hx hb dX10_helps_132 (lv_at hl 5 rfl) ?_
                      refine lv_icmp_ne (tgt := 184) hx hb dX10_helps_134 (by decide) (fun c40 => ?_) (fun c40 => ?_)
                      · have hf := a_if_f c40 hf
                        cases hf
                        exact hJ184 H locs ls hW (lv_sub hl [0, 1, 2, 3, 4, 5, 6, 7, 8, 9, 10] rfl)
                      · have hf := a_if_t c40 hf
                        refine lv_aload_n hx hb dX10_helps_137 rfl (lv_at hl 0 rfl) ?_
                        refine g_getr hC hW (o := 0) (ci := 10) (k := 45) zm_k0 zm_b0 rfl hi10 (by decide) rfl (t := 38) zm_r0_45 (by decide +kernel) dX10_helps_138 ?_
                        refine lv_iload hx hb dX10_helps_141 (lv_at hl 10 rfl) ?_
                        obtain ⟨v41, h9, hf⟩ := ob_inv hf
                        refine g_ild hC hW zm_k38 zm_b38 zm_n38 h9 dX10_helps_143 ?_
                        refine lv_iload hx hb dX10_helps_144 (lv_at hl 9 rfl) ?_
                        refine lv_icmp_ne (tgt := 184) hx hb dX10_helps_146 (by decide) (fun c42 => ?_) (fun c42 => ?_)
                        · have hf := a_if_f c42 hf
                          cases hf
                          exact hJ184 H locs ls hW (lv_sub hl [0, 1, 2, 3, 4, 5, 6, 7, 8, 9, 10] rfl)
                        · have hf := a_if_t c42 hf
                          refine lv_aload_n hx hb dX10_helps_149 rfl (lv_at hl 0 rfl) ?_
                          refine g_getr hC hW (o := 0) (ci := 10) (k := 47) zm_k0 zm_b0 rfl hi10 (by decide) rfl (t := 40) zm_r0_47 (by decide +kernel) dX10_helps_150 ?_
                          refine lv_iload hx hb dX10_helps_153 (lv_at hl 10 rfl) ?_
                          refine lv_aload_n hx hb dX10_helps_155 rfl (lv_at hl 0 rfl) ?_
                          refine g_getr hC hW (o := 0) (ci := 10) (k := 46) zm_k0 zm_b0 rfl hi10 (by decide) rfl (t := 39) zm_r0_46 (by decide +kernel) dX10_helps_156 ?_
                          refine lv_iload hx hb dX10_helps_159 (lv_at hl 10 rfl) ?_
                          obtain ⟨v43, h9, hf⟩ := ob_inv hf
                          refine g_ild hC hW zm_k39 zm_b39 zm_n39 h9 dX10_helps_161 ?_
                          refine lv_iload hx hb dX10_helps_162 (lv_at hl 4 rfl) ?_
                          obtain ⟨r44, hg, hf⟩ := ob_inv hf
                          refine g_cSi hC hW (As := [.int v43, .int x23]) (rest := [.int x25, .ref (G.2.2.1 40)]) (c_X10_lesser l G  hg) (va_cwS 2 hts gX10_helps_X10_lesser rfl rfl rfl (by decide +kernel) ⟨Nat.le_of_ble_eq_true rfl, Nat.le_of_ble_eq_true rfl⟩) rfl hl.1 rfl (Nat.le_of_ble_eq_true rfl) dX10_helps_164 ⟨Nat.le_of_ble_eq_true rfl, Nat.le_of_ble_eq_true rfl⟩ (fun H locs hW => ?_)
                          obtain ⟨m45, h9, hf⟩ := ob_inv hf
                          refine g_ist hC hW zm_k40 zm_b40 zm_n40 h9 dX10_helps_167 (fun H locs hW => ?_)
                          refine lv_iload hx hb dX10_helps_168 (lv_at hl 4 rfl) ?_
                          refine lv_aload_n hx hb dX10_helps_170 rfl (lv_at hl 0 rfl) ?_
                          refine g_getr hC hW (o := 0) (ci := 10) (k := 47) zm_k0 zm_b0 rfl hi10 (by decide) rfl (t := 40) zm_r0_47 (by decide +kernel) dX10_helps_171 ?_
                          refine lv_iload hx hb dX10_helps_174 (lv_at hl 10 rfl) ?_
                          obtain ⟨v46, h9, hf⟩ := ob_inv hf
                          refine g_ild hC hW zm_k40 zm_b40 zm_n40 h9 dX10_helps_176 ?_
                          refine lv_isub hx hb dX10_helps_177 ?_
                          obtain ⟨x47, h9, hf⟩ := ob_inv hf
                          refine g_nmi (Option.some.inj h9) ?_
                          refine lv_istore (lv' := [(4, .int x47), (0, .ref (G.2.2.1 0)), (1, .int p1), (2, .int p2), (3, .int r1), (5, .int z4), (6, .int x24), (7, .int x5), (8, .int x14), (9, .int z22), (10, .int x25)]) hx hb dX10_helps_178 hl (by decide) rfl (fun ls hl => ?_)
                          refine lv_iload hx hb dX10_helps_180 (lv_at hl 9 rfl) ?_
                          refine lv_istore (lv' := [(6, .int z22), (4, .int x47), (0, .ref (G.2.2.1 0)), (1, .int p1), (2, .int p2), (3, .int r1), (5, .int z4), (7, .int x5), (8, .int x14), (9, .int z22), (10, .int x25)]) hx hb dX10_helps_182 hl (by decide) rfl (fun ls hl => ?_)
                          cases hf
                          exact hJ184 H locs ls hW (lv_sub hl [2, 3, 4, 5, 1, 6, 0, 7, 8, 9, 10] rfl)
            obtain ⟨⟨y27, y28, y29, m30⟩, hg, hf⟩ := ob_inv hf
            have hf := ob_inv4 hf
            refine hL95 _ _ _ _ _ _ _ _ _ _ _ _ hg hW (lv_sub hl [2, 3, 4, 5, 6, 7, 8, 9, 10, 1, 0] rfl) (fun H locs ls hW hl => ?_)
            refine lv_iinc (v := (x14 + 1)) (lv' := [(8, .int (x14 + 1)), (0, .ref (G.2.2.1 0)), (1, .int p1), (2, .int p2), (3, .int r1), (4, .int y27), (5, .int z4), (6, .int y28), (7, .int x5)]) hx hb dX10_helps_190 hl (k := 8) rfl (congrArg (fun z => x14 + z) (by decide)) (by decide) rfl (fun ls hl => ?_)
            refine lv_goto (tgt := 64) hx hb dX10_helps_193 (by decide) ?_
            exact ih _ _ _ _ _ _ _ _ _ _ _ hf hW (lv_sub hl [1, 2, 3, 4, 5, 6, 7, 8, 0] rfl) hE
          replace hf := hg
          refine lv_icmp_ne (tgt := 83) hx hb dX10_helps_75 (by decide) (fun c21 => ?_) (fun c21 => ?_)
          · have hf := a_if_f c21 hf
            refine lv_sipush (v := 300) hx hb dX10_helps_83 (by decide) ?_
            refine lv_iload hx hb dX10_helps_86 (lv_at hl 8 rfl) ?_
            refine lv_isub hx hb dX10_helps_88 ?_
            cases hf
            exact hJ89 H locs ls hW (lv_sub hl [0, 1, 2, 3, 4, 5, 6, 7, 8] rfl)
          · have hf := a_if_t c21 hf
            refine lv_iload hx hb dX10_helps_78 (lv_at hl 8 rfl) ?_
            refine lv_goto (tgt := 89) hx hb dX10_helps_80 (by decide) ?_
            cases hf
            exact hJ89 H locs ls hW (lv_sub hl [0, 1, 2, 3, 4, 5, 6, 7, 8] rfl)
    obtain ⟨⟨y16, y17, y18, m19⟩, hg, hf⟩ := ob_inv hf
    have hf := ob_inv4 hf
    refine hL64 _ _ _ _ _ _ _ _ _ _ _ _ hg hW (lv_sub hl [1, 2, 3, 4, 5, 6, 7, 8, 0] rfl) (fun H locs ls hW hl => ?_)
    refine lv_iload_n hx hb dX10_helps_196 rfl (lv_at hl 3 rfl) ?_
    refine lv_if_ne (tgt := 202) hx hb dX10_helps_197 (by decide) (fun c50 => ?_) (fun c50 => ?_)
    · have hf := a_if_f c50 hf
      refine lv_aload_n hx hb dX10_helps_202 rfl (lv_at hl 0 rfl) ?_
      refine g_getr hC hW (o := 0) (ci := 10) (k := 48) zm_k0 zm_b0 rfl hi10 (by decide) rfl (t := 41) zm_r0_48 (by decide +kernel) dX10_helps_203 ?_
      refine lv_bipush (v := 12) hx hb dX10_helps_206 (by decide) ?_
      refine lv_iload_n hx hb dX10_helps_208 rfl (lv_at hl 1 rfl) ?_
      refine lv_imul hx hb dX10_helps_209 ?_
      refine lv_iload_n hx hb dX10_helps_210 rfl (lv_at hl 2 rfl) ?_
      refine lv_iadd hx hb dX10_helps_211 ?_
      obtain ⟨v51, h9, hf⟩ := ob_inv hf
      refine g_ild hC hW zm_k41 zm_b41 zm_n41 h9 dX10_helps_212 ?_
      refine lv_aload_n hx hb dX10_helps_213 rfl (lv_at hl 0 rfl) ?_
      refine g_getr hC hW (o := 0) (ci := 10) (k := 48) zm_k0 zm_b0 rfl hi10 (by decide) rfl (t := 41) zm_r0_48 (by decide +kernel) dX10_helps_214 ?_
      refine lv_bipush (v := 12) hx hb dX10_helps_217 (by decide) ?_
      refine lv_iload_n hx hb dX10_helps_219 rfl (lv_at hl 1 rfl) ?_
      refine lv_imul hx hb dX10_helps_220 ?_
      refine lv_iconst (v := 4) hx hb dX10_helps_221 (by decide) ?_
      refine lv_iadd hx hb dX10_helps_222 ?_
      refine lv_iload_n hx hb dX10_helps_223 rfl (lv_at hl 2 rfl) ?_
      refine lv_iadd hx hb dX10_helps_224 ?_
      obtain ⟨v52, h9, hf⟩ := ob_inv hf
      refine g_ild hC hW zm_k41 zm_b41 zm_n41 h9 dX10_helps_225 ?_
      refine lv_aload_n hx hb dX10_helps_226 rfl (lv_at hl 0 rfl) ?_
      refine g_getr hC hW (o := 0) (ci := 10) (k := 48) zm_k0 zm_b0 rfl hi10 (by decide) rfl (t := 41) zm_r0_48 (by decide +kernel) dX10_helps_227 ?_
      refine lv_bipush (v := 12) hx hb dX10_helps_230 (by decide) ?_
      refine lv_iload_n hx hb dX10_helps_232 rfl (lv_at hl 1 rfl) ?_
      refine lv_imul hx hb dX10_helps_233 ?_
      refine lv_bipush (v := 8) hx hb dX10_helps_234 (by decide) ?_
      refine lv_iadd hx hb dX10_helps_236 ?_
      refine lv_iload_n hx hb dX10_helps_237 rfl (lv_at hl 2 rfl) ?_
      refine lv_iadd hx hb dX10_helps_238 ?_
      obtain ⟨v53, h9, hf⟩ := ob_inv hf
      refine g_ild hC hW zm_k41 zm_b41 zm_n41 h9 dX10_helps_239 ?_
      obtain ⟨r54, hg, hf⟩ := ob_inv hf
      refine g_cSi hC hW (As := [.int v52, .int v53]) (rest := [.int v51]) (c_X10_lesser l G  hg) (va_cwS 2 hts gX10_helps_X10_lesser rfl rfl rfl (by decide +kernel) ⟨Nat.le_of_ble_eq_true rfl, Nat.le_of_ble_eq_true rfl⟩) rfl hl.1 rfl (Nat.le_of_ble_eq_true rfl) dX10_helps_240 ⟨Nat.le_of_ble_eq_true rfl, Nat.le_of_ble_eq_true rfl⟩ (fun H locs hW => ?_)
      obtain ⟨r55, hg, hf⟩ := ob_inv hf
      refine g_cSi hC hW (As := [.int v51, .int r54]) (rest := []) (c_X10_lesser l G  hg) (va_cwS 2 hts gX10_helps_X10_lesser rfl rfl rfl (by decide +kernel) ⟨Nat.le_of_ble_eq_true rfl, Nat.le_of_ble_eq_true rfl⟩) rfl hl.1 rfl (Nat.le_of_ble_eq_true rfl) dX10_helps_243 ⟨Nat.le_of_ble_eq_true rfl, Nat.le_of_ble_eq_true rfl⟩ (fun H locs hW => ?_)
      refine lv_istore (lv' := [(8, .int r55), (0, .ref (G.2.2.1 0)), (1, .int p1), (2, .int p2), (3, .int r1), (4, .int y16), (5, .int z4), (6, .int y17)]) hx hb dX10_helps_246 hl (by decide) rfl (fun ls hl => ?_)
      refine lv_aload_n hx hb dX10_helps_248 rfl (lv_at hl 1 rfl) ?_
      refine g_getr hC hW (o := 0) (ci := 10) (k := 48) zm_k0 zm_b0 rfl hi10 (by decide) rfl (t := 41) zm_r0_48 (by decide +kernel) dX10_helps_249 ?_
      refine lv_bipush (v := 12) hx hb dX10_helps_252 (by decide) ?_
      refine lv_iload_n hx hb dX10_helps_254 rfl (lv_at hl 2 rfl) ?_
      refine lv_imul hx hb dX10_helps_255 ?_
      refine lv_iload_n hx hb dX10_helps_256 rfl (lv_at hl 3 rfl) ?_
      refine lv_iadd hx hb dX10_helps_257 ?_
      obtain ⟨v56, h9, hf⟩ := ob_inv hf
      refine g_ild hC hW zm_k41 zm_b41 zm_n41 h9 dX10_helps_258 ?_
      refine lv_aload_n hx hb dX10_helps_259 rfl (lv_at hl 1 rfl) ?_
      refine g_getr hC hW (o := 0) (ci := 10) (k := 48) zm_k0 zm_b0 rfl hi10 (by decide) rfl (t := 41) zm_r0_48 (by decide +kernel) dX10_helps_260 ?_
      refine lv_bipush (v := 12) hx hb dX10_helps_263 (by decide) ?_
      refine lv_iload_n hx hb dX10_helps_265 rfl (lv_at hl 2 rfl) ?_
      refine lv_imul hx hb dX10_helps_266 ?_
      refine lv_iconst (v := 4) hx hb dX10_helps_267 (by decide) ?_
      refine lv_iadd hx hb dX10_helps_268 ?_
      refine lv_iload_n hx hb dX10_helps_269 rfl (lv_at hl 3 rfl) ?_
      refine lv_iadd hx hb dX10_helps_270 ?_
      obtain ⟨v57, h9, hf⟩ := ob_inv hf
      refine g_ild hC hW zm_k41 zm_b41 zm_n41 h9 dX10_helps_271 ?_
      refine lv_aload_n hx hb dX10_helps_272 rfl (lv_at hl 1 rfl) ?_
      refine g_getr hC hW (o := 0) (ci := 10) (k := 48) zm_k0 zm_b0 rfl hi10 (by decide) rfl (t := 41) zm_r0_48 (by decide +kernel) dX10_helps_273 ?_
      refine lv_bipush (v := 12) hx hb dX10_helps_276 (by decide) ?_
      refine lv_iload_n hx hb dX10_helps_278 rfl (lv_at hl 2 rfl) ?_
      refine lv_imul hx hb dX10_helps_279 ?_
      refine lv_bipush (v := 8) hx hb dX10_helps_280 (by decide) ?_
      refine lv_iadd hx hb dX10_helps_282 ?_
      refine lv_iload_n hx hb dX10_helps_283 rfl (lv_at hl 3 rfl) ?_
      refine lv_iadd hx hb dX10_helps_284 ?_
      obtain ⟨v58, h9, hf⟩ := ob_inv hf
      refine g_ild hC hW zm_k41 zm_b41 zm_n41 h9 dX10_helps_285 ?_
      obtain ⟨r59, hg, hf⟩ := ob_inv hf
      refine g_cSi hC hW (As := [.int v57, .int v58]) (rest := [.int v56]) (c_X10_greater l G  hg) (va_cwS 2 hts gX10_helps_X10_greater rfl rfl rfl (by decide +kernel) ⟨Nat.le_of_ble_eq_true rfl, Nat.le_of_ble_eq_true rfl⟩) rfl hl.1 rfl (Nat.le_of_ble_eq_true rfl) dX10_helps_286 ⟨Nat.le_of_ble_eq_true rfl, Nat.le_of_ble_eq_true rfl⟩ (fun H locs hW => ?_)
      obtain ⟨r60, hg, hf⟩ := ob_inv hf
      refine g_cSi hC hW (As := [.int v56, .int r59]) (rest := []) (c_X10_greater l G  hg) (va_cwS 2 hts gX10_helps_X10_greater rfl rfl rfl (by decide +kernel) ⟨Nat.le_of_ble_eq_true rfl, Nat.le_of_ble_eq_true rfl⟩) rfl hl.1 rfl (Nat.le_of_ble_eq_true rfl) dX10_helps_289 ⟨Nat.le_of_ble_eq_true rfl, Nat.le_of_ble_eq_true rfl⟩ (fun H locs hW => ?_)
      refine lv_istore (lv' := [(9, .int r60), (8, .int r55), (0, .ref (G.2.2.1 0)), (1, .int p1), (2, .int p2), (3, .int r1), (4, .int y16), (5, .int z4), (6, .int y17)]) hx hb dX10_helps_292 hl (by decide) rfl (fun ls hl => ?_)
      refine lv_iload hx hb dX10_helps_294 (lv_at hl 7 rfl) ?_
      refine lv_iconst (v := 1) hx hb dX10_helps_296 (by decide) ?_
      refine lv_icmp_ne (tgt := 319) hx hb dX10_helps_297 (by decide) (fun c61 => ?_) (fun c61 => ?_)
      · have hf := a_if_f c61 hf
        refine lv_iload hx hb dX10_helps_319 (lv_at hl 6 rfl) ?_
        obtain ⟨z63, hg, hf⟩ := ob_inv hf
        have hJ330 : ∀ (H : Heap) (locs : List Loc) (ls : Array Slot), g_H ZM G s H locs m19 → lv_has ls 11 [(8, .int r55)] → W p l e (headSpec wsX10_helps rmX10_helps).room s m ([.ref (G.2.2.1 0), .int p1, .int p2] : List Value).toArray below meth c H locs 0 0 Q (F0 m 330 ls [.int z63]) := by
          intro H locs ls hW hl
          refine lv_iload hx hb dX10_helps_330 (lv_at hl 0 rfl) ?_
          obtain ⟨r64, hg, hf⟩ := ob_inv hf
          refine g_cSi hC hW (As := [.int z63, .int r55]) (rest := []) (c_X10_lesser l G  hg) (va_cwS 2 hts gX10_helps_X10_lesser rfl rfl rfl (by decide +kernel) ⟨Nat.le_of_ble_eq_true rfl, Nat.le_of_ble_eq_true rfl⟩) rfl hl.1 rfl (Nat.le_of_ble_eq_true rfl) dX10_helps_332 ⟨Nat.le_of_ble_eq_true rfl, Nat.le_of_ble_eq_true rfl⟩ (fun H locs hW => ?_)
          cases hf
          subst hQ
          exact g_iret hC hW hr hlocks rfl rfl dX10_helps_335
        replace hf := hg
        refine lv_if_le (tgt := 328) hx hb dX10_helps_321 (by decide) (fun c62 => ?_) (fun c62 => ?_)
        · have hf := a_if_t c62 hf
          refine lv_iload hx hb dX10_helps_328 (lv_at hl 8 rfl) ?_
          cases hf
          exact hJ330 H locs ls hW (lv_sub hl [1] rfl)
        · have hf := a_if_f c62 hf
          refine lv_iconst (v := 0) hx hb dX10_helps_324 (by decide) ?_
          refine lv_goto (tgt := 330) hx hb dX10_helps_325 (by decide) ?_
          cases hf
          exact hJ330 H locs ls hW (lv_sub hl [1] rfl)
      · have hf := a_if_t c61 hf
        refine lv_iload hx hb dX10_helps_300 (lv_at hl 6 rfl) ?_
        obtain ⟨z66, hg, hf⟩ := ob_inv hf
        have hJ313 : ∀ (H : Heap) (locs : List Loc) (ls : Array Slot), g_H ZM G s H locs m19 → lv_has ls 11 [(9, .int r60)] → W p l e (headSpec wsX10_helps rmX10_helps).room s m ([.ref (G.2.2.1 0), .int p1, .int p2] : List Value).toArray below meth c H locs 0 0 Q (F0 m 313 ls [.int z66]) := by
          intro H locs ls hW hl
          refine lv_iload hx hb dX10_helps_313 (lv_at hl 0 rfl) ?_
          obtain ⟨r67, hg, hf⟩ := ob_inv hf
          refine g_cSi hC hW (As := [.int z66, .int r60]) (rest := []) (c_X10_greater l G  hg) (va_cwS 2 hts gX10_helps_X10_greater rfl rfl rfl (by decide +kernel) ⟨Nat.le_of_ble_eq_true rfl, Nat.le_of_ble_eq_true rfl⟩) rfl hl.1 rfl (Nat.le_of_ble_eq_true rfl) dX10_helps_315 ⟨Nat.le_of_ble_eq_true rfl, Nat.le_of_ble_eq_true rfl⟩ (fun H locs hW => ?_)
          cases hf
          subst hQ
          exact g_iret hC hW hr hlocks rfl rfl dX10_helps_318
        replace hf := hg
        refine lv_if_le (tgt := 311) hx hb dX10_helps_302 (by decide) (fun c65 => ?_) (fun c65 => ?_)
        · have hf := a_if_t c65 hf
          refine lv_iload hx hb dX10_helps_311 (lv_at hl 8 rfl) ?_
          cases hf
          exact hJ313 H locs ls hW (lv_sub hl [0] rfl)
        · have hf := a_if_f c65 hf
          refine lv_sipush (v := 300) hx hb dX10_helps_305 (by decide) ?_
          refine lv_goto (tgt := 313) hx hb dX10_helps_308 (by decide) ?_
          cases hf
          exact hJ313 H locs ls hW (lv_sub hl [0] rfl)
    · have hf := a_if_t c50 hf
      refine lv_iconst (v := (-1)) hx hb dX10_helps_200 (by decide) ?_
      cases hf
      subst hQ
      exact g_iret hC hW hr hlocks rfl rfl dX10_helps_201
  replace hf := hg
  refine lv_if_ge (tgt := 21) hx hb dX10_helps_14 (by decide) (fun c3 => ?_) (fun c3 => ?_)
  · have hf := a_if_t c3 hf
    refine lv_iconst (v := 0) hx hb dX10_helps_21 (by decide) ?_
    cases hf
    exact hJ22 H locs ls hW (lv_sub hl [2, 3, 4, 1, 0] rfl)
  · have hf := a_if_f c3 hf
    refine lv_iconst (v := 1) hx hb dX10_helps_17 (by decide) ?_
    refine lv_goto (tgt := 22) hx hb dX10_helps_18 (by decide) ?_
    cases hf
    exact hJ22 H locs ls hW (lv_sub hl [2, 3, 4, 1, 0] rfl)
