def f_L_law_B1341 (x2 : Int32) (x3 : Int32) (x4 : Int32) (x5 : Int32) (x6 : Int32) (x7 : Int32) (x8 : Int32) (x9 : Int32) (me : gM) : Option (Int32 × Int32 × Int32 × Int32 × Int32 × Int32 × Int32 × Int32 × gM) :=
  ob (if x9 = 0 then
      some 0
    else
      ob (f_L_money x2 me) fun r33 =>
      if r33 = 0 then
        some 0
      else
        some 1) fun (z32 : Int32) =>
  some (x2, x3, x4, x5, x6, x7, x8, z32, me)
def f_L_law_L1255 (m36 : gM) (r34 : Int32) (r35 : Int32) : Nat → Int32 → Int32 → Option (Int32 × Int32)
  | 0, _, _ => none
  | n + 1, x42, x43 =>
    if 6 ≤ x43 then
      some (x42, x43)
    else
      if x42 = 0 then
        some (x42, x43)
      else
        if r35 = (-9) then
          some (x42, x43)
        else
          ot (f_X9_hasFailed x43 m36) fun r49 =>
          ob (if r49 = 0 then
              ot (f_X9_account x43 m36) fun r52 =>
              if r52 < 0 then
                some 0
              else
                ot (f_X9_settled r34 x43 m36) fun r54 =>
                ot (f_X9_bill r34 x43 m36) fun r55 =>
                if r54 = r55 then
                  some 1
                else
                  some 0
            else
              ot (f_X9_account x43 m36) fun r57 =>
              if r57 = 0 then
                some 1
              else
                some 0) fun (z51 : Int32) =>
          f_L_law_L1255 m36 r34 r35 n z51 (x43 + 1)
def f_L_law_B1197 (x2 : Int32) (x3 : Int32) (x4 : Int32) (x5 : Int32) (x6 : Int32) (x7 : Int32) (x8 : Int32) (x9 : Int32) (x12 : Int32) (me : gM) : Option (Int32 × Int32 × Int32 × Int32 × Int32 × Int32 × Int32 × Int32 × gM) :=
  ob (f_X9_day me) fun r31 =>
  if r31 ≤ 0 then
    f_L_law_B1341 x2 x3 x4 x5 x6 x7 x8 x9 me
  else
    ob (f_X9_day me) fun r33 =>
    ob (f_L_low (x12 >>> (9 &&& 31)) r33) fun r34 =>
    ob (f_L_run r34 me) fun w37 =>
    ob (some w37.1) fun r35 =>
    ob (some w37.2) fun m36 =>
    ob (if r35 = (-9) then
        some 1
      else
        if r35 < 0 then
          some 0
        else
          if 6 < r35 then
            some 0
          else
            some 1) fun (z39 : Int32) =>
    ob (f_L_law_L1255 m36 r34 r35 f_fuel z39 0) fun t59 =>
    ob (some t59.1) fun y44 =>
    ob (some t59.2) fun y45 =>
    f_L_law_B1341 x2 x3 x4 x5 x6 x7 x8 y44 m36
def f_L_law_B1066 (x2 : Int32) (x3 : Int32) (x4 : Int32) (x5 : Int32) (x6 : Int32) (x7 : Int32) (x8 : Int32) (x9 : Int32) (x12 : Int32) (x13 : Int32) (x14 : Int32) (x15 : Int32) (x16 : Int32) (me : gM) : Option (Int32 × Int32 × Int32 × Int32 × Int32 × Int32 × Int32 × Int32 × gM) :=
  if 17 ≤ x13 then
    f_L_law_B1197 x2 x3 x4 x5 x6 x7 x8 x9 x12 me
  else
    ob (f_X9_day me) fun r32 =>
    if r32 ≤ 0 then
      f_L_law_B1197 x2 x3 x4 x5 x6 x7 x8 x9 x12 me
    else
      ob (f_X9_day me) fun r34 =>
      ob (f_L_low (x12 >>> (9 &&& 31)) r34) fun r35 =>
      ob (f_L_low (x12 >>> (4 &&& 31)) 41) fun r36 =>
      ob (some (r36 - 20)) fun (x37 : Int32) =>
      ot (f_X9_read r35 x14 x15 x16 x37 me) fun w40 =>
      ob (some w40.1) fun r38 =>
      ob (some w40.2) fun m39 =>
      ot (f_X9_plan r35 x14 x15 x16 m39) fun r41 =>
      ob (if r38 = (x37 - r41) then
          some 1
        else
          some 0) fun (z43 : Int32) =>
      ob (if z43 = 0 then
          some 0
        else
          ot (f_X9_gap r35 x16 m39) fun r46 =>
          ob (if r46 = 0 then
              some 0
            else
              some 1) fun (z48 : Int32) =>
          ot (f_X9_gapPrice r35 x16 m39) fun r49 =>
          ob (if r49 < 0 then
              some 0
            else
              some 1) fun (z51 : Int32) =>
          if z48 = z51 then
            some 1
          else
            some 0) fun (z45 : Int32) =>
      f_L_law_B1341 x2 x3 x4 x5 x6 x7 x8 z45 m39
def f_L_law_B978 (x2 : Int32) (x3 : Int32) (x4 : Int32) (x5 : Int32) (x6 : Int32) (x7 : Int32) (x8 : Int32) (x9 : Int32) (x12 : Int32) (x13 : Int32) (x14 : Int32) (x15 : Int32) (x16 : Int32) (x17 : Int32) (x18 : Int32) (x19 : Int32) (me : gM) : Option (Int32 × Int32 × Int32 × Int32 × Int32 × Int32 × Int32 × Int32 × gM) :=
  if 15 ≤ x13 then
    f_L_law_B1066 x2 x3 x4 x5 x6 x7 x8 x9 x12 x13 x14 x15 x16 me
  else
    ob (f_L_aid x14 x16 x19 x17 x18 me) fun w34 =>
    ob (some w34.1) fun r32 =>
    ob (some w34.2) fun m33 =>
    ob (if r32 = (-9) then
        ot (f_X9_hasFailed x14 m33) fun r38 =>
        if r38 = 0 then
          if x7 = 30 then
            some 1
          else
            some 0
        else
          some 1
      else
        if r32 = x7 then
          some 1
        else
          some 0) fun (z36 : Int32) =>
    ob (if r32 = (-9) then
        some 0
      else
        some 1) fun (z42 : Int32) =>
    ob (some (x7 + z42)) fun (x43 : Int32) =>
    f_L_law_B1341 x2 x3 x4 x5 x6 x43 x8 z36 m33
def f_L_law_B908 (x2 : Int32) (x3 : Int32) (x4 : Int32) (x5 : Int32) (x6 : Int32) (x7 : Int32) (x8 : Int32) (x9 : Int32) (x12 : Int32) (x13 : Int32) (x14 : Int32) (x15 : Int32) (x16 : Int32) (x17 : Int32) (x18 : Int32) (x19 : Int32) (me : gM) : Option (Int32 × Int32 × Int32 × Int32 × Int32 × Int32 × Int32 × Int32 × gM) :=
  if 14 ≤ x13 then
    f_L_law_B978 x2 x3 x4 x5 x6 x7 x8 x9 x12 x13 x14 x15 x16 x17 x18 x19 me
  else
    ob (f_X9_day me) fun r32 =>
    ob (if r32 = 9 then
        some (1, me)
      else
        ot (f_X9_close me) fun w38 =>
        ob (some w38.1) fun r36 =>
        ob (some w38.2) fun m37 =>
        ob (f_X9_day m37) fun r39 =>
        if r36 = r39 then
          ob (f_X9_phase m37) fun r41 =>
          if r41 = 0 then
            some (1, m37)
          else
            some (0, m37)
        else
          some (0, m37)) fun (t46 : Int32 × gM) =>
    ob (some t46.1) fun z34 =>
    ob (some t46.2) fun m35 =>
    if z34 = 0 then
      f_L_law_B1341 x2 x3 x4 x5 x6 x7 x8 z34 m35
    else
      ob (f_X9_phase m35) fun r44 =>
      if r44 = 0 then
        f_L_law_B1341 x2 0 0 0 0 0 x8 z34 m35
      else
        f_L_law_B1341 x2 x3 x4 x5 x6 x7 x8 z34 m35
def f_L_law_B775 (x2 : Int32) (x3 : Int32) (x4 : Int32) (x5 : Int32) (x6 : Int32) (x7 : Int32) (x8 : Int32) (x9 : Int32) (x12 : Int32) (x13 : Int32) (x14 : Int32) (x15 : Int32) (x16 : Int32) (x17 : Int32) (x18 : Int32) (x19 : Int32) (me : gM) : Option (Int32 × Int32 × Int32 × Int32 × Int32 × Int32 × Int32 × Int32 × gM) :=
  if 12 ≤ x13 then
    f_L_law_B908 x2 x3 x4 x5 x6 x7 x8 x9 x12 x13 x14 x15 x16 x17 x18 x19 me
  else
    ob (f_L_offer x14 x15 x16 x19 x17 x18 me) fun w34 =>
    ob (some w34.1) fun r32 =>
    ob (some w34.2) fun m33 =>
    ob (if r32 = (-9) then
        ot (f_X9_hasFailed x14 m33) fun r42 =>
        if r42 = 0 then
          if x6 = 60 then
            some 1
          else
            some 0
        else
          some 1
      else
        if r32 = x6 then
          ot (f_X9_left r32 m33) fun r38 =>
          if r38 < 0 then
            some 0
          else
            ot (f_X9_left r32 m33) fun r40 =>
            if x18 < r40 then
              some 0
            else
              some 1
        else
          some 0) fun (z36 : Int32) =>
    ob (if r32 = (-9) then
        some 0
      else
        some 1) fun (z46 : Int32) =>
    ob (some (x6 + z46)) fun (x47 : Int32) =>
    ob (if z36 = 0 then
        some 0
      else
        ob (f_L_cleared x8 x4 m33) fun r50 =>
        if r50 = 0 then
          some 0
        else
          some 1) fun (z49 : Int32) =>
    f_L_law_B1341 x2 x3 x4 x5 x47 x7 x8 z49 m33
def f_L_law_L727 (m35 : gM) (x5 : Int32) (x8 : Int32) : Nat → Int32 → Int32 → Option (Int32 × Int32)
  | 0, _, _ => none
  | n + 1, x45, x46 =>
    if x5 ≤ x46 then
      some (x45, x46)
    else
      if x45 = 0 then
        some (x45, x46)
      else
        ot (f_X9_given x46 m35) fun r51 =>
        ob (if r51 < 0 then
            some 0
          else
            ot (f_X9_given x46 m35) fun r54 =>
            if x8 < r54 then
              some 0
            else
              some 1) fun (z53 : Int32) =>
        f_L_law_L727 m35 x5 x8 n z53 (x46 + 1)
def f_L_law_B664 (x2 : Int32) (x3 : Int32) (x4 : Int32) (x5 : Int32) (x6 : Int32) (x7 : Int32) (x8 : Int32) (x9 : Int32) (x12 : Int32) (x13 : Int32) (x14 : Int32) (x15 : Int32) (x16 : Int32) (x17 : Int32) (x18 : Int32) (x19 : Int32) (me : gM) : Option (Int32 × Int32 × Int32 × Int32 × Int32 × Int32 × Int32 × Int32 × gM) :=
  if 14 ≤ x13 then
    f_L_law_B775 x2 x3 x4 x5 x6 x7 x8 x9 x12 x13 x14 x15 x16 x17 x18 x19 me
  else
    ob (f_X9_phase me) fun r32 =>
    if r32 = 0 then
      ot (f_X9_clear me) fun w36 =>
      ob (some w36.1) fun r34 =>
      ob (some w36.2) fun m35 =>
      ob (if r34 < 0 then
          some 0
        else
          ot (f_X9_worthAnew m35) fun r39 =>
          if r39 = r34 then
            ob (f_X9_phase m35) fun r41 =>
            if r41 = 1 then
              ob (f_L_cleared x8 x4 m35) fun r43 =>
              if r43 = 0 then
                some 0
              else
                some 1
            else
              some 0
          else
            some 0) fun (z38 : Int32) =>
      ob (f_L_law_L727 m35 x5 x8 f_fuel z38 0) fun t56 =>
      ob (some t56.1) fun y47 =>
      ob (some t56.2) fun y48 =>
      f_L_law_B1341 x2 x3 x4 x5 x6 x7 x8 y47 m35
    else
      f_L_law_B775 x2 x3 x4 x5 x6 x7 x8 x9 x12 x13 x14 x15 x16 x17 x18 x19 me
def f_L_law_L620 (r34 : Int32) (x8 : Int32) : Nat → Int32 → Int32 → gM → Option (Int32 × Int32 × gM)
  | 0, _, _, _ => none
  | n + 1, x35, x36, m37 =>
    if 3 ≤ x36 then
      some (x35, x36, m37)
    else
      ob (if x35 = 0 then
          some (0, m37)
        else
          ot (f_X9_setLimit x36 r34 m37) fun w47 =>
          ob (some w47.1) fun r45 =>
          ob (some w47.2) fun m46 =>
          if r45 = x8 then
            some (1, m46)
          else
            some (0, m46)) fun (t49 : Int32 × gM) =>
      ob (some t49.1) fun z43 =>
      ob (some t49.2) fun m44 =>
      f_L_law_L620 r34 x8 n z43 (x36 + 1) m44
def f_L_law_B594 (x2 : Int32) (x3 : Int32) (x4 : Int32) (x5 : Int32) (x6 : Int32) (x7 : Int32) (x8 : Int32) (x9 : Int32) (x12 : Int32) (x13 : Int32) (x14 : Int32) (x15 : Int32) (x16 : Int32) (x17 : Int32) (x18 : Int32) (x19 : Int32) (me : gM) : Option (Int32 × Int32 × Int32 × Int32 × Int32 × Int32 × Int32 × Int32 × gM) :=
  if 12 ≤ x13 then
    f_L_law_B664 x2 x3 x4 x5 x6 x7 x8 x9 x12 x13 x14 x15 x16 x17 x18 x19 me
  else
    ob (f_X9_phase me) fun r32 =>
    if r32 = 0 then
      ob (f_L_low x12 11) fun r34 =>
      ob (f_L_law_L620 r34 x8 f_fuel x9 0 me) fun t50 =>
      ob (some t50.1) fun y38 =>
      ob (some t50.2.1) fun y39 =>
      ob (some t50.2.2) fun m40 =>
      f_L_law_B1341 x2 x3 x4 x5 x6 x7 r34 y38 m40
    else
      f_L_law_B664 x2 x3 x4 x5 x6 x7 x8 x9 x12 x13 x14 x15 x16 x17 x18 x19 me
def f_L_law_B486 (x2 : Int32) (x3 : Int32) (x4 : Int32) (x5 : Int32) (x6 : Int32) (x7 : Int32) (x8 : Int32) (x9 : Int32) (x12 : Int32) (x13 : Int32) (x14 : Int32) (x15 : Int32) (x16 : Int32) (x17 : Int32) (x18 : Int32) (x19 : Int32) (me : gM) : Option (Int32 × Int32 × Int32 × Int32 × Int32 × Int32 × Int32 × Int32 × gM) :=
  if 11 ≤ x13 then
    f_L_law_B594 x2 x3 x4 x5 x6 x7 x8 x9 x12 x13 x14 x15 x16 x17 x18 x19 me
  else
    ob (f_X9_phase me) fun r32 =>
    if r32 = 0 then
      ob (f_L_low (x12 >>> (4 &&& 31)) 2) fun r34 =>
      ob (a_rm ((x15 + 1) + r34) 3) fun q35 =>
      ob (f_L_ask x14 x15 q35 x18 x17 me) fun w38 =>
      ob (some w38.1) fun r36 =>
      ob (some w38.2) fun m37 =>
      ob (if r36 = (-9) then
          ot (f_X9_hasFailed x14 m37) fun r42 =>
          if r42 = 0 then
            if x5 = 20 then
              some 1
            else
              some 0
          else
            some 1
        else
          if r36 = x5 then
            some 1
          else
            some 0) fun (z40 : Int32) =>
      ob (if r36 = (-9) then
          some 0
        else
          some 1) fun (z46 : Int32) =>
      ob (some (x5 + z46)) fun (x47 : Int32) =>
      f_L_law_B1341 x2 x3 x4 x47 x6 x7 x8 z40 m37
    else
      f_L_law_B594 x2 x3 x4 x5 x6 x7 x8 x9 x12 x13 x14 x15 x16 x17 x18 x19 me
def f_L_law_B331 (x2 : Int32) (x3 : Int32) (x4 : Int32) (x5 : Int32) (x6 : Int32) (x7 : Int32) (x8 : Int32) (x9 : Int32) (x12 : Int32) (x13 : Int32) (x14 : Int32) (x15 : Int32) (x16 : Int32) (x17 : Int32) (x18 : Int32) (x19 : Int32) (me : gM) : Option (Int32 × Int32 × Int32 × Int32 × Int32 × Int32 × Int32 × Int32 × gM) :=
  if 10 ≤ x13 then
    f_L_law_B486 x2 x3 x4 x5 x6 x7 x8 x9 x12 x13 x14 x15 x16 x17 x18 x19 me
  else
    ob (f_X9_phase me) fun r32 =>
    if r32 = 0 then
      ob (if x4 = 3 then
          some ((-9 : Int32), me)
        else
          ob (f_L_low (x12 >>> (4 &&& 31)) 15) fun r37 =>
          ob (f_L_block x14 x15 (1 + r37) x19 x17 x18 me) fun w40 =>
          ob (some w40.1) fun r38 =>
          ob (some w40.2) fun m39 =>
          some (r38, m39)) fun (t57 : Int32 × gM) =>
      ob (some t57.1) fun z35 =>
      ob (some t57.2) fun m36 =>
      ob (if z35 = (-9) then
          if x4 = 3 then
            some 1
          else
            ot (f_X9_hasFailed x14 m36) fun r45 =>
            if r45 = 0 then
              some 0
            else
              some 1
        else
          if z35 = x4 then
            some 1
          else
            some 0) fun (z42 : Int32) =>
      ob (if z35 = (-9) then
          some 0
        else
          some 1) fun (z48 : Int32) =>
      ob (some (x4 + z48)) fun (x49 : Int32) =>
      ob (if z35 ≤ 0 then
          some m36
        else
          ob (f_L_low x12 2) fun r52 =>
          ob (if r52 = 0 then
              some (-1)
            else
              some (z35 - 1)) fun (z54 : Int32) =>
          ob (f_L_low (x12 >>> (9 &&& 31)) 4) fun r55 =>
          ot (f_X9_link z35 z54 (r55 - 1) m36) fun m56 =>
          some m56) fun (m51 : gM) =>
      f_L_law_B1341 x2 x3 x49 x5 x6 x7 x8 z42 m51
    else
      f_L_law_B486 x2 x3 x4 x5 x6 x7 x8 x9 x12 x13 x14 x15 x16 x17 x18 x19 me
def f_L_law_B238 (x2 : Int32) (x3 : Int32) (x4 : Int32) (x5 : Int32) (x6 : Int32) (x7 : Int32) (x8 : Int32) (x9 : Int32) (x12 : Int32) (x13 : Int32) (x14 : Int32) (x15 : Int32) (x16 : Int32) (x17 : Int32) (x18 : Int32) (x19 : Int32) (me : gM) : Option (Int32 × Int32 × Int32 × Int32 × Int32 × Int32 × Int32 × Int32 × gM) :=
  if 9 ≤ x13 then
    f_L_law_B331 x2 x3 x4 x5 x6 x7 x8 x9 x12 x13 x14 x15 x16 x17 x18 x19 me
  else
    ob (f_X9_phase me) fun r32 =>
    if r32 = 0 then
      ob (f_L_bid x14 x15 x16 x19 x17 x18 me) fun w36 =>
      ob (some w36.1) fun r34 =>
      ob (some w36.2) fun m35 =>
      ob (if r34 = (-9) then
          ot (f_X9_hasFailed x14 m35) fun r40 =>
          if r40 = 0 then
            if x3 = 40 then
              some 1
            else
              some 0
          else
            some 1
        else
          if r34 = x3 then
            some 1
          else
            some 0) fun (z38 : Int32) =>
      ob (if r34 = (-9) then
          some 0
        else
          some 1) fun (z44 : Int32) =>
      ob (some (x3 + z44)) fun (x45 : Int32) =>
      f_L_law_B1341 x2 x45 x4 x5 x6 x7 x8 z38 m35
    else
      f_L_law_B331 x2 x3 x4 x5 x6 x7 x8 x9 x12 x13 x14 x15 x16 x17 x18 x19 me
def f_L_law_B70 (x2 : Int32) (x3 : Int32) (x4 : Int32) (x5 : Int32) (x6 : Int32) (x7 : Int32) (x8 : Int32) (x9 : Int32) (x12 : Int32) (me : gM) : Option (Int32 × Int32 × Int32 × Int32 × Int32 × Int32 × Int32 × Int32 × gM) :=
  ob (f_L_low (x12 >>> (20 &&& 31)) 20) fun r31 =>
  ob (f_L_low x12 6) fun r32 =>
  ob (f_L_low (x12 >>> (3 &&& 31)) 3) fun r33 =>
  ob (f_L_low (x12 >>> (5 &&& 31)) 4) fun r34 =>
  ob (f_L_low (x12 >>> (7 &&& 31)) 60) fun r35 =>
  ob (f_L_low (x12 >>> (11 &&& 31)) 10) fun r36 =>
  ob (some (1 + r36)) fun (x37 : Int32) =>
  ob (f_L_low (x12 >>> (2 &&& 31)) 2) fun r38 =>
  ob (if r38 = 0 then
      some 1
    else
      some 0) fun (z40 : Int32) =>
  if 2 ≤ r31 then
    f_L_law_B238 x2 x3 x4 x5 x6 x7 x8 x9 x12 r31 r32 r33 r34 r35 x37 z40 me
  else
    ob (f_L_low (x12 >>> (4 &&& 31)) 500) fun r42 =>
    ob (some (1 + r42)) fun (x43 : Int32) =>
    ob (f_L_deposit r32 x43 me) fun w46 =>
    ob (some w46.1) fun r44 =>
    ob (some w46.2) fun m45 =>
    ob (if r44 = (-9) then
        ot (f_X9_hasFailed r32 m45) fun r51 =>
        some r51
      else
        ot (f_X9_account r32 m45) fun r49 =>
        if r44 = r49 then
          some 1
        else
          some 0) fun (z48 : Int32) =>
    ob (if r44 = (-9) then
        some 0
      else
        some x43) fun (z53 : Int32) =>
    ob (some (x2 + z53)) fun (x54 : Int32) =>
    f_L_law_B1341 x54 x3 x4 x5 x6 x7 x8 z48 m45
