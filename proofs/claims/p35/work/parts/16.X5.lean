def f_X5_book (o0 : Nat) (p1 : Int32) (p2 : Int32) (p3 : Int32) (p4 : Int32) (me : gM) : Option (gM) :=
  ob (a_ld 72 (o0 + 3) (((p1 * 3) * 4) + p2) me) fun v1 =>
  ob (a_st 72 (o0 + 3) (((p1 * 3) * 4) + p2) (v1 + p3) me) fun m2 =>
  ob (a_ld 6 (o0 + 5) p1 m2) fun v3 =>
  ob (a_st 6 (o0 + 5) p1 (v3 + (p3 * p4)) m2) fun m4 =>
  some m4
def f_X5_differenceOf_L5 (o0 : Nat) (me : gM) (p1 : Int32) (p2 : Int32) : Nat → Int32 → Int32 → Option (Int32 × Int32)
  | 0, _, _ => none
  | n + 1, x1, x2 =>
    if 4 ≤ x2 then
      some (x1, x2)
    else
      ob (f_X9_spotOf p2 x2) fun r6 =>
      ob (a_ld 12 (o0 + 1) r6 me) fun v7 =>
      ob (f_X9_spotOf p1 x2) fun r8 =>
      ob (a_ld 12 (o0 + 1) r8 me) fun v9 =>
      ob (some (x1 + (a_max 0 (v7 - v9)))) fun (x10 : Int32) =>
      f_X5_differenceOf_L5 o0 me p1 p2 n x10 (x2 + 1)
def f_X5_differenceOf (o0 : Nat) (p1 : Int32) (p2 : Int32) (me : gM) : Option (Int32) :=
  ob (f_X5_differenceOf_L5 o0 me p1 p2 f_fuel 0 0) fun t11 =>
  ob (some t11.1) fun y3 =>
  ob (some t11.2) fun y4 =>
  some y3
def f_X5_gapOf_L13 (o0 : Nat) (me : gM) (p1 : Int32) (x2 : Int32) : Nat → Int32 → Int32 → Option (Int32 × Int32)
  | 0, _, _ => none
  | n + 1, x6, x7 =>
    if 3 ≤ x7 then
      some (x6, x7)
    else
      ob (f_X9_placeOf x2 x7 p1) fun r11 =>
      ob (a_ld 72 (o0 + 4) r11 me) fun v12 =>
      ob (some (x6 + v12)) fun (x13 : Int32) =>
      f_X5_gapOf_L13 o0 me p1 x2 n x13 (x7 + 1)
def f_X5_gapOf_L4 (o0 : Nat) (me : gM) (p1 : Int32) : Nat → Int32 → Int32 → Option (Int32 × Int32)
  | 0, _, _ => none
  | n + 1, x1, x2 =>
    if 6 ≤ x2 then
      some (x1, x2)
    else
      ob (f_X5_gapOf_L13 o0 me p1 x2 f_fuel x1 0) fun t14 =>
      ob (some t14.1) fun y8 =>
      ob (some t14.2) fun y9 =>
      f_X5_gapOf_L4 o0 me p1 n y8 (x2 + 1)
def f_X5_gapOf (o0 : Nat) (p1 : Int32) (me : gM) : Option (Int32) :=
  ob (f_X5_gapOf_L4 o0 me p1 f_fuel 0 0) fun t15 =>
  ob (some t15.1) fun y3 =>
  ob (some t15.2) fun y4 =>
  some y3
def f_X5_helps (o0 : Nat) (p1 : Int32) (p2 : Int32) (p3 : Int32) (me : gM) : Option (Int32) :=
  ob (a_ld (f_oln (o0 + 7)) ((o0 + 7) + 3) p1 me) fun v1 =>
  ob (if v1 = p2 then
      ob (a_ld (f_oln (o0 + 7)) ((o0 + 7) + 4) p1 me) fun v4 =>
      ob (if p3 ≤ 0 then
          some 0
        else
          some 1) fun (z6 : Int32) =>
      if v4 = z6 then
        some 1
      else
        some 0
    else
      some 0) fun (z3 : Int32) =>
  ob (a_zc z3) fun b8 =>
  some b8
def f_X5_priceOfGap_L21 (o0 : Nat) (me : gM) (p1 : Int32) (p2 : Int32) : Nat → Int32 → Int32 → Int32 → Option (Int32 × Int32 × Int32)
  | 0, _, _, _ => none
  | n + 1, x4, x5, x6 =>
    if (me (o0 + 7) 8) ≤ x6 then
      some (x4, x5, x6)
    else
      if x4 ≤ 0 then
        some (x4, x5, x6)
      else
        ob (a_ld (f_oln (o0 + 7)) ((o0 + 7) + 8) x6 me) fun v12 =>
        ob (f_X5_helps o0 v12 p1 p2 me) fun r13 =>
        ob (if r13 = 0 then
            some (x4, x5)
          else
            ob (a_ld (f_oln (o0 + 7)) ((o0 + 7) + 6) v12 me) fun v17 =>
            ob (some (x4 - v17)) fun (x18 : Int32) =>
            ob (if x18 ≤ 0 then
                ob (a_ld (f_oln (o0 + 7)) ((o0 + 7) + 5) v12 me) fun v21 =>
                some v21
              else
                some x5) fun (z20 : Int32) =>
            some (x18, z20)) fun (t22 : Int32 × Int32) =>
        ob (some t22.1) fun x15 =>
        ob (some t22.2) fun x16 =>
        f_X5_priceOfGap_L21 o0 me p1 p2 n x15 x16 (x6 + 1)
def f_X5_priceOfGap_L103 (o0 : Nat) (me : gM) (p1 : Int32) (p2 : Int32) : Nat → Int32 → Int32 → Option (Int32 × Int32)
  | 0, _, _ => none
  | n + 1, x23, x24 =>
    if 3 ≤ x24 then
      some (x23, x24)
    else
      ob (f_X9_spotOf x24 p1) fun r28 =>
      ob (a_ld 12 (o0 + 1) r28 me) fun v29 =>
      ob (if 0 ≤ p2 then
          some (a_min x23 v29)
        else
          some (a_max x23 v29)) fun (z31 : Int32) =>
      f_X5_priceOfGap_L103 o0 me p1 p2 n z31 (x24 + 1)
def f_X5_priceOfGap (o0 : Nat) (p1 : Int32) (p2 : Int32) (me : gM) : Option (Int32) :=
  ob (some (a_abs p2)) fun (x1 : Int32) =>
  ob (if 0 ≤ p2 then
      some 0
    else
      some 300) fun (z3 : Int32) =>
  ob (f_X5_priceOfGap_L21 o0 me p1 p2 f_fuel x1 z3 0) fun t33 =>
  ob (some t33.1) fun y7 =>
  ob (some t33.2.1) fun y8 =>
  ob (some t33.2.2) fun y9 =>
  ob (f_X5_priceOfGap_L103 o0 me p1 p2 f_fuel y8 0) fun t32 =>
  ob (some t32.1) fun y25 =>
  ob (some t32.2) fun y26 =>
  some y25
def f_X5_unitsUsed_L12 (o0 : Nat) (me : gM) (p1 : Int32) (p2 : Int32) (p3 : Int32) : Nat → Int32 → Int32 → Int32 → Option (Int32 × Int32 × Int32)
  | 0, _, _, _ => none
  | n + 1, x2, x3, x4 =>
    if (me (o0 + 7) 8) ≤ x4 then
      some (x2, x3, x4)
    else
      if x2 ≤ 0 then
        some (x2, x3, x4)
      else
        ob (a_ld (f_oln (o0 + 7)) ((o0 + 7) + 8) x4 me) fun v10 =>
        ob (f_X5_helps o0 v10 p2 p3 me) fun r11 =>
        ob (if r11 = 0 then
            some (x2, x3)
          else
            ob (a_ld (f_oln (o0 + 7)) ((o0 + 7) + 6) v10 me) fun v15 =>
            ob (some (a_min x2 v15)) fun (x16 : Int32) =>
            ob (some (x2 - x16)) fun (x17 : Int32) =>
            ob (a_ld (f_oln (o0 + 7)) ((o0 + 7) + 1) v10 me) fun v18 =>
            ob (if v18 = p1 then
                some x16
              else
                some 0) fun (z20 : Int32) =>
            ob (some (x3 + z20)) fun (x21 : Int32) =>
            some (x17, x21)) fun (t22 : Int32 × Int32) =>
        ob (some t22.1) fun x13 =>
        ob (some t22.2) fun x14 =>
        f_X5_unitsUsed_L12 o0 me p1 p2 p3 n x13 x14 (x4 + 1)
def f_X5_unitsUsed (o0 : Nat) (p1 : Int32) (p2 : Int32) (p3 : Int32) (me : gM) : Option (Int32) :=
  ob (some (a_abs p3)) fun (x1 : Int32) =>
  ob (f_X5_unitsUsed_L12 o0 me p1 p2 p3 f_fuel x1 0 0) fun t23 =>
  ob (some t23.1) fun y5 =>
  ob (some t23.2.1) fun y6 =>
  ob (some t23.2.2) fun y7 =>
  some y6
def f_X5_balanceOf_L28 (o0 : Nat) (me : gM) (p1 : Int32) (p2 : Int32) (r1 : Int32) (z3 : Int32) : Nat → Int32 → Int32 → Option (Int32 × Int32)
  | 0, _, _ => none
  | n + 1, x5, x6 =>
    if 3 ≤ x6 then
      some (x5, x6)
    else
      ob (f_X9_placeOf p1 x6 p2) fun r10 =>
      ob (a_ld 72 (o0 + 4) r10 me) fun v11 =>
      ob (if 0 ≤ r1 then
          if r1 ≤ 0 then
            some 0
          else
            if v11 ≤ 0 then
              some 0
            else
              some 1
        else
          if v11 < 0 then
            some 1
          else
            if r1 ≤ 0 then
              some 0
            else
              if v11 ≤ 0 then
                some 0
              else
                some 1) fun (z13 : Int32) =>
      ob (if z13 = 0 then
          ob (f_X9_spotOf x6 p2) fun r21 =>
          ob (a_ld 12 (o0 + 1) r21 me) fun v22 =>
          some v22
        else
          some z3) fun (z20 : Int32) =>
      ob (some (x5 + (v11 * z20))) fun (x23 : Int32) =>
      f_X5_balanceOf_L28 o0 me p1 p2 r1 z3 n x23 (x6 + 1)
def f_X5_balanceOf (o0 : Nat) (p1 : Int32) (p2 : Int32) (me : gM) : Option (Int32) :=
  ob (f_X5_gapOf o0 p2 me) fun r1 =>
  ob (if r1 = 0 then
      some 0
    else
      ob (f_X5_priceOfGap o0 p2 r1 me) fun r4 =>
      some r4) fun (z3 : Int32) =>
  ob (f_X5_balanceOf_L28 o0 me p1 p2 r1 z3 f_fuel 0 0) fun t27 =>
  ob (some t27.1) fun y7 =>
  ob (some t27.2) fun y8 =>
  ob (f_X5_unitsUsed o0 p1 p2 r1 me) fun r24 =>
  ob (if 0 ≤ r1 then
      some (-r24)
    else
      some r24) fun (z26 : Int32) =>
  some (y7 + (z26 * z3))
def f_X5_billOf_L9 (o0 : Nat) (me : gM) (p1 : Int32) : Nat → Int32 → Int32 → Option (Int32 × Int32)
  | 0, _, _ => none
  | n + 1, x2, x3 =>
    if 4 ≤ x3 then
      some (x2, x3)
    else
      ob (f_X5_balanceOf o0 p1 x3 me) fun r7 =>
      ob (some (x2 + r7)) fun (x8 : Int32) =>
      f_X5_billOf_L9 o0 me p1 n x8 (x3 + 1)
def f_X5_billOf (o0 : Nat) (p1 : Int32) (me : gM) : Option (Int32) :=
  ob (a_ld 6 (o0 + 5) p1 me) fun v1 =>
  ob (f_X5_billOf_L9 o0 me p1 f_fuel v1 0) fun t9 =>
  ob (some t9.1) fun y4 =>
  ob (some t9.2) fun y5 =>
  some y4
abbrev rmX5_book : Room := { frames := 0, cells := 0, slots := 0, locals := 0 }
set_option maxHeartbeats 4000000 in
set_option maxRecDepth 100000 in
theorem c_X5_book (l : Launch) (G : gG) {o0 : Nat} {p1 : Int32} {p2 : Int32} {p3 : Int32} {p4 : Int32} {me : gM} {m0 : gM}  (ho0 : ZC.2.1 o0 = 6) (hf : f_X5_book o0 p1 p2 p3 p4 me = some m0) : Met l yX5_book wsX5_book rmX5_book (va_Pc [.ref (G.2.2.1 o0), .int p1, .int p2, .int p3, .int p4] (g_W ZC G me)) (g_Qv ZC G m0) 0 0 (g_A ZC G) := by
  refine Met.ofW (cc := cX5_book) (maxL := 5) (ret := none) (by decide) rfl ?_
  intro p e s m args below meth c s₁ B hml hv
  obtain ⟨rfl, hW0⟩ := hv
  have hC : CallFix p m c cX5_book 5 s ([.ref (G.2.2.1 o0), .int p1, .int p2, .int p3, .int p4] : List Value).toArray wsX5_book RX5 := ⟨B.exec, B.bytes, hml, findClass_of_methodNamed B.named, atoms_spec (ws := wsX5_book) B.pre⟩
  have hx := hC.1
  have hb := hC.2.1
  have hown := hC.2.2.2.1
  have hts := hC.2.2.2.2
  have hr := B.returns
  have hlocks := B.notSynchronized
  have hW := g_H_enter hW0
  have hi5 : ∀ w ∈ wsX50, w ∈ wsX5_book := by decide +kernel
  have hl := lv_entry ([.ref (G.2.2.1 o0), .int p1, .int p2, .int p3, .int p4]) (n := 5) (Nat.le_of_ble_eq_true rfl)
  rw [lg_entry_eq]
  generalize (lg_sl ([.ref (G.2.2.1 o0), .int p1, .int p2, .int p3, .int p4]) ++ List.replicate (5 - (lg_sl ([.ref (G.2.2.1 o0), .int p1, .int p2, .int p3, .int p4])).length) Slot.unset).toArray = ls at hl ⊢
  have hl : lv_has ls 5 [(0, .ref (G.2.2.1 o0)), (1, .int p1), (2, .int p2), (3, .int p3), (4, .int p4)] := hl
  obtain ⟨Q, hQ⟩ : ∃ Q, Q = MQ below (g_Qv ZC G m0) ([.ref (G.2.2.1 o0), .int p1, .int p2, .int p3, .int p4] : List Value).toArray s 0 0 (g_A ZC G) := ⟨_, rfl⟩
  refine g_goQ hQ ?_
  unfold f_X5_book at hf
  refine g_start hW (fun H locs hW => ?_)
  refine lv_aload_n hx hb dX5_book_0 rfl (lv_at hl 0 rfl) ?_
  refine g_getr hC hW (o := o0) (ci := 5) (k := 2) ho0 (zc_lt ho0) rfl hi5 (by decide) rfl (t := (o0 + 3)) (zc_o5_2 ho0).1 (by decide +kernel) dX5_book_1 ?_
  refine lv_iload_n hx hb dX5_book_4 rfl (lv_at hl 1 rfl) ?_
  refine lv_iconst (v := 3) hx hb dX5_book_5 (by decide) ?_
  refine lv_imul hx hb dX5_book_6 ?_
  refine lv_iconst (v := 4) hx hb dX5_book_7 (by decide) ?_
  refine lv_imul hx hb dX5_book_8 ?_
  refine lv_iload_n hx hb dX5_book_9 rfl (lv_at hl 2 rfl) ?_
  refine lv_iadd hx hb dX5_book_10 ?_
  refine lv_dup2_11 hx hb dX5_book_11 rfl rfl ?_
  obtain ⟨v1, h9, hf⟩ := ob_inv hf
  refine g_ild hC hW (zc_o5_2 ho0).2.1 (zc_o5_2 ho0).2.2.1 (zc_o5_2 ho0).2.2.2 h9 dX5_book_12 ?_
  refine lv_iload_n hx hb dX5_book_13 rfl (lv_at hl 3 rfl) ?_
  refine lv_iadd hx hb dX5_book_14 ?_
  obtain ⟨m2, h9, hf⟩ := ob_inv hf
  refine g_ist hC hW (zc_o5_2 ho0).2.1 (zc_o5_2 ho0).2.2.1 (zc_o5_2 ho0).2.2.2 h9 dX5_book_15 (fun H locs hW => ?_)
  refine lv_aload_n hx hb dX5_book_16 rfl (lv_at hl 0 rfl) ?_
  refine g_getr hC hW (o := o0) (ci := 5) (k := 4) ho0 (zc_lt ho0) rfl hi5 (by decide) rfl (t := (o0 + 5)) (zc_o5_4 ho0).1 (by decide +kernel) dX5_book_17 ?_
  refine lv_iload_n hx hb dX5_book_20 rfl (lv_at hl 1 rfl) ?_
  refine lv_dup2_11 hx hb dX5_book_21 rfl rfl ?_
  obtain ⟨v3, h9, hf⟩ := ob_inv hf
  refine g_ild hC hW (zc_o5_4 ho0).2.1 (zc_o5_4 ho0).2.2.1 (zc_o5_4 ho0).2.2.2 h9 dX5_book_22 ?_
  refine lv_iload_n hx hb dX5_book_23 rfl (lv_at hl 3 rfl) ?_
  refine lv_iload hx hb dX5_book_24 (lv_at hl 4 rfl) ?_
  refine lv_imul hx hb dX5_book_26 ?_
  refine lv_iadd hx hb dX5_book_27 ?_
  obtain ⟨m4, h9, hf⟩ := ob_inv hf
  refine g_ist hC hW (zc_o5_4 ho0).2.1 (zc_o5_4 ho0).2.2.1 (zc_o5_4 ho0).2.2.2 h9 dX5_book_28 (fun H locs hW => ?_)
  cases hf
  subst hQ
  exact g_vret hC hW hr hlocks rfl dX5_book_29
abbrev rmX5_differenceOf : Room := { frames := 1, cells := 0, slots := 0, locals := 21 }
set_option maxHeartbeats 4000000 in
set_option maxRecDepth 100000 in
theorem c_X5_differenceOf (l : Launch) (G : gG) {o0 : Nat} {p1 : Int32} {p2 : Int32} {me : gM} {r0 : Int32}  (ho0 : ZC.2.1 o0 = 6) (hf : f_X5_differenceOf o0 p1 p2 me = some r0) : Met l yX5_differenceOf wsX5_differenceOf rmX5_differenceOf (va_Pc [.ref (G.2.2.1 o0), .int p1, .int p2] (g_W ZC G me)) (g_Qi ZC G r0 me) 0 0 (g_A ZC G) := by
  refine Met.ofW (cc := cX5_differenceOf) (maxL := 5) (ret := (some .int)) (by decide) rfl ?_
  intro p e s m args below meth c s₁ B hml hv
  obtain ⟨rfl, hW0⟩ := hv
  have hC : CallFix p m c cX5_differenceOf 5 s ([.ref (G.2.2.1 o0), .int p1, .int p2] : List Value).toArray wsX5_differenceOf RX5 := ⟨B.exec, B.bytes, hml, findClass_of_methodNamed B.named, atoms_spec (ws := wsX5_differenceOf) B.pre⟩
  have hx := hC.1
  have hb := hC.2.1
  have hown := hC.2.2.2.1
  have hts := hC.2.2.2.2
  have hr := B.returns
  have hlocks := B.notSynchronized
  have hW := g_H_enter hW0
  have hi5 : ∀ w ∈ wsX50, w ∈ wsX5_differenceOf := by decide +kernel
  have hl := lv_entry ([.ref (G.2.2.1 o0), .int p1, .int p2]) (n := 5) (Nat.le_of_ble_eq_true rfl)
  rw [lg_entry_eq]
  generalize (lg_sl ([.ref (G.2.2.1 o0), .int p1, .int p2]) ++ List.replicate (5 - (lg_sl ([.ref (G.2.2.1 o0), .int p1, .int p2])).length) Slot.unset).toArray = ls at hl ⊢
  have hl : lv_has ls 5 [(0, .ref (G.2.2.1 o0)), (1, .int p1), (2, .int p2)] := hl
  obtain ⟨Q, hQ⟩ : ∃ Q, Q = MQ below (g_Qi ZC G r0 me) ([.ref (G.2.2.1 o0), .int p1, .int p2] : List Value).toArray s 0 0 (g_A ZC G) := ⟨_, rfl⟩
  refine g_goQ hQ ?_
  unfold f_X5_differenceOf at hf
  refine g_start hW (fun H locs hW => ?_)
  refine lv_iconst (v := 0) hx hb dX5_differenceOf_0 (by decide) ?_
  refine lv_istore_n (lv' := [(3, .int 0), (0, .ref (G.2.2.1 o0)), (1, .int p1), (2, .int p2)]) hx hb dX5_differenceOf_1 rfl hl (by decide) rfl (fun ls hl => ?_)
  refine lv_iconst (v := 0) hx hb dX5_differenceOf_2 (by decide) ?_
  refine lv_istore (lv' := [(4, .int 0), (3, .int 0), (0, .ref (G.2.2.1 o0)), (1, .int p1), (2, .int p2)]) hx hb dX5_differenceOf_3 hl (by decide) rfl (fun ls hl => ?_)
  have hL5 : ∀ (n : Nat) (x1 : Int32) (x2 : Int32) (y3 : Int32) (y4 : Int32) (H : Heap) (locs : List Loc) (ls : Array Slot), f_X5_differenceOf_L5 o0 me p1 p2 n x1 x2 = some (y3, y4) → g_H ZC G s H locs me → lv_has ls 5 [(0, .ref (G.2.2.1 o0)), (1, .int p1), (2, .int p2), (3, .int x1), (4, .int x2)] → (∀ (H : Heap) (locs : List Loc) (ls : Array Slot), g_H ZC G s H locs me → lv_has ls 5 [(3, .int y3)] → W p l e (headSpec wsX5_differenceOf rmX5_differenceOf).room s m ([.ref (G.2.2.1 o0), .int p1, .int p2] : List Value).toArray below meth c H locs 0 0 Q (F0 m 47 ls [])) → W p l e (headSpec wsX5_differenceOf rmX5_differenceOf).room s m ([.ref (G.2.2.1 o0), .int p1, .int p2] : List Value).toArray below meth c H locs 0 0 Q (F0 m 5 ls []) := by
    intro n
    induction n with
    | zero =>
      intro x1 x2 y3 y4 H locs ls hf hW hl hE
      cases hf
    | succ n ih =>
      intro x1 x2 y3 y4 H locs ls hf hW hl hE
      rw [f_X5_differenceOf_L5] at hf
      refine lv_iload hx hb dX5_differenceOf_5 (lv_at hl 4 rfl) ?_
      refine lv_iconst (v := 4) hx hb dX5_differenceOf_7 (by decide) ?_
      refine lv_icmp_ge (tgt := 47) hx hb dX5_differenceOf_8 (by decide) (fun c5 => ?_) (fun c5 => ?_)
      · have hf := a_if_t c5 hf
        cases hf
        exact hE H locs ls hW (lv_sub hl [3] rfl)
      · have hf := a_if_f c5 hf
        refine lv_iload_n hx hb dX5_differenceOf_11 rfl (lv_at hl 3 rfl) ?_
        refine lv_iconst (v := 0) hx hb dX5_differenceOf_12 (by decide) ?_
        refine lv_aload_n hx hb dX5_differenceOf_13 rfl (lv_at hl 0 rfl) ?_
        refine g_getr hC hW (o := o0) (ci := 5) (k := 0) ho0 (zc_lt ho0) rfl hi5 (by decide) rfl (t := (o0 + 1)) (zc_o5_0 ho0).1 (by decide +kernel) dX5_differenceOf_14 ?_
        refine lv_iload_n hx hb dX5_differenceOf_17 rfl (lv_at hl 2 rfl) ?_
        refine lv_iload hx hb dX5_differenceOf_18 (lv_at hl 4 rfl) ?_
        obtain ⟨r6, hg, hf⟩ := ob_inv hf
        refine g_cNi hC hW (As := [.int p2, .int x2]) (rest := [.ref (G.2.2.1 (o0 + 1)), .int 0, .int x1]) (host := "GridMarket") (c_X9_spotOf l G  hg) ⟨va_cnB 2 hts gX5_differenceOf_X9_spotOf_n43 rfl rfl rfl (hW.2.2.2.1 (RX5, 43, yX9_spotOf) (by decide +kernel)) (hts _ (by decide +kernel : Cond.initialized RX9 ∈ wsX5_differenceOf)) (by decide +kernel) ⟨Nat.le_of_ble_eq_true rfl, Nat.le_of_ble_eq_true rfl⟩, hts _ (by decide +kernel : Cond.static yX9_spotOf ∈ wsX5_differenceOf), trivial⟩ rfl hl.1 rfl (Nat.le_of_ble_eq_true rfl) dX5_differenceOf_20 ⟨Nat.le_of_ble_eq_true rfl, Nat.le_of_ble_eq_true rfl⟩ (fun H locs hW => ?_)
        obtain ⟨v7, h9, hf⟩ := ob_inv hf
        refine g_ild hC hW (zc_o5_0 ho0).2.1 (zc_o5_0 ho0).2.2.1 (zc_o5_0 ho0).2.2.2 h9 dX5_differenceOf_23 ?_
        refine lv_aload_n hx hb dX5_differenceOf_24 rfl (lv_at hl 0 rfl) ?_
        refine g_getr hC hW (o := o0) (ci := 5) (k := 0) ho0 (zc_lt ho0) rfl hi5 (by decide) rfl (t := (o0 + 1)) (zc_o5_0 ho0).1 (by decide +kernel) dX5_differenceOf_25 ?_
        refine lv_iload_n hx hb dX5_differenceOf_28 rfl (lv_at hl 1 rfl) ?_
        refine lv_iload hx hb dX5_differenceOf_29 (lv_at hl 4 rfl) ?_
        obtain ⟨r8, hg, hf⟩ := ob_inv hf
        refine g_cNi hC hW (As := [.int p1, .int x2]) (rest := [.ref (G.2.2.1 (o0 + 1)), .int v7, .int 0, .int x1]) (host := "GridMarket") (c_X9_spotOf l G  hg) ⟨va_cnB 2 hts gX5_differenceOf_X9_spotOf_n43 rfl rfl rfl (hW.2.2.2.1 (RX5, 43, yX9_spotOf) (by decide +kernel)) (hts _ (by decide +kernel : Cond.initialized RX9 ∈ wsX5_differenceOf)) (by decide +kernel) ⟨Nat.le_of_ble_eq_true rfl, Nat.le_of_ble_eq_true rfl⟩, hts _ (by decide +kernel : Cond.static yX9_spotOf ∈ wsX5_differenceOf), trivial⟩ rfl hl.1 rfl (Nat.le_of_ble_eq_true rfl) dX5_differenceOf_31 ⟨Nat.le_of_ble_eq_true rfl, Nat.le_of_ble_eq_true rfl⟩ (fun H locs hW => ?_)
        obtain ⟨v9, h9, hf⟩ := ob_inv hf
        refine g_ild hC hW (zc_o5_0 ho0).2.1 (zc_o5_0 ho0).2.2.1 (zc_o5_0 ho0).2.2.2 h9 dX5_differenceOf_34 ?_
        refine lv_isub hx hb dX5_differenceOf_35 ?_
        refine g_max hC hl.1 (by decide +kernel) (by decide +kernel) (by decide +kernel) (by decide +kernel) (Nat.le_of_ble_eq_true rfl) (Nat.le_of_ble_eq_true rfl) (Nat.le_of_ble_eq_true rfl) (Nat.le_of_ble_eq_true rfl) dX5_differenceOf_36 ?_
        refine lv_iadd hx hb dX5_differenceOf_39 ?_
        obtain ⟨x10, h9, hf⟩ := ob_inv hf
        refine g_nmi (Option.some.inj h9) ?_
        refine lv_istore_n (lv' := [(3, .int x10), (0, .ref (G.2.2.1 o0)), (1, .int p1), (2, .int p2), (4, .int x2)]) hx hb dX5_differenceOf_40 rfl hl (by decide) rfl (fun ls hl => ?_)
        refine lv_iinc (v := (x2 + 1)) (lv' := [(4, .int (x2 + 1)), (3, .int x10), (0, .ref (G.2.2.1 o0)), (1, .int p1), (2, .int p2)]) hx hb dX5_differenceOf_41 hl (k := 4) rfl (congrArg (fun z => x2 + z) (by decide)) (by decide) rfl (fun ls hl => ?_)
        refine lv_goto (tgt := 5) hx hb dX5_differenceOf_44 (by decide) ?_
        exact ih _ _ _ _ _ _ _ hf hW (lv_sub hl [2, 3, 4, 1, 0] rfl) hE
  obtain ⟨⟨y3, y4⟩, hg, hf⟩ := ob_inv hf
  have hf := ob_inv2 hf
  refine hL5 _ _ _ _ _ _ _ _ hg hW (lv_sub hl [2, 3, 4, 1, 0] rfl) (fun H locs ls hW hl => ?_)
  refine lv_iload_n hx hb dX5_differenceOf_47 rfl (lv_at hl 0 rfl) ?_
  cases hf
  subst hQ
  exact g_iret hC hW hr hlocks rfl rfl dX5_differenceOf_48
abbrev rmX5_gapOf : Room := { frames := 2, cells := 0, slots := 0, locals := 43 }
set_option maxHeartbeats 4000000 in
set_option maxRecDepth 100000 in
theorem c_X5_gapOf (l : Launch) (G : gG) {o0 : Nat} {p1 : Int32} {me : gM} {r0 : Int32}  (ho0 : ZC.2.1 o0 = 6) (hf : f_X5_gapOf o0 p1 me = some r0) : Met l yX5_gapOf wsX5_gapOf rmX5_gapOf (va_Pc [.ref (G.2.2.1 o0), .int p1] (g_W ZC G me)) (g_Qi ZC G r0 me) 0 0 (g_A ZC G) := by
  refine Met.ofW (cc := cX5_gapOf) (maxL := 5) (ret := (some .int)) (by decide) rfl ?_
  intro p e s m args below meth c s₁ B hml hv
  obtain ⟨rfl, hW0⟩ := hv
  have hC : CallFix p m c cX5_gapOf 5 s ([.ref (G.2.2.1 o0), .int p1] : List Value).toArray wsX5_gapOf RX5 := ⟨B.exec, B.bytes, hml, findClass_of_methodNamed B.named, atoms_spec (ws := wsX5_gapOf) B.pre⟩
  have hx := hC.1
  have hb := hC.2.1
  have hown := hC.2.2.2.1
  have hts := hC.2.2.2.2
  have hr := B.returns
  have hlocks := B.notSynchronized
  have hW := g_H_enter hW0
  have hi5 : ∀ w ∈ wsX50, w ∈ wsX5_gapOf := by decide +kernel
  have hl := lv_entry ([.ref (G.2.2.1 o0), .int p1]) (n := 5) (Nat.le_of_ble_eq_true rfl)
  rw [lg_entry_eq]
  generalize (lg_sl ([.ref (G.2.2.1 o0), .int p1]) ++ List.replicate (5 - (lg_sl ([.ref (G.2.2.1 o0), .int p1])).length) Slot.unset).toArray = ls at hl ⊢
  have hl : lv_has ls 5 [(0, .ref (G.2.2.1 o0)), (1, .int p1)] := hl
  obtain ⟨Q, hQ⟩ : ∃ Q, Q = MQ below (g_Qi ZC G r0 me) ([.ref (G.2.2.1 o0), .int p1] : List Value).toArray s 0 0 (g_A ZC G) := ⟨_, rfl⟩
  refine g_goQ hQ ?_
  unfold f_X5_gapOf at hf
  refine g_start hW (fun H locs hW => ?_)
  refine lv_iconst (v := 0) hx hb dX5_gapOf_0 (by decide) ?_
  refine lv_istore_n (lv' := [(2, .int 0), (0, .ref (G.2.2.1 o0)), (1, .int p1)]) hx hb dX5_gapOf_1 rfl hl (by decide) rfl (fun ls hl => ?_)
  refine lv_iconst (v := 0) hx hb dX5_gapOf_2 (by decide) ?_
  refine lv_istore_n (lv' := [(3, .int 0), (2, .int 0), (0, .ref (G.2.2.1 o0)), (1, .int p1)]) hx hb dX5_gapOf_3 rfl hl (by decide) rfl (fun ls hl => ?_)
  have hL4 : ∀ (n : Nat) (x1 : Int32) (x2 : Int32) (y3 : Int32) (y4 : Int32) (H : Heap) (locs : List Loc) (ls : Array Slot), f_X5_gapOf_L4 o0 me p1 n x1 x2 = some (y3, y4) → g_H ZC G s H locs me → lv_has ls 5 [(0, .ref (G.2.2.1 o0)), (1, .int p1), (2, .int x1), (3, .int x2)] → (∀ (H : Heap) (locs : List Loc) (ls : Array Slot), g_H ZC G s H locs me → lv_has ls 5 [(2, .int y3)] → W p l e (headSpec wsX5_gapOf rmX5_gapOf).room s m ([.ref (G.2.2.1 o0), .int p1] : List Value).toArray below meth c H locs 0 0 Q (F0 m 46 ls [])) → W p l e (headSpec wsX5_gapOf rmX5_gapOf).room s m ([.ref (G.2.2.1 o0), .int p1] : List Value).toArray below meth c H locs 0 0 Q (F0 m 4 ls []) := by
    intro n
    induction n with
    | zero =>
      intro x1 x2 y3 y4 H locs ls hf hW hl hE
      cases hf
    | succ n ih =>
      intro x1 x2 y3 y4 H locs ls hf hW hl hE
      rw [f_X5_gapOf_L4] at hf
      refine lv_iload_n hx hb dX5_gapOf_4 rfl (lv_at hl 3 rfl) ?_
      refine lv_bipush (v := 6) hx hb dX5_gapOf_5 (by decide) ?_
      refine lv_icmp_ge (tgt := 46) hx hb dX5_gapOf_7 (by decide) (fun c5 => ?_) (fun c5 => ?_)
      · have hf := a_if_t c5 hf
        cases hf
        exact hE H locs ls hW (lv_sub hl [2] rfl)
      · have hf := a_if_f c5 hf
        refine lv_iconst (v := 0) hx hb dX5_gapOf_10 (by decide) ?_
        refine lv_istore (lv' := [(4, .int 0), (0, .ref (G.2.2.1 o0)), (1, .int p1), (2, .int x1), (3, .int x2)]) hx hb dX5_gapOf_11 hl (by decide) rfl (fun ls hl => ?_)
        have hL13 : ∀ (n : Nat) (x6 : Int32) (x7 : Int32) (y8 : Int32) (y9 : Int32) (H : Heap) (locs : List Loc) (ls : Array Slot), f_X5_gapOf_L13 o0 me p1 x2 n x6 x7 = some (y8, y9) → g_H ZC G s H locs me → lv_has ls 5 [(0, .ref (G.2.2.1 o0)), (1, .int p1), (2, .int x6), (3, .int x2), (4, .int x7)] → (∀ (H : Heap) (locs : List Loc) (ls : Array Slot), g_H ZC G s H locs me → lv_has ls 5 [(0, .ref (G.2.2.1 o0)), (1, .int p1), (2, .int y8), (3, .int x2)] → W p l e (headSpec wsX5_gapOf rmX5_gapOf).room s m ([.ref (G.2.2.1 o0), .int p1] : List Value).toArray below meth c H locs 0 0 Q (F0 m 40 ls [])) → W p l e (headSpec wsX5_gapOf rmX5_gapOf).room s m ([.ref (G.2.2.1 o0), .int p1] : List Value).toArray below meth c H locs 0 0 Q (F0 m 13 ls []) := by
          intro n
          induction n with
          | zero =>
            intro x6 x7 y8 y9 H locs ls hf hW hl hE
            cases hf
          | succ n ih =>
            intro x6 x7 y8 y9 H locs ls hf hW hl hE
            rw [f_X5_gapOf_L13] at hf
            refine lv_iload hx hb dX5_gapOf_13 (lv_at hl 4 rfl) ?_
            refine lv_iconst (v := 3) hx hb dX5_gapOf_15 (by decide) ?_
            refine lv_icmp_ge (tgt := 40) hx hb dX5_gapOf_16 (by decide) (fun c10 => ?_) (fun c10 => ?_)
            · have hf := a_if_t c10 hf
              cases hf
              exact hE H locs ls hW (lv_sub hl [0, 1, 2, 3] rfl)
            · have hf := a_if_f c10 hf
              refine lv_iload_n hx hb dX5_gapOf_19 rfl (lv_at hl 2 rfl) ?_
              refine lv_aload_n hx hb dX5_gapOf_20 rfl (lv_at hl 0 rfl) ?_
              refine g_getr hC hW (o := o0) (ci := 5) (k := 3) ho0 (zc_lt ho0) rfl hi5 (by decide) rfl (t := (o0 + 4)) (zc_o5_3 ho0).1 (by decide +kernel) dX5_gapOf_21 ?_
              refine lv_iload_n hx hb dX5_gapOf_24 rfl (lv_at hl 3 rfl) ?_
              refine lv_iload hx hb dX5_gapOf_25 (lv_at hl 4 rfl) ?_
              refine lv_iload_n hx hb dX5_gapOf_27 rfl (lv_at hl 1 rfl) ?_
              obtain ⟨r11, hg, hf⟩ := ob_inv hf
              refine g_cNi hC hW (As := [.int x2, .int x7, .int p1]) (rest := [.ref (G.2.2.1 (o0 + 4)), .int x6]) (host := "GridMarket") (c_X9_placeOf l G  hg) ⟨va_cnB 3 hts gX5_gapOf_X9_placeOf_n52 rfl rfl rfl (hW.2.2.2.1 (RX5, 52, yX9_placeOf) (by decide +kernel)) (hts _ (by decide +kernel : Cond.initialized RX9 ∈ wsX5_gapOf)) (by decide +kernel) ⟨Nat.le_of_ble_eq_true rfl, Nat.le_of_ble_eq_true rfl⟩, hts _ (by decide +kernel : Cond.static yX9_placeOf ∈ wsX5_gapOf), trivial⟩ rfl hl.1 rfl (Nat.le_of_ble_eq_true rfl) dX5_gapOf_28 ⟨Nat.le_of_ble_eq_true rfl, Nat.le_of_ble_eq_true rfl⟩ (fun H locs hW => ?_)
              obtain ⟨v12, h9, hf⟩ := ob_inv hf
              refine g_ild hC hW (zc_o5_3 ho0).2.1 (zc_o5_3 ho0).2.2.1 (zc_o5_3 ho0).2.2.2 h9 dX5_gapOf_31 ?_
              refine lv_iadd hx hb dX5_gapOf_32 ?_
              obtain ⟨x13, h9, hf⟩ := ob_inv hf
              refine g_nmi (Option.some.inj h9) ?_
              refine lv_istore_n (lv' := [(2, .int x13), (0, .ref (G.2.2.1 o0)), (1, .int p1), (3, .int x2), (4, .int x7)]) hx hb dX5_gapOf_33 rfl hl (by decide) rfl (fun ls hl => ?_)
              refine lv_iinc (v := (x7 + 1)) (lv' := [(4, .int (x7 + 1)), (2, .int x13), (0, .ref (G.2.2.1 o0)), (1, .int p1), (3, .int x2)]) hx hb dX5_gapOf_34 hl (k := 4) rfl (congrArg (fun z => x7 + z) (by decide)) (by decide) rfl (fun ls hl => ?_)
              refine lv_goto (tgt := 13) hx hb dX5_gapOf_37 (by decide) ?_
              exact ih _ _ _ _ _ _ _ hf hW (lv_sub hl [2, 3, 1, 4, 0] rfl) hE
        obtain ⟨⟨y8, y9⟩, hg, hf⟩ := ob_inv hf
        have hf := ob_inv2 hf
        refine hL13 _ _ _ _ _ _ _ _ hg hW (lv_sub hl [1, 2, 3, 4, 0] rfl) (fun H locs ls hW hl => ?_)
        refine lv_iinc (v := (x2 + 1)) (lv' := [(3, .int (x2 + 1)), (0, .ref (G.2.2.1 o0)), (1, .int p1), (2, .int y8)]) hx hb dX5_gapOf_40 hl (k := 3) rfl (congrArg (fun z => x2 + z) (by decide)) (by decide) rfl (fun ls hl => ?_)
        refine lv_goto (tgt := 4) hx hb dX5_gapOf_43 (by decide) ?_
        exact ih _ _ _ _ _ _ _ hf hW (lv_sub hl [1, 2, 3, 0] rfl) hE
  obtain ⟨⟨y3, y4⟩, hg, hf⟩ := ob_inv hf
  have hf := ob_inv2 hf
  refine hL4 _ _ _ _ _ _ _ _ hg hW (lv_sub hl [2, 3, 1, 0] rfl) (fun H locs ls hW hl => ?_)
  refine lv_iload_n hx hb dX5_gapOf_46 rfl (lv_at hl 0 rfl) ?_
  cases hf
  subst hQ
  exact g_iret hC hW hr hlocks rfl rfl dX5_gapOf_47
abbrev rmX5_helps : Room := { frames := 0, cells := 0, slots := 0, locals := 0 }
set_option maxHeartbeats 4000000 in
set_option maxRecDepth 100000 in
theorem c_X5_helps (l : Launch) (G : gG) {o0 : Nat} {p1 : Int32} {p2 : Int32} {p3 : Int32} {me : gM} {r0 : Int32}  (ho0 : ZC.2.1 o0 = 6) (hf : f_X5_helps o0 p1 p2 p3 me = some r0) : Met l yX5_helps wsX5_helps rmX5_helps (va_Pc [.ref (G.2.2.1 o0), .int p1, .int p2, .int p3] (g_W ZC G me)) (g_Qi ZC G r0 me) 0 0 (g_A ZC G) := by
  refine Met.ofW (cc := cX5_helps) (maxL := 4) (ret := (some .boolean)) (by decide) rfl ?_
  intro p e s m args below meth c s₁ B hml hv
  obtain ⟨rfl, hW0⟩ := hv
  have hC : CallFix p m c cX5_helps 4 s ([.ref (G.2.2.1 o0), .int p1, .int p2, .int p3] : List Value).toArray wsX5_helps RX5 := ⟨B.exec, B.bytes, hml, findClass_of_methodNamed B.named, atoms_spec (ws := wsX5_helps) B.pre⟩
  have hx := hC.1
  have hb := hC.2.1
  have hown := hC.2.2.2.1
  have hts := hC.2.2.2.2
  have hr := B.returns
  have hlocks := B.notSynchronized
  have hW := g_H_enter hW0
  have hi5 : ∀ w ∈ wsX50, w ∈ wsX5_helps := by decide +kernel
  have hi8 : ∀ w ∈ wsX80, w ∈ wsX5_helps := by decide +kernel
  have hl := lv_entry ([.ref (G.2.2.1 o0), .int p1, .int p2, .int p3]) (n := 4) (Nat.le_of_ble_eq_true rfl)
  rw [lg_entry_eq]
  generalize (lg_sl ([.ref (G.2.2.1 o0), .int p1, .int p2, .int p3]) ++ List.replicate (4 - (lg_sl ([.ref (G.2.2.1 o0), .int p1, .int p2, .int p3])).length) Slot.unset).toArray = ls at hl ⊢
  have hl : lv_has ls 4 [(0, .ref (G.2.2.1 o0)), (1, .int p1), (2, .int p2), (3, .int p3)] := hl
  obtain ⟨Q, hQ⟩ : ∃ Q, Q = MQ below (g_Qi ZC G r0 me) ([.ref (G.2.2.1 o0), .int p1, .int p2, .int p3] : List Value).toArray s 0 0 (g_A ZC G) := ⟨_, rfl⟩
  refine g_goQ hQ ?_
  unfold f_X5_helps at hf
  refine g_start hW (fun H locs hW => ?_)
  refine lv_aload_n hx hb dX5_helps_0 rfl (lv_at hl 0 rfl) ?_
  refine g_getr hC hW (o := o0) (ci := 5) (k := 6) ho0 (zc_lt ho0) rfl hi5 (by decide) rfl (t := (o0 + 7)) (zc_o5_6 ho0).1 (by decide +kernel) dX5_helps_1 ?_
  refine g_getr hC hW (o := (o0 + 7)) (ci := 8) (k := 2) (zc_o5_6 ho0).2.1 (zc_o5_6 ho0).2.2 rfl hi8 (by decide) rfl (t := ((o0 + 7) + 3)) (zc_o8_2 (zc_o5_6 ho0).2.1).1 (by decide +kernel) dX5_helps_4 ?_
  refine lv_iload_n hx hb dX5_helps_7 rfl (lv_at hl 1 rfl) ?_
  obtain ⟨v1, h9, hf⟩ := ob_inv hf
  refine g_ild hC hW (zc_o8_2 (zc_o5_6 ho0).2.1).2.1 (zc_o8_2 (zc_o5_6 ho0).2.1).2.2.1 (zc_o8_2 (zc_o5_6 ho0).2.1).2.2.2 h9 dX5_helps_8 ?_
  refine lv_iload_n hx hb dX5_helps_9 rfl (lv_at hl 2 rfl) ?_
  obtain ⟨z3, hg, hf⟩ := ob_inv hf
  have hJ39 : ∀ (H : Heap) (locs : List Loc) (ls : Array Slot), g_H ZC G s H locs me → lv_has ls 4 [] → W p l e (headSpec wsX5_helps rmX5_helps).room s m ([.ref (G.2.2.1 o0), .int p1, .int p2, .int p3] : List Value).toArray below meth c H locs 0 0 Q (F0 m 39 ls [.int z3]) := by
    intro H locs ls hW hl
    obtain ⟨b8, h9, hf⟩ := ob_inv hf
    obtain ⟨h9, hn9⟩ := a_zc_inv h9
    refine g_nmi h9 ?_
    cases hf
    subst hQ
    exact g_zret hC hW hr hlocks hn9 rfl rfl dX5_helps_39
  replace hf := hg
  refine lv_icmp_ne (tgt := 38) hx hb dX5_helps_10 (by decide) (fun c2 => ?_) (fun c2 => ?_)
  · have hf := a_if_f c2 hf
    refine lv_iconst (v := 0) hx hb dX5_helps_38 (by decide) ?_
    cases hf
    exact hJ39 H locs ls hW (lv_sub hl [] rfl)
  · have hf := a_if_t c2 hf
    refine lv_aload_n hx hb dX5_helps_13 rfl (lv_at hl 0 rfl) ?_
    refine g_getr hC hW (o := o0) (ci := 5) (k := 6) ho0 (zc_lt ho0) rfl hi5 (by decide) rfl (t := (o0 + 7)) (zc_o5_6 ho0).1 (by decide +kernel) dX5_helps_14 ?_
    refine g_getr hC hW (o := (o0 + 7)) (ci := 8) (k := 3) (zc_o5_6 ho0).2.1 (zc_o5_6 ho0).2.2 rfl hi8 (by decide) rfl (t := ((o0 + 7) + 4)) (zc_o8_3 (zc_o5_6 ho0).2.1).1 (by decide +kernel) dX5_helps_17 ?_
    refine lv_iload_n hx hb dX5_helps_20 rfl (lv_at hl 1 rfl) ?_
    obtain ⟨v4, h9, hf⟩ := ob_inv hf
    refine g_zld hC hW (zc_o8_3 (zc_o5_6 ho0).2.1).2.1 (zc_o8_3 (zc_o5_6 ho0).2.1).2.2.1 (zc_o8_3 (zc_o5_6 ho0).2.1).2.2.2 h9 dX5_helps_21 ?_
    refine lv_iload_n hx hb dX5_helps_22 rfl (lv_at hl 3 rfl) ?_
    obtain ⟨z6, hg, hf⟩ := ob_inv hf
    have hJ31 : ∀ (H : Heap) (locs : List Loc) (ls : Array Slot), g_H ZC G s H locs me → lv_has ls 4 [] → W p l e (headSpec wsX5_helps rmX5_helps).room s m ([.ref (G.2.2.1 o0), .int p1, .int p2, .int p3] : List Value).toArray below meth c H locs 0 0 Q (F0 m 31 ls [.int z6, .int v4]) := by
      intro H locs ls hW hl
      refine lv_icmp_ne (tgt := 38) hx hb dX5_helps_31 (by decide) (fun c7 => ?_) (fun c7 => ?_)
      · have hf := a_if_f c7 hf
        refine lv_iconst (v := 0) hx hb dX5_helps_38 (by decide) ?_
        cases hf
        exact hJ39 H locs ls hW (lv_sub hl [] rfl)
      · have hf := a_if_t c7 hf
        refine lv_iconst (v := 1) hx hb dX5_helps_34 (by decide) ?_
        refine lv_goto (tgt := 39) hx hb dX5_helps_35 (by decide) ?_
        cases hf
        exact hJ39 H locs ls hW (lv_sub hl [] rfl)
    replace hf := hg
    refine lv_if_le (tgt := 30) hx hb dX5_helps_23 (by decide) (fun c5 => ?_) (fun c5 => ?_)
    · have hf := a_if_t c5 hf
      refine lv_iconst (v := 0) hx hb dX5_helps_30 (by decide) ?_
      cases hf
      exact hJ31 H locs ls hW (lv_sub hl [] rfl)
    · have hf := a_if_f c5 hf
      refine lv_iconst (v := 1) hx hb dX5_helps_26 (by decide) ?_
      refine lv_goto (tgt := 31) hx hb dX5_helps_27 (by decide) ?_
      cases hf
      exact hJ31 H locs ls hW (lv_sub hl [] rfl)
abbrev rmX5_priceOfGap : Room := { frames := 1, cells := 0, slots := 0, locals := 23 }
set_option maxHeartbeats 4000000 in
set_option maxRecDepth 100000 in
theorem c_X5_priceOfGap (l : Launch) (G : gG) {o0 : Nat} {p1 : Int32} {p2 : Int32} {me : gM} {r0 : Int32}  (ho0 : ZC.2.1 o0 = 6) (hf : f_X5_priceOfGap o0 p1 p2 me = some r0) : Met l yX5_priceOfGap wsX5_priceOfGap rmX5_priceOfGap (va_Pc [.ref (G.2.2.1 o0), .int p1, .int p2] (g_W ZC G me)) (g_Qi ZC G r0 me) 0 0 (g_A ZC G) := by
  refine Met.ofW (cc := cX5_priceOfGap) (maxL := 7) (ret := (some .int)) (by decide) rfl ?_
  intro p e s m args below meth c s₁ B hml hv
  obtain ⟨rfl, hW0⟩ := hv
  have hC : CallFix p m c cX5_priceOfGap 7 s ([.ref (G.2.2.1 o0), .int p1, .int p2] : List Value).toArray wsX5_priceOfGap RX5 := ⟨B.exec, B.bytes, hml, findClass_of_methodNamed B.named, atoms_spec (ws := wsX5_priceOfGap) B.pre⟩
  have hx := hC.1
  have hb := hC.2.1
  have hown := hC.2.2.2.1
  have hts := hC.2.2.2.2
  have hr := B.returns
  have hlocks := B.notSynchronized
  have hW := g_H_enter hW0
  have hi5 : ∀ w ∈ wsX50, w ∈ wsX5_priceOfGap := by decide +kernel
  have hi8 : ∀ w ∈ wsX80, w ∈ wsX5_priceOfGap := by decide +kernel
  have hl := lv_entry ([.ref (G.2.2.1 o0), .int p1, .int p2]) (n := 7) (Nat.le_of_ble_eq_true rfl)
  rw [lg_entry_eq]
  generalize (lg_sl ([.ref (G.2.2.1 o0), .int p1, .int p2]) ++ List.replicate (7 - (lg_sl ([.ref (G.2.2.1 o0), .int p1, .int p2])).length) Slot.unset).toArray = ls at hl ⊢
  have hl : lv_has ls 7 [(0, .ref (G.2.2.1 o0)), (1, .int p1), (2, .int p2)] := hl
  obtain ⟨Q, hQ⟩ : ∃ Q, Q = MQ below (g_Qi ZC G r0 me) ([.ref (G.2.2.1 o0), .int p1, .int p2] : List Value).toArray s 0 0 (g_A ZC G) := ⟨_, rfl⟩
  refine g_goQ hQ ?_
  unfold f_X5_priceOfGap at hf
  refine g_start hW (fun H locs hW => ?_)
  refine lv_iload_n hx hb dX5_priceOfGap_0 rfl (lv_at hl 2 rfl) ?_
  refine g_abs hC hl.1 (by decide +kernel) (by decide +kernel) (by decide +kernel) (by decide +kernel) (Nat.le_of_ble_eq_true rfl) (Nat.le_of_ble_eq_true rfl) (Nat.le_of_ble_eq_true rfl) (Nat.le_of_ble_eq_true rfl) dX5_priceOfGap_1 ?_
  obtain ⟨x1, h9, hf⟩ := ob_inv hf
  refine g_nmi (Option.some.inj h9) ?_
  refine lv_istore_n (lv' := [(3, .int x1), (0, .ref (G.2.2.1 o0)), (1, .int p1), (2, .int p2)]) hx hb dX5_priceOfGap_4 rfl hl (by decide) rfl (fun ls hl => ?_)
  refine lv_iload_n hx hb dX5_priceOfGap_5 rfl (lv_at hl 3 rfl) ?_
  obtain ⟨z3, hg, hf⟩ := ob_inv hf
  have hJ16 : ∀ (H : Heap) (locs : List Loc) (ls : Array Slot), g_H ZC G s H locs me → lv_has ls 7 [(0, .ref (G.2.2.1 o0)), (1, .int p1), (2, .int p2), (3, .int x1)] → W p l e (headSpec wsX5_priceOfGap rmX5_priceOfGap).room s m ([.ref (G.2.2.1 o0), .int p1, .int p2] : List Value).toArray below meth c H locs 0 0 Q (F0 m 16 ls [.int z3]) := by
    intro H locs ls hW hl
    refine lv_istore (lv' := [(4, .int z3), (0, .ref (G.2.2.1 o0)), (1, .int p1), (2, .int p2), (3, .int x1)]) hx hb dX5_priceOfGap_16 hl (by decide) rfl (fun ls hl => ?_)
    refine lv_iconst (v := 0) hx hb dX5_priceOfGap_18 (by decide) ?_
    refine lv_istore (lv' := [(5, .int 0), (4, .int z3), (0, .ref (G.2.2.1 o0)), (1, .int p1), (2, .int p2), (3, .int x1)]) hx hb dX5_priceOfGap_19 hl (by decide) rfl (fun ls hl => ?_)
    have hL21 : ∀ (n : Nat) (x4 : Int32) (x5 : Int32) (x6 : Int32) (y7 : Int32) (y8 : Int32) (y9 : Int32) (H : Heap) (locs : List Loc) (ls : Array Slot), f_X5_priceOfGap_L21 o0 me p1 p2 n x4 x5 x6 = some (y7, y8, y9) → g_H ZC G s H locs me → lv_has ls 7 [(0, .ref (G.2.2.1 o0)), (1, .int p1), (2, .int p2), (3, .int x4), (4, .int x5), (5, .int x6)] → (∀ (H : Heap) (locs : List Loc) (ls : Array Slot), g_H ZC G s H locs me → lv_has ls 7 [(0, .ref (G.2.2.1 o0)), (1, .int p1), (2, .int p2), (4, .int y8)] → W p l e (headSpec wsX5_priceOfGap rmX5_priceOfGap).room s m ([.ref (G.2.2.1 o0), .int p1, .int p2] : List Value).toArray below meth c H locs 0 0 Q (F0 m 100 ls [])) → W p l e (headSpec wsX5_priceOfGap rmX5_priceOfGap).room s m ([.ref (G.2.2.1 o0), .int p1, .int p2] : List Value).toArray below meth c H locs 0 0 Q (F0 m 21 ls []) := by
      intro n
      induction n with
      | zero =>
        intro x4 x5 x6 y7 y8 y9 H locs ls hf hW hl hE
        cases hf
      | succ n ih =>
        intro x4 x5 x6 y7 y8 y9 H locs ls hf hW hl hE
        rw [f_X5_priceOfGap_L21] at hf
        refine lv_iload hx hb dX5_priceOfGap_21 (lv_at hl 5 rfl) ?_
        refine lv_aload_n hx hb dX5_priceOfGap_23 rfl (lv_at hl 0 rfl) ?_
        refine g_getr hC hW (o := o0) (ci := 5) (k := 6) ho0 (zc_lt ho0) rfl hi5 (by decide) rfl (t := (o0 + 7)) (zc_o5_6 ho0).1 (by decide +kernel) dX5_priceOfGap_24 ?_
        refine g_geti hC hW (o := (o0 + 7)) (ci := 8) (k := 8) (zc_o5_6 ho0).2.1 (zc_o5_6 ho0).2.2 rfl hi8 (by decide) rfl (by decide +kernel) dX5_priceOfGap_27 ?_
        refine lv_icmp_ge (tgt := 100) hx hb dX5_priceOfGap_30 (by decide) (fun c10 => ?_) (fun c10 => ?_)
        · have hf := a_if_t c10 hf
          cases hf
          exact hE H locs ls hW (lv_sub hl [0, 1, 2, 4] rfl)
        · have hf := a_if_f c10 hf
          refine lv_iload_n hx hb dX5_priceOfGap_33 rfl (lv_at hl 3 rfl) ?_
          refine lv_if_le (tgt := 100) hx hb dX5_priceOfGap_34 (by decide) (fun c11 => ?_) (fun c11 => ?_)
          · have hf := a_if_t c11 hf
            cases hf
            exact hE H locs ls hW (lv_sub hl [0, 1, 2, 4] rfl)
          · have hf := a_if_f c11 hf
            refine lv_aload_n hx hb dX5_priceOfGap_37 rfl (lv_at hl 0 rfl) ?_
            refine g_getr hC hW (o := o0) (ci := 5) (k := 6) ho0 (zc_lt ho0) rfl hi5 (by decide) rfl (t := (o0 + 7)) (zc_o5_6 ho0).1 (by decide +kernel) dX5_priceOfGap_38 ?_
            refine g_getr hC hW (o := (o0 + 7)) (ci := 8) (k := 7) (zc_o5_6 ho0).2.1 (zc_o5_6 ho0).2.2 rfl hi8 (by decide) rfl (t := ((o0 + 7) + 8)) (zc_o8_7 (zc_o5_6 ho0).2.1).1 (by decide +kernel) dX5_priceOfGap_41 ?_
            refine lv_iload hx hb dX5_priceOfGap_44 (lv_at hl 5 rfl) ?_
            obtain ⟨v12, h9, hf⟩ := ob_inv hf
            refine g_ild hC hW (zc_o8_7 (zc_o5_6 ho0).2.1).2.1 (zc_o8_7 (zc_o5_6 ho0).2.1).2.2.1 (zc_o8_7 (zc_o5_6 ho0).2.1).2.2.2 h9 dX5_priceOfGap_46 ?_
            refine lv_istore (lv' := [(6, .int v12), (0, .ref (G.2.2.1 o0)), (1, .int p1), (2, .int p2), (3, .int x4), (4, .int x5), (5, .int x6)]) hx hb dX5_priceOfGap_47 hl (by decide) rfl (fun ls hl => ?_)
            refine lv_aload_n hx hb dX5_priceOfGap_49 rfl (lv_at hl 1 rfl) ?_
            refine lv_iload hx hb dX5_priceOfGap_50 (lv_at hl 0 rfl) ?_
            refine lv_iload_n hx hb dX5_priceOfGap_52 rfl (lv_at hl 2 rfl) ?_
            refine lv_iload_n hx hb dX5_priceOfGap_53 rfl (lv_at hl 3 rfl) ?_
            obtain ⟨r13, hg, hf⟩ := ob_inv hf
            refine g_cVi hC hW (o := o0) (ci := 5) (As := [.int v12, .int p1, .int p2]) (rest := []) ho0 (zc_lt ho0) rfl (c_X5_helps l G ho0 hg) (cwV 3 hts gX5_priceOfGap_X5_helps rfl rfl rfl (by decide +kernel) ⟨Nat.le_of_ble_eq_true rfl, Nat.le_of_ble_eq_true rfl⟩) rfl hl.1 rfl (Nat.le_of_ble_eq_true rfl) dX5_priceOfGap_54 ⟨Nat.le_of_ble_eq_true rfl, Nat.le_of_ble_eq_true rfl⟩ (fun H locs hW => ?_)
            obtain ⟨⟨x15, x16⟩, hg, hf⟩ := ob_inv hf
            have hf := ob_inv2 hf
            have hJ94 : ∀ (H : Heap) (locs : List Loc) (ls : Array Slot), g_H ZC G s H locs me → lv_has ls 7 [(0, .ref (G.2.2.1 o0)), (1, .int p1), (2, .int p2), (3, .int x15), (4, .int x16), (5, .int x6)] → W p l e (headSpec wsX5_priceOfGap rmX5_priceOfGap).room s m ([.ref (G.2.2.1 o0), .int p1, .int p2] : List Value).toArray below meth c H locs 0 0 Q (F0 m 94 ls []) := by
              intro H locs ls hW hl
              refine lv_iinc (v := (x6 + 1)) (lv' := [(5, .int (x6 + 1)), (0, .ref (G.2.2.1 o0)), (1, .int p1), (2, .int p2), (3, .int x15), (4, .int x16)]) hx hb dX5_priceOfGap_94 hl (k := 5) rfl (congrArg (fun z => x6 + z) (by decide)) (by decide) rfl (fun ls hl => ?_)
              refine lv_goto (tgt := 21) hx hb dX5_priceOfGap_97 (by decide) ?_
              exact ih _ _ _ _ _ _ _ _ _ hf hW (lv_sub hl [1, 2, 3, 4, 5, 0] rfl) hE
            replace hf := hg
            refine lv_if_eq (tgt := 94) hx hb dX5_priceOfGap_57 (by decide) (fun c14 => ?_) (fun c14 => ?_)
            · have hf := a_if_t c14 hf
              cases hf
              exact hJ94 H locs ls hW (lv_sub hl [1, 2, 3, 4, 5, 6] rfl)
            · have hf := a_if_f c14 hf
              refine lv_iload_n hx hb dX5_priceOfGap_60 rfl (lv_at hl 4 rfl) ?_
              refine lv_aload_n hx hb dX5_priceOfGap_61 rfl (lv_at hl 1 rfl) ?_
              refine g_getr hC hW (o := o0) (ci := 5) (k := 6) ho0 (zc_lt ho0) rfl hi5 (by decide) rfl (t := (o0 + 7)) (zc_o5_6 ho0).1 (by decide +kernel) dX5_priceOfGap_62 ?_
              refine g_getr hC hW (o := (o0 + 7)) (ci := 8) (k := 5) (zc_o5_6 ho0).2.1 (zc_o5_6 ho0).2.2 rfl hi8 (by decide) rfl (t := ((o0 + 7) + 6)) (zc_o8_5 (zc_o5_6 ho0).2.1).1 (by decide +kernel) dX5_priceOfGap_65 ?_
              refine lv_iload hx hb dX5_priceOfGap_68 (lv_at hl 0 rfl) ?_
              obtain ⟨v17, h9, hf⟩ := ob_inv hf
              refine g_ild hC hW (zc_o8_5 (zc_o5_6 ho0).2.1).2.1 (zc_o8_5 (zc_o5_6 ho0).2.1).2.2.1 (zc_o8_5 (zc_o5_6 ho0).2.1).2.2.2 h9 dX5_priceOfGap_70 ?_
              refine lv_isub hx hb dX5_priceOfGap_71 ?_
              obtain ⟨x18, h9, hf⟩ := ob_inv hf
              refine g_nmi (Option.some.inj h9) ?_
              refine lv_istore_n (lv' := [(3, .int x18), (6, .int v12), (0, .ref (G.2.2.1 o0)), (1, .int p1), (2, .int p2), (4, .int x5), (5, .int x6)]) hx hb dX5_priceOfGap_72 rfl hl (by decide) rfl (fun ls hl => ?_)
              refine lv_iload_n hx hb dX5_priceOfGap_73 rfl (lv_at hl 0 rfl) ?_
              obtain ⟨z20, hg, hf⟩ := ob_inv hf
              have hJ92 : ∀ (H : Heap) (locs : List Loc) (ls : Array Slot), g_H ZC G s H locs me → lv_has ls 7 [(0, .ref (G.2.2.1 o0)), (1, .int p1), (2, .int p2), (3, .int x18), (5, .int x6)] → W p l e (headSpec wsX5_priceOfGap rmX5_priceOfGap).room s m ([.ref (G.2.2.1 o0), .int p1, .int p2] : List Value).toArray below meth c H locs 0 0 Q (F0 m 92 ls [.int z20]) := by
                intro H locs ls hW hl
                refine lv_istore (lv' := [(4, .int z20), (0, .ref (G.2.2.1 o0)), (1, .int p1), (2, .int p2), (3, .int x18), (5, .int x6)]) hx hb dX5_priceOfGap_92 hl (by decide) rfl (fun ls hl => ?_)
                cases hf
                exact hJ94 H locs ls hW (lv_sub hl [1, 2, 3, 4, 0, 5] rfl)
              replace hf := hg
              refine lv_if_le (tgt := 82) hx hb dX5_priceOfGap_74 (by decide) (fun c19 => ?_) (fun c19 => ?_)
              · have hf := a_if_t c19 hf
                refine lv_aload_n hx hb dX5_priceOfGap_82 rfl (lv_at hl 2 rfl) ?_
                refine g_getr hC hW (o := o0) (ci := 5) (k := 6) ho0 (zc_lt ho0) rfl hi5 (by decide) rfl (t := (o0 + 7)) (zc_o5_6 ho0).1 (by decide +kernel) dX5_priceOfGap_83 ?_
                refine g_getr hC hW (o := (o0 + 7)) (ci := 8) (k := 4) (zc_o5_6 ho0).2.1 (zc_o5_6 ho0).2.2 rfl hi8 (by decide) rfl (t := ((o0 + 7) + 5)) (zc_o8_4 (zc_o5_6 ho0).2.1).1 (by decide +kernel) dX5_priceOfGap_86 ?_
                refine lv_iload hx hb dX5_priceOfGap_89 (lv_at hl 1 rfl) ?_
                obtain ⟨v21, h9, hf⟩ := ob_inv hf
                refine g_ild hC hW (zc_o8_4 (zc_o5_6 ho0).2.1).2.1 (zc_o8_4 (zc_o5_6 ho0).2.1).2.2.1 (zc_o8_4 (zc_o5_6 ho0).2.1).2.2.2 h9 dX5_priceOfGap_91 ?_
                cases hf
                exact hJ92 H locs ls hW (lv_sub hl [2, 3, 4, 0, 6] rfl)
              · have hf := a_if_f c19 hf
                refine lv_iload hx hb dX5_priceOfGap_77 (lv_at hl 5 rfl) ?_
                refine lv_goto (tgt := 92) hx hb dX5_priceOfGap_79 (by decide) ?_
                cases hf
                exact hJ92 H locs ls hW (lv_sub hl [2, 3, 4, 0, 6] rfl)
    obtain ⟨⟨y7, y8, y9⟩, hg, hf⟩ := ob_inv hf
    have hf := ob_inv3 hf
    refine hL21 _ _ _ _ _ _ _ _ _ _ hg hW (lv_sub hl [2, 3, 4, 5, 1, 0] rfl) (fun H locs ls hW hl => ?_)
    refine lv_iconst (v := 0) hx hb dX5_priceOfGap_100 (by decide) ?_
    refine lv_istore (lv' := [(5, .int 0), (0, .ref (G.2.2.1 o0)), (1, .int p1), (2, .int p2), (4, .int y8)]) hx hb dX5_priceOfGap_101 hl (by decide) rfl (fun ls hl => ?_)
    have hL103 : ∀ (n : Nat) (x23 : Int32) (x24 : Int32) (y25 : Int32) (y26 : Int32) (H : Heap) (locs : List Loc) (ls : Array Slot), f_X5_priceOfGap_L103 o0 me p1 p2 n x23 x24 = some (y25, y26) → g_H ZC G s H locs me → lv_has ls 7 [(0, .ref (G.2.2.1 o0)), (1, .int p1), (2, .int p2), (4, .int x23), (5, .int x24)] → (∀ (H : Heap) (locs : List Loc) (ls : Array Slot), g_H ZC G s H locs me → lv_has ls 7 [(4, .int y25)] → W p l e (headSpec wsX5_priceOfGap rmX5_priceOfGap).room s m ([.ref (G.2.2.1 o0), .int p1, .int p2] : List Value).toArray below meth c H locs 0 0 Q (F0 m 151 ls [])) → W p l e (headSpec wsX5_priceOfGap rmX5_priceOfGap).room s m ([.ref (G.2.2.1 o0), .int p1, .int p2] : List Value).toArray below meth c H locs 0 0 Q (F0 m 103 ls []) := by
      intro n
      induction n with
      | zero =>
        intro x23 x24 y25 y26 H locs ls hf hW hl hE
        cases hf
      | succ n ih =>
        intro x23 x24 y25 y26 H locs ls hf hW hl hE
        rw [f_X5_priceOfGap_L103] at hf
        refine lv_iload hx hb dX5_priceOfGap_103 (lv_at hl 4 rfl) ?_
        refine lv_iconst (v := 3) hx hb dX5_priceOfGap_105 (by decide) ?_
        refine lv_icmp_ge (tgt := 151) hx hb dX5_priceOfGap_106 (by decide) (fun c27 => ?_) (fun c27 => ?_)
        · have hf := a_if_t c27 hf
          cases hf
          exact hE H locs ls hW (lv_sub hl [3] rfl)
        · have hf := a_if_f c27 hf
          refine lv_aload_n hx hb dX5_priceOfGap_109 rfl (lv_at hl 0 rfl) ?_
          refine g_getr hC hW (o := o0) (ci := 5) (k := 0) ho0 (zc_lt ho0) rfl hi5 (by decide) rfl (t := (o0 + 1)) (zc_o5_0 ho0).1 (by decide +kernel) dX5_priceOfGap_110 ?_
          refine lv_iload hx hb dX5_priceOfGap_113 (lv_at hl 4 rfl) ?_
          refine lv_iload_n hx hb dX5_priceOfGap_115 rfl (lv_at hl 1 rfl) ?_
          obtain ⟨r28, hg, hf⟩ := ob_inv hf
          refine g_cNi hC hW (As := [.int x24, .int p1]) (rest := [.ref (G.2.2.1 (o0 + 1))]) (host := "GridMarket") (c_X9_spotOf l G  hg) ⟨va_cnB 2 hts gX5_priceOfGap_X9_spotOf_n43 rfl rfl rfl (hW.2.2.2.1 (RX5, 43, yX9_spotOf) (by decide +kernel)) (hts _ (by decide +kernel : Cond.initialized RX9 ∈ wsX5_priceOfGap)) (by decide +kernel) ⟨Nat.le_of_ble_eq_true rfl, Nat.le_of_ble_eq_true rfl⟩, hts _ (by decide +kernel : Cond.static yX9_spotOf ∈ wsX5_priceOfGap), trivial⟩ rfl hl.1 rfl (Nat.le_of_ble_eq_true rfl) dX5_priceOfGap_116 ⟨Nat.le_of_ble_eq_true rfl, Nat.le_of_ble_eq_true rfl⟩ (fun H locs hW => ?_)
          obtain ⟨v29, h9, hf⟩ := ob_inv hf
          refine g_ild hC hW (zc_o5_0 ho0).2.1 (zc_o5_0 ho0).2.2.1 (zc_o5_0 ho0).2.2.2 h9 dX5_priceOfGap_119 ?_
          refine lv_istore (lv' := [(6, .int v29), (0, .ref (G.2.2.1 o0)), (1, .int p1), (2, .int p2), (4, .int x23), (5, .int x24)]) hx hb dX5_priceOfGap_120 hl (by decide) rfl (fun ls hl => ?_)
          refine lv_iload_n hx hb dX5_priceOfGap_122 rfl (lv_at hl 3 rfl) ?_
          obtain ⟨z31, hg, hf⟩ := ob_inv hf
          have hJ143 : ∀ (H : Heap) (locs : List Loc) (ls : Array Slot), g_H ZC G s H locs me → lv_has ls 7 [(0, .ref (G.2.2.1 o0)), (1, .int p1), (2, .int p2), (5, .int x24)] → W p l e (headSpec wsX5_priceOfGap rmX5_priceOfGap).room s m ([.ref (G.2.2.1 o0), .int p1, .int p2] : List Value).toArray below meth c H locs 0 0 Q (F0 m 143 ls [.int z31]) := by
            intro H locs ls hW hl
            refine lv_istore (lv' := [(4, .int z31), (0, .ref (G.2.2.1 o0)), (1, .int p1), (2, .int p2), (5, .int x24)]) hx hb dX5_priceOfGap_143 hl (by decide) rfl (fun ls hl => ?_)
            refine lv_iinc (v := (x24 + 1)) (lv' := [(5, .int (x24 + 1)), (4, .int z31), (0, .ref (G.2.2.1 o0)), (1, .int p1), (2, .int p2)]) hx hb dX5_priceOfGap_145 hl (k := 4) rfl (congrArg (fun z => x24 + z) (by decide)) (by decide) rfl (fun ls hl => ?_)
            refine lv_goto (tgt := 103) hx hb dX5_priceOfGap_148 (by decide) ?_
            exact ih _ _ _ _ _ _ _ hf hW (lv_sub hl [2, 3, 4, 1, 0] rfl) hE
          replace hf := hg
          refine lv_if_ge (tgt := 136) hx hb dX5_priceOfGap_123 (by decide) (fun c30 => ?_) (fun c30 => ?_)
          · have hf := a_if_t c30 hf
            refine lv_iload hx hb dX5_priceOfGap_136 (lv_at hl 4 rfl) ?_
            refine lv_iload hx hb dX5_priceOfGap_138 (lv_at hl 0 rfl) ?_
            refine g_min hC hl.1 (by decide +kernel) (by decide +kernel) (by decide +kernel) (by decide +kernel) (Nat.le_of_ble_eq_true rfl) (Nat.le_of_ble_eq_true rfl) (Nat.le_of_ble_eq_true rfl) (Nat.le_of_ble_eq_true rfl) dX5_priceOfGap_140 ?_
            cases hf
            exact hJ143 H locs ls hW (lv_sub hl [1, 2, 3, 5] rfl)
          · have hf := a_if_f c30 hf
            refine lv_iload hx hb dX5_priceOfGap_126 (lv_at hl 4 rfl) ?_
            refine lv_iload hx hb dX5_priceOfGap_128 (lv_at hl 0 rfl) ?_
            refine g_max hC hl.1 (by decide +kernel) (by decide +kernel) (by decide +kernel) (by decide +kernel) (Nat.le_of_ble_eq_true rfl) (Nat.le_of_ble_eq_true rfl) (Nat.le_of_ble_eq_true rfl) (Nat.le_of_ble_eq_true rfl) dX5_priceOfGap_130 ?_
            refine lv_goto (tgt := 143) hx hb dX5_priceOfGap_133 (by decide) ?_
            cases hf
            exact hJ143 H locs ls hW (lv_sub hl [1, 2, 3, 5] rfl)
    obtain ⟨⟨y25, y26⟩, hg, hf⟩ := ob_inv hf
    have hf := ob_inv2 hf
    refine hL103 _ _ _ _ _ _ _ _ hg hW (lv_sub hl [1, 2, 3, 4, 0] rfl) (fun H locs ls hW hl => ?_)
    refine lv_iload hx hb dX5_priceOfGap_151 (lv_at hl 0 rfl) ?_
    cases hf
    subst hQ
    exact g_iret hC hW hr hlocks rfl rfl dX5_priceOfGap_153
  replace hf := hg
  refine lv_if_ge (tgt := 15) hx hb dX5_priceOfGap_6 (by decide) (fun c2 => ?_) (fun c2 => ?_)
  · have hf := a_if_t c2 hf
    refine lv_iconst (v := 0) hx hb dX5_priceOfGap_15 (by decide) ?_
    cases hf
    exact hJ16 H locs ls hW (lv_sub hl [1, 2, 3, 0] rfl)
  · have hf := a_if_f c2 hf
    refine lv_sipush (v := 300) hx hb dX5_priceOfGap_9 (by decide) ?_
    refine lv_goto (tgt := 16) hx hb dX5_priceOfGap_12 (by decide) ?_
    cases hf
    exact hJ16 H locs ls hW (lv_sub hl [1, 2, 3, 0] rfl)
abbrev rmX5_unitsUsed : Room := { frames := 1, cells := 0, slots := 0, locals := 23 }
set_option maxHeartbeats 4000000 in
set_option maxRecDepth 100000 in
theorem c_X5_unitsUsed (l : Launch) (G : gG) {o0 : Nat} {p1 : Int32} {p2 : Int32} {p3 : Int32} {me : gM} {r0 : Int32}  (ho0 : ZC.2.1 o0 = 6) (hf : f_X5_unitsUsed o0 p1 p2 p3 me = some r0) : Met l yX5_unitsUsed wsX5_unitsUsed rmX5_unitsUsed (va_Pc [.ref (G.2.2.1 o0), .int p1, .int p2, .int p3] (g_W ZC G me)) (g_Qi ZC G r0 me) 0 0 (g_A ZC G) := by
  refine Met.ofW (cc := cX5_unitsUsed) (maxL := 9) (ret := (some .int)) (by decide) rfl ?_
  intro p e s m args below meth c s₁ B hml hv
  obtain ⟨rfl, hW0⟩ := hv
  have hC : CallFix p m c cX5_unitsUsed 9 s ([.ref (G.2.2.1 o0), .int p1, .int p2, .int p3] : List Value).toArray wsX5_unitsUsed RX5 := ⟨B.exec, B.bytes, hml, findClass_of_methodNamed B.named, atoms_spec (ws := wsX5_unitsUsed) B.pre⟩
  have hx := hC.1
  have hb := hC.2.1
  have hown := hC.2.2.2.1
  have hts := hC.2.2.2.2
  have hr := B.returns
  have hlocks := B.notSynchronized
  have hW := g_H_enter hW0
  have hi5 : ∀ w ∈ wsX50, w ∈ wsX5_unitsUsed := by decide +kernel
  have hi8 : ∀ w ∈ wsX80, w ∈ wsX5_unitsUsed := by decide +kernel
  have hl := lv_entry ([.ref (G.2.2.1 o0), .int p1, .int p2, .int p3]) (n := 9) (Nat.le_of_ble_eq_true rfl)
  rw [lg_entry_eq]
  generalize (lg_sl ([.ref (G.2.2.1 o0), .int p1, .int p2, .int p3]) ++ List.replicate (9 - (lg_sl ([.ref (G.2.2.1 o0), .int p1, .int p2, .int p3])).length) Slot.unset).toArray = ls at hl ⊢
  have hl : lv_has ls 9 [(0, .ref (G.2.2.1 o0)), (1, .int p1), (2, .int p2), (3, .int p3)] := hl
  obtain ⟨Q, hQ⟩ : ∃ Q, Q = MQ below (g_Qi ZC G r0 me) ([.ref (G.2.2.1 o0), .int p1, .int p2, .int p3] : List Value).toArray s 0 0 (g_A ZC G) := ⟨_, rfl⟩
  refine g_goQ hQ ?_
  unfold f_X5_unitsUsed at hf
  refine g_start hW (fun H locs hW => ?_)
  refine lv_iload_n hx hb dX5_unitsUsed_0 rfl (lv_at hl 3 rfl) ?_
  refine g_abs hC hl.1 (by decide +kernel) (by decide +kernel) (by decide +kernel) (by decide +kernel) (Nat.le_of_ble_eq_true rfl) (Nat.le_of_ble_eq_true rfl) (Nat.le_of_ble_eq_true rfl) (Nat.le_of_ble_eq_true rfl) dX5_unitsUsed_1 ?_
  obtain ⟨x1, h9, hf⟩ := ob_inv hf
  refine g_nmi (Option.some.inj h9) ?_
  refine lv_istore (lv' := [(4, .int x1), (0, .ref (G.2.2.1 o0)), (1, .int p1), (2, .int p2), (3, .int p3)]) hx hb dX5_unitsUsed_4 hl (by decide) rfl (fun ls hl => ?_)
  refine lv_iconst (v := 0) hx hb dX5_unitsUsed_6 (by decide) ?_
  refine lv_istore (lv' := [(5, .int 0), (4, .int x1), (0, .ref (G.2.2.1 o0)), (1, .int p1), (2, .int p2), (3, .int p3)]) hx hb dX5_unitsUsed_7 hl (by decide) rfl (fun ls hl => ?_)
  refine lv_iconst (v := 0) hx hb dX5_unitsUsed_9 (by decide) ?_
  refine lv_istore (lv' := [(6, .int 0), (5, .int 0), (4, .int x1), (0, .ref (G.2.2.1 o0)), (1, .int p1), (2, .int p2), (3, .int p3)]) hx hb dX5_unitsUsed_10 hl (by decide) rfl (fun ls hl => ?_)
  have hL12 : ∀ (n : Nat) (x2 : Int32) (x3 : Int32) (x4 : Int32) (y5 : Int32) (y6 : Int32) (y7 : Int32) (H : Heap) (locs : List Loc) (ls : Array Slot), f_X5_unitsUsed_L12 o0 me p1 p2 p3 n x2 x3 x4 = some (y5, y6, y7) → g_H ZC G s H locs me → lv_has ls 9 [(0, .ref (G.2.2.1 o0)), (1, .int p1), (2, .int p2), (3, .int p3), (4, .int x2), (5, .int x3), (6, .int x4)] → (∀ (H : Heap) (locs : List Loc) (ls : Array Slot), g_H ZC G s H locs me → lv_has ls 9 [(5, .int y6)] → W p l e (headSpec wsX5_unitsUsed rmX5_unitsUsed).room s m ([.ref (G.2.2.1 o0), .int p1, .int p2, .int p3] : List Value).toArray below meth c H locs 0 0 Q (F0 m 107 ls [])) → W p l e (headSpec wsX5_unitsUsed rmX5_unitsUsed).room s m ([.ref (G.2.2.1 o0), .int p1, .int p2, .int p3] : List Value).toArray below meth c H locs 0 0 Q (F0 m 12 ls []) := by
    intro n
    induction n with
    | zero =>
      intro x2 x3 x4 y5 y6 y7 H locs ls hf hW hl hE
      cases hf
    | succ n ih =>
      intro x2 x3 x4 y5 y6 y7 H locs ls hf hW hl hE
      rw [f_X5_unitsUsed_L12] at hf
      refine lv_iload hx hb dX5_unitsUsed_12 (lv_at hl 6 rfl) ?_
      refine lv_aload_n hx hb dX5_unitsUsed_14 rfl (lv_at hl 0 rfl) ?_
      refine g_getr hC hW (o := o0) (ci := 5) (k := 6) ho0 (zc_lt ho0) rfl hi5 (by decide) rfl (t := (o0 + 7)) (zc_o5_6 ho0).1 (by decide +kernel) dX5_unitsUsed_15 ?_
      refine g_geti hC hW (o := (o0 + 7)) (ci := 8) (k := 8) (zc_o5_6 ho0).2.1 (zc_o5_6 ho0).2.2 rfl hi8 (by decide) rfl (by decide +kernel) dX5_unitsUsed_18 ?_
      refine lv_icmp_ge (tgt := 107) hx hb dX5_unitsUsed_21 (by decide) (fun c8 => ?_) (fun c8 => ?_)
      · have hf := a_if_t c8 hf
        cases hf
        exact hE H locs ls hW (lv_sub hl [5] rfl)
      · have hf := a_if_f c8 hf
        refine lv_iload hx hb dX5_unitsUsed_24 (lv_at hl 4 rfl) ?_
        refine lv_if_le (tgt := 107) hx hb dX5_unitsUsed_26 (by decide) (fun c9 => ?_) (fun c9 => ?_)
        · have hf := a_if_t c9 hf
          cases hf
          exact hE H locs ls hW (lv_sub hl [5] rfl)
        · have hf := a_if_f c9 hf
          refine lv_aload_n hx hb dX5_unitsUsed_29 rfl (lv_at hl 0 rfl) ?_
          refine g_getr hC hW (o := o0) (ci := 5) (k := 6) ho0 (zc_lt ho0) rfl hi5 (by decide) rfl (t := (o0 + 7)) (zc_o5_6 ho0).1 (by decide +kernel) dX5_unitsUsed_30 ?_
          refine g_getr hC hW (o := (o0 + 7)) (ci := 8) (k := 7) (zc_o5_6 ho0).2.1 (zc_o5_6 ho0).2.2 rfl hi8 (by decide) rfl (t := ((o0 + 7) + 8)) (zc_o8_7 (zc_o5_6 ho0).2.1).1 (by decide +kernel) dX5_unitsUsed_33 ?_
          refine lv_iload hx hb dX5_unitsUsed_36 (lv_at hl 6 rfl) ?_
          obtain ⟨v10, h9, hf⟩ := ob_inv hf
          refine g_ild hC hW (zc_o8_7 (zc_o5_6 ho0).2.1).2.1 (zc_o8_7 (zc_o5_6 ho0).2.1).2.2.1 (zc_o8_7 (zc_o5_6 ho0).2.1).2.2.2 h9 dX5_unitsUsed_38 ?_
          refine lv_istore (lv' := [(7, .int v10), (0, .ref (G.2.2.1 o0)), (1, .int p1), (2, .int p2), (3, .int p3), (4, .int x2), (5, .int x3), (6, .int x4)]) hx hb dX5_unitsUsed_39 hl (by decide) rfl (fun ls hl => ?_)
          refine lv_aload_n hx hb dX5_unitsUsed_41 rfl (lv_at hl 1 rfl) ?_
          refine lv_iload hx hb dX5_unitsUsed_42 (lv_at hl 0 rfl) ?_
          refine lv_iload_n hx hb dX5_unitsUsed_44 rfl (lv_at hl 3 rfl) ?_
          refine lv_iload_n hx hb dX5_unitsUsed_45 rfl (lv_at hl 4 rfl) ?_
          obtain ⟨r11, hg, hf⟩ := ob_inv hf
          refine g_cVi hC hW (o := o0) (ci := 5) (As := [.int v10, .int p2, .int p3]) (rest := []) ho0 (zc_lt ho0) rfl (c_X5_helps l G ho0 hg) (cwV 3 hts gX5_unitsUsed_X5_helps rfl rfl rfl (by decide +kernel) ⟨Nat.le_of_ble_eq_true rfl, Nat.le_of_ble_eq_true rfl⟩) rfl hl.1 rfl (Nat.le_of_ble_eq_true rfl) dX5_unitsUsed_46 ⟨Nat.le_of_ble_eq_true rfl, Nat.le_of_ble_eq_true rfl⟩ (fun H locs hW => ?_)
          obtain ⟨⟨x13, x14⟩, hg, hf⟩ := ob_inv hf
          have hf := ob_inv2 hf
          have hJ101 : ∀ (H : Heap) (locs : List Loc) (ls : Array Slot), g_H ZC G s H locs me → lv_has ls 9 [(0, .ref (G.2.2.1 o0)), (1, .int p1), (2, .int p2), (3, .int p3), (4, .int x13), (5, .int x14), (6, .int x4)] → W p l e (headSpec wsX5_unitsUsed rmX5_unitsUsed).room s m ([.ref (G.2.2.1 o0), .int p1, .int p2, .int p3] : List Value).toArray below meth c H locs 0 0 Q (F0 m 101 ls []) := by
            intro H locs ls hW hl
            refine lv_iinc (v := (x4 + 1)) (lv' := [(6, .int (x4 + 1)), (0, .ref (G.2.2.1 o0)), (1, .int p1), (2, .int p2), (3, .int p3), (4, .int x13), (5, .int x14)]) hx hb dX5_unitsUsed_101 hl (k := 6) rfl (congrArg (fun z => x4 + z) (by decide)) (by decide) rfl (fun ls hl => ?_)
            refine lv_goto (tgt := 12) hx hb dX5_unitsUsed_104 (by decide) ?_
            exact ih _ _ _ _ _ _ _ _ _ hf hW (lv_sub hl [1, 2, 3, 4, 5, 6, 0] rfl) hE
          replace hf := hg
          refine lv_if_eq (tgt := 101) hx hb dX5_unitsUsed_49 (by decide) (fun c12 => ?_) (fun c12 => ?_)
          · have hf := a_if_t c12 hf
            cases hf
            exact hJ101 H locs ls hW (lv_sub hl [1, 2, 3, 4, 5, 6, 7] rfl)
          · have hf := a_if_f c12 hf
            refine lv_iload hx hb dX5_unitsUsed_52 (lv_at hl 5 rfl) ?_
            refine lv_aload_n hx hb dX5_unitsUsed_54 rfl (lv_at hl 1 rfl) ?_
            refine g_getr hC hW (o := o0) (ci := 5) (k := 6) ho0 (zc_lt ho0) rfl hi5 (by decide) rfl (t := (o0 + 7)) (zc_o5_6 ho0).1 (by decide +kernel) dX5_unitsUsed_55 ?_
            refine g_getr hC hW (o := (o0 + 7)) (ci := 8) (k := 5) (zc_o5_6 ho0).2.1 (zc_o5_6 ho0).2.2 rfl hi8 (by decide) rfl (t := ((o0 + 7) + 6)) (zc_o8_5 (zc_o5_6 ho0).2.1).1 (by decide +kernel) dX5_unitsUsed_58 ?_
            refine lv_iload hx hb dX5_unitsUsed_61 (lv_at hl 0 rfl) ?_
            obtain ⟨v15, h9, hf⟩ := ob_inv hf
            refine g_ild hC hW (zc_o8_5 (zc_o5_6 ho0).2.1).2.1 (zc_o8_5 (zc_o5_6 ho0).2.1).2.2.1 (zc_o8_5 (zc_o5_6 ho0).2.1).2.2.2 h9 dX5_unitsUsed_63 ?_
            refine g_min hC hl.1 (by decide +kernel) (by decide +kernel) (by decide +kernel) (by decide +kernel) (Nat.le_of_ble_eq_true rfl) (Nat.le_of_ble_eq_true rfl) (Nat.le_of_ble_eq_true rfl) (Nat.le_of_ble_eq_true rfl) dX5_unitsUsed_64 ?_
            obtain ⟨x16, h9, hf⟩ := ob_inv hf
            refine g_nmi (Option.some.inj h9) ?_
            refine lv_istore (lv' := [(8, .int x16), (7, .int v10), (0, .ref (G.2.2.1 o0)), (1, .int p1), (2, .int p2), (3, .int p3), (4, .int x2), (5, .int x3), (6, .int x4)]) hx hb dX5_unitsUsed_67 hl (by decide) rfl (fun ls hl => ?_)
            refine lv_iload hx hb dX5_unitsUsed_69 (lv_at hl 6 rfl) ?_
            refine lv_iload hx hb dX5_unitsUsed_71 (lv_at hl 0 rfl) ?_
            refine lv_isub hx hb dX5_unitsUsed_73 ?_
            obtain ⟨x17, h9, hf⟩ := ob_inv hf
            refine g_nmi (Option.some.inj h9) ?_
            refine lv_istore (lv' := [(4, .int x17), (8, .int x16), (7, .int v10), (0, .ref (G.2.2.1 o0)), (1, .int p1), (2, .int p2), (3, .int p3), (5, .int x3), (6, .int x4)]) hx hb dX5_unitsUsed_74 hl (by decide) rfl (fun ls hl => ?_)
            refine lv_iload hx hb dX5_unitsUsed_76 (lv_at hl 7 rfl) ?_
            refine lv_aload_n hx hb dX5_unitsUsed_78 rfl (lv_at hl 3 rfl) ?_
            refine g_getr hC hW (o := o0) (ci := 5) (k := 6) ho0 (zc_lt ho0) rfl hi5 (by decide) rfl (t := (o0 + 7)) (zc_o5_6 ho0).1 (by decide +kernel) dX5_unitsUsed_79 ?_
            refine g_getr hC hW (o := (o0 + 7)) (ci := 8) (k := 0) (zc_o5_6 ho0).2.1 (zc_o5_6 ho0).2.2 rfl hi8 (by decide) rfl (t := ((o0 + 7) + 1)) (zc_o8_0 (zc_o5_6 ho0).2.1).1 (by decide +kernel) dX5_unitsUsed_82 ?_
            refine lv_iload hx hb dX5_unitsUsed_85 (lv_at hl 2 rfl) ?_
            obtain ⟨v18, h9, hf⟩ := ob_inv hf
            refine g_ild hC hW (zc_o8_0 (zc_o5_6 ho0).2.1).2.1 (zc_o8_0 (zc_o5_6 ho0).2.1).2.2.1 (zc_o8_0 (zc_o5_6 ho0).2.1).2.2.2 h9 dX5_unitsUsed_87 ?_
            refine lv_iload_n hx hb dX5_unitsUsed_88 rfl (lv_at hl 4 rfl) ?_
            obtain ⟨z20, hg, hf⟩ := ob_inv hf
            have hJ98 : ∀ (H : Heap) (locs : List Loc) (ls : Array Slot), g_H ZC G s H locs me → lv_has ls 9 [(0, .ref (G.2.2.1 o0)), (1, .int p1), (2, .int p2), (3, .int p3), (4, .int x17), (6, .int x4)] → W p l e (headSpec wsX5_unitsUsed rmX5_unitsUsed).room s m ([.ref (G.2.2.1 o0), .int p1, .int p2, .int p3] : List Value).toArray below meth c H locs 0 0 Q (F0 m 98 ls [.int z20, .int x3]) := by
              intro H locs ls hW hl
              refine lv_iadd hx hb dX5_unitsUsed_98 ?_
              obtain ⟨x21, h9, hf⟩ := ob_inv hf
              refine g_nmi (Option.some.inj h9) ?_
              refine lv_istore (lv' := [(5, .int x21), (0, .ref (G.2.2.1 o0)), (1, .int p1), (2, .int p2), (3, .int p3), (4, .int x17), (6, .int x4)]) hx hb dX5_unitsUsed_99 hl (by decide) rfl (fun ls hl => ?_)
              cases hf
              exact hJ101 H locs ls hW (lv_sub hl [1, 2, 3, 4, 5, 0, 6] rfl)
            replace hf := hg
            refine lv_icmp_ne (tgt := 97) hx hb dX5_unitsUsed_89 (by decide) (fun c19 => ?_) (fun c19 => ?_)
            · have hf := a_if_f c19 hf
              refine lv_iconst (v := 0) hx hb dX5_unitsUsed_97 (by decide) ?_
              cases hf
              exact hJ98 H locs ls hW (lv_sub hl [3, 4, 5, 6, 0, 8] rfl)
            · have hf := a_if_t c19 hf
              refine lv_iload hx hb dX5_unitsUsed_92 (lv_at hl 1 rfl) ?_
              refine lv_goto (tgt := 98) hx hb dX5_unitsUsed_94 (by decide) ?_
              cases hf
              exact hJ98 H locs ls hW (lv_sub hl [3, 4, 5, 6, 0, 8] rfl)
  obtain ⟨⟨y5, y6, y7⟩, hg, hf⟩ := ob_inv hf
  have hf := ob_inv3 hf
  refine hL12 _ _ _ _ _ _ _ _ _ _ hg hW (lv_sub hl [3, 4, 5, 6, 2, 1, 0] rfl) (fun H locs ls hW hl => ?_)
  refine lv_iload hx hb dX5_unitsUsed_107 (lv_at hl 0 rfl) ?_
  cases hf
  subst hQ
  exact g_iret hC hW hr hlocks rfl rfl dX5_unitsUsed_109
abbrev rmX5_balanceOf : Room := { frames := 3, cells := 0, slots := 0, locals := 67 }
set_option maxHeartbeats 4000000 in
set_option maxRecDepth 100000 in
theorem c_X5_balanceOf (l : Launch) (G : gG) {o0 : Nat} {p1 : Int32} {p2 : Int32} {me : gM} {r0 : Int32}  (ho0 : ZC.2.1 o0 = 6) (hf : f_X5_balanceOf o0 p1 p2 me = some r0) : Met l yX5_balanceOf wsX5_balanceOf rmX5_balanceOf (va_Pc [.ref (G.2.2.1 o0), .int p1, .int p2] (g_W ZC G me)) (g_Qi ZC G r0 me) 0 0 (g_A ZC G) := by
  refine Met.ofW (cc := cX5_balanceOf) (maxL := 9) (ret := (some .int)) (by decide) rfl ?_
  intro p e s m args below meth c s₁ B hml hv
  obtain ⟨rfl, hW0⟩ := hv
  have hC : CallFix p m c cX5_balanceOf 9 s ([.ref (G.2.2.1 o0), .int p1, .int p2] : List Value).toArray wsX5_balanceOf RX5 := ⟨B.exec, B.bytes, hml, findClass_of_methodNamed B.named, atoms_spec (ws := wsX5_balanceOf) B.pre⟩
  have hx := hC.1
  have hb := hC.2.1
  have hown := hC.2.2.2.1
  have hts := hC.2.2.2.2
  have hr := B.returns
  have hlocks := B.notSynchronized
  have hW := g_H_enter hW0
  have hi5 : ∀ w ∈ wsX50, w ∈ wsX5_balanceOf := by decide +kernel
  have hl := lv_entry ([.ref (G.2.2.1 o0), .int p1, .int p2]) (n := 9) (Nat.le_of_ble_eq_true rfl)
  rw [lg_entry_eq]
  generalize (lg_sl ([.ref (G.2.2.1 o0), .int p1, .int p2]) ++ List.replicate (9 - (lg_sl ([.ref (G.2.2.1 o0), .int p1, .int p2])).length) Slot.unset).toArray = ls at hl ⊢
  have hl : lv_has ls 9 [(0, .ref (G.2.2.1 o0)), (1, .int p1), (2, .int p2)] := hl
  obtain ⟨Q, hQ⟩ : ∃ Q, Q = MQ below (g_Qi ZC G r0 me) ([.ref (G.2.2.1 o0), .int p1, .int p2] : List Value).toArray s 0 0 (g_A ZC G) := ⟨_, rfl⟩
  refine g_goQ hQ ?_
  unfold f_X5_balanceOf at hf
  refine g_start hW (fun H locs hW => ?_)
  refine lv_aload_n hx hb dX5_balanceOf_0 rfl (lv_at hl 0 rfl) ?_
  refine lv_iload_n hx hb dX5_balanceOf_1 rfl (lv_at hl 2 rfl) ?_
  obtain ⟨r1, hg, hf⟩ := ob_inv hf
  refine g_cVi hC hW (o := o0) (ci := 5) (As := [.int p2]) (rest := []) ho0 (zc_lt ho0) rfl (c_X5_gapOf l G ho0 hg) (cwV 1 hts gX5_balanceOf_X5_gapOf rfl rfl rfl (by decide +kernel) ⟨Nat.le_of_ble_eq_true rfl, Nat.le_of_ble_eq_true rfl⟩) rfl hl.1 rfl (Nat.le_of_ble_eq_true rfl) dX5_balanceOf_2 ⟨Nat.le_of_ble_eq_true rfl, Nat.le_of_ble_eq_true rfl⟩ (fun H locs hW => ?_)
  refine lv_istore_n (lv' := [(3, .int r1), (0, .ref (G.2.2.1 o0)), (1, .int p1), (2, .int p2)]) hx hb dX5_balanceOf_5 rfl hl (by decide) rfl (fun ls hl => ?_)
  refine lv_iload_n hx hb dX5_balanceOf_6 rfl (lv_at hl 0 rfl) ?_
  obtain ⟨z3, hg, hf⟩ := ob_inv hf
  have hJ20 : ∀ (H : Heap) (locs : List Loc) (ls : Array Slot), g_H ZC G s H locs me → lv_has ls 9 [(0, .ref (G.2.2.1 o0)), (1, .int p1), (2, .int p2), (3, .int r1)] → W p l e (headSpec wsX5_balanceOf rmX5_balanceOf).room s m ([.ref (G.2.2.1 o0), .int p1, .int p2] : List Value).toArray below meth c H locs 0 0 Q (F0 m 20 ls [.int z3]) := by
    intro H locs ls hW hl
    refine lv_istore (lv' := [(4, .int z3), (0, .ref (G.2.2.1 o0)), (1, .int p1), (2, .int p2), (3, .int r1)]) hx hb dX5_balanceOf_20 hl (by decide) rfl (fun ls hl => ?_)
    refine lv_iconst (v := 0) hx hb dX5_balanceOf_22 (by decide) ?_
    refine lv_istore (lv' := [(5, .int 0), (4, .int z3), (0, .ref (G.2.2.1 o0)), (1, .int p1), (2, .int p2), (3, .int r1)]) hx hb dX5_balanceOf_23 hl (by decide) rfl (fun ls hl => ?_)
    refine lv_iconst (v := 0) hx hb dX5_balanceOf_25 (by decide) ?_
    refine lv_istore (lv' := [(6, .int 0), (5, .int 0), (4, .int z3), (0, .ref (G.2.2.1 o0)), (1, .int p1), (2, .int p2), (3, .int r1)]) hx hb dX5_balanceOf_26 hl (by decide) rfl (fun ls hl => ?_)
    have hL28 : ∀ (n : Nat) (x5 : Int32) (x6 : Int32) (y7 : Int32) (y8 : Int32) (H : Heap) (locs : List Loc) (ls : Array Slot), f_X5_balanceOf_L28 o0 me p1 p2 r1 z3 n x5 x6 = some (y7, y8) → g_H ZC G s H locs me → lv_has ls 9 [(0, .ref (G.2.2.1 o0)), (1, .int p1), (2, .int p2), (3, .int r1), (4, .int z3), (5, .int x5), (6, .int x6)] → (∀ (H : Heap) (locs : List Loc) (ls : Array Slot), g_H ZC G s H locs me → lv_has ls 9 [(0, .ref (G.2.2.1 o0)), (1, .int p1), (2, .int p2), (3, .int r1), (4, .int z3), (5, .int y7)] → W p l e (headSpec wsX5_balanceOf rmX5_balanceOf).room s m ([.ref (G.2.2.1 o0), .int p1, .int p2] : List Value).toArray below meth c H locs 0 0 Q (F0 m 108 ls [])) → W p l e (headSpec wsX5_balanceOf rmX5_balanceOf).room s m ([.ref (G.2.2.1 o0), .int p1, .int p2] : List Value).toArray below meth c H locs 0 0 Q (F0 m 28 ls []) := by
      intro n
      induction n with
      | zero =>
        intro x5 x6 y7 y8 H locs ls hf hW hl hE
        cases hf
      | succ n ih =>
        intro x5 x6 y7 y8 H locs ls hf hW hl hE
        rw [f_X5_balanceOf_L28] at hf
        refine lv_iload hx hb dX5_balanceOf_28 (lv_at hl 6 rfl) ?_
        refine lv_iconst (v := 3) hx hb dX5_balanceOf_30 (by decide) ?_
        refine lv_icmp_ge (tgt := 108) hx hb dX5_balanceOf_31 (by decide) (fun c9 => ?_) (fun c9 => ?_)
        · have hf := a_if_t c9 hf
          cases hf
          exact hE H locs ls hW (lv_sub hl [0, 1, 2, 3, 4, 5] rfl)
        · have hf := a_if_f c9 hf
          refine lv_aload_n hx hb dX5_balanceOf_34 rfl (lv_at hl 0 rfl) ?_
          refine g_getr hC hW (o := o0) (ci := 5) (k := 3) ho0 (zc_lt ho0) rfl hi5 (by decide) rfl (t := (o0 + 4)) (zc_o5_3 ho0).1 (by decide +kernel) dX5_balanceOf_35 ?_
          refine lv_iload_n hx hb dX5_balanceOf_38 rfl (lv_at hl 1 rfl) ?_
          refine lv_iload hx hb dX5_balanceOf_39 (lv_at hl 6 rfl) ?_
          refine lv_iload_n hx hb dX5_balanceOf_41 rfl (lv_at hl 2 rfl) ?_
          obtain ⟨r10, hg, hf⟩ := ob_inv hf
          refine g_cNi hC hW (As := [.int p1, .int x6, .int p2]) (rest := [.ref (G.2.2.1 (o0 + 4))]) (host := "GridMarket") (c_X9_placeOf l G  hg) ⟨va_cnB 3 hts gX5_balanceOf_X9_placeOf_n52 rfl rfl rfl (hW.2.2.2.1 (RX5, 52, yX9_placeOf) (by decide +kernel)) (hts _ (by decide +kernel : Cond.initialized RX9 ∈ wsX5_balanceOf)) (by decide +kernel) ⟨Nat.le_of_ble_eq_true rfl, Nat.le_of_ble_eq_true rfl⟩, hts _ (by decide +kernel : Cond.static yX9_placeOf ∈ wsX5_balanceOf), trivial⟩ rfl hl.1 rfl (Nat.le_of_ble_eq_true rfl) dX5_balanceOf_42 ⟨Nat.le_of_ble_eq_true rfl, Nat.le_of_ble_eq_true rfl⟩ (fun H locs hW => ?_)
          obtain ⟨v11, h9, hf⟩ := ob_inv hf
          refine g_ild hC hW (zc_o5_3 ho0).2.1 (zc_o5_3 ho0).2.2.1 (zc_o5_3 ho0).2.2.2 h9 dX5_balanceOf_45 ?_
          refine lv_istore (lv' := [(7, .int v11), (0, .ref (G.2.2.1 o0)), (1, .int p1), (2, .int p2), (3, .int r1), (4, .int z3), (5, .int x5), (6, .int x6)]) hx hb dX5_balanceOf_46 hl (by decide) rfl (fun ls hl => ?_)
          refine lv_iload_n hx hb dX5_balanceOf_48 rfl (lv_at hl 4 rfl) ?_
          obtain ⟨z13, hg, hf⟩ := ob_inv hf
          have hJ71 : ∀ (H : Heap) (locs : List Loc) (ls : Array Slot), g_H ZC G s H locs me → lv_has ls 9 [(0, .ref (G.2.2.1 o0)), (1, .int p1), (2, .int p2), (3, .int r1), (4, .int z3), (5, .int x5), (6, .int x6), (7, .int v11)] → W p l e (headSpec wsX5_balanceOf rmX5_balanceOf).room s m ([.ref (G.2.2.1 o0), .int p1, .int p2] : List Value).toArray below meth c H locs 0 0 Q (F0 m 71 ls [.int z13]) := by
            intro H locs ls hW hl
            refine lv_istore (lv' := [(8, .int z13), (0, .ref (G.2.2.1 o0)), (1, .int p1), (2, .int p2), (3, .int r1), (4, .int z3), (5, .int x5), (6, .int x6), (7, .int v11)]) hx hb dX5_balanceOf_71 hl (by decide) rfl (fun ls hl => ?_)
            refine lv_iload hx hb dX5_balanceOf_73 (lv_at hl 6 rfl) ?_
            refine lv_iload hx hb dX5_balanceOf_75 (lv_at hl 8 rfl) ?_
            refine lv_iload hx hb dX5_balanceOf_77 (lv_at hl 0 rfl) ?_
            obtain ⟨z20, hg, hf⟩ := ob_inv hf
            have hJ98 : ∀ (H : Heap) (locs : List Loc) (ls : Array Slot), g_H ZC G s H locs me → lv_has ls 9 [(0, .ref (G.2.2.1 o0)), (1, .int p1), (2, .int p2), (3, .int r1), (4, .int z3), (6, .int x6)] → W p l e (headSpec wsX5_balanceOf rmX5_balanceOf).room s m ([.ref (G.2.2.1 o0), .int p1, .int p2] : List Value).toArray below meth c H locs 0 0 Q (F0 m 98 ls [.int z20, .int v11, .int x5]) := by
              intro H locs ls hW hl
              refine lv_imul hx hb dX5_balanceOf_98 ?_
              refine lv_iadd hx hb dX5_balanceOf_99 ?_
              obtain ⟨x23, h9, hf⟩ := ob_inv hf
              refine g_nmi (Option.some.inj h9) ?_
              refine lv_istore (lv' := [(5, .int x23), (0, .ref (G.2.2.1 o0)), (1, .int p1), (2, .int p2), (3, .int r1), (4, .int z3), (6, .int x6)]) hx hb dX5_balanceOf_100 hl (by decide) rfl (fun ls hl => ?_)
              refine lv_iinc (v := (x6 + 1)) (lv' := [(6, .int (x6 + 1)), (5, .int x23), (0, .ref (G.2.2.1 o0)), (1, .int p1), (2, .int p2), (3, .int r1), (4, .int z3)]) hx hb dX5_balanceOf_102 hl (k := 6) rfl (congrArg (fun z => x6 + z) (by decide)) (by decide) rfl (fun ls hl => ?_)
              refine lv_goto (tgt := 28) hx hb dX5_balanceOf_105 (by decide) ?_
              exact ih _ _ _ _ _ _ _ hf hW (lv_sub hl [2, 3, 4, 5, 6, 1, 0] rfl) hE
            replace hf := hg
            refine lv_if_eq (tgt := 87) hx hb dX5_balanceOf_79 (by decide) (fun c19 => ?_) (fun c19 => ?_)
            · have hf := a_if_t c19 hf
              refine lv_aload_n hx hb dX5_balanceOf_87 rfl (lv_at hl 1 rfl) ?_
              refine g_getr hC hW (o := o0) (ci := 5) (k := 0) ho0 (zc_lt ho0) rfl hi5 (by decide) rfl (t := (o0 + 1)) (zc_o5_0 ho0).1 (by decide +kernel) dX5_balanceOf_88 ?_
              refine lv_iload hx hb dX5_balanceOf_91 (lv_at hl 7 rfl) ?_
              refine lv_iload_n hx hb dX5_balanceOf_93 rfl (lv_at hl 3 rfl) ?_
              obtain ⟨r21, hg, hf⟩ := ob_inv hf
              refine g_cNi hC hW (As := [.int x6, .int p2]) (rest := [.ref (G.2.2.1 (o0 + 1)), .int v11, .int x5]) (host := "GridMarket") (c_X9_spotOf l G  hg) ⟨va_cnB 2 hts gX5_balanceOf_X9_spotOf_n43 rfl rfl rfl (hW.2.2.2.1 (RX5, 43, yX9_spotOf) (by decide +kernel)) (hts _ (by decide +kernel : Cond.initialized RX9 ∈ wsX5_balanceOf)) (by decide +kernel) ⟨Nat.le_of_ble_eq_true rfl, Nat.le_of_ble_eq_true rfl⟩, hts _ (by decide +kernel : Cond.static yX9_spotOf ∈ wsX5_balanceOf), trivial⟩ rfl hl.1 rfl (Nat.le_of_ble_eq_true rfl) dX5_balanceOf_94 ⟨Nat.le_of_ble_eq_true rfl, Nat.le_of_ble_eq_true rfl⟩ (fun H locs hW => ?_)
              obtain ⟨v22, h9, hf⟩ := ob_inv hf
              refine g_ild hC hW (zc_o5_0 ho0).2.1 (zc_o5_0 ho0).2.2.1 (zc_o5_0 ho0).2.2.2 h9 dX5_balanceOf_97 ?_
              cases hf
              exact hJ98 H locs ls hW (lv_sub hl [1, 2, 3, 4, 5, 7] rfl)
            · have hf := a_if_f c19 hf
              refine lv_iload hx hb dX5_balanceOf_82 (lv_at hl 5 rfl) ?_
              refine lv_goto (tgt := 98) hx hb dX5_balanceOf_84 (by decide) ?_
              cases hf
              exact hJ98 H locs ls hW (lv_sub hl [1, 2, 3, 4, 5, 7] rfl)
          replace hf := hg
          refine lv_if_ge (tgt := 57) hx hb dX5_balanceOf_49 (by decide) (fun c12 => ?_) (fun c12 => ?_)
          · have hf := a_if_t c12 hf
            refine lv_iload_n hx hb dX5_balanceOf_57 rfl (lv_at hl 4 rfl) ?_
            refine lv_if_le (tgt := 70) hx hb dX5_balanceOf_58 (by decide) (fun c14 => ?_) (fun c14 => ?_)
            · have hf := a_if_t c14 hf
              refine lv_iconst (v := 0) hx hb dX5_balanceOf_70 (by decide) ?_
              cases hf
              exact hJ71 H locs ls hW (lv_sub hl [1, 2, 3, 4, 5, 6, 7, 0] rfl)
            · have hf := a_if_f c14 hf
              refine lv_iload hx hb dX5_balanceOf_61 (lv_at hl 0 rfl) ?_
              refine lv_if_le (tgt := 70) hx hb dX5_balanceOf_63 (by decide) (fun c15 => ?_) (fun c15 => ?_)
              · have hf := a_if_t c15 hf
                refine lv_iconst (v := 0) hx hb dX5_balanceOf_70 (by decide) ?_
                cases hf
                exact hJ71 H locs ls hW (lv_sub hl [1, 2, 3, 4, 5, 6, 7, 0] rfl)
              · have hf := a_if_f c15 hf
                refine lv_iconst (v := 1) hx hb dX5_balanceOf_66 (by decide) ?_
                refine lv_goto (tgt := 71) hx hb dX5_balanceOf_67 (by decide) ?_
                cases hf
                exact hJ71 H locs ls hW (lv_sub hl [1, 2, 3, 4, 5, 6, 7, 0] rfl)
          · have hf := a_if_f c12 hf
            refine lv_iload hx hb dX5_balanceOf_52 (lv_at hl 0 rfl) ?_
            refine lv_if_lt (tgt := 66) hx hb dX5_balanceOf_54 (by decide) (fun c16 => ?_) (fun c16 => ?_)
            · have hf := a_if_t c16 hf
              refine lv_iconst (v := 1) hx hb dX5_balanceOf_66 (by decide) ?_
              refine lv_goto (tgt := 71) hx hb dX5_balanceOf_67 (by decide) ?_
              cases hf
              exact hJ71 H locs ls hW (lv_sub hl [1, 2, 3, 4, 5, 6, 7, 0] rfl)
            · have hf := a_if_f c16 hf
              refine lv_iload_n hx hb dX5_balanceOf_57 rfl (lv_at hl 4 rfl) ?_
              refine lv_if_le (tgt := 70) hx hb dX5_balanceOf_58 (by decide) (fun c17 => ?_) (fun c17 => ?_)
              · have hf := a_if_t c17 hf
                refine lv_iconst (v := 0) hx hb dX5_balanceOf_70 (by decide) ?_
                cases hf
                exact hJ71 H locs ls hW (lv_sub hl [1, 2, 3, 4, 5, 6, 7, 0] rfl)
              · have hf := a_if_f c17 hf
                refine lv_iload hx hb dX5_balanceOf_61 (lv_at hl 0 rfl) ?_
                refine lv_if_le (tgt := 70) hx hb dX5_balanceOf_63 (by decide) (fun c18 => ?_) (fun c18 => ?_)
                · have hf := a_if_t c18 hf
                  refine lv_iconst (v := 0) hx hb dX5_balanceOf_70 (by decide) ?_
                  cases hf
                  exact hJ71 H locs ls hW (lv_sub hl [1, 2, 3, 4, 5, 6, 7, 0] rfl)
                · have hf := a_if_f c18 hf
                  refine lv_iconst (v := 1) hx hb dX5_balanceOf_66 (by decide) ?_
                  refine lv_goto (tgt := 71) hx hb dX5_balanceOf_67 (by decide) ?_
                  cases hf
                  exact hJ71 H locs ls hW (lv_sub hl [1, 2, 3, 4, 5, 6, 7, 0] rfl)
    obtain ⟨⟨y7, y8⟩, hg, hf⟩ := ob_inv hf
    have hf := ob_inv2 hf
    refine hL28 _ _ _ _ _ _ _ _ hg hW (lv_sub hl [3, 4, 5, 6, 2, 1, 0] rfl) (fun H locs ls hW hl => ?_)
    refine lv_aload_n hx hb dX5_balanceOf_108 rfl (lv_at hl 0 rfl) ?_
    refine lv_iload_n hx hb dX5_balanceOf_109 rfl (lv_at hl 1 rfl) ?_
    refine lv_iload_n hx hb dX5_balanceOf_110 rfl (lv_at hl 2 rfl) ?_
    refine lv_iload_n hx hb dX5_balanceOf_111 rfl (lv_at hl 3 rfl) ?_
    obtain ⟨r24, hg, hf⟩ := ob_inv hf
    refine g_cVi hC hW (o := o0) (ci := 5) (As := [.int p1, .int p2, .int r1]) (rest := []) ho0 (zc_lt ho0) rfl (c_X5_unitsUsed l G ho0 hg) (cwV 3 hts gX5_balanceOf_X5_unitsUsed rfl rfl rfl (by decide +kernel) ⟨Nat.le_of_ble_eq_true rfl, Nat.le_of_ble_eq_true rfl⟩) rfl hl.1 rfl (Nat.le_of_ble_eq_true rfl) dX5_balanceOf_112 ⟨Nat.le_of_ble_eq_true rfl, Nat.le_of_ble_eq_true rfl⟩ (fun H locs hW => ?_)
    refine lv_istore (lv' := [(6, .int r24), (0, .ref (G.2.2.1 o0)), (1, .int p1), (2, .int p2), (3, .int r1), (4, .int z3), (5, .int y7)]) hx hb dX5_balanceOf_115 hl (by decide) rfl (fun ls hl => ?_)
    refine lv_iload hx hb dX5_balanceOf_117 (lv_at hl 6 rfl) ?_
    refine lv_iload_n hx hb dX5_balanceOf_119 rfl (lv_at hl 4 rfl) ?_
    obtain ⟨z26, hg, hf⟩ := ob_inv hf
    have hJ131 : ∀ (H : Heap) (locs : List Loc) (ls : Array Slot), g_H ZC G s H locs me → lv_has ls 9 [(4, .int z3)] → W p l e (headSpec wsX5_balanceOf rmX5_balanceOf).room s m ([.ref (G.2.2.1 o0), .int p1, .int p2] : List Value).toArray below meth c H locs 0 0 Q (F0 m 131 ls [.int z26, .int y7]) := by
      intro H locs ls hW hl
      refine lv_iload hx hb dX5_balanceOf_131 (lv_at hl 0 rfl) ?_
      refine lv_imul hx hb dX5_balanceOf_133 ?_
      refine lv_iadd hx hb dX5_balanceOf_134 ?_
      cases hf
      subst hQ
      exact g_iret hC hW hr hlocks rfl rfl dX5_balanceOf_135
    replace hf := hg
    refine lv_if_ge (tgt := 128) hx hb dX5_balanceOf_120 (by decide) (fun c25 => ?_) (fun c25 => ?_)
    · have hf := a_if_t c25 hf
      refine lv_iload hx hb dX5_balanceOf_128 (lv_at hl 0 rfl) ?_
      refine lv_ineg hx hb dX5_balanceOf_130 ?_
      cases hf
      exact hJ131 H locs ls hW (lv_sub hl [5] rfl)
    · have hf := a_if_f c25 hf
      refine lv_iload hx hb dX5_balanceOf_123 (lv_at hl 0 rfl) ?_
      refine lv_goto (tgt := 131) hx hb dX5_balanceOf_125 (by decide) ?_
      cases hf
      exact hJ131 H locs ls hW (lv_sub hl [5] rfl)
  replace hf := hg
  refine lv_if_ne (tgt := 14) hx hb dX5_balanceOf_7 (by decide) (fun c2 => ?_) (fun c2 => ?_)
  · have hf := a_if_f c2 hf
    refine lv_aload_n hx hb dX5_balanceOf_14 rfl (lv_at hl 1 rfl) ?_
    refine lv_iload_n hx hb dX5_balanceOf_15 rfl (lv_at hl 3 rfl) ?_
    refine lv_iload_n hx hb dX5_balanceOf_16 rfl (lv_at hl 0 rfl) ?_
    obtain ⟨r4, hg, hf⟩ := ob_inv hf
    refine g_cVi hC hW (o := o0) (ci := 5) (As := [.int p2, .int r1]) (rest := []) ho0 (zc_lt ho0) rfl (c_X5_priceOfGap l G ho0 hg) (cwV 2 hts gX5_balanceOf_X5_priceOfGap rfl rfl rfl (by decide +kernel) ⟨Nat.le_of_ble_eq_true rfl, Nat.le_of_ble_eq_true rfl⟩) rfl hl.1 rfl (Nat.le_of_ble_eq_true rfl) dX5_balanceOf_17 ⟨Nat.le_of_ble_eq_true rfl, Nat.le_of_ble_eq_true rfl⟩ (fun H locs hW => ?_)
    cases hf
    exact hJ20 H locs ls hW (lv_sub hl [1, 2, 3, 0] rfl)
  · have hf := a_if_t c2 hf
    refine lv_iconst (v := 0) hx hb dX5_balanceOf_10 (by decide) ?_
    refine lv_goto (tgt := 20) hx hb dX5_balanceOf_11 (by decide) ?_
    cases hf
    exact hJ20 H locs ls hW (lv_sub hl [1, 2, 3, 0] rfl)
abbrev rmX5_billOf : Room := { frames := 4, cells := 0, slots := 0, locals := 95 }
set_option maxHeartbeats 4000000 in
set_option maxRecDepth 100000 in
theorem c_X5_billOf (l : Launch) (G : gG) {o0 : Nat} {p1 : Int32} {me : gM} {r0 : Int32}  (ho0 : ZC.2.1 o0 = 6) (hf : f_X5_billOf o0 p1 me = some r0) : Met l yX5_billOf wsX5_billOf rmX5_billOf (va_Pc [.ref (G.2.2.1 o0), .int p1] (g_W ZC G me)) (g_Qi ZC G r0 me) 0 0 (g_A ZC G) := by
  refine Met.ofW (cc := cX5_billOf) (maxL := 4) (ret := (some .int)) (by decide) rfl ?_
  intro p e s m args below meth c s₁ B hml hv
  obtain ⟨rfl, hW0⟩ := hv
  have hC : CallFix p m c cX5_billOf 4 s ([.ref (G.2.2.1 o0), .int p1] : List Value).toArray wsX5_billOf RX5 := ⟨B.exec, B.bytes, hml, findClass_of_methodNamed B.named, atoms_spec (ws := wsX5_billOf) B.pre⟩
  have hx := hC.1
  have hb := hC.2.1
  have hown := hC.2.2.2.1
  have hts := hC.2.2.2.2
  have hr := B.returns
  have hlocks := B.notSynchronized
  have hW := g_H_enter hW0
  have hi5 : ∀ w ∈ wsX50, w ∈ wsX5_billOf := by decide +kernel
  have hl := lv_entry ([.ref (G.2.2.1 o0), .int p1]) (n := 4) (Nat.le_of_ble_eq_true rfl)
  rw [lg_entry_eq]
  generalize (lg_sl ([.ref (G.2.2.1 o0), .int p1]) ++ List.replicate (4 - (lg_sl ([.ref (G.2.2.1 o0), .int p1])).length) Slot.unset).toArray = ls at hl ⊢
  have hl : lv_has ls 4 [(0, .ref (G.2.2.1 o0)), (1, .int p1)] := hl
  obtain ⟨Q, hQ⟩ : ∃ Q, Q = MQ below (g_Qi ZC G r0 me) ([.ref (G.2.2.1 o0), .int p1] : List Value).toArray s 0 0 (g_A ZC G) := ⟨_, rfl⟩
  refine g_goQ hQ ?_
  unfold f_X5_billOf at hf
  refine g_start hW (fun H locs hW => ?_)
  refine lv_aload_n hx hb dX5_billOf_0 rfl (lv_at hl 0 rfl) ?_
  refine g_getr hC hW (o := o0) (ci := 5) (k := 4) ho0 (zc_lt ho0) rfl hi5 (by decide) rfl (t := (o0 + 5)) (zc_o5_4 ho0).1 (by decide +kernel) dX5_billOf_1 ?_
  refine lv_iload_n hx hb dX5_billOf_4 rfl (lv_at hl 1 rfl) ?_
  obtain ⟨v1, h9, hf⟩ := ob_inv hf
  refine g_ild hC hW (zc_o5_4 ho0).2.1 (zc_o5_4 ho0).2.2.1 (zc_o5_4 ho0).2.2.2 h9 dX5_billOf_5 ?_
  refine lv_istore_n (lv' := [(2, .int v1), (0, .ref (G.2.2.1 o0)), (1, .int p1)]) hx hb dX5_billOf_6 rfl hl (by decide) rfl (fun ls hl => ?_)
  refine lv_iconst (v := 0) hx hb dX5_billOf_7 (by decide) ?_
  refine lv_istore_n (lv' := [(3, .int 0), (2, .int v1), (0, .ref (G.2.2.1 o0)), (1, .int p1)]) hx hb dX5_billOf_8 rfl hl (by decide) rfl (fun ls hl => ?_)
  have hL9 : ∀ (n : Nat) (x2 : Int32) (x3 : Int32) (y4 : Int32) (y5 : Int32) (H : Heap) (locs : List Loc) (ls : Array Slot), f_X5_billOf_L9 o0 me p1 n x2 x3 = some (y4, y5) → g_H ZC G s H locs me → lv_has ls 4 [(0, .ref (G.2.2.1 o0)), (1, .int p1), (2, .int x2), (3, .int x3)] → (∀ (H : Heap) (locs : List Loc) (ls : Array Slot), g_H ZC G s H locs me → lv_has ls 4 [(2, .int y4)] → W p l e (headSpec wsX5_billOf rmX5_billOf).room s m ([.ref (G.2.2.1 o0), .int p1] : List Value).toArray below meth c H locs 0 0 Q (F0 m 29 ls [])) → W p l e (headSpec wsX5_billOf rmX5_billOf).room s m ([.ref (G.2.2.1 o0), .int p1] : List Value).toArray below meth c H locs 0 0 Q (F0 m 9 ls []) := by
    intro n
    induction n with
    | zero =>
      intro x2 x3 y4 y5 H locs ls hf hW hl hE
      cases hf
    | succ n ih =>
      intro x2 x3 y4 y5 H locs ls hf hW hl hE
      rw [f_X5_billOf_L9] at hf
      refine lv_iload_n hx hb dX5_billOf_9 rfl (lv_at hl 3 rfl) ?_
      refine lv_iconst (v := 4) hx hb dX5_billOf_10 (by decide) ?_
      refine lv_icmp_ge (tgt := 29) hx hb dX5_billOf_11 (by decide) (fun c6 => ?_) (fun c6 => ?_)
      · have hf := a_if_t c6 hf
        cases hf
        exact hE H locs ls hW (lv_sub hl [2] rfl)
      · have hf := a_if_f c6 hf
        refine lv_iload_n hx hb dX5_billOf_14 rfl (lv_at hl 2 rfl) ?_
        refine lv_aload_n hx hb dX5_billOf_15 rfl (lv_at hl 0 rfl) ?_
        refine lv_iload_n hx hb dX5_billOf_16 rfl (lv_at hl 1 rfl) ?_
        refine lv_iload_n hx hb dX5_billOf_17 rfl (lv_at hl 3 rfl) ?_
        obtain ⟨r7, hg, hf⟩ := ob_inv hf
        refine g_cVi hC hW (o := o0) (ci := 5) (As := [.int p1, .int x3]) (rest := [.int x2]) ho0 (zc_lt ho0) rfl (c_X5_balanceOf l G ho0 hg) (cwV 2 hts gX5_billOf_X5_balanceOf rfl rfl rfl (by decide +kernel) ⟨Nat.le_of_ble_eq_true rfl, Nat.le_of_ble_eq_true rfl⟩) rfl hl.1 rfl (Nat.le_of_ble_eq_true rfl) dX5_billOf_18 ⟨Nat.le_of_ble_eq_true rfl, Nat.le_of_ble_eq_true rfl⟩ (fun H locs hW => ?_)
        refine lv_iadd hx hb dX5_billOf_21 ?_
        obtain ⟨x8, h9, hf⟩ := ob_inv hf
        refine g_nmi (Option.some.inj h9) ?_
        refine lv_istore_n (lv' := [(2, .int x8), (0, .ref (G.2.2.1 o0)), (1, .int p1), (3, .int x3)]) hx hb dX5_billOf_22 rfl hl (by decide) rfl (fun ls hl => ?_)
        refine lv_iinc (v := (x3 + 1)) (lv' := [(3, .int (x3 + 1)), (2, .int x8), (0, .ref (G.2.2.1 o0)), (1, .int p1)]) hx hb dX5_billOf_23 hl (k := 3) rfl (congrArg (fun z => x3 + z) (by decide)) (by decide) rfl (fun ls hl => ?_)
        refine lv_goto (tgt := 9) hx hb dX5_billOf_26 (by decide) ?_
        exact ih _ _ _ _ _ _ _ hf hW (lv_sub hl [2, 3, 1, 0] rfl) hE
  obtain ⟨⟨y4, y5⟩, hg, hf⟩ := ob_inv hf
  have hf := ob_inv2 hf
  refine hL9 _ _ _ _ _ _ _ _ hg hW (lv_sub hl [2, 3, 1, 0] rfl) (fun H locs ls hW hl => ?_)
  refine lv_iload_n hx hb dX5_billOf_29 rfl (lv_at hl 0 rfl) ?_
  cases hf
  subst hQ
  exact g_iret hC hW hr hlocks rfl rfl dX5_billOf_30
