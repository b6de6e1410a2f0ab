def f_X2_add (p1 : Int32) (p2 : Int32) (p3 : Int32) (p4 : Int32) (p5 : Int32) (p6 : Int32) (me : gM) : Option (Int32 × gM) :=
  if (me 13 8) < 5 then
    ob (some (me 13 8)) fun (x2 : Int32) =>
    ob (a_st 5 14 x2 p1 me) fun m3 =>
    ob (a_st 5 15 x2 p2 m3) fun m4 =>
    ob (a_st 5 16 x2 p3 m4) fun m5 =>
    ob (a_zst 5 17 x2 p4 m5) fun m6 =>
    ob (a_st 5 18 x2 p5 m6) fun m7 =>
    ob (a_st 5 19 x2 p6 m7) fun m8 =>
    ob (a_st 5 20 x2 (-1) m8) fun m9 =>
    ob (a_st 5 21 x2 (-1) m9) fun m10 =>
    ob (some (g_up m10 13 (upd (m10 13) 8 ((m10 13 8) + 1)))) fun m11 =>
    some (x2, m11)
  else
    some ((-1), me)
def f_X2_isAllowed_L4 (me : gM) (p1 : Int32) : Nat → Int32 → Int32 → Option ((Int32 × Int32) ⊕ (Int32))
  | 0, _, _ => none
  | n + 1, x1, x2 =>
    if (me 13 8) ≤ x2 then
      some (.inl (x1, x2))
    else
      ob (f_X9_isMember p1 x2) fun r6 =>
      if r6 = 0 then
        f_X2_isAllowed_L4 me p1 n x1 (x2 + 1)
      else
        ob (a_ld 5 20 x2 me) fun v8 =>
        if v8 = (-1) then
          ob (a_ld 5 21 x2 me) fun v10 =>
          if v10 = (-1) then
            f_X2_isAllowed_L4 me p1 n x1 (x2 + 1)
          else
            ob (a_ld 5 21 x2 me) fun v12 =>
            ob (f_X9_isMember x1 v12) fun r13 =>
            if r13 = 0 then
              ob (a_ld 5 21 x2 me) fun v15 =>
              ob (some (x1 ||| (1 <<< (v15 &&& 31)))) fun (x16 : Int32) =>
              f_X2_isAllowed_L4 me p1 n x16 (x2 + 1)
            else
              some (.inr 0)
        else
          ob (a_ld 5 20 x2 me) fun v17 =>
          ob (f_X9_isMember p1 v17) fun r18 =>
          if r18 = 0 then
            some (.inr 0)
          else
            ob (a_ld 5 21 x2 me) fun v20 =>
            if v20 = (-1) then
              f_X2_isAllowed_L4 me p1 n x1 (x2 + 1)
            else
              ob (a_ld 5 21 x2 me) fun v22 =>
              ob (f_X9_isMember x1 v22) fun r23 =>
              if r23 = 0 then
                ob (a_ld 5 21 x2 me) fun v25 =>
                ob (some (x1 ||| (1 <<< (v25 &&& 31)))) fun (x26 : Int32) =>
                f_X2_isAllowed_L4 me p1 n x26 (x2 + 1)
              else
                some (.inr 0)
def f_X2_isAllowed (p1 : Int32) (me : gM) : Option (Int32) :=
  oz (f_X2_isAllowed_L4 me p1 f_fuel 0 0) (fun w9 => some w9) fun t27 =>
  ob (some t27.1) fun y3 =>
  ob (some t27.2) fun y4 =>
  some 1
def f_X2_partIn_L5 (me : gM) (p1 : Int32) (p2 : Int32) : Nat → Int32 → Int32 → Option (Int32 × Int32)
  | 0, _, _ => none
  | n + 1, x1, x2 =>
    if (me 13 8) ≤ x2 then
      some (x1, x2)
    else
      ob (f_X9_isMember p1 x2) fun r6 =>
      ob (if r6 = 0 then
          some x1
        else
          ob (a_ld 5 16 x2 me) fun v9 =>
          ob (f_X9_isMember v9 p2) fun r10 =>
          if r10 = 0 then
            some x1
          else
            ob (some (x1 ||| (1 <<< (x2 &&& 31)))) fun (x12 : Int32) =>
            some x12) fun (x8 : Int32) =>
      f_X2_partIn_L5 me p1 p2 n x8 (x2 + 1)
def f_X2_partIn (p1 : Int32) (p2 : Int32) (me : gM) : Option (Int32) :=
  ob (f_X2_partIn_L5 me p1 p2 f_fuel 0 0) fun t13 =>
  ob (some t13.1) fun y3 =>
  ob (some t13.2) fun y4 =>
  some y3
def f_X2_unitsOf_L5 (me : gM) (p1 : Int32) (p2 : Int32) : Nat → Int32 → Int32 → Option (Int32 × Int32)
  | 0, _, _ => none
  | n + 1, x1, x2 =>
    if (me 13 8) ≤ x2 then
      some (x1, x2)
    else
      ob (f_X9_isMember p1 x2) fun r6 =>
      ob (if r6 = 0 then
          some x1
        else
          ob (a_ld 5 15 x2 me) fun v9 =>
          if v9 = p2 then
            ob (a_ld 5 17 x2 me) fun v11 =>
            ob (if v11 = 0 then
                ob (a_ld 5 19 x2 me) fun v14 =>
                some v14
              else
                ob (a_ld 5 19 x2 me) fun v15 =>
                some (-v15)) fun (z13 : Int32) =>
            ob (some (x1 + z13)) fun (x16 : Int32) =>
            some x16
          else
            some x1) fun (x8 : Int32) =>
      f_X2_unitsOf_L5 me p1 p2 n x8 (x2 + 1)
def f_X2_unitsOf (p1 : Int32) (p2 : Int32) (me : gM) : Option (Int32) :=
  ob (f_X2_unitsOf_L5 me p1 p2 f_fuel 0 0) fun t17 =>
  ob (some t17.1) fun y3 =>
  ob (some t17.2) fun y4 =>
  some y3
def f_X2_worthOf_L4 (me : gM) (p1 : Int32) : Nat → Int32 → Int32 → Option (Int32 × Int32)
  | 0, _, _ => none
  | n + 1, x1, x2 =>
    if (me 13 8) ≤ x2 then
      some (x1, x2)
    else
      ob (f_X9_isMember p1 x2) fun r6 =>
      ob (if r6 = 0 then
          some x1
        else
          ob (a_ld 5 18 x2 me) fun v9 =>
          ob (a_ld 5 19 x2 me) fun v10 =>
          ob (a_ld 5 16 x2 me) fun v11 =>
          ob (f_J6_bitCount_0f7a4 v11) fun r12 =>
          ob (some ((v9 * v10) * r12)) fun (x13 : Int32) =>
          ob (a_ld 5 17 x2 me) fun v14 =>
          ob (if v14 = 0 then
              some (-x13)
            else
              some x13) fun (z16 : Int32) =>
          ob (some (x1 + z16)) fun (x17 : Int32) =>
          some x17) fun (x8 : Int32) =>
      f_X2_worthOf_L4 me p1 n x8 (x2 + 1)
def f_X2_worthOf (p1 : Int32) (me : gM) : Option (Int32) :=
  ob (f_X2_worthOf_L4 me p1 f_fuel 0 0) fun t18 =>
  ob (some t18.1) fun y3 =>
  ob (some t18.2) fun y4 =>
  some y3
def f_X2_gainBy_L5 (a2 : Nat) (n2 : Nat) (me : gM) (p1 : Int32) : Nat → Int32 → Int32 → Option (Int32 × Int32)
  | 0, _, _ => none
  | n + 1, x1, x2 =>
    if 4 ≤ x2 then
      some (x1, x2)
    else
      ob (a_ld 5 16 p1 me) fun v6 =>
      ob (f_X9_isMember v6 x2) fun r7 =>
      ob (if r7 = 0 then
          some x1
        else
          ob (a_ld 5 15 p1 me) fun v10 =>
          ob (f_X9_spotOf v10 x2) fun r11 =>
          ob (a_ld n2 a2 r11 me) fun v12 =>
          ob (a_ld 5 18 p1 me) fun v13 =>
          ob (some (x1 + (v12 - v13))) fun (x14 : Int32) =>
          some x14) fun (x9 : Int32) =>
      f_X2_gainBy_L5 a2 n2 me p1 n x9 (x2 + 1)
def f_X2_gainBy (p1 : Int32) (n2 : Nat) (a2 : Nat) (me : gM) : Option (Int32) :=
  ob (f_X2_gainBy_L5 a2 n2 me p1 f_fuel 0 0) fun t18 =>
  ob (some t18.1) fun y3 =>
  ob (some t18.2) fun y4 =>
  ob (a_ld 5 17 p1 me) fun v15 =>
  ob (if v15 = 0 then
      some y3
    else
      some (-y3)) fun (z17 : Int32) =>
  some z17
def f_X2_hasLoser_L2 (a2 : Nat) (n2 : Nat) (me : gM) (p1 : Int32) : Nat → Int32 → Option ((Int32) ⊕ (Int32))
  | 0, _ => none
  | n + 1, x1 =>
    if (me 13 8) ≤ x1 then
      some (.inl x1)
    else
      ob (f_X9_isMember p1 x1) fun r4 =>
      if r4 = 0 then
        f_X2_hasLoser_L2 a2 n2 me p1 n (x1 + 1)
      else
        ob (f_X2_gainBy x1 n2 a2 me) fun r6 =>
        if 0 ≤ r6 then
          f_X2_hasLoser_L2 a2 n2 me p1 n (x1 + 1)
        else
          some (.inr 1)
def f_X2_hasLoser (p1 : Int32) (n2 : Nat) (a2 : Nat) (me : gM) : Option (Int32) :=
  oz (f_X2_hasLoser_L2 a2 n2 me p1 f_fuel 0) (fun w9 => some w9) fun y2 =>
  some 0
abbrev rmX2_add : Room := { frames := 0, cells := 0, slots := 0, locals := 0 }
set_option maxHeartbeats 4000000 in
set_option maxRecDepth 100000 in
theorem c_X2_add (l : Launch) (G : gG) {p1 : Int32} {p2 : Int32} {p3 : Int32} {p4 : Int32} {p5 : Int32} {p6 : Int32} {me : gM} {r0 : Int32} {m0 : gM}  (hf : f_X2_add p1 p2 p3 p4 p5 p6 me = some (r0, m0)) : Met l yX2_add wsX2_add rmX2_add (va_Pc [.ref (G.2.2.1 13), .int p1, .int p2, .int p3, .int p4, .int p5, .int p6] (g_W ZC G me)) (g_Qi ZC G r0 m0) 0 0 (g_A ZC G) := by
  refine Met.ofW (cc := cX2_add) (maxL := 8) (ret := (some .int)) (by decide) rfl ?_
  intro p e s m args below meth c s₁ B hml hv
  obtain ⟨rfl, hW0⟩ := hv
  have hC : CallFix p m c cX2_add 8 s ([.ref (G.2.2.1 13), .int p1, .int p2, .int p3, .int p4, .int p5, .int p6] : List Value).toArray wsX2_add RX2 := ⟨B.exec, B.bytes, hml, findClass_of_methodNamed B.named, atoms_spec (ws := wsX2_add) B.pre⟩
  have hx := hC.1
  have hb := hC.2.1
  have hown := hC.2.2.2.1
  have hts := hC.2.2.2.2
  have hr := B.returns
  have hlocks := B.notSynchronized
  have hW := g_H_enter hW0
  have hi2 : ∀ w ∈ wsX20, w ∈ wsX2_add := by decide +kernel
  have hl := lv_entry ([.ref (G.2.2.1 13), .int p1, .int p2, .int p3, .int p4, .int p5, .int p6]) (n := 8) (Nat.le_of_ble_eq_true rfl)
  rw [lg_entry_eq]
  generalize (lg_sl ([.ref (G.2.2.1 13), .int p1, .int p2, .int p3, .int p4, .int p5, .int p6]) ++ List.replicate (8 - (lg_sl ([.ref (G.2.2.1 13), .int p1, .int p2, .int p3, .int p4, .int p5, .int p6])).length) Slot.unset).toArray = ls at hl ⊢
  have hl : lv_has ls 8 [(0, .ref (G.2.2.1 13)), (1, .int p1), (2, .int p2), (3, .int p3), (4, .int p4), (5, .int p5), (6, .int p6)] := hl
  obtain ⟨Q, hQ⟩ : ∃ Q, Q = MQ below (g_Qi ZC G r0 m0) ([.ref (G.2.2.1 13), .int p1, .int p2, .int p3, .int p4, .int p5, .int p6] : List Value).toArray s 0 0 (g_A ZC G) := ⟨_, rfl⟩
  refine g_goQ hQ ?_
  unfold f_X2_add at hf
  refine g_start hW (fun H locs hW => ?_)
  refine lv_aload_n hx hb dX2_add_0 rfl (lv_at hl 0 rfl) ?_
  refine g_geti hC hW (o := 13) (ci := 2) (k := 8) zc_k13 zc_b13 rfl hi2 (by decide) rfl (by decide +kernel) dX2_add_1 ?_
  refine lv_iconst (v := 5) hx hb dX2_add_4 (by decide) ?_
  refine lv_icmp_lt (tgt := 10) hx hb dX2_add_5 (by decide) (fun c1 => ?_) (fun c1 => ?_)
  · have hf := a_if_t c1 hf
    refine lv_aload_n hx hb dX2_add_10 rfl (lv_at hl 0 rfl) ?_
    refine g_geti hC hW (o := 13) (ci := 2) (k := 8) zc_k13 zc_b13 rfl hi2 (by decide) rfl (by decide +kernel) dX2_add_11 ?_
    obtain ⟨x2, h9, hf⟩ := ob_inv hf
    refine g_nmi (Option.some.inj h9) ?_
    refine lv_istore (lv' := [(7, .int x2), (0, .ref (G.2.2.1 13)), (1, .int p1), (2, .int p2), (3, .int p3), (4, .int p4), (5, .int p5), (6, .int p6)]) hx hb dX2_add_14 hl (by decide) rfl (fun ls hl => ?_)
    refine lv_aload_n hx hb dX2_add_16 rfl (lv_at hl 1 rfl) ?_
    refine g_getr hC hW (o := 13) (ci := 2) (k := 0) zc_k13 zc_b13 rfl hi2 (by decide) rfl (t := 14) zc_r13_0 (by decide +kernel) dX2_add_17 ?_
    refine lv_iload hx hb dX2_add_20 (lv_at hl 0 rfl) ?_
    refine lv_iload_n hx hb dX2_add_22 rfl (lv_at hl 2 rfl) ?_
    obtain ⟨m3, h9, hf⟩ := ob_inv hf
    refine g_ist hC hW zc_k14 zc_b14 zc_n14 h9 dX2_add_23 (fun H locs hW => ?_)
    refine lv_aload_n hx hb dX2_add_24 rfl (lv_at hl 1 rfl) ?_
    refine g_getr hC hW (o := 13) (ci := 2) (k := 1) zc_k13 zc_b13 rfl hi2 (by decide) rfl (t := 15) zc_r13_1 (by decide +kernel) dX2_add_25 ?_
    refine lv_iload hx hb dX2_add_28 (lv_at hl 0 rfl) ?_
    refine lv_iload_n hx hb dX2_add_30 rfl (lv_at hl 3 rfl) ?_
    obtain ⟨m4, h9, hf⟩ := ob_inv hf
    refine g_ist hC hW zc_k15 zc_b15 zc_n15 h9 dX2_add_31 (fun H locs hW => ?_)
    refine lv_aload_n hx hb dX2_add_32 rfl (lv_at hl 1 rfl) ?_
    refine g_getr hC hW (o := 13) (ci := 2) (k := 2) zc_k13 zc_b13 rfl hi2 (by decide) rfl (t := 16) zc_r13_2 (by decide +kernel) dX2_add_33 ?_
    refine lv_iload hx hb dX2_add_36 (lv_at hl 0 rfl) ?_
    refine lv_iload_n hx hb dX2_add_38 rfl (lv_at hl 4 rfl) ?_
    obtain ⟨m5, h9, hf⟩ := ob_inv hf
    refine g_ist hC hW zc_k16 zc_b16 zc_n16 h9 dX2_add_39 (fun H locs hW => ?_)
    refine lv_aload_n hx hb dX2_add_40 rfl (lv_at hl 1 rfl) ?_
    refine g_getr hC hW (o := 13) (ci := 2) (k := 3) zc_k13 zc_b13 rfl hi2 (by decide) rfl (t := 17) zc_r13_3 (by decide +kernel) dX2_add_41 ?_
    refine lv_iload hx hb dX2_add_44 (lv_at hl 0 rfl) ?_
    refine lv_iload hx hb dX2_add_46 (lv_at hl 5 rfl) ?_
    obtain ⟨m6, h9, hf⟩ := ob_inv hf
    refine g_zst hC hW zc_k17 zc_b17 zc_n17 h9 dX2_add_48 (fun H locs hW => ?_)
    refine lv_aload_n hx hb dX2_add_49 rfl (lv_at hl 1 rfl) ?_
    refine g_getr hC hW (o := 13) (ci := 2) (k := 4) zc_k13 zc_b13 rfl hi2 (by decide) rfl (t := 18) zc_r13_4 (by decide +kernel) dX2_add_50 ?_
    refine lv_iload hx hb dX2_add_53 (lv_at hl 0 rfl) ?_
    refine lv_iload hx hb dX2_add_55 (lv_at hl 6 rfl) ?_
    obtain ⟨m7, h9, hf⟩ := ob_inv hf
    refine g_ist hC hW zc_k18 zc_b18 zc_n18 h9 dX2_add_57 (fun H locs hW => ?_)
    refine lv_aload_n hx hb dX2_add_58 rfl (lv_at hl 1 rfl) ?_
    refine g_getr hC hW (o := 13) (ci := 2) (k := 5) zc_k13 zc_b13 rfl hi2 (by decide) rfl (t := 19) zc_r13_5 (by decide +kernel) dX2_add_59 ?_
    refine lv_iload hx hb dX2_add_62 (lv_at hl 0 rfl) ?_
    refine lv_iload hx hb dX2_add_64 (lv_at hl 7 rfl) ?_
    obtain ⟨m8, h9, hf⟩ := ob_inv hf
    refine g_ist hC hW zc_k19 zc_b19 zc_n19 h9 dX2_add_66 (fun H locs hW => ?_)
    refine lv_aload_n hx hb dX2_add_67 rfl (lv_at hl 1 rfl) ?_
    refine g_getr hC hW (o := 13) (ci := 2) (k := 6) zc_k13 zc_b13 rfl hi2 (by decide) rfl (t := 20) zc_r13_6 (by decide +kernel) dX2_add_68 ?_
    refine lv_iload hx hb dX2_add_71 (lv_at hl 0 rfl) ?_
    refine lv_iconst (v := (-1)) hx hb dX2_add_73 (by decide) ?_
    obtain ⟨m9, h9, hf⟩ := ob_inv hf
    refine g_ist hC hW zc_k20 zc_b20 zc_n20 h9 dX2_add_74 (fun H locs hW => ?_)
    refine lv_aload_n hx hb dX2_add_75 rfl (lv_at hl 1 rfl) ?_
    refine g_getr hC hW (o := 13) (ci := 2) (k := 7) zc_k13 zc_b13 rfl hi2 (by decide) rfl (t := 21) zc_r13_7 (by decide +kernel) dX2_add_76 ?_
    refine lv_iload hx hb dX2_add_79 (lv_at hl 0 rfl) ?_
    refine lv_iconst (v := (-1)) hx hb dX2_add_81 (by decide) ?_
    obtain ⟨m10, h9, hf⟩ := ob_inv hf
    refine g_ist hC hW zc_k21 zc_b21 zc_n21 h9 dX2_add_82 (fun H locs hW => ?_)
    refine lv_aload_n hx hb dX2_add_83 rfl (lv_at hl 1 rfl) ?_
    refine lv_dup hx hb dX2_add_84 rfl ?_
    refine g_geti hC hW (o := 13) (ci := 2) (k := 8) zc_k13 zc_b13 rfl hi2 (by decide) rfl (by decide +kernel) dX2_add_85 ?_
    refine lv_iconst (v := 1) hx hb dX2_add_88 (by decide) ?_
    refine lv_iadd hx hb dX2_add_89 ?_
    obtain ⟨m11, h9, hf⟩ := ob_inv hf
    refine g_puti hC hW (o := 13) (ci := 2) (k := 8) zc_k13 zc_b13 rfl hi2 tyX2_ok nmX2 (by decide) rfl rfl rfl (by decide +kernel) dX2_add_90 (fun H locs hW => ?_)
    rw [Option.some.inj h9] at hW
    refine lv_iload hx hb dX2_add_93 (lv_at hl 0 rfl) ?_
    cases hf
    subst hQ
    exact g_iret hC hW hr hlocks rfl rfl dX2_add_95
  · have hf := a_if_f c1 hf
    refine lv_iconst (v := (-1)) hx hb dX2_add_8 (by decide) ?_
    cases hf
    subst hQ
    exact g_iret hC hW hr hlocks rfl rfl dX2_add_9
abbrev rmX2_isAllowed : Room := { frames := 1, cells := 0, slots := 0, locals := 21 }
set_option maxHeartbeats 4000000 in
set_option maxRecDepth 100000 in
theorem c_X2_isAllowed (l : Launch) (G : gG) {p1 : Int32} {me : gM} {r0 : Int32}  (hf : f_X2_isAllowed p1 me = some r0) : Met l yX2_isAllowed wsX2_isAllowed rmX2_isAllowed (va_Pc [.ref (G.2.2.1 13), .int p1] (g_W ZC G me)) (g_Qi ZC G r0 me) 0 0 (g_A ZC G) := by
  refine Met.ofW (cc := cX2_isAllowed) (maxL := 4) (ret := (some .boolean)) (by decide) rfl ?_
  intro p e s m args below meth c s₁ B hml hv
  obtain ⟨rfl, hW0⟩ := hv
  have hC : CallFix p m c cX2_isAllowed 4 s ([.ref (G.2.2.1 13), .int p1] : List Value).toArray wsX2_isAllowed RX2 := ⟨B.exec, B.bytes, hml, findClass_of_methodNamed B.named, atoms_spec (ws := wsX2_isAllowed) B.pre⟩
  have hx := hC.1
  have hb := hC.2.1
  have hown := hC.2.2.2.1
  have hts := hC.2.2.2.2
  have hr := B.returns
  have hlocks := B.notSynchronized
  have hW := g_H_enter hW0
  have hi2 : ∀ w ∈ wsX20, w ∈ wsX2_isAllowed := by decide +kernel
  have hl := lv_entry ([.ref (G.2.2.1 13), .int p1]) (n := 4) (Nat.le_of_ble_eq_true rfl)
  rw [lg_entry_eq]
  generalize (lg_sl ([.ref (G.2.2.1 13), .int p1]) ++ List.replicate (4 - (lg_sl ([.ref (G.2.2.1 13), .int p1])).length) Slot.unset).toArray = ls at hl ⊢
  have hl : lv_has ls 4 [(0, .ref (G.2.2.1 13)), (1, .int p1)] := hl
  obtain ⟨Q, hQ⟩ : ∃ Q, Q = MQ below (g_Qi ZC G r0 me) ([.ref (G.2.2.1 13), .int p1] : List Value).toArray s 0 0 (g_A ZC G) := ⟨_, rfl⟩
  refine g_goQ hQ ?_
  unfold f_X2_isAllowed at hf
  refine g_start hW (fun H locs hW => ?_)
  refine lv_iconst (v := 0) hx hb dX2_isAllowed_0 (by decide) ?_
  refine lv_istore_n (lv' := [(2, .int 0), (0, .ref (G.2.2.1 13)), (1, .int p1)]) hx hb dX2_isAllowed_1 rfl hl (by decide) rfl (fun ls hl => ?_)
  refine lv_iconst (v := 0) hx hb dX2_isAllowed_2 (by decide) ?_
  refine lv_istore_n (lv' := [(3, .int 0), (2, .int 0), (0, .ref (G.2.2.1 13)), (1, .int p1)]) hx hb dX2_isAllowed_3 rfl hl (by decide) rfl (fun ls hl => ?_)
  have hL4 : ∀ (n : Nat) (x1 : Int32) (x2 : Int32) (v9 : (Int32 × Int32) ⊕ (Int32)) (H : Heap) (locs : List Loc) (ls : Array Slot), f_X2_isAllowed_L4 me p1 n x1 x2 = some v9 → g_H ZC G s H locs me → lv_has ls 4 [(0, .ref (G.2.2.1 13)), (1, .int p1), (2, .int x1), (3, .int x2)] → (∀ (y3 : Int32) (y4 : Int32), v9 = .inl (y3, y4) → (∀ (H : Heap) (locs : List Loc) (ls : Array Slot), g_H ZC G s H locs me → lv_has ls 4 [] → W p l e (headSpec wsX2_isAllowed rmX2_isAllowed).room s m ([.ref (G.2.2.1 13), .int p1] : List Value).toArray below meth c H locs 0 0 Q (F0 m 90 ls []))) → (∀ w9, v9 = .inr w9 → w9 = r0) → W p l e (headSpec wsX2_isAllowed rmX2_isAllowed).room s m ([.ref (G.2.2.1 13), .int p1] : List Value).toArray below meth c H locs 0 0 Q (F0 m 4 ls []) := by
    intro n
    induction n with
    | zero =>
      intro x1 x2 v9 H locs ls hf hW hl hE hX
      cases hf
    | succ n ih =>
      intro x1 x2 v9 H locs ls hf hW hl hE hX
      rw [f_X2_isAllowed_L4] at hf
      refine lv_iload_n hx hb dX2_isAllowed_4 rfl (lv_at hl 3 rfl) ?_
      refine lv_aload_n hx hb dX2_isAllowed_5 rfl (lv_at hl 0 rfl) ?_
      refine g_geti hC hW (o := 13) (ci := 2) (k := 8) zc_k13 zc_b13 rfl hi2 (by decide) rfl (by decide +kernel) dX2_isAllowed_6 ?_
      refine lv_icmp_ge (tgt := 90) hx hb dX2_isAllowed_9 (by decide) (fun c5 => ?_) (fun c5 => ?_)
      · have hf := a_if_t c5 hf
        exact hE _ _ (Option.some.inj hf).symm H locs ls hW (lv_sub hl [] rfl)
      · have hf := a_if_f c5 hf
        refine lv_iload_n hx hb dX2_isAllowed_12 rfl (lv_at hl 1 rfl) ?_
        refine lv_iload_n hx hb dX2_isAllowed_13 rfl (lv_at hl 3 rfl) ?_
        obtain ⟨r6, hg, hf⟩ := ob_inv hf
        refine g_cNi hC hW (As := [.int p1, .int x2]) (rest := []) (host := "GridMarket") (c_X9_isMember l G  hg) ⟨va_cnB 2 hts gX2_isAllowed_X9_isMember_n44 rfl rfl rfl (hW.2.2.2.1 (RX2, 44, yX9_isMember) (by decide +kernel)) (hts _ (by decide +kernel : Cond.initialized RX9 ∈ wsX2_isAllowed)) (by decide +kernel) ⟨Nat.le_of_ble_eq_true rfl, Nat.le_of_ble_eq_true rfl⟩, hts _ (by decide +kernel : Cond.static yX9_isMember ∈ wsX2_isAllowed), trivial⟩ rfl hl.1 rfl (Nat.le_of_ble_eq_true rfl) dX2_isAllowed_14 ⟨Nat.le_of_ble_eq_true rfl, Nat.le_of_ble_eq_true rfl⟩ (fun H locs hW => ?_)
        refine lv_if_ne (tgt := 23) hx hb dX2_isAllowed_17 (by decide) (fun c7 => ?_) (fun c7 => ?_)
        · have hf := a_if_f c7 hf
          refine lv_aload_n hx hb dX2_isAllowed_23 rfl (lv_at hl 0 rfl) ?_
          refine g_getr hC hW (o := 13) (ci := 2) (k := 6) zc_k13 zc_b13 rfl hi2 (by decide) rfl (t := 20) zc_r13_6 (by decide +kernel) dX2_isAllowed_24 ?_
          refine lv_iload_n hx hb dX2_isAllowed_27 rfl (lv_at hl 3 rfl) ?_
          obtain ⟨v8, h9, hf⟩ := ob_inv hf
          refine g_ild hC hW zc_k20 zc_b20 zc_n20 h9 dX2_isAllowed_28 ?_
          refine lv_iconst (v := (-1)) hx hb dX2_isAllowed_29 (by decide) ?_
          refine lv_icmp_eq (tgt := 48) hx hb dX2_isAllowed_30 (by decide) (fun c9 => ?_) (fun c9 => ?_)
          · have hf := a_if_t c9 hf
            refine lv_aload_n hx hb dX2_isAllowed_48 rfl (lv_at hl 0 rfl) ?_
            refine g_getr hC hW (o := 13) (ci := 2) (k := 7) zc_k13 zc_b13 rfl hi2 (by decide) rfl (t := 21) zc_r13_7 (by decide +kernel) dX2_isAllowed_49 ?_
            refine lv_iload_n hx hb dX2_isAllowed_52 rfl (lv_at hl 3 rfl) ?_
            obtain ⟨v10, h9, hf⟩ := ob_inv hf
            refine g_ild hC hW zc_k21 zc_b21 zc_n21 h9 dX2_isAllowed_53 ?_
            refine lv_iconst (v := (-1)) hx hb dX2_isAllowed_54 (by decide) ?_
            refine lv_icmp_eq (tgt := 84) hx hb dX2_isAllowed_55 (by decide) (fun c11 => ?_) (fun c11 => ?_)
            · have hf := a_if_t c11 hf
              refine lv_iinc (v := (x2 + 1)) (lv' := [(3, .int (x2 + 1)), (0, .ref (G.2.2.1 13)), (1, .int p1), (2, .int x1)]) hx hb dX2_isAllowed_84 hl (k := 3) rfl (congrArg (fun z => x2 + z) (by decide)) (by decide) rfl (fun ls hl => ?_)
              refine lv_goto (tgt := 4) hx hb dX2_isAllowed_87 (by decide) ?_
              exact ih _ _ _ _ _ _ hf hW (lv_sub hl [1, 2, 3, 0] rfl) hE hX
            · have hf := a_if_f c11 hf
              refine lv_iload_n hx hb dX2_isAllowed_58 rfl (lv_at hl 2 rfl) ?_
              refine lv_aload_n hx hb dX2_isAllowed_59 rfl (lv_at hl 0 rfl) ?_
              refine g_getr hC hW (o := 13) (ci := 2) (k := 7) zc_k13 zc_b13 rfl hi2 (by decide) rfl (t := 21) zc_r13_7 (by decide +kernel) dX2_isAllowed_60 ?_
              refine lv_iload_n hx hb dX2_isAllowed_63 rfl (lv_at hl 3 rfl) ?_
              obtain ⟨v12, h9, hf⟩ := ob_inv hf
              refine g_ild hC hW zc_k21 zc_b21 zc_n21 h9 dX2_isAllowed_64 ?_
              obtain ⟨r13, hg, hf⟩ := ob_inv hf
              refine g_cNi hC hW (As := [.int x1, .int v12]) (rest := []) (host := "GridMarket") (c_X9_isMember l G  hg) ⟨va_cnB 2 hts gX2_isAllowed_X9_isMember_n44 rfl rfl rfl (hW.2.2.2.1 (RX2, 44, yX9_isMember) (by decide +kernel)) (hts _ (by decide +kernel : Cond.initialized RX9 ∈ wsX2_isAllowed)) (by decide +kernel) ⟨Nat.le_of_ble_eq_true rfl, Nat.le_of_ble_eq_true rfl⟩, hts _ (by decide +kernel : Cond.static yX9_isMember ∈ wsX2_isAllowed), trivial⟩ rfl hl.1 rfl (Nat.le_of_ble_eq_true rfl) dX2_isAllowed_65 ⟨Nat.le_of_ble_eq_true rfl, Nat.le_of_ble_eq_true rfl⟩ (fun H locs hW => ?_)
              refine lv_if_eq (tgt := 73) hx hb dX2_isAllowed_68 (by decide) (fun c14 => ?_) (fun c14 => ?_)
              · have hf := a_if_t c14 hf
                refine lv_iload_n hx hb dX2_isAllowed_73 rfl (lv_at hl 2 rfl) ?_
                refine lv_iconst (v := 1) hx hb dX2_isAllowed_74 (by decide) ?_
                refine lv_aload_n hx hb dX2_isAllowed_75 rfl (lv_at hl 0 rfl) ?_
                refine g_getr hC hW (o := 13) (ci := 2) (k := 7) zc_k13 zc_b13 rfl hi2 (by decide) rfl (t := 21) zc_r13_7 (by decide +kernel) dX2_isAllowed_76 ?_
                refine lv_iload_n hx hb dX2_isAllowed_79 rfl (lv_at hl 3 rfl) ?_
                obtain ⟨v15, h9, hf⟩ := ob_inv hf
                refine g_ild hC hW zc_k21 zc_b21 zc_n21 h9 dX2_isAllowed_80 ?_
                refine lv_ishl hx hb dX2_isAllowed_81 ?_
                refine lv_ior hx hb dX2_isAllowed_82 ?_
                obtain ⟨x16, h9, hf⟩ := ob_inv hf
                refine g_nmi (Option.some.inj h9) ?_
                refine lv_istore_n (lv' := [(2, .int x16), (0, .ref (G.2.2.1 13)), (1, .int p1), (3, .int x2)]) hx hb dX2_isAllowed_83 rfl hl (by decide) rfl (fun ls hl => ?_)
                refine lv_iinc (v := (x2 + 1)) (lv' := [(3, .int (x2 + 1)), (2, .int x16), (0, .ref (G.2.2.1 13)), (1, .int p1)]) hx hb dX2_isAllowed_84 hl (k := 3) rfl (congrArg (fun z => x2 + z) (by decide)) (by decide) rfl (fun ls hl => ?_)
                refine lv_goto (tgt := 4) hx hb dX2_isAllowed_87 (by decide) ?_
                exact ih _ _ _ _ _ _ hf hW (lv_sub hl [2, 3, 1, 0] rfl) hE hX
              · have hf := a_if_f c14 hf
                refine lv_iconst (v := 0) hx hb dX2_isAllowed_71 (by decide) ?_
                have hq := hX _ (Option.some.inj hf).symm
                cases hq
                subst hQ
                exact g_zret hC hW hr hlocks rfl rfl rfl dX2_isAllowed_72
          · have hf := a_if_f c9 hf
            refine lv_iload_n hx hb dX2_isAllowed_33 rfl (lv_at hl 1 rfl) ?_
            refine lv_aload_n hx hb dX2_isAllowed_34 rfl (lv_at hl 0 rfl) ?_
            refine g_getr hC hW (o := 13) (ci := 2) (k := 6) zc_k13 zc_b13 rfl hi2 (by decide) rfl (t := 20) zc_r13_6 (by decide +kernel) dX2_isAllowed_35 ?_
            refine lv_iload_n hx hb dX2_isAllowed_38 rfl (lv_at hl 3 rfl) ?_
            obtain ⟨v17, h9, hf⟩ := ob_inv hf
            refine g_ild hC hW zc_k20 zc_b20 zc_n20 h9 dX2_isAllowed_39 ?_
            obtain ⟨r18, hg, hf⟩ := ob_inv hf
            refine g_cNi hC hW (As := [.int p1, .int v17]) (rest := []) (host := "GridMarket") (c_X9_isMember l G  hg) ⟨va_cnB 2 hts gX2_isAllowed_X9_isMember_n44 rfl rfl rfl (hW.2.2.2.1 (RX2, 44, yX9_isMember) (by decide +kernel)) (hts _ (by decide +kernel : Cond.initialized RX9 ∈ wsX2_isAllowed)) (by decide +kernel) ⟨Nat.le_of_ble_eq_true rfl, Nat.le_of_ble_eq_true rfl⟩, hts _ (by decide +kernel : Cond.static yX9_isMember ∈ wsX2_isAllowed), trivial⟩ rfl hl.1 rfl (Nat.le_of_ble_eq_true rfl) dX2_isAllowed_40 ⟨Nat.le_of_ble_eq_true rfl, Nat.le_of_ble_eq_true rfl⟩ (fun H locs hW => ?_)
            refine lv_if_ne (tgt := 48) hx hb dX2_isAllowed_43 (by decide) (fun c19 => ?_) (fun c19 => ?_)
            · have hf := a_if_f c19 hf
              refine lv_aload_n hx hb dX2_isAllowed_48 rfl (lv_at hl 0 rfl) ?_
              refine g_getr hC hW (o := 13) (ci := 2) (k := 7) zc_k13 zc_b13 rfl hi2 (by decide) rfl (t := 21) zc_r13_7 (by decide +kernel) dX2_isAllowed_49 ?_
              refine lv_iload_n hx hb dX2_isAllowed_52 rfl (lv_at hl 3 rfl) ?_
              obtain ⟨v20, h9, hf⟩ := ob_inv hf
              refine g_ild hC hW zc_k21 zc_b21 zc_n21 h9 dX2_isAllowed_53 ?_
              refine lv_iconst (v := (-1)) hx hb dX2_isAllowed_54 (by decide) ?_
              refine lv_icmp_eq (tgt := 84) hx hb dX2_isAllowed_55 (by decide) (fun c21 => ?_) (fun c21 => ?_)
              · have hf := a_if_t c21 hf
                refine lv_iinc (v := (x2 + 1)) (lv' := [(3, .int (x2 + 1)), (0, .ref (G.2.2.1 13)), (1, .int p1), (2, .int x1)]) hx hb dX2_isAllowed_84 hl (k := 3) rfl (congrArg (fun z => x2 + z) (by decide)) (by decide) rfl (fun ls hl => ?_)
                refine lv_goto (tgt := 4) hx hb dX2_isAllowed_87 (by decide) ?_
                exact ih _ _ _ _ _ _ hf hW (lv_sub hl [1, 2, 3, 0] rfl) hE hX
              · have hf := a_if_f c21 hf
                refine lv_iload_n hx hb dX2_isAllowed_58 rfl (lv_at hl 2 rfl) ?_
                refine lv_aload_n hx hb dX2_isAllowed_59 rfl (lv_at hl 0 rfl) ?_
                refine g_getr hC hW (o := 13) (ci := 2) (k := 7) zc_k13 zc_b13 rfl hi2 (by decide) rfl (t := 21) zc_r13_7 (by decide +kernel) dX2_isAllowed_60 ?_
                refine lv_iload_n hx hb dX2_isAllowed_63 rfl (lv_at hl 3 rfl) ?_
                obtain ⟨v22, h9, hf⟩ := ob_inv hf
                refine g_ild hC hW zc_k21 zc_b21 zc_n21 h9 dX2_isAllowed_64 ?_
                obtain ⟨r23, hg, hf⟩ := ob_inv hf
                refine g_cNi hC hW (As := [.int x1, .int v22]) (rest := []) (host := "GridMarket") (c_X9_isMember l G  hg) ⟨va_cnB 2 hts gX2_isAllowed_X9_isMember_n44 rfl rfl rfl (hW.2.2.2.1 (RX2, 44, yX9_isMember) (by decide +kernel)) (hts _ (by decide +kernel : Cond.initialized RX9 ∈ wsX2_isAllowed)) (by decide +kernel) ⟨Nat.le_of_ble_eq_true rfl, Nat.le_of_ble_eq_true rfl⟩, hts _ (by decide +kernel : Cond.static yX9_isMember ∈ wsX2_isAllowed), trivial⟩ rfl hl.1 rfl (Nat.le_of_ble_eq_true rfl) dX2_isAllowed_65 ⟨Nat.le_of_ble_eq_true rfl, Nat.le_of_ble_eq_true rfl⟩ (fun H locs hW => ?_)
                refine lv_if_eq (tgt := 73) hx hb dX2_isAllowed_68 (by decide) (fun c24 => ?_) (fun c24 => ?_)
                · have hf := a_if_t c24 hf
                  refine lv_iload_n hx hb dX2_isAllowed_73 rfl (lv_at hl 2 rfl) ?_
                  refine lv_iconst (v := 1) hx hb dX2_isAllowed_74 (by decide) ?_
                  refine lv_aload_n hx hb dX2_isAllowed_75 rfl (lv_at hl 0 rfl) ?_
                  refine g_getr hC hW (o := 13) (ci := 2) (k := 7) zc_k13 zc_b13 rfl hi2 (by decide) rfl (t := 21) zc_r13_7 (by decide +kernel) dX2_isAllowed_76 ?_
                  refine lv_iload_n hx hb dX2_isAllowed_79 rfl (lv_at hl 3 rfl) ?_
                  obtain ⟨v25, h9, hf⟩ := ob_inv hf
                  refine g_ild hC hW zc_k21 zc_b21 zc_n21 h9 dX2_isAllowed_80 ?_
                  refine lv_ishl hx hb dX2_isAllowed_81 ?_
                  refine lv_ior hx hb dX2_isAllowed_82 ?_
                  obtain ⟨x26, h9, hf⟩ := ob_inv hf
                  refine g_nmi (Option.some.inj h9) ?_
                  refine lv_istore_n (lv' := [(2, .int x26), (0, .ref (G.2.2.1 13)), (1, .int p1), (3, .int x2)]) hx hb dX2_isAllowed_83 rfl hl (by decide) rfl (fun ls hl => ?_)
                  refine lv_iinc (v := (x2 + 1)) (lv' := [(3, .int (x2 + 1)), (2, .int x26), (0, .ref (G.2.2.1 13)), (1, .int p1)]) hx hb dX2_isAllowed_84 hl (k := 3) rfl (congrArg (fun z => x2 + z) (by decide)) (by decide) rfl (fun ls hl => ?_)
                  refine lv_goto (tgt := 4) hx hb dX2_isAllowed_87 (by decide) ?_
                  exact ih _ _ _ _ _ _ hf hW (lv_sub hl [2, 3, 1, 0] rfl) hE hX
                · have hf := a_if_f c24 hf
                  refine lv_iconst (v := 0) hx hb dX2_isAllowed_71 (by decide) ?_
                  have hq := hX _ (Option.some.inj hf).symm
                  cases hq
                  subst hQ
                  exact g_zret hC hW hr hlocks rfl rfl rfl dX2_isAllowed_72
            · have hf := a_if_t c19 hf
              refine lv_iconst (v := 0) hx hb dX2_isAllowed_46 (by decide) ?_
              have hq := hX _ (Option.some.inj hf).symm
              cases hq
              subst hQ
              exact g_zret hC hW hr hlocks rfl rfl rfl dX2_isAllowed_47
        · have hf := a_if_t c7 hf
          refine lv_goto (tgt := 84) hx hb dX2_isAllowed_20 (by decide) ?_
          refine lv_iinc (v := (x2 + 1)) (lv' := [(3, .int (x2 + 1)), (0, .ref (G.2.2.1 13)), (1, .int p1), (2, .int x1)]) hx hb dX2_isAllowed_84 hl (k := 3) rfl (congrArg (fun z => x2 + z) (by decide)) (by decide) rfl (fun ls hl => ?_)
          refine lv_goto (tgt := 4) hx hb dX2_isAllowed_87 (by decide) ?_
          exact ih _ _ _ _ _ _ hf hW (lv_sub hl [1, 2, 3, 0] rfl) hE hX
  obtain ⟨v9, hg, hfl, hfr⟩ := oz_inv hf
  refine hL4 _ _ _ v9 _ _ _ hg hW (lv_sub hl [2, 3, 1, 0] rfl) (fun y3 y4 hv9 H locs ls hW hl => ?_) (fun w9 hw9 => Option.some.inj (hfr w9 hw9))
  have hf := hfl _ hv9
  have hf := ob_inv2 hf
  refine lv_iconst (v := 1) hx hb dX2_isAllowed_90 (by decide) ?_
  cases hf
  subst hQ
  exact g_zret hC hW hr hlocks rfl rfl rfl dX2_isAllowed_91
abbrev rmX2_partIn : Room := { frames := 1, cells := 0, slots := 0, locals := 21 }
set_option maxHeartbeats 4000000 in
set_option maxRecDepth 100000 in
theorem c_X2_partIn (l : Launch) (G : gG) {p1 : Int32} {p2 : Int32} {me : gM} {r0 : Int32}  (hf : f_X2_partIn p1 p2 me = some r0) : Met l yX2_partIn wsX2_partIn rmX2_partIn (va_Pc [.ref (G.2.2.1 13), .int p1, .int p2] (g_W ZC G me)) (g_Qi ZC G r0 me) 0 0 (g_A ZC G) := by
  refine Met.ofW (cc := cX2_partIn) (maxL := 5) (ret := (some .int)) (by decide) rfl ?_
  intro p e s m args below meth c s₁ B hml hv
  obtain ⟨rfl, hW0⟩ := hv
  have hC : CallFix p m c cX2_partIn 5 s ([.ref (G.2.2.1 13), .int p1, .int p2] : List Value).toArray wsX2_partIn RX2 := ⟨B.exec, B.bytes, hml, findClass_of_methodNamed B.named, atoms_spec (ws := wsX2_partIn) B.pre⟩
  have hx := hC.1
  have hb := hC.2.1
  have hown := hC.2.2.2.1
  have hts := hC.2.2.2.2
  have hr := B.returns
  have hlocks := B.notSynchronized
  have hW := g_H_enter hW0
  have hi2 : ∀ w ∈ wsX20, w ∈ wsX2_partIn := by decide +kernel
  have hl := lv_entry ([.ref (G.2.2.1 13), .int p1, .int p2]) (n := 5) (Nat.le_of_ble_eq_true rfl)
  rw [lg_entry_eq]
  generalize (lg_sl ([.ref (G.2.2.1 13), .int p1, .int p2]) ++ List.replicate (5 - (lg_sl ([.ref (G.2.2.1 13), .int p1, .int p2])).length) Slot.unset).toArray = ls at hl ⊢
  have hl : lv_has ls 5 [(0, .ref (G.2.2.1 13)), (1, .int p1), (2, .int p2)] := hl
  obtain ⟨Q, hQ⟩ : ∃ Q, Q = MQ below (g_Qi ZC G r0 me) ([.ref (G.2.2.1 13), .int p1, .int p2] : List Value).toArray s 0 0 (g_A ZC G) := ⟨_, rfl⟩
  refine g_goQ hQ ?_
  unfold f_X2_partIn at hf
  refine g_start hW (fun H locs hW => ?_)
  refine lv_iconst (v := 0) hx hb dX2_partIn_0 (by decide) ?_
  refine lv_istore_n (lv' := [(3, .int 0), (0, .ref (G.2.2.1 13)), (1, .int p1), (2, .int p2)]) hx hb dX2_partIn_1 rfl hl (by decide) rfl (fun ls hl => ?_)
  refine lv_iconst (v := 0) hx hb dX2_partIn_2 (by decide) ?_
  refine lv_istore (lv' := [(4, .int 0), (3, .int 0), (0, .ref (G.2.2.1 13)), (1, .int p1), (2, .int p2)]) hx hb dX2_partIn_3 hl (by decide) rfl (fun ls hl => ?_)
  have hL5 : ∀ (n : Nat) (x1 : Int32) (x2 : Int32) (y3 : Int32) (y4 : Int32) (H : Heap) (locs : List Loc) (ls : Array Slot), f_X2_partIn_L5 me p1 p2 n x1 x2 = some (y3, y4) → g_H ZC G s H locs me → lv_has ls 5 [(0, .ref (G.2.2.1 13)), (1, .int p1), (2, .int p2), (3, .int x1), (4, .int x2)] → (∀ (H : Heap) (locs : List Loc) (ls : Array Slot), g_H ZC G s H locs me → lv_has ls 5 [(3, .int y3)] → W p l e (headSpec wsX2_partIn rmX2_partIn).room s m ([.ref (G.2.2.1 13), .int p1, .int p2] : List Value).toArray below meth c H locs 0 0 Q (F0 m 50 ls [])) → W p l e (headSpec wsX2_partIn rmX2_partIn).room s m ([.ref (G.2.2.1 13), .int p1, .int p2] : List Value).toArray below meth c H locs 0 0 Q (F0 m 5 ls []) := by
    intro n
    induction n with
    | zero =>
      intro x1 x2 y3 y4 H locs ls hf hW hl hE
      cases hf
    | succ n ih =>
      intro x1 x2 y3 y4 H locs ls hf hW hl hE
      rw [f_X2_partIn_L5] at hf
      refine lv_iload hx hb dX2_partIn_5 (lv_at hl 4 rfl) ?_
      refine lv_aload_n hx hb dX2_partIn_7 rfl (lv_at hl 0 rfl) ?_
      refine g_geti hC hW (o := 13) (ci := 2) (k := 8) zc_k13 zc_b13 rfl hi2 (by decide) rfl (by decide +kernel) dX2_partIn_8 ?_
      refine lv_icmp_ge (tgt := 50) hx hb dX2_partIn_11 (by decide) (fun c5 => ?_) (fun c5 => ?_)
      · have hf := a_if_t c5 hf
        cases hf
        exact hE H locs ls hW (lv_sub hl [3] rfl)
      · have hf := a_if_f c5 hf
        refine lv_iload_n hx hb dX2_partIn_14 rfl (lv_at hl 1 rfl) ?_
        refine lv_iload hx hb dX2_partIn_15 (lv_at hl 4 rfl) ?_
        obtain ⟨r6, hg, hf⟩ := ob_inv hf
        refine g_cNi hC hW (As := [.int p1, .int x2]) (rest := []) (host := "GridMarket") (c_X9_isMember l G  hg) ⟨va_cnB 2 hts gX2_partIn_X9_isMember_n44 rfl rfl rfl (hW.2.2.2.1 (RX2, 44, yX9_isMember) (by decide +kernel)) (hts _ (by decide +kernel : Cond.initialized RX9 ∈ wsX2_partIn)) (by decide +kernel) ⟨Nat.le_of_ble_eq_true rfl, Nat.le_of_ble_eq_true rfl⟩, hts _ (by decide +kernel : Cond.static yX9_isMember ∈ wsX2_partIn), trivial⟩ rfl hl.1 rfl (Nat.le_of_ble_eq_true rfl) dX2_partIn_17 ⟨Nat.le_of_ble_eq_true rfl, Nat.le_of_ble_eq_true rfl⟩ (fun H locs hW => ?_)
        obtain ⟨x8, hg, hf⟩ := ob_inv hf
        have hJ44 : ∀ (H : Heap) (locs : List Loc) (ls : Array Slot), g_H ZC G s H locs me → lv_has ls 5 [(0, .ref (G.2.2.1 13)), (1, .int p1), (2, .int p2), (3, .int x8), (4, .int x2)] → W p l e (headSpec wsX2_partIn rmX2_partIn).room s m ([.ref (G.2.2.1 13), .int p1, .int p2] : List Value).toArray below meth c H locs 0 0 Q (F0 m 44 ls []) := by
          intro H locs ls hW hl
          refine lv_iinc (v := (x2 + 1)) (lv' := [(4, .int (x2 + 1)), (0, .ref (G.2.2.1 13)), (1, .int p1), (2, .int p2), (3, .int x8)]) hx hb dX2_partIn_44 hl (k := 4) rfl (congrArg (fun z => x2 + z) (by decide)) (by decide) rfl (fun ls hl => ?_)
          refine lv_goto (tgt := 5) hx hb dX2_partIn_47 (by decide) ?_
          exact ih _ _ _ _ _ _ _ hf hW (lv_sub hl [1, 2, 3, 4, 0] rfl) hE
        replace hf := hg
        refine lv_if_eq (tgt := 44) hx hb dX2_partIn_20 (by decide) (fun c7 => ?_) (fun c7 => ?_)
        · have hf := a_if_t c7 hf
          cases hf
          exact hJ44 H locs ls hW (lv_sub hl [0, 1, 2, 3, 4] rfl)
        · have hf := a_if_f c7 hf
          refine lv_aload_n hx hb dX2_partIn_23 rfl (lv_at hl 0 rfl) ?_
          refine g_getr hC hW (o := 13) (ci := 2) (k := 2) zc_k13 zc_b13 rfl hi2 (by decide) rfl (t := 16) zc_r13_2 (by decide +kernel) dX2_partIn_24 ?_
          refine lv_iload hx hb dX2_partIn_27 (lv_at hl 4 rfl) ?_
          obtain ⟨v9, h9, hf⟩ := ob_inv hf
          refine g_ild hC hW zc_k16 zc_b16 zc_n16 h9 dX2_partIn_29 ?_
          refine lv_iload_n hx hb dX2_partIn_30 rfl (lv_at hl 2 rfl) ?_
          obtain ⟨r10, hg, hf⟩ := ob_inv hf
          refine g_cNi hC hW (As := [.int v9, .int p2]) (rest := []) (host := "GridMarket") (c_X9_isMember l G  hg) ⟨va_cnB 2 hts gX2_partIn_X9_isMember_n44 rfl rfl rfl (hW.2.2.2.1 (RX2, 44, yX9_isMember) (by decide +kernel)) (hts _ (by decide +kernel : Cond.initialized RX9 ∈ wsX2_partIn)) (by decide +kernel) ⟨Nat.le_of_ble_eq_true rfl, Nat.le_of_ble_eq_true rfl⟩, hts _ (by decide +kernel : Cond.static yX9_isMember ∈ wsX2_partIn), trivial⟩ rfl hl.1 rfl (Nat.le_of_ble_eq_true rfl) dX2_partIn_31 ⟨Nat.le_of_ble_eq_true rfl, Nat.le_of_ble_eq_true rfl⟩ (fun H locs hW => ?_)
          refine lv_if_eq (tgt := 44) hx hb dX2_partIn_34 (by decide) (fun c11 => ?_) (fun c11 => ?_)
          · have hf := a_if_t c11 hf
            cases hf
            exact hJ44 H locs ls hW (lv_sub hl [0, 1, 2, 3, 4] rfl)
          · have hf := a_if_f c11 hf
            refine lv_iload_n hx hb dX2_partIn_37 rfl (lv_at hl 3 rfl) ?_
            refine lv_iconst (v := 1) hx hb dX2_partIn_38 (by decide) ?_
            refine lv_iload hx hb dX2_partIn_39 (lv_at hl 4 rfl) ?_
            refine lv_ishl hx hb dX2_partIn_41 ?_
            refine lv_ior hx hb dX2_partIn_42 ?_
            obtain ⟨x12, h9, hf⟩ := ob_inv hf
            refine g_nmi (Option.some.inj h9) ?_
            refine lv_istore_n (lv' := [(3, .int x12), (0, .ref (G.2.2.1 13)), (1, .int p1), (2, .int p2), (4, .int x2)]) hx hb dX2_partIn_43 rfl hl (by decide) rfl (fun ls hl => ?_)
            cases hf
            exact hJ44 H locs ls hW (lv_sub hl [1, 2, 3, 0, 4] rfl)
  obtain ⟨⟨y3, y4⟩, hg, hf⟩ := ob_inv hf
  have hf := ob_inv2 hf
  refine hL5 _ _ _ _ _ _ _ _ hg hW (lv_sub hl [2, 3, 4, 1, 0] rfl) (fun H locs ls hW hl => ?_)
  refine lv_iload_n hx hb dX2_partIn_50 rfl (lv_at hl 0 rfl) ?_
  cases hf
  subst hQ
  exact g_iret hC hW hr hlocks rfl rfl dX2_partIn_51
abbrev rmX2_unitsOf : Room := { frames := 1, cells := 0, slots := 0, locals := 21 }
set_option maxHeartbeats 4000000 in
set_option maxRecDepth 100000 in
theorem c_X2_unitsOf (l : Launch) (G : gG) {p1 : Int32} {p2 : Int32} {me : gM} {r0 : Int32}  (hf : f_X2_unitsOf p1 p2 me = some r0) : Met l yX2_unitsOf wsX2_unitsOf rmX2_unitsOf (va_Pc [.ref (G.2.2.1 13), .int p1, .int p2] (g_W ZC G me)) (g_Qi ZC G r0 me) 0 0 (g_A ZC G) := by
  refine Met.ofW (cc := cX2_unitsOf) (maxL := 5) (ret := (some .int)) (by decide) rfl ?_
  intro p e s m args below meth c s₁ B hml hv
  obtain ⟨rfl, hW0⟩ := hv
  have hC : CallFix p m c cX2_unitsOf 5 s ([.ref (G.2.2.1 13), .int p1, .int p2] : List Value).toArray wsX2_unitsOf RX2 := ⟨B.exec, B.bytes, hml, findClass_of_methodNamed B.named, atoms_spec (ws := wsX2_unitsOf) B.pre⟩
  have hx := hC.1
  have hb := hC.2.1
  have hown := hC.2.2.2.1
  have hts := hC.2.2.2.2
  have hr := B.returns
  have hlocks := B.notSynchronized
  have hW := g_H_enter hW0
  have hi2 : ∀ w ∈ wsX20, w ∈ wsX2_unitsOf := by decide +kernel
  have hl := lv_entry ([.ref (G.2.2.1 13), .int p1, .int p2]) (n := 5) (Nat.le_of_ble_eq_true rfl)
  rw [lg_entry_eq]
  generalize (lg_sl ([.ref (G.2.2.1 13), .int p1, .int p2]) ++ List.replicate (5 - (lg_sl ([.ref (G.2.2.1 13), .int p1, .int p2])).length) Slot.unset).toArray = ls at hl ⊢
  have hl : lv_has ls 5 [(0, .ref (G.2.2.1 13)), (1, .int p1), (2, .int p2)] := hl
  obtain ⟨Q, hQ⟩ : ∃ Q, Q = MQ below (g_Qi ZC G r0 me) ([.ref (G.2.2.1 13), .int p1, .int p2] : List Value).toArray s 0 0 (g_A ZC G) := ⟨_, rfl⟩
  refine g_goQ hQ ?_
  unfold f_X2_unitsOf at hf
  refine g_start hW (fun H locs hW => ?_)
  refine lv_iconst (v := 0) hx hb dX2_unitsOf_0 (by decide) ?_
  refine lv_istore_n (lv' := [(3, .int 0), (0, .ref (G.2.2.1 13)), (1, .int p1), (2, .int p2)]) hx hb dX2_unitsOf_1 rfl hl (by decide) rfl (fun ls hl => ?_)
  refine lv_iconst (v := 0) hx hb dX2_unitsOf_2 (by decide) ?_
  refine lv_istore (lv' := [(4, .int 0), (3, .int 0), (0, .ref (G.2.2.1 13)), (1, .int p1), (2, .int p2)]) hx hb dX2_unitsOf_3 hl (by decide) rfl (fun ls hl => ?_)
  have hL5 : ∀ (n : Nat) (x1 : Int32) (x2 : Int32) (y3 : Int32) (y4 : Int32) (H : Heap) (locs : List Loc) (ls : Array Slot), f_X2_unitsOf_L5 me p1 p2 n x1 x2 = some (y3, y4) → g_H ZC G s H locs me → lv_has ls 5 [(0, .ref (G.2.2.1 13)), (1, .int p1), (2, .int p2), (3, .int x1), (4, .int x2)] → (∀ (H : Heap) (locs : List Loc) (ls : Array Slot), g_H ZC G s H locs me → lv_has ls 5 [(3, .int y3)] → W p l e (headSpec wsX2_unitsOf rmX2_unitsOf).room s m ([.ref (G.2.2.1 13), .int p1, .int p2] : List Value).toArray below meth c H locs 0 0 Q (F0 m 71 ls [])) → W p l e (headSpec wsX2_unitsOf rmX2_unitsOf).room s m ([.ref (G.2.2.1 13), .int p1, .int p2] : List Value).toArray below meth c H locs 0 0 Q (F0 m 5 ls []) := by
    intro n
    induction n with
    | zero =>
      intro x1 x2 y3 y4 H locs ls hf hW hl hE
      cases hf
    | succ n ih =>
      intro x1 x2 y3 y4 H locs ls hf hW hl hE
      rw [f_X2_unitsOf_L5] at hf
      refine lv_iload hx hb dX2_unitsOf_5 (lv_at hl 4 rfl) ?_
      refine lv_aload_n hx hb dX2_unitsOf_7 rfl (lv_at hl 0 rfl) ?_
      refine g_geti hC hW (o := 13) (ci := 2) (k := 8) zc_k13 zc_b13 rfl hi2 (by decide) rfl (by decide +kernel) dX2_unitsOf_8 ?_
      refine lv_icmp_ge (tgt := 71) hx hb dX2_unitsOf_11 (by decide) (fun c5 => ?_) (fun c5 => ?_)
      · have hf := a_if_t c5 hf
        cases hf
        exact hE H locs ls hW (lv_sub hl [3] rfl)
      · have hf := a_if_f c5 hf
        refine lv_iload_n hx hb dX2_unitsOf_14 rfl (lv_at hl 1 rfl) ?_
        refine lv_iload hx hb dX2_unitsOf_15 (lv_at hl 4 rfl) ?_
        obtain ⟨r6, hg, hf⟩ := ob_inv hf
        refine g_cNi hC hW (As := [.int p1, .int x2]) (rest := []) (host := "GridMarket") (c_X9_isMember l G  hg) ⟨va_cnB 2 hts gX2_unitsOf_X9_isMember_n44 rfl rfl rfl (hW.2.2.2.1 (RX2, 44, yX9_isMember) (by decide +kernel)) (hts _ (by decide +kernel : Cond.initialized RX9 ∈ wsX2_unitsOf)) (by decide +kernel) ⟨Nat.le_of_ble_eq_true rfl, Nat.le_of_ble_eq_true rfl⟩, hts _ (by decide +kernel : Cond.static yX9_isMember ∈ wsX2_unitsOf), trivial⟩ rfl hl.1 rfl (Nat.le_of_ble_eq_true rfl) dX2_unitsOf_17 ⟨Nat.le_of_ble_eq_true rfl, Nat.le_of_ble_eq_true rfl⟩ (fun H locs hW => ?_)
        obtain ⟨x8, hg, hf⟩ := ob_inv hf
        have hJ65 : ∀ (H : Heap) (locs : List Loc) (ls : Array Slot), g_H ZC G s H locs me → lv_has ls 5 [(0, .ref (G.2.2.1 13)), (1, .int p1), (2, .int p2), (3, .int x8), (4, .int x2)] → W p l e (headSpec wsX2_unitsOf rmX2_unitsOf).room s m ([.ref (G.2.2.1 13), .int p1, .int p2] : List Value).toArray below meth c H locs 0 0 Q (F0 m 65 ls []) := by
          intro H locs ls hW hl
          refine lv_iinc (v := (x2 + 1)) (lv' := [(4, .int (x2 + 1)), (0, .ref (G.2.2.1 13)), (1, .int p1), (2, .int p2), (3, .int x8)]) hx hb dX2_unitsOf_65 hl (k := 4) rfl (congrArg (fun z => x2 + z) (by decide)) (by decide) rfl (fun ls hl => ?_)
          refine lv_goto (tgt := 5) hx hb dX2_unitsOf_68 (by decide) ?_
          exact ih _ _ _ _ _ _ _ hf hW (lv_sub hl [1, 2, 3, 4, 0] rfl) hE
        replace hf := hg
        refine lv_if_eq (tgt := 65) hx hb dX2_unitsOf_20 (by decide) (fun c7 => ?_) (fun c7 => ?_)
        · have hf := a_if_t c7 hf
          cases hf
          exact hJ65 H locs ls hW (lv_sub hl [0, 1, 2, 3, 4] rfl)
        · have hf := a_if_f c7 hf
          refine lv_aload_n hx hb dX2_unitsOf_23 rfl (lv_at hl 0 rfl) ?_
          refine g_getr hC hW (o := 13) (ci := 2) (k := 1) zc_k13 zc_b13 rfl hi2 (by decide) rfl (t := 15) zc_r13_1 (by decide +kernel) dX2_unitsOf_24 ?_
          refine lv_iload hx hb dX2_unitsOf_27 (lv_at hl 4 rfl) ?_
          obtain ⟨v9, h9, hf⟩ := ob_inv hf
          refine g_ild hC hW zc_k15 zc_b15 zc_n15 h9 dX2_unitsOf_29 ?_
          refine lv_iload_n hx hb dX2_unitsOf_30 rfl (lv_at hl 2 rfl) ?_
          refine lv_icmp_ne (tgt := 65) hx hb dX2_unitsOf_31 (by decide) (fun c10 => ?_) (fun c10 => ?_)
          · have hf := a_if_f c10 hf
            cases hf
            exact hJ65 H locs ls hW (lv_sub hl [0, 1, 2, 3, 4] rfl)
          · have hf := a_if_t c10 hf
            refine lv_iload_n hx hb dX2_unitsOf_34 rfl (lv_at hl 3 rfl) ?_
            refine lv_aload_n hx hb dX2_unitsOf_35 rfl (lv_at hl 0 rfl) ?_
            refine g_getr hC hW (o := 13) (ci := 2) (k := 3) zc_k13 zc_b13 rfl hi2 (by decide) rfl (t := 17) zc_r13_3 (by decide +kernel) dX2_unitsOf_36 ?_
            refine lv_iload hx hb dX2_unitsOf_39 (lv_at hl 4 rfl) ?_
            obtain ⟨v11, h9, hf⟩ := ob_inv hf
            refine g_zld hC hW zc_k17 zc_b17 zc_n17 h9 dX2_unitsOf_41 ?_
            obtain ⟨z13, hg, hf⟩ := ob_inv hf
            have hJ63 : ∀ (H : Heap) (locs : List Loc) (ls : Array Slot), g_H ZC G s H locs me → lv_has ls 5 [(0, .ref (G.2.2.1 13)), (1, .int p1), (2, .int p2), (4, .int x2)] → W p l e (headSpec wsX2_unitsOf rmX2_unitsOf).room s m ([.ref (G.2.2.1 13), .int p1, .int p2] : List Value).toArray below meth c H locs 0 0 Q (F0 m 63 ls [.int z13, .int x1]) := by
              intro H locs ls hW hl
              refine lv_iadd hx hb dX2_unitsOf_63 ?_
              obtain ⟨x16, h9, hf⟩ := ob_inv hf
              refine g_nmi (Option.some.inj h9) ?_
              refine lv_istore_n (lv' := [(3, .int x16), (0, .ref (G.2.2.1 13)), (1, .int p1), (2, .int p2), (4, .int x2)]) hx hb dX2_unitsOf_64 rfl hl (by decide) rfl (fun ls hl => ?_)
              cases hf
              exact hJ65 H locs ls hW (lv_sub hl [1, 2, 3, 0, 4] rfl)
            replace hf := hg
            refine lv_if_eq (tgt := 56) hx hb dX2_unitsOf_42 (by decide) (fun c12 => ?_) (fun c12 => ?_)
            · have hf := a_if_t c12 hf
              refine lv_aload_n hx hb dX2_unitsOf_56 rfl (lv_at hl 0 rfl) ?_
              refine g_getr hC hW (o := 13) (ci := 2) (k := 5) zc_k13 zc_b13 rfl hi2 (by decide) rfl (t := 19) zc_r13_5 (by decide +kernel) dX2_unitsOf_57 ?_
              refine lv_iload hx hb dX2_unitsOf_60 (lv_at hl 4 rfl) ?_
              obtain ⟨v14, h9, hf⟩ := ob_inv hf
              refine g_ild hC hW zc_k19 zc_b19 zc_n19 h9 dX2_unitsOf_62 ?_
              cases hf
              exact hJ63 H locs ls hW (lv_sub hl [0, 1, 2, 4] rfl)
            · have hf := a_if_f c12 hf
              refine lv_aload_n hx hb dX2_unitsOf_45 rfl (lv_at hl 0 rfl) ?_
              refine g_getr hC hW (o := 13) (ci := 2) (k := 5) zc_k13 zc_b13 rfl hi2 (by decide) rfl (t := 19) zc_r13_5 (by decide +kernel) dX2_unitsOf_46 ?_
              refine lv_iload hx hb dX2_unitsOf_49 (lv_at hl 4 rfl) ?_
              obtain ⟨v15, h9, hf⟩ := ob_inv hf
              refine g_ild hC hW zc_k19 zc_b19 zc_n19 h9 dX2_unitsOf_51 ?_
              refine lv_ineg hx hb dX2_unitsOf_52 ?_
              refine lv_goto (tgt := 63) hx hb dX2_unitsOf_53 (by decide) ?_
              cases hf
              exact hJ63 H locs ls hW (lv_sub hl [0, 1, 2, 4] rfl)
  obtain ⟨⟨y3, y4⟩, hg, hf⟩ := ob_inv hf
  have hf := ob_inv2 hf
  refine hL5 _ _ _ _ _ _ _ _ hg hW (lv_sub hl [2, 3, 4, 1, 0] rfl) (fun H locs ls hW hl => ?_)
  refine lv_iload_n hx hb dX2_unitsOf_71 rfl (lv_at hl 0 rfl) ?_
  cases hf
  subst hQ
  exact g_iret hC hW hr hlocks rfl rfl dX2_unitsOf_72
abbrev rmX2_worthOf : Room := { frames := 1, cells := 0, slots := 0, locals := 21 }
set_option maxHeartbeats 4000000 in
set_option maxRecDepth 100000 in
theorem c_X2_worthOf (l : Launch) (G : gG) {p1 : Int32} {me : gM} {r0 : Int32}  (hf : f_X2_worthOf p1 me = some r0) : Met l yX2_worthOf wsX2_worthOf rmX2_worthOf (va_Pc [.ref (G.2.2.1 13), .int p1] (g_W ZC G me)) (g_Qi ZC G r0 me) 0 0 (g_A ZC G) := by
  refine Met.ofW (cc := cX2_worthOf) (maxL := 5) (ret := (some .int)) (by decide) rfl ?_
  intro p e s m args below meth c s₁ B hml hv
  obtain ⟨rfl, hW0⟩ := hv
  have hC : CallFix p m c cX2_worthOf 5 s ([.ref (G.2.2.1 13), .int p1] : List Value).toArray wsX2_worthOf RX2 := ⟨B.exec, B.bytes, hml, findClass_of_methodNamed B.named, atoms_spec (ws := wsX2_worthOf) B.pre⟩
  have hx := hC.1
  have hb := hC.2.1
  have hown := hC.2.2.2.1
  have hts := hC.2.2.2.2
  have hr := B.returns
  have hlocks := B.notSynchronized
  have hW := g_H_enter hW0
  have hi2 : ∀ w ∈ wsX20, w ∈ wsX2_worthOf := by decide +kernel
  have hl := lv_entry ([.ref (G.2.2.1 13), .int p1]) (n := 5) (Nat.le_of_ble_eq_true rfl)
  rw [lg_entry_eq]
  generalize (lg_sl ([.ref (G.2.2.1 13), .int p1]) ++ List.replicate (5 - (lg_sl ([.ref (G.2.2.1 13), .int p1])).length) Slot.unset).toArray = ls at hl ⊢
  have hl : lv_has ls 5 [(0, .ref (G.2.2.1 13)), (1, .int p1)] := hl
  obtain ⟨Q, hQ⟩ : ∃ Q, Q = MQ below (g_Qi ZC G r0 me) ([.ref (G.2.2.1 13), .int p1] : List Value).toArray s 0 0 (g_A ZC G) := ⟨_, rfl⟩
  refine g_goQ hQ ?_
  unfold f_X2_worthOf at hf
  refine g_start hW (fun H locs hW => ?_)
  refine lv_iconst (v := 0) hx hb dX2_worthOf_0 (by decide) ?_
  refine lv_istore_n (lv' := [(2, .int 0), (0, .ref (G.2.2.1 13)), (1, .int p1)]) hx hb dX2_worthOf_1 rfl hl (by decide) rfl (fun ls hl => ?_)
  refine lv_iconst (v := 0) hx hb dX2_worthOf_2 (by decide) ?_
  refine lv_istore_n (lv' := [(3, .int 0), (2, .int 0), (0, .ref (G.2.2.1 13)), (1, .int p1)]) hx hb dX2_worthOf_3 rfl hl (by decide) rfl (fun ls hl => ?_)
  have hL4 : ∀ (n : Nat) (x1 : Int32) (x2 : Int32) (y3 : Int32) (y4 : Int32) (H : Heap) (locs : List Loc) (ls : Array Slot), f_X2_worthOf_L4 me p1 n x1 x2 = some (y3, y4) → g_H ZC G s H locs me → lv_has ls 5 [(0, .ref (G.2.2.1 13)), (1, .int p1), (2, .int x1), (3, .int x2)] → (∀ (H : Heap) (locs : List Loc) (ls : Array Slot), g_H ZC G s H locs me → lv_has ls 5 [(2, .int y3)] → W p l e (headSpec wsX2_worthOf rmX2_worthOf).room s m ([.ref (G.2.2.1 13), .int p1] : List Value).toArray below meth c H locs 0 0 Q (F0 m 71 ls [])) → W p l e (headSpec wsX2_worthOf rmX2_worthOf).room s m ([.ref (G.2.2.1 13), .int p1] : List Value).toArray below meth c H locs 0 0 Q (F0 m 4 ls []) := by
    intro n
    induction n with
    | zero =>
      intro x1 x2 y3 y4 H locs ls hf hW hl hE
      cases hf
    | succ n ih =>
      intro x1 x2 y3 y4 H locs ls hf hW hl hE
      rw [f_X2_worthOf_L4] at hf
      refine lv_iload_n hx hb dX2_worthOf_4 rfl (lv_at hl 3 rfl) ?_
      refine lv_aload_n hx hb dX2_worthOf_5 rfl (lv_at hl 0 rfl) ?_
      refine g_geti hC hW (o := 13) (ci := 2) (k := 8) zc_k13 zc_b13 rfl hi2 (by decide) rfl (by decide +kernel) dX2_worthOf_6 ?_
      refine lv_icmp_ge (tgt := 71) hx hb dX2_worthOf_9 (by decide) (fun c5 => ?_) (fun c5 => ?_)
      · have hf := a_if_t c5 hf
        cases hf
        exact hE H locs ls hW (lv_sub hl [2] rfl)
      · have hf := a_if_f c5 hf
        refine lv_iload_n hx hb dX2_worthOf_12 rfl (lv_at hl 1 rfl) ?_
        refine lv_iload_n hx hb dX2_worthOf_13 rfl (lv_at hl 3 rfl) ?_
        obtain ⟨r6, hg, hf⟩ := ob_inv hf
        refine g_cNi hC hW (As := [.int p1, .int x2]) (rest := []) (host := "GridMarket") (c_X9_isMember l G  hg) ⟨va_cnB 2 hts gX2_worthOf_X9_isMember_n44 rfl rfl rfl (hW.2.2.2.1 (RX2, 44, yX9_isMember) (by decide +kernel)) (hts _ (by decide +kernel : Cond.initialized RX9 ∈ wsX2_worthOf)) (by decide +kernel) ⟨Nat.le_of_ble_eq_true rfl, Nat.le_of_ble_eq_true rfl⟩, hts _ (by decide +kernel : Cond.static yX9_isMember ∈ wsX2_worthOf), trivial⟩ rfl hl.1 rfl (Nat.le_of_ble_eq_true rfl) dX2_worthOf_14 ⟨Nat.le_of_ble_eq_true rfl, Nat.le_of_ble_eq_true rfl⟩ (fun H locs hW => ?_)
        obtain ⟨x8, hg, hf⟩ := ob_inv hf
        have hJ65 : ∀ (H : Heap) (locs : List Loc) (ls : Array Slot), g_H ZC G s H locs me → lv_has ls 5 [(0, .ref (G.2.2.1 13)), (1, .int p1), (2, .int x8), (3, .int x2)] → W p l e (headSpec wsX2_worthOf rmX2_worthOf).room s m ([.ref (G.2.2.1 13), .int p1] : List Value).toArray below meth c H locs 0 0 Q (F0 m 65 ls []) := by
          intro H locs ls hW hl
          refine lv_iinc (v := (x2 + 1)) (lv' := [(3, .int (x2 + 1)), (0, .ref (G.2.2.1 13)), (1, .int p1), (2, .int x8)]) hx hb dX2_worthOf_65 hl (k := 3) rfl (congrArg (fun z => x2 + z) (by decide)) (by decide) rfl (fun ls hl => ?_)
          refine lv_goto (tgt := 4) hx hb dX2_worthOf_68 (by decide) ?_
          exact ih _ _ _ _ _ _ _ hf hW (lv_sub hl [1, 2, 3, 0] rfl) hE
        replace hf := hg
        refine lv_if_eq (tgt := 65) hx hb dX2_worthOf_17 (by decide) (fun c7 => ?_) (fun c7 => ?_)
        · have hf := a_if_t c7 hf
          cases hf
          exact hJ65 H locs ls hW (lv_sub hl [0, 1, 2, 3] rfl)
        · have hf := a_if_f c7 hf
          refine lv_aload_n hx hb dX2_worthOf_20 rfl (lv_at hl 0 rfl) ?_
          refine g_getr hC hW (o := 13) (ci := 2) (k := 4) zc_k13 zc_b13 rfl hi2 (by decide) rfl (t := 18) zc_r13_4 (by decide +kernel) dX2_worthOf_21 ?_
          refine lv_iload_n hx hb dX2_worthOf_24 rfl (lv_at hl 3 rfl) ?_
          obtain ⟨v9, h9, hf⟩ := ob_inv hf
          refine g_ild hC hW zc_k18 zc_b18 zc_n18 h9 dX2_worthOf_25 ?_
          refine lv_aload_n hx hb dX2_worthOf_26 rfl (lv_at hl 0 rfl) ?_
          refine g_getr hC hW (o := 13) (ci := 2) (k := 5) zc_k13 zc_b13 rfl hi2 (by decide) rfl (t := 19) zc_r13_5 (by decide +kernel) dX2_worthOf_27 ?_
          refine lv_iload_n hx hb dX2_worthOf_30 rfl (lv_at hl 3 rfl) ?_
          obtain ⟨v10, h9, hf⟩ := ob_inv hf
          refine g_ild hC hW zc_k19 zc_b19 zc_n19 h9 dX2_worthOf_31 ?_
          refine lv_imul hx hb dX2_worthOf_32 ?_
          refine lv_aload_n hx hb dX2_worthOf_33 rfl (lv_at hl 0 rfl) ?_
          refine g_getr hC hW (o := 13) (ci := 2) (k := 2) zc_k13 zc_b13 rfl hi2 (by decide) rfl (t := 16) zc_r13_2 (by decide +kernel) dX2_worthOf_34 ?_
          refine lv_iload_n hx hb dX2_worthOf_37 rfl (lv_at hl 3 rfl) ?_
          obtain ⟨v11, h9, hf⟩ := ob_inv hf
          refine g_ild hC hW zc_k16 zc_b16 zc_n16 h9 dX2_worthOf_38 ?_
          obtain ⟨r12, hg, hf⟩ := ob_inv hf
          refine g_cSi hC hW (As := [.int v11]) (rest := [.int (v9 * v10)]) (c_J6_bitCount_0f7a4 l G  hg) (va_cwS 1 hts gX2_worthOf_J6_bitCount_0f7a4 rfl rfl rfl (by decide +kernel) ⟨Nat.le_of_ble_eq_true rfl, Nat.le_of_ble_eq_true rfl⟩) rfl hl.1 rfl (Nat.le_of_ble_eq_true rfl) dX2_worthOf_39 ⟨Nat.le_of_ble_eq_true rfl, Nat.le_of_ble_eq_true rfl⟩ (fun H locs hW => ?_)
          refine lv_imul hx hb dX2_worthOf_42 ?_
          obtain ⟨x13, h9, hf⟩ := ob_inv hf
          refine g_nmi (Option.some.inj h9) ?_
          refine lv_istore (lv' := [(4, .int x13), (0, .ref (G.2.2.1 13)), (1, .int p1), (2, .int x1), (3, .int x2)]) hx hb dX2_worthOf_43 hl (by decide) rfl (fun ls hl => ?_)
          refine lv_iload_n hx hb dX2_worthOf_45 rfl (lv_at hl 3 rfl) ?_
          refine lv_aload_n hx hb dX2_worthOf_46 rfl (lv_at hl 1 rfl) ?_
          refine g_getr hC hW (o := 13) (ci := 2) (k := 3) zc_k13 zc_b13 rfl hi2 (by decide) rfl (t := 17) zc_r13_3 (by decide +kernel) dX2_worthOf_47 ?_
          refine lv_iload_n hx hb dX2_worthOf_50 rfl (lv_at hl 4 rfl) ?_
          obtain ⟨v14, h9, hf⟩ := ob_inv hf
          refine g_zld hC hW zc_k17 zc_b17 zc_n17 h9 dX2_worthOf_51 ?_
          obtain ⟨z16, hg, hf⟩ := ob_inv hf
          have hJ63 : ∀ (H : Heap) (locs : List Loc) (ls : Array Slot), g_H ZC G s H locs me → lv_has ls 5 [(0, .ref (G.2.2.1 13)), (1, .int p1), (3, .int x2)] → W p l e (headSpec wsX2_worthOf rmX2_worthOf).room s m ([.ref (G.2.2.1 13), .int p1] : List Value).toArray below meth c H locs 0 0 Q (F0 m 63 ls [.int z16, .int x1]) := by
            intro H locs ls hW hl
            refine lv_iadd hx hb dX2_worthOf_63 ?_
            obtain ⟨x17, h9, hf⟩ := ob_inv hf
            refine g_nmi (Option.some.inj h9) ?_
            refine lv_istore_n (lv' := [(2, .int x17), (0, .ref (G.2.2.1 13)), (1, .int p1), (3, .int x2)]) hx hb dX2_worthOf_64 rfl hl (by decide) rfl (fun ls hl => ?_)
            cases hf
            exact hJ65 H locs ls hW (lv_sub hl [1, 2, 0, 3] rfl)
          replace hf := hg
          refine lv_if_eq (tgt := 60) hx hb dX2_worthOf_52 (by decide) (fun c15 => ?_) (fun c15 => ?_)
          · have hf := a_if_t c15 hf
            refine lv_iload hx hb dX2_worthOf_60 (lv_at hl 0 rfl) ?_
            refine lv_ineg hx hb dX2_worthOf_62 ?_
            cases hf
            exact hJ63 H locs ls hW (lv_sub hl [1, 2, 4] rfl)
          · have hf := a_if_f c15 hf
            refine lv_iload hx hb dX2_worthOf_55 (lv_at hl 0 rfl) ?_
            refine lv_goto (tgt := 63) hx hb dX2_worthOf_57 (by decide) ?_
            cases hf
            exact hJ63 H locs ls hW (lv_sub hl [1, 2, 4] rfl)
  obtain ⟨⟨y3, y4⟩, hg, hf⟩ := ob_inv hf
  have hf := ob_inv2 hf
  refine hL4 _ _ _ _ _ _ _ _ hg hW (lv_sub hl [2, 3, 1, 0] rfl) (fun H locs ls hW hl => ?_)
  refine lv_iload_n hx hb dX2_worthOf_71 rfl (lv_at hl 0 rfl) ?_
  cases hf
  subst hQ
  exact g_iret hC hW hr hlocks rfl rfl dX2_worthOf_72
abbrev rmX2_gainBy : Room := { frames := 1, cells := 0, slots := 0, locals := 21 }
set_option maxHeartbeats 4000000 in
set_option maxRecDepth 100000 in
theorem c_X2_gainBy (l : Launch) (G : gG) {p1 : Int32} {n2 : Nat} {a2 : Nat} {me : gM} {r0 : Int32}  (ha2 : ZC.2.1 a2 = 20) (hn2 : ZC.2.2.1 a2 = n2) (hf : f_X2_gainBy p1 n2 a2 me = some r0) : Met l yX2_gainBy wsX2_gainBy rmX2_gainBy (va_Pc [.ref (G.2.2.1 13), .int p1, .ref (G.2.2.1 a2)] (g_W ZC G me)) (g_Qi ZC G r0 me) 0 0 (g_A ZC G) := by
  refine Met.ofW (cc := cX2_gainBy) (maxL := 5) (ret := (some .int)) (by decide) rfl ?_
  intro p e s m args below meth c s₁ B hml hv
  obtain ⟨rfl, hW0⟩ := hv
  have hC : CallFix p m c cX2_gainBy 5 s ([.ref (G.2.2.1 13), .int p1, .ref (G.2.2.1 a2)] : List Value).toArray wsX2_gainBy RX2 := ⟨B.exec, B.bytes, hml, findClass_of_methodNamed B.named, atoms_spec (ws := wsX2_gainBy) B.pre⟩
  have hx := hC.1
  have hb := hC.2.1
  have hown := hC.2.2.2.1
  have hts := hC.2.2.2.2
  have hr := B.returns
  have hlocks := B.notSynchronized
  have hW := g_H_enter hW0
  have hi2 : ∀ w ∈ wsX20, w ∈ wsX2_gainBy := by decide +kernel
  have hl := lv_entry ([.ref (G.2.2.1 13), .int p1, .ref (G.2.2.1 a2)]) (n := 5) (Nat.le_of_ble_eq_true rfl)
  rw [lg_entry_eq]
  generalize (lg_sl ([.ref (G.2.2.1 13), .int p1, .ref (G.2.2.1 a2)]) ++ List.replicate (5 - (lg_sl ([.ref (G.2.2.1 13), .int p1, .ref (G.2.2.1 a2)])).length) Slot.unset).toArray = ls at hl ⊢
  have hl : lv_has ls 5 [(0, .ref (G.2.2.1 13)), (1, .int p1), (2, .ref (G.2.2.1 a2))] := hl
  obtain ⟨Q, hQ⟩ : ∃ Q, Q = MQ below (g_Qi ZC G r0 me) ([.ref (G.2.2.1 13), .int p1, .ref (G.2.2.1 a2)] : List Value).toArray s 0 0 (g_A ZC G) := ⟨_, rfl⟩
  refine g_goQ hQ ?_
  unfold f_X2_gainBy at hf
  refine g_start hW (fun H locs hW => ?_)
  refine lv_iconst (v := 0) hx hb dX2_gainBy_0 (by decide) ?_
  refine lv_istore_n (lv' := [(3, .int 0), (0, .ref (G.2.2.1 13)), (1, .int p1), (2, .ref (G.2.2.1 a2))]) hx hb dX2_gainBy_1 rfl hl (by decide) rfl (fun ls hl => ?_)
  refine lv_iconst (v := 0) hx hb dX2_gainBy_2 (by decide) ?_
  refine lv_istore (lv' := [(4, .int 0), (3, .int 0), (0, .ref (G.2.2.1 13)), (1, .int p1), (2, .ref (G.2.2.1 a2))]) hx hb dX2_gainBy_3 hl (by decide) rfl (fun ls hl => ?_)
  have hL5 : ∀ (n : Nat) (x1 : Int32) (x2 : Int32) (y3 : Int32) (y4 : Int32) (H : Heap) (locs : List Loc) (ls : Array Slot), f_X2_gainBy_L5 a2 n2 me p1 n x1 x2 = some (y3, y4) → g_H ZC G s H locs me → lv_has ls 5 [(0, .ref (G.2.2.1 13)), (1, .int p1), (2, .ref (G.2.2.1 a2)), (3, .int x1), (4, .int x2)] → (∀ (H : Heap) (locs : List Loc) (ls : Array Slot), g_H ZC G s H locs me → lv_has ls 5 [(0, .ref (G.2.2.1 13)), (1, .int p1), (3, .int y3)] → W p l e (headSpec wsX2_gainBy rmX2_gainBy).room s m ([.ref (G.2.2.1 13), .int p1, .ref (G.2.2.1 a2)] : List Value).toArray below meth c H locs 0 0 Q (F0 m 54 ls [])) → W p l e (headSpec wsX2_gainBy rmX2_gainBy).room s m ([.ref (G.2.2.1 13), .int p1, .ref (G.2.2.1 a2)] : List Value).toArray below meth c H locs 0 0 Q (F0 m 5 ls []) := by
    intro n
    induction n with
    | zero =>
      intro x1 x2 y3 y4 H locs ls hf hW hl hE
      cases hf
    | succ n ih =>
      intro x1 x2 y3 y4 H locs ls hf hW hl hE
      rw [f_X2_gainBy_L5] at hf
      refine lv_iload hx hb dX2_gainBy_5 (lv_at hl 4 rfl) ?_
      refine lv_iconst (v := 4) hx hb dX2_gainBy_7 (by decide) ?_
      refine lv_icmp_ge (tgt := 54) hx hb dX2_gainBy_8 (by decide) (fun c5 => ?_) (fun c5 => ?_)
      · have hf := a_if_t c5 hf
        cases hf
        exact hE H locs ls hW (lv_sub hl [0, 1, 3] rfl)
      · have hf := a_if_f c5 hf
        refine lv_aload_n hx hb dX2_gainBy_11 rfl (lv_at hl 0 rfl) ?_
        refine g_getr hC hW (o := 13) (ci := 2) (k := 2) zc_k13 zc_b13 rfl hi2 (by decide) rfl (t := 16) zc_r13_2 (by decide +kernel) dX2_gainBy_12 ?_
        refine lv_iload_n hx hb dX2_gainBy_15 rfl (lv_at hl 1 rfl) ?_
        obtain ⟨v6, h9, hf⟩ := ob_inv hf
        refine g_ild hC hW zc_k16 zc_b16 zc_n16 h9 dX2_gainBy_16 ?_
        refine lv_iload hx hb dX2_gainBy_17 (lv_at hl 4 rfl) ?_
        obtain ⟨r7, hg, hf⟩ := ob_inv hf
        refine g_cNi hC hW (As := [.int v6, .int x2]) (rest := []) (host := "GridMarket") (c_X9_isMember l G  hg) ⟨va_cnB 2 hts gX2_gainBy_X9_isMember_n44 rfl rfl rfl (hW.2.2.2.1 (RX2, 44, yX9_isMember) (by decide +kernel)) (hts _ (by decide +kernel : Cond.initialized RX9 ∈ wsX2_gainBy)) (by decide +kernel) ⟨Nat.le_of_ble_eq_true rfl, Nat.le_of_ble_eq_true rfl⟩, hts _ (by decide +kernel : Cond.static yX9_isMember ∈ wsX2_gainBy), trivial⟩ rfl hl.1 rfl (Nat.le_of_ble_eq_true rfl) dX2_gainBy_19 ⟨Nat.le_of_ble_eq_true rfl, Nat.le_of_ble_eq_true rfl⟩ (fun H locs hW => ?_)
        obtain ⟨x9, hg, hf⟩ := ob_inv hf
        have hJ48 : ∀ (H : Heap) (locs : List Loc) (ls : Array Slot), g_H ZC G s H locs me → lv_has ls 5 [(0, .ref (G.2.2.1 13)), (1, .int p1), (2, .ref (G.2.2.1 a2)), (3, .int x9), (4, .int x2)] → W p l e (headSpec wsX2_gainBy rmX2_gainBy).room s m ([.ref (G.2.2.1 13), .int p1, .ref (G.2.2.1 a2)] : List Value).toArray below meth c H locs 0 0 Q (F0 m 48 ls []) := by
          intro H locs ls hW hl
          refine lv_iinc (v := (x2 + 1)) (lv' := [(4, .int (x2 + 1)), (0, .ref (G.2.2.1 13)), (1, .int p1), (2, .ref (G.2.2.1 a2)), (3, .int x9)]) hx hb dX2_gainBy_48 hl (k := 4) rfl (congrArg (fun z => x2 + z) (by decide)) (by decide) rfl (fun ls hl => ?_)
          refine lv_goto (tgt := 5) hx hb dX2_gainBy_51 (by decide) ?_
          exact ih _ _ _ _ _ _ _ hf hW (lv_sub hl [1, 2, 3, 4, 0] rfl) hE
        replace hf := hg
        refine lv_if_eq (tgt := 48) hx hb dX2_gainBy_22 (by decide) (fun c8 => ?_) (fun c8 => ?_)
        · have hf := a_if_t c8 hf
          cases hf
          exact hJ48 H locs ls hW (lv_sub hl [0, 1, 2, 3, 4] rfl)
        · have hf := a_if_f c8 hf
          refine lv_iload_n hx hb dX2_gainBy_25 rfl (lv_at hl 3 rfl) ?_
          refine lv_aload_n hx hb dX2_gainBy_26 rfl (lv_at hl 2 rfl) ?_
          refine lv_aload_n hx hb dX2_gainBy_27 rfl (lv_at hl 0 rfl) ?_
          refine g_getr hC hW (o := 13) (ci := 2) (k := 1) zc_k13 zc_b13 rfl hi2 (by decide) rfl (t := 15) zc_r13_1 (by decide +kernel) dX2_gainBy_28 ?_
          refine lv_iload_n hx hb dX2_gainBy_31 rfl (lv_at hl 1 rfl) ?_
          obtain ⟨v10, h9, hf⟩ := ob_inv hf
          refine g_ild hC hW zc_k15 zc_b15 zc_n15 h9 dX2_gainBy_32 ?_
          refine lv_iload hx hb dX2_gainBy_33 (lv_at hl 4 rfl) ?_
          obtain ⟨r11, hg, hf⟩ := ob_inv hf
          refine g_cNi hC hW (As := [.int v10, .int x2]) (rest := [.ref (G.2.2.1 a2), .int x1]) (host := "GridMarket") (c_X9_spotOf l G  hg) ⟨va_cnB 2 hts gX2_gainBy_X9_spotOf_n54 rfl rfl rfl (hW.2.2.2.1 (RX2, 54, yX9_spotOf) (by decide +kernel)) (hts _ (by decide +kernel : Cond.initialized RX9 ∈ wsX2_gainBy)) (by decide +kernel) ⟨Nat.le_of_ble_eq_true rfl, Nat.le_of_ble_eq_true rfl⟩, hts _ (by decide +kernel : Cond.static yX9_spotOf ∈ wsX2_gainBy), trivial⟩ rfl hl.1 rfl (Nat.le_of_ble_eq_true rfl) dX2_gainBy_35 ⟨Nat.le_of_ble_eq_true rfl, Nat.le_of_ble_eq_true rfl⟩ (fun H locs hW => ?_)
          obtain ⟨v12, h9, hf⟩ := ob_inv hf
          refine g_ild hC hW ha2 (zc_lt ha2) hn2 h9 dX2_gainBy_38 ?_
          refine lv_aload_n hx hb dX2_gainBy_39 rfl (lv_at hl 0 rfl) ?_
          refine g_getr hC hW (o := 13) (ci := 2) (k := 4) zc_k13 zc_b13 rfl hi2 (by decide) rfl (t := 18) zc_r13_4 (by decide +kernel) dX2_gainBy_40 ?_
          refine lv_iload_n hx hb dX2_gainBy_43 rfl (lv_at hl 1 rfl) ?_
          obtain ⟨v13, h9, hf⟩ := ob_inv hf
          refine g_ild hC hW zc_k18 zc_b18 zc_n18 h9 dX2_gainBy_44 ?_
          refine lv_isub hx hb dX2_gainBy_45 ?_
          refine lv_iadd hx hb dX2_gainBy_46 ?_
          obtain ⟨x14, h9, hf⟩ := ob_inv hf
          refine g_nmi (Option.some.inj h9) ?_
          refine lv_istore_n (lv' := [(3, .int x14), (0, .ref (G.2.2.1 13)), (1, .int p1), (2, .ref (G.2.2.1 a2)), (4, .int x2)]) hx hb dX2_gainBy_47 rfl hl (by decide) rfl (fun ls hl => ?_)
          cases hf
          exact hJ48 H locs ls hW (lv_sub hl [1, 2, 3, 0, 4] rfl)
  obtain ⟨⟨y3, y4⟩, hg, hf⟩ := ob_inv hf
  have hf := ob_inv2 hf
  refine hL5 _ _ _ _ _ _ _ _ hg hW (lv_sub hl [2, 3, 4, 1, 0] rfl) (fun H locs ls hW hl => ?_)
  refine lv_aload_n hx hb dX2_gainBy_54 rfl (lv_at hl 0 rfl) ?_
  refine g_getr hC hW (o := 13) (ci := 2) (k := 3) zc_k13 zc_b13 rfl hi2 (by decide) rfl (t := 17) zc_r13_3 (by decide +kernel) dX2_gainBy_55 ?_
  refine lv_iload_n hx hb dX2_gainBy_58 rfl (lv_at hl 1 rfl) ?_
  obtain ⟨v15, h9, hf⟩ := ob_inv hf
  refine g_zld hC hW zc_k17 zc_b17 zc_n17 h9 dX2_gainBy_59 ?_
  obtain ⟨z17, hg, hf⟩ := ob_inv hf
  have hJ69 : ∀ (H : Heap) (locs : List Loc) (ls : Array Slot), g_H ZC G s H locs me → lv_has ls 5 [] → W p l e (headSpec wsX2_gainBy rmX2_gainBy).room s m ([.ref (G.2.2.1 13), .int p1, .ref (G.2.2.1 a2)] : List Value).toArray below meth c H locs 0 0 Q (F0 m 69 ls [.int z17]) := by
    intro H locs ls hW hl
    cases hf
    subst hQ
    exact g_iret hC hW hr hlocks rfl rfl dX2_gainBy_69
  replace hf := hg
  refine lv_if_eq (tgt := 68) hx hb dX2_gainBy_60 (by decide) (fun c16 => ?_) (fun c16 => ?_)
  · have hf := a_if_t c16 hf
    refine lv_iload_n hx hb dX2_gainBy_68 rfl (lv_at hl 2 rfl) ?_
    cases hf
    exact hJ69 H locs ls hW (lv_sub hl [] rfl)
  · have hf := a_if_f c16 hf
    refine lv_iload_n hx hb dX2_gainBy_63 rfl (lv_at hl 2 rfl) ?_
    refine lv_ineg hx hb dX2_gainBy_64 ?_
    refine lv_goto (tgt := 69) hx hb dX2_gainBy_65 (by decide) ?_
    cases hf
    exact hJ69 H locs ls hW (lv_sub hl [] rfl)
abbrev rmX2_hasLoser : Room := { frames := 2, cells := 0, slots := 0, locals := 45 }
set_option maxHeartbeats 4000000 in
set_option maxRecDepth 100000 in
theorem c_X2_hasLoser (l : Launch) (G : gG) {p1 : Int32} {n2 : Nat} {a2 : Nat} {me : gM} {r0 : Int32}  (ha2 : ZC.2.1 a2 = 20) (hn2 : ZC.2.2.1 a2 = n2) (hf : f_X2_hasLoser p1 n2 a2 me = some r0) : Met l yX2_hasLoser wsX2_hasLoser rmX2_hasLoser (va_Pc [.ref (G.2.2.1 13), .int p1, .ref (G.2.2.1 a2)] (g_W ZC G me)) (g_Qi ZC G r0 me) 0 0 (g_A ZC G) := by
  refine Met.ofW (cc := cX2_hasLoser) (maxL := 4) (ret := (some .boolean)) (by decide) rfl ?_
  intro p e s m args below meth c s₁ B hml hv
  obtain ⟨rfl, hW0⟩ := hv
  have hC : CallFix p m c cX2_hasLoser 4 s ([.ref (G.2.2.1 13), .int p1, .ref (G.2.2.1 a2)] : List Value).toArray wsX2_hasLoser RX2 := ⟨B.exec, B.bytes, hml, findClass_of_methodNamed B.named, atoms_spec (ws := wsX2_hasLoser) B.pre⟩
  have hx := hC.1
  have hb := hC.2.1
  have hown := hC.2.2.2.1
  have hts := hC.2.2.2.2
  have hr := B.returns
  have hlocks := B.notSynchronized
  have hW := g_H_enter hW0
  have hi2 : ∀ w ∈ wsX20, w ∈ wsX2_hasLoser := by decide +kernel
  have hl := lv_entry ([.ref (G.2.2.1 13), .int p1, .ref (G.2.2.1 a2)]) (n := 4) (Nat.le_of_ble_eq_true rfl)
  rw [lg_entry_eq]
  generalize (lg_sl ([.ref (G.2.2.1 13), .int p1, .ref (G.2.2.1 a2)]) ++ List.replicate (4 - (lg_sl ([.ref (G.2.2.1 13), .int p1, .ref (G.2.2.1 a2)])).length) Slot.unset).toArray = ls at hl ⊢
  have hl : lv_has ls 4 [(0, .ref (G.2.2.1 13)), (1, .int p1), (2, .ref (G.2.2.1 a2))] := hl
  obtain ⟨Q, hQ⟩ : ∃ Q, Q = MQ below (g_Qi ZC G r0 me) ([.ref (G.2.2.1 13), .int p1, .ref (G.2.2.1 a2)] : List Value).toArray s 0 0 (g_A ZC G) := ⟨_, rfl⟩
  refine g_goQ hQ ?_
  unfold f_X2_hasLoser at hf
  refine g_start hW (fun H locs hW => ?_)
  refine lv_iconst (v := 0) hx hb dX2_hasLoser_0 (by decide) ?_
  refine lv_istore_n (lv' := [(3, .int 0), (0, .ref (G.2.2.1 13)), (1, .int p1), (2, .ref (G.2.2.1 a2))]) hx hb dX2_hasLoser_1 rfl hl (by decide) rfl (fun ls hl => ?_)
  have hL2 : ∀ (n : Nat) (x1 : Int32) (v9 : (Int32) ⊕ (Int32)) (H : Heap) (locs : List Loc) (ls : Array Slot), f_X2_hasLoser_L2 a2 n2 me p1 n x1 = some v9 → g_H ZC G s H locs me → lv_has ls 4 [(0, .ref (G.2.2.1 13)), (1, .int p1), (2, .ref (G.2.2.1 a2)), (3, .int x1)] → (∀ (y2 : Int32), v9 = .inl y2 → (∀ (H : Heap) (locs : List Loc) (ls : Array Slot), g_H ZC G s H locs me → lv_has ls 4 [] → W p l e (headSpec wsX2_hasLoser rmX2_hasLoser).room s m ([.ref (G.2.2.1 13), .int p1, .ref (G.2.2.1 a2)] : List Value).toArray below meth c H locs 0 0 Q (F0 m 35 ls []))) → (∀ w9, v9 = .inr w9 → w9 = r0) → W p l e (headSpec wsX2_hasLoser rmX2_hasLoser).room s m ([.ref (G.2.2.1 13), .int p1, .ref (G.2.2.1 a2)] : List Value).toArray below meth c H locs 0 0 Q (F0 m 2 ls []) := by
    intro n
    induction n with
    | zero =>
      intro x1 v9 H locs ls hf hW hl hE hX
      cases hf
    | succ n ih =>
      intro x1 v9 H locs ls hf hW hl hE hX
      rw [f_X2_hasLoser_L2] at hf
      refine lv_iload_n hx hb dX2_hasLoser_2 rfl (lv_at hl 3 rfl) ?_
      refine lv_aload_n hx hb dX2_hasLoser_3 rfl (lv_at hl 0 rfl) ?_
      refine g_geti hC hW (o := 13) (ci := 2) (k := 8) zc_k13 zc_b13 rfl hi2 (by decide) rfl (by decide +kernel) dX2_hasLoser_4 ?_
      refine lv_icmp_ge (tgt := 35) hx hb dX2_hasLoser_7 (by decide) (fun c3 => ?_) (fun c3 => ?_)
      · have hf := a_if_t c3 hf
        exact hE _ (Option.some.inj hf).symm H locs ls hW (lv_sub hl [] rfl)
      · have hf := a_if_f c3 hf
        refine lv_iload_n hx hb dX2_hasLoser_10 rfl (lv_at hl 1 rfl) ?_
        refine lv_iload_n hx hb dX2_hasLoser_11 rfl (lv_at hl 3 rfl) ?_
        obtain ⟨r4, hg, hf⟩ := ob_inv hf
        refine g_cNi hC hW (As := [.int p1, .int x1]) (rest := []) (host := "GridMarket") (c_X9_isMember l G  hg) ⟨va_cnB 2 hts gX2_hasLoser_X9_isMember_n44 rfl rfl rfl (hW.2.2.2.1 (RX2, 44, yX9_isMember) (by decide +kernel)) (hts _ (by decide +kernel : Cond.initialized RX9 ∈ wsX2_hasLoser)) (by decide +kernel) ⟨Nat.le_of_ble_eq_true rfl, Nat.le_of_ble_eq_true rfl⟩, hts _ (by decide +kernel : Cond.static yX9_isMember ∈ wsX2_hasLoser), trivial⟩ rfl hl.1 rfl (Nat.le_of_ble_eq_true rfl) dX2_hasLoser_12 ⟨Nat.le_of_ble_eq_true rfl, Nat.le_of_ble_eq_true rfl⟩ (fun H locs hW => ?_)
        refine lv_if_eq (tgt := 29) hx hb dX2_hasLoser_15 (by decide) (fun c5 => ?_) (fun c5 => ?_)
        · have hf := a_if_t c5 hf
          refine lv_iinc (v := (x1 + 1)) (lv' := [(3, .int (x1 + 1)), (0, .ref (G.2.2.1 13)), (1, .int p1), (2, .ref (G.2.2.1 a2))]) hx hb dX2_hasLoser_29 hl (k := 3) rfl (congrArg (fun z => x1 + z) (by decide)) (by decide) rfl (fun ls hl => ?_)
          refine lv_goto (tgt := 2) hx hb dX2_hasLoser_32 (by decide) ?_
          exact ih _ _ _ _ _ hf hW (lv_sub hl [1, 2, 3, 0] rfl) hE hX
        · have hf := a_if_f c5 hf
          refine lv_aload_n hx hb dX2_hasLoser_18 rfl (lv_at hl 0 rfl) ?_
          refine lv_iload_n hx hb dX2_hasLoser_19 rfl (lv_at hl 3 rfl) ?_
          refine lv_aload_n hx hb dX2_hasLoser_20 rfl (lv_at hl 2 rfl) ?_
          obtain ⟨r6, hg, hf⟩ := ob_inv hf
          refine g_cVi hC hW (o := 13) (ci := 2) (As := [.int x1, .ref (G.2.2.1 a2)]) (rest := []) zc_k13 zc_b13 rfl (c_X2_gainBy l G ha2 hn2 hg) (cwV 2 hts gX2_hasLoser_X2_gainBy rfl rfl rfl (by decide +kernel) ⟨Nat.le_of_ble_eq_true rfl, Nat.le_of_ble_eq_true rfl⟩) rfl hl.1 rfl (Nat.le_of_ble_eq_true rfl) dX2_hasLoser_21 ⟨Nat.le_of_ble_eq_true rfl, Nat.le_of_ble_eq_true rfl⟩ (fun H locs hW => ?_)
          refine lv_if_ge (tgt := 29) hx hb dX2_hasLoser_24 (by decide) (fun c7 => ?_) (fun c7 => ?_)
          · have hf := a_if_t c7 hf
            refine lv_iinc (v := (x1 + 1)) (lv' := [(3, .int (x1 + 1)), (0, .ref (G.2.2.1 13)), (1, .int p1), (2, .ref (G.2.2.1 a2))]) hx hb dX2_hasLoser_29 hl (k := 3) rfl (congrArg (fun z => x1 + z) (by decide)) (by decide) rfl (fun ls hl => ?_)
            refine lv_goto (tgt := 2) hx hb dX2_hasLoser_32 (by decide) ?_
            exact ih _ _ _ _ _ hf hW (lv_sub hl [1, 2, 3, 0] rfl) hE hX
          · have hf := a_if_f c7 hf
            refine lv_iconst (v := 1) hx hb dX2_hasLoser_27 (by decide) ?_
            have hq := hX _ (Option.some.inj hf).symm
            cases hq
            subst hQ
            exact g_zret hC hW hr hlocks rfl rfl rfl dX2_hasLoser_28
  obtain ⟨v9, hg, hfl, hfr⟩ := oz_inv hf
  refine hL2 _ _ v9 _ _ _ hg hW (lv_sub hl [1, 2, 3, 0] rfl) (fun y2 hv9 H locs ls hW hl => ?_) (fun w9 hw9 => Option.some.inj (hfr w9 hw9))
  have hf := hfl _ hv9
  refine lv_iconst (v := 0) hx hb dX2_hasLoser_35 (by decide) ?_
  cases hf
  subst hQ
  exact g_zret hC hW hr hlocks rfl rfl rfl dX2_hasLoser_36
