def f_X8_hasRoom (o0 : Nat) (me : gM) : Option (Int32) :=
  ob (if (nI (f_oln o0)) ≤ (me o0 8) then
      some 0
    else
      some 1) fun (z2 : Int32) =>
  ob (a_zc z2) fun b3 =>
  some b3
def f_X8_used (o0 : Nat) (p1 : Int32) (me : gM) : Option (Int32) :=
  ob (a_ld (f_oln o0) (o0 + 6) p1 me) fun v1 =>
  ob (a_ld (f_oln o0) (o0 + 7) p1 me) fun v2 =>
  some (v1 - v2)
def f_X8_costOf (o0 : Nat) (p1 : Int32) (me : gM) : Option (Int32) :=
  ob (a_ld (f_oln o0) (o0 + 4) p1 me) fun v1 =>
  ob (if v1 = 0 then
      ob (a_ld (f_oln o0) (o0 + 5) p1 me) fun v4 =>
      some v4
    else
      ob (a_ld (f_oln o0) (o0 + 5) p1 me) fun v5 =>
      some (-v5)) fun (z3 : Int32) =>
  some z3
def f_X8_rank_L2 (o0 : Nat) (p1 : Int32) : Nat → Int32 → gM → Option (Int32 × gM)
  | 0, _, _ => none
  | n + 1, x1, m2 =>
    if x1 ≤ 0 then
      some (x1, m2)
    else
      ob (a_ld (f_oln o0) (o0 + 8) (x1 - 1) m2) fun v6 =>
      ob (f_X8_costOf o0 v6 m2) fun r7 =>
      ob (f_X8_costOf o0 p1 m2) fun r8 =>
      if r7 ≤ r8 then
        some (x1, m2)
      else
        ob (a_ld (f_oln o0) (o0 + 8) (x1 - 1) m2) fun v10 =>
        ob (a_st (f_oln o0) (o0 + 8) x1 v10 m2) fun m11 =>
        f_X8_rank_L2 o0 p1 n (x1 + (-1)) m11
def f_X8_rank (o0 : Nat) (p1 : Int32) (me : gM) : Option (gM) :=
  ob (f_X8_rank_L2 o0 p1 f_fuel p1 me) fun t13 =>
  ob (some t13.1) fun y3 =>
  ob (some t13.2) fun m4 =>
  ob (a_st (f_oln o0) (o0 + 8) y3 p1 m4) fun m12 =>
  some m12
def f_X8_add (o0 : Nat) (p1 : Int32) (p2 : Int32) (p3 : Int32) (p4 : Int32) (p5 : Int32) (p6 : Int32) (me : gM) : Option (Int32 × gM) :=
  ob (f_X8_hasRoom o0 me) fun r1 =>
  if r1 = 0 then
    some ((-1), me)
  else
    ob (some (me o0 8)) fun (x3 : Int32) =>
    ob (a_st (f_oln o0) (o0 + 1) x3 p1 me) fun m4 =>
    ob (a_st (f_oln o0) (o0 + 2) x3 p2 m4) fun m5 =>
    ob (a_st (f_oln o0) (o0 + 3) x3 p3 m5) fun m6 =>
    ob (a_zst (f_oln o0) (o0 + 4) x3 p4 m6) fun m7 =>
    ob (a_st (f_oln o0) (o0 + 5) x3 p5 m7) fun m8 =>
    ob (a_st (f_oln o0) (o0 + 6) x3 p6 m8) fun m9 =>
    ob (a_st (f_oln o0) (o0 + 7) x3 p6 m9) fun m10 =>
    ob (f_X8_rank o0 x3 m10) fun m11 =>
    ob (some (g_up m11 o0 (upd (m11 o0) 8 ((m11 o0 8) + 1)))) fun m12 =>
    some (x3, m12)
def f_X8_fits (o0 : Nat) (p1 : Int32) (p2 : Int32) (me : gM) : Option (Int32) :=
  ob (a_ld (f_oln o0) (o0 + 4) p1 me) fun v1 =>
  ob (a_ld (f_oln o0) (o0 + 4) p2 me) fun v2 =>
  ob (if v1 = v2 then
      some 0
    else
      ob (a_ld (f_oln o0) (o0 + 3) p1 me) fun v5 =>
      ob (a_ld (f_oln o0) (o0 + 3) p2 me) fun v6 =>
      if v5 = v6 then
        ob (a_ld (f_oln o0) (o0 + 1) p1 me) fun v8 =>
        ob (a_ld (f_oln o0) (o0 + 1) p2 me) fun v9 =>
        if v8 = v9 then
          some 0
        else
          ob (a_ld (f_oln o0) (o0 + 7) p2 me) fun v11 =>
          if v11 ≤ 0 then
            some 0
          else
            ob (f_X8_costOf o0 p1 me) fun r13 =>
            ob (f_X8_costOf o0 p2 me) fun r14 =>
            if 0 < (r13 + r14) then
              some 0
            else
              some 1
      else
        some 0) fun (z4 : Int32) =>
  ob (a_zc z4) fun b16 =>
  some b16
def f_X8_isIn (o0 : Nat) (p1 : Int32) (p2 : Int32) (p3 : Int32) (me : gM) : Option (Int32) :=
  ob (a_ld (f_oln o0) (o0 + 2) p1 me) fun v1 =>
  ob (if v1 = p2 then
      ob (a_ld (f_oln o0) (o0 + 3) p1 me) fun v4 =>
      if v4 = p3 then
        some 1
      else
        some 0
    else
      some 0) fun (z3 : Int32) =>
  ob (a_zc z3) fun b6 =>
  some b6
def f_X8_take_L10 (o0 : Nat) (p1 : Int32) (p2 : Int32) : Nat → Int32 → Int32 → Int32 → gM → Option (Int32 × Int32 × Int32 × gM)
  | 0, _, _, _, _ => none
  | n + 1, x1, x2, x3, m4 =>
    if (m4 o0 8) ≤ x3 then
      some (x1, x2, x3, m4)
    else
      ob (a_ld (f_oln o0) (o0 + 8) x3 m4) fun v10 =>
      ob (f_X8_isIn o0 v10 p1 p2 m4) fun r11 =>
      ob (if r11 = 0 then
          some (x1, x2, m4)
        else
          ob (a_ld (f_oln o0) (o0 + 6) v10 m4) fun v16 =>
          ob (a_ld (f_oln o0) (o0 + 4) v10 m4) fun v17 =>
          ob (if v17 = 0 then
              some x2
            else
              some x1) fun (z19 : Int32) =>
          ob (some (a_min v16 z19)) fun (x20 : Int32) =>
          ob (a_ld (f_oln o0) (o0 + 6) v10 m4) fun v21 =>
          ob (a_st (f_oln o0) (o0 + 7) v10 (v21 - x20) m4) fun m22 =>
          ob (a_ld (f_oln o0) (o0 + 4) v10 m22) fun v23 =>
          ob (if v23 = 0 then
              some 0
            else
              some x20) fun (z25 : Int32) =>
          ob (some (x1 - z25)) fun (x26 : Int32) =>
          ob (a_ld (f_oln o0) (o0 + 4) v10 m22) fun v27 =>
          ob (if v27 = 0 then
              some x20
            else
              some 0) fun (z29 : Int32) =>
          ob (some (x2 - z29)) fun (x30 : Int32) =>
          some (x26, x30, m22)) fun (t31 : Int32 × Int32 × gM) =>
      ob (some t31.1) fun x13 =>
      ob (some t31.2.1) fun x14 =>
      ob (some t31.2.2) fun m15 =>
      f_X8_take_L10 o0 p1 p2 n x13 x14 (x3 + 1) m15
def f_X8_take (o0 : Nat) (p1 : Int32) (p2 : Int32) (p3 : Int32) (p4 : Int32) (me : gM) : Option (gM) :=
  ob (f_X8_take_L10 o0 p1 p2 f_fuel p3 p4 0 me) fun t32 =>
  ob (some t32.1) fun y5 =>
  ob (some t32.2.1) fun y6 =>
  ob (some t32.2.2.1) fun y7 =>
  ob (some t32.2.2.2) fun m8 =>
  some m8
abbrev rmX8_hasRoom : Room := { frames := 0, cells := 0, slots := 0, locals := 0 }
set_option maxHeartbeats 4000000 in
set_option maxRecDepth 100000 in
theorem c_X8_hasRoom (l : Launch) (G : gG) {o0 : Nat} {me : gM} {r0 : Int32}  (ho0 : ZC.2.1 o0 = 9) (hf : f_X8_hasRoom o0 me = some r0) : Met l yX8_hasRoom wsX8_hasRoom rmX8_hasRoom (va_Pc [.ref (G.2.2.1 o0)] (g_W ZC G me)) (g_Qi ZC G r0 me) 0 0 (g_A ZC G) := by
  refine Met.ofW (cc := cX8_hasRoom) (maxL := 1) (ret := (some .boolean)) (by decide) rfl ?_
  intro p e s m args below meth c s₁ B hml hv
  obtain ⟨rfl, hW0⟩ := hv
  have hC : CallFix p m c cX8_hasRoom 1 s ([.ref (G.2.2.1 o0)] : List Value).toArray wsX8_hasRoom RX8 := ⟨B.exec, B.bytes, hml, findClass_of_methodNamed B.named, atoms_spec (ws := wsX8_hasRoom) B.pre⟩
  have hx := hC.1
  have hb := hC.2.1
  have hown := hC.2.2.2.1
  have hts := hC.2.2.2.2
  have hr := B.returns
  have hlocks := B.notSynchronized
  have hW := g_H_enter hW0
  have hi8 : ∀ w ∈ wsX80, w ∈ wsX8_hasRoom := by decide +kernel
  have hl := lv_entry ([.ref (G.2.2.1 o0)]) (n := 1) (Nat.le_of_ble_eq_true rfl)
  rw [lg_entry_eq]
  generalize (lg_sl ([.ref (G.2.2.1 o0)]) ++ List.replicate (1 - (lg_sl ([.ref (G.2.2.1 o0)])).length) Slot.unset).toArray = ls at hl ⊢
  have hl : lv_has ls 1 [(0, .ref (G.2.2.1 o0))] := hl
  obtain ⟨Q, hQ⟩ : ∃ Q, Q = MQ below (g_Qi ZC G r0 me) ([.ref (G.2.2.1 o0)] : List Value).toArray s 0 0 (g_A ZC G) := ⟨_, rfl⟩
  refine g_goQ hQ ?_
  unfold f_X8_hasRoom at hf
  refine g_start hW (fun H locs hW => ?_)
  refine lv_aload_n hx hb dX8_hasRoom_0 rfl (lv_at hl 0 rfl) ?_
  refine g_geti hC hW (o := o0) (ci := 8) (k := 8) ho0 (zc_lt ho0) rfl hi8 (by decide) rfl (by decide +kernel) dX8_hasRoom_1 ?_
  refine lv_aload_n hx hb dX8_hasRoom_4 rfl (lv_at hl 0 rfl) ?_
  refine g_getr hC hW (o := o0) (ci := 8) (k := 7) ho0 (zc_lt ho0) rfl hi8 (by decide) rfl (t := (o0 + 8)) (zc_o8_7 ho0).1 (by decide +kernel) dX8_hasRoom_5 ?_
  refine g_leni hC hW (zc_o8_7 ho0).2.1 (zc_o8_7 ho0).2.2.1 (zc_o8_7 ho0).2.2.2 dX8_hasRoom_8 ?_
  obtain ⟨z2, hg, hf⟩ := ob_inv hf
  have hJ17 : ∀ (H : Heap) (locs : List Loc) (ls : Array Slot), g_H ZC G s H locs me → lv_has ls 1 [] → W p l e (headSpec wsX8_hasRoom rmX8_hasRoom).room s m ([.ref (G.2.2.1 o0)] : List Value).toArray below meth c H locs 0 0 Q (F0 m 17 ls [.int z2]) := by
    intro H locs ls hW hl
    obtain ⟨b3, h9, hf⟩ := ob_inv hf
    obtain ⟨h9, hn9⟩ := a_zc_inv h9
    refine g_nmi h9 ?_
    cases hf
    subst hQ
    exact g_zret hC hW hr hlocks hn9 rfl rfl dX8_hasRoom_17
  replace hf := hg
  refine lv_icmp_ge (tgt := 16) hx hb dX8_hasRoom_9 (by decide) (fun c1 => ?_) (fun c1 => ?_)
  · have hf := a_if_t c1 hf
    refine lv_iconst (v := 0) hx hb dX8_hasRoom_16 (by decide) ?_
    cases hf
    exact hJ17 H locs ls hW (lv_sub hl [] rfl)
  · have hf := a_if_f c1 hf
    refine lv_iconst (v := 1) hx hb dX8_hasRoom_12 (by decide) ?_
    refine lv_goto (tgt := 17) hx hb dX8_hasRoom_13 (by decide) ?_
    cases hf
    exact hJ17 H locs ls hW (lv_sub hl [] rfl)
abbrev rmX8_used : Room := { frames := 0, cells := 0, slots := 0, locals := 0 }
set_option maxHeartbeats 4000000 in
set_option maxRecDepth 100000 in
theorem c_X8_used (l : Launch) (G : gG) {o0 : Nat} {p1 : Int32} {me : gM} {r0 : Int32}  (ho0 : ZC.2.1 o0 = 9) (hf : f_X8_used o0 p1 me = some r0) : Met l yX8_used wsX8_used rmX8_used (va_Pc [.ref (G.2.2.1 o0), .int p1] (g_W ZC G me)) (g_Qi ZC G r0 me) 0 0 (g_A ZC G) := by
  refine Met.ofW (cc := cX8_used) (maxL := 2) (ret := (some .int)) (by decide) rfl ?_
  intro p e s m args below meth c s₁ B hml hv
  obtain ⟨rfl, hW0⟩ := hv
  have hC : CallFix p m c cX8_used 2 s ([.ref (G.2.2.1 o0), .int p1] : List Value).toArray wsX8_used RX8 := ⟨B.exec, B.bytes, hml, findClass_of_methodNamed B.named, atoms_spec (ws := wsX8_used) B.pre⟩
  have hx := hC.1
  have hb := hC.2.1
  have hown := hC.2.2.2.1
  have hts := hC.2.2.2.2
  have hr := B.returns
  have hlocks := B.notSynchronized
  have hW := g_H_enter hW0
  have hi8 : ∀ w ∈ wsX80, w ∈ wsX8_used := by decide +kernel
  have hl := lv_entry ([.ref (G.2.2.1 o0), .int p1]) (n := 2) (Nat.le_of_ble_eq_true rfl)
  rw [lg_entry_eq]
  generalize (lg_sl ([.ref (G.2.2.1 o0), .int p1]) ++ List.replicate (2 - (lg_sl ([.ref (G.2.2.1 o0), .int p1])).length) Slot.unset).toArray = ls at hl ⊢
  have hl : lv_has ls 2 [(0, .ref (G.2.2.1 o0)), (1, .int p1)] := hl
  obtain ⟨Q, hQ⟩ : ∃ Q, Q = MQ below (g_Qi ZC G r0 me) ([.ref (G.2.2.1 o0), .int p1] : List Value).toArray s 0 0 (g_A ZC G) := ⟨_, rfl⟩
  refine g_goQ hQ ?_
  unfold f_X8_used at hf
  refine g_start hW (fun H locs hW => ?_)
  refine lv_aload_n hx hb dX8_used_0 rfl (lv_at hl 0 rfl) ?_
  refine g_getr hC hW (o := o0) (ci := 8) (k := 5) ho0 (zc_lt ho0) rfl hi8 (by decide) rfl (t := (o0 + 6)) (zc_o8_5 ho0).1 (by decide +kernel) dX8_used_1 ?_
  refine lv_iload_n hx hb dX8_used_4 rfl (lv_at hl 1 rfl) ?_
  obtain ⟨v1, h9, hf⟩ := ob_inv hf
  refine g_ild hC hW (zc_o8_5 ho0).2.1 (zc_o8_5 ho0).2.2.1 (zc_o8_5 ho0).2.2.2 h9 dX8_used_5 ?_
  refine lv_aload_n hx hb dX8_used_6 rfl (lv_at hl 0 rfl) ?_
  refine g_getr hC hW (o := o0) (ci := 8) (k := 6) ho0 (zc_lt ho0) rfl hi8 (by decide) rfl (t := (o0 + 7)) (zc_o8_6 ho0).1 (by decide +kernel) dX8_used_7 ?_
  refine lv_iload_n hx hb dX8_used_10 rfl (lv_at hl 1 rfl) ?_
  obtain ⟨v2, h9, hf⟩ := ob_inv hf
  refine g_ild hC hW (zc_o8_6 ho0).2.1 (zc_o8_6 ho0).2.2.1 (zc_o8_6 ho0).2.2.2 h9 dX8_used_11 ?_
  refine lv_isub hx hb dX8_used_12 ?_
  cases hf
  subst hQ
  exact g_iret hC hW hr hlocks rfl rfl dX8_used_13
abbrev rmX8_costOf : Room := { frames := 0, cells := 0, slots := 0, locals := 0 }
set_option maxHeartbeats 4000000 in
set_option maxRecDepth 100000 in
theorem c_X8_costOf (l : Launch) (G : gG) {o0 : Nat} {p1 : Int32} {me : gM} {r0 : Int32}  (ho0 : ZC.2.1 o0 = 9) (hf : f_X8_costOf o0 p1 me = some r0) : Met l yX8_costOf wsX8_costOf rmX8_costOf (va_Pc [.ref (G.2.2.1 o0), .int p1] (g_W ZC G me)) (g_Qi ZC G r0 me) 0 0 (g_A ZC G) := by
  refine Met.ofW (cc := cX8_costOf) (maxL := 2) (ret := (some .int)) (by decide) rfl ?_
  intro p e s m args below meth c s₁ B hml hv
  obtain ⟨rfl, hW0⟩ := hv
  have hC : CallFix p m c cX8_costOf 2 s ([.ref (G.2.2.1 o0), .int p1] : List Value).toArray wsX8_costOf RX8 := ⟨B.exec, B.bytes, hml, findClass_of_methodNamed B.named, atoms_spec (ws := wsX8_costOf) B.pre⟩
  have hx := hC.1
  have hb := hC.2.1
  have hown := hC.2.2.2.1
  have hts := hC.2.2.2.2
  have hr := B.returns
  have hlocks := B.notSynchronized
  have hW := g_H_enter hW0
  have hi8 : ∀ w ∈ wsX80, w ∈ wsX8_costOf := by decide +kernel
  have hl := lv_entry ([.ref (G.2.2.1 o0), .int p1]) (n := 2) (Nat.le_of_ble_eq_true rfl)
  rw [lg_entry_eq]
  generalize (lg_sl ([.ref (G.2.2.1 o0), .int p1]) ++ List.replicate (2 - (lg_sl ([.ref (G.2.2.1 o0), .int p1])).length) Slot.unset).toArray = ls at hl ⊢
  have hl : lv_has ls 2 [(0, .ref (G.2.2.1 o0)), (1, .int p1)] := hl
  obtain ⟨Q, hQ⟩ : ∃ Q, Q = MQ below (g_Qi ZC G r0 me) ([.ref (G.2.2.1 o0), .int p1] : List Value).toArray s 0 0 (g_A ZC G) := ⟨_, rfl⟩
  refine g_goQ hQ ?_
  unfold f_X8_costOf at hf
  refine g_start hW (fun H locs hW => ?_)
  refine lv_aload_n hx hb dX8_costOf_0 rfl (lv_at hl 0 rfl) ?_
  refine g_getr hC hW (o := o0) (ci := 8) (k := 3) ho0 (zc_lt ho0) rfl hi8 (by decide) rfl (t := (o0 + 4)) (zc_o8_3 ho0).1 (by decide +kernel) dX8_costOf_1 ?_
  refine lv_iload_n hx hb dX8_costOf_4 rfl (lv_at hl 1 rfl) ?_
  obtain ⟨v1, h9, hf⟩ := ob_inv hf
  refine g_zld hC hW (zc_o8_3 ho0).2.1 (zc_o8_3 ho0).2.2.1 (zc_o8_3 ho0).2.2.2 h9 dX8_costOf_5 ?_
  obtain ⟨z3, hg, hf⟩ := ob_inv hf
  have hJ25 : ∀ (H : Heap) (locs : List Loc) (ls : Array Slot), g_H ZC G s H locs me → lv_has ls 2 [] → W p l e (headSpec wsX8_costOf rmX8_costOf).room s m ([.ref (G.2.2.1 o0), .int p1] : List Value).toArray below meth c H locs 0 0 Q (F0 m 25 ls [.int z3]) := by
    intro H locs ls hW hl
    cases hf
    subst hQ
    exact g_iret hC hW hr hlocks rfl rfl dX8_costOf_25
  replace hf := hg
  refine lv_if_eq (tgt := 19) hx hb dX8_costOf_6 (by decide) (fun c2 => ?_) (fun c2 => ?_)
  · have hf := a_if_t c2 hf
    refine lv_aload_n hx hb dX8_costOf_19 rfl (lv_at hl 0 rfl) ?_
    refine g_getr hC hW (o := o0) (ci := 8) (k := 4) ho0 (zc_lt ho0) rfl hi8 (by decide) rfl (t := (o0 + 5)) (zc_o8_4 ho0).1 (by decide +kernel) dX8_costOf_20 ?_
    refine lv_iload_n hx hb dX8_costOf_23 rfl (lv_at hl 1 rfl) ?_
    obtain ⟨v4, h9, hf⟩ := ob_inv hf
    refine g_ild hC hW (zc_o8_4 ho0).2.1 (zc_o8_4 ho0).2.2.1 (zc_o8_4 ho0).2.2.2 h9 dX8_costOf_24 ?_
    cases hf
    exact hJ25 H locs ls hW (lv_sub hl [] rfl)
  · have hf := a_if_f c2 hf
    refine lv_aload_n hx hb dX8_costOf_9 rfl (lv_at hl 0 rfl) ?_
    refine g_getr hC hW (o := o0) (ci := 8) (k := 4) ho0 (zc_lt ho0) rfl hi8 (by decide) rfl (t := (o0 + 5)) (zc_o8_4 ho0).1 (by decide +kernel) dX8_costOf_10 ?_
    refine lv_iload_n hx hb dX8_costOf_13 rfl (lv_at hl 1 rfl) ?_
    obtain ⟨v5, h9, hf⟩ := ob_inv hf
    refine g_ild hC hW (zc_o8_4 ho0).2.1 (zc_o8_4 ho0).2.2.1 (zc_o8_4 ho0).2.2.2 h9 dX8_costOf_14 ?_
    refine lv_ineg hx hb dX8_costOf_15 ?_
    refine lv_goto (tgt := 25) hx hb dX8_costOf_16 (by decide) ?_
    cases hf
    exact hJ25 H locs ls hW (lv_sub hl [] rfl)
abbrev rmX8_rank : Room := { frames := 1, cells := 0, slots := 0, locals := 21 }
set_option maxHeartbeats 4000000 in
set_option maxRecDepth 100000 in
theorem c_X8_rank (l : Launch) (G : gG) {o0 : Nat} {p1 : Int32} {me : gM} {m0 : gM}  (ho0 : ZC.2.1 o0 = 9) (hf : f_X8_rank o0 p1 me = some m0) : Met l yX8_rank wsX8_rank rmX8_rank (va_Pc [.ref (G.2.2.1 o0), .int p1] (g_W ZC G me)) (g_Qv ZC G m0) 0 0 (g_A ZC G) := by
  refine Met.ofW (cc := cX8_rank) (maxL := 3) (ret := none) (by decide) rfl ?_
  intro p e s m args below meth c s₁ B hml hv
  obtain ⟨rfl, hW0⟩ := hv
  have hC : CallFix p m c cX8_rank 3 s ([.ref (G.2.2.1 o0), .int p1] : List Value).toArray wsX8_rank RX8 := ⟨B.exec, B.bytes, hml, findClass_of_methodNamed B.named, atoms_spec (ws := wsX8_rank) B.pre⟩
  have hx := hC.1
  have hb := hC.2.1
  have hown := hC.2.2.2.1
  have hts := hC.2.2.2.2
  have hr := B.returns
  have hlocks := B.notSynchronized
  have hW := g_H_enter hW0
  have hi8 : ∀ w ∈ wsX80, w ∈ wsX8_rank := by decide +kernel
  have hl := lv_entry ([.ref (G.2.2.1 o0), .int p1]) (n := 3) (Nat.le_of_ble_eq_true rfl)
  rw [lg_entry_eq]
  generalize (lg_sl ([.ref (G.2.2.1 o0), .int p1]) ++ List.replicate (3 - (lg_sl ([.ref (G.2.2.1 o0), .int p1])).length) Slot.unset).toArray = ls at hl ⊢
  have hl : lv_has ls 3 [(0, .ref (G.2.2.1 o0)), (1, .int p1)] := hl
  obtain ⟨Q, hQ⟩ : ∃ Q, Q = MQ below (g_Qv ZC G m0) ([.ref (G.2.2.1 o0), .int p1] : List Value).toArray s 0 0 (g_A ZC G) := ⟨_, rfl⟩
  refine g_goQ hQ ?_
  unfold f_X8_rank at hf
  refine g_start hW (fun H locs hW => ?_)
  refine lv_iload_n hx hb dX8_rank_0 rfl (lv_at hl 1 rfl) ?_
  refine lv_istore_n (lv' := [(2, .int p1), (0, .ref (G.2.2.1 o0)), (1, .int p1)]) hx hb dX8_rank_1 rfl hl (by decide) rfl (fun ls hl => ?_)
  have hL2 : ∀ (n : Nat) (x1 : Int32) (m2 : gM) (y3 : Int32) (m4 : gM) (H : Heap) (locs : List Loc) (ls : Array Slot), f_X8_rank_L2 o0 p1 n x1 m2 = some (y3, m4) → g_H ZC G s H locs m2 → lv_has ls 3 [(0, .ref (G.2.2.1 o0)), (1, .int p1), (2, .int x1)] → (∀ (H : Heap) (locs : List Loc) (ls : Array Slot), g_H ZC G s H locs m4 → lv_has ls 3 [(0, .ref (G.2.2.1 o0)), (1, .int p1), (2, .int y3)] → W p l e (headSpec wsX8_rank rmX8_rank).room s m ([.ref (G.2.2.1 o0), .int p1] : List Value).toArray below meth c H locs 0 0 Q (F0 m 46 ls [])) → W p l e (headSpec wsX8_rank rmX8_rank).room s m ([.ref (G.2.2.1 o0), .int p1] : List Value).toArray below meth c H locs 0 0 Q (F0 m 2 ls []) := by
    intro n
    induction n with
    | zero =>
      intro x1 m2 y3 m4 H locs ls hf hW hl hE
      cases hf
    | succ n ih =>
      intro x1 m2 y3 m4 H locs ls hf hW hl hE
      rw [f_X8_rank_L2] at hf
      refine lv_iload_n hx hb dX8_rank_2 rfl (lv_at hl 2 rfl) ?_
      refine lv_if_le (tgt := 46) hx hb dX8_rank_3 (by decide) (fun c5 => ?_) (fun c5 => ?_)
      · have hf := a_if_t c5 hf
        cases hf
        exact hE H locs ls hW (lv_sub hl [0, 1, 2] rfl)
      · have hf := a_if_f c5 hf
        refine lv_aload_n hx hb dX8_rank_6 rfl (lv_at hl 0 rfl) ?_
        refine lv_aload_n hx hb dX8_rank_7 rfl (lv_at hl 0 rfl) ?_
        refine g_getr hC hW (o := o0) (ci := 8) (k := 7) ho0 (zc_lt ho0) rfl hi8 (by decide) rfl (t := (o0 + 8)) (zc_o8_7 ho0).1 (by decide +kernel) dX8_rank_8 ?_
        refine lv_iload_n hx hb dX8_rank_11 rfl (lv_at hl 2 rfl) ?_
        refine lv_iconst (v := 1) hx hb dX8_rank_12 (by decide) ?_
        refine lv_isub hx hb dX8_rank_13 ?_
        obtain ⟨v6, h9, hf⟩ := ob_inv hf
        refine g_ild hC hW (zc_o8_7 ho0).2.1 (zc_o8_7 ho0).2.2.1 (zc_o8_7 ho0).2.2.2 h9 dX8_rank_14 ?_
        obtain ⟨r7, hg, hf⟩ := ob_inv hf
        refine g_cVi hC hW (o := o0) (ci := 8) (As := [.int v6]) (rest := []) ho0 (zc_lt ho0) rfl (c_X8_costOf l G ho0 hg) (cwV 1 hts gX8_rank_X8_costOf rfl rfl rfl (by decide +kernel) ⟨Nat.le_of_ble_eq_true rfl, Nat.le_of_ble_eq_true rfl⟩) rfl hl.1 rfl (Nat.le_of_ble_eq_true rfl) dX8_rank_15 ⟨Nat.le_of_ble_eq_true rfl, Nat.le_of_ble_eq_true rfl⟩ (fun H locs hW => ?_)
        refine lv_aload_n hx hb dX8_rank_18 rfl (lv_at hl 0 rfl) ?_
        refine lv_iload_n hx hb dX8_rank_19 rfl (lv_at hl 1 rfl) ?_
        obtain ⟨r8, hg, hf⟩ := ob_inv hf
        refine g_cVi hC hW (o := o0) (ci := 8) (As := [.int p1]) (rest := [.int r7]) ho0 (zc_lt ho0) rfl (c_X8_costOf l G ho0 hg) (cwV 1 hts gX8_rank_X8_costOf rfl rfl rfl (by decide +kernel) ⟨Nat.le_of_ble_eq_true rfl, Nat.le_of_ble_eq_true rfl⟩) rfl hl.1 rfl (Nat.le_of_ble_eq_true rfl) dX8_rank_20 ⟨Nat.le_of_ble_eq_true rfl, Nat.le_of_ble_eq_true rfl⟩ (fun H locs hW => ?_)
        refine lv_icmp_le (tgt := 46) hx hb dX8_rank_23 (by decide) (fun c9 => ?_) (fun c9 => ?_)
        · have hf := a_if_t c9 hf
          cases hf
          exact hE H locs ls hW (lv_sub hl [0, 1, 2] rfl)
        · have hf := a_if_f c9 hf
          refine lv_aload_n hx hb dX8_rank_26 rfl (lv_at hl 0 rfl) ?_
          refine g_getr hC hW (o := o0) (ci := 8) (k := 7) ho0 (zc_lt ho0) rfl hi8 (by decide) rfl (t := (o0 + 8)) (zc_o8_7 ho0).1 (by decide +kernel) dX8_rank_27 ?_
          refine lv_iload_n hx hb dX8_rank_30 rfl (lv_at hl 2 rfl) ?_
          refine lv_aload_n hx hb dX8_rank_31 rfl (lv_at hl 0 rfl) ?_
          refine g_getr hC hW (o := o0) (ci := 8) (k := 7) ho0 (zc_lt ho0) rfl hi8 (by decide) rfl (t := (o0 + 8)) (zc_o8_7 ho0).1 (by decide +kernel) dX8_rank_32 ?_
          refine lv_iload_n hx hb dX8_rank_35 rfl (lv_at hl 2 rfl) ?_
          refine lv_iconst (v := 1) hx hb dX8_rank_36 (by decide) ?_
          refine lv_isub hx hb dX8_rank_37 ?_
          obtain ⟨v10, h9, hf⟩ := ob_inv hf
          refine g_ild hC hW (zc_o8_7 ho0).2.1 (zc_o8_7 ho0).2.2.1 (zc_o8_7 ho0).2.2.2 h9 dX8_rank_38 ?_
          obtain ⟨m11, h9, hf⟩ := ob_inv hf
          refine g_ist hC hW (zc_o8_7 ho0).2.1 (zc_o8_7 ho0).2.2.1 (zc_o8_7 ho0).2.2.2 h9 dX8_rank_39 (fun H locs hW => ?_)
          refine lv_iinc (v := (x1 + (-1))) (lv' := [(2, .int (x1 + (-1))), (0, .ref (G.2.2.1 o0)), (1, .int p1)]) hx hb dX8_rank_40 hl (k := 2) rfl (congrArg (fun z => x1 + z) (by decide)) (by decide) rfl (fun ls hl => ?_)
          refine lv_goto (tgt := 2) hx hb dX8_rank_43 (by decide) ?_
          exact ih _ _ _ _ _ _ _ hf hW (lv_sub hl [1, 2, 0] rfl) hE
  obtain ⟨⟨y3, m4⟩, hg, hf⟩ := ob_inv hf
  have hf := ob_inv2 hf
  refine hL2 _ _ _ _ _ _ _ _ hg hW (lv_sub hl [1, 2, 0] rfl) (fun H locs ls hW hl => ?_)
  refine lv_aload_n hx hb dX8_rank_46 rfl (lv_at hl 0 rfl) ?_
  refine g_getr hC hW (o := o0) (ci := 8) (k := 7) ho0 (zc_lt ho0) rfl hi8 (by decide) rfl (t := (o0 + 8)) (zc_o8_7 ho0).1 (by decide +kernel) dX8_rank_47 ?_
  refine lv_iload_n hx hb dX8_rank_50 rfl (lv_at hl 2 rfl) ?_
  refine lv_iload_n hx hb dX8_rank_51 rfl (lv_at hl 1 rfl) ?_
  obtain ⟨m12, h9, hf⟩ := ob_inv hf
  refine g_ist hC hW (zc_o8_7 ho0).2.1 (zc_o8_7 ho0).2.2.1 (zc_o8_7 ho0).2.2.2 h9 dX8_rank_52 (fun H locs hW => ?_)
  cases hf
  subst hQ
  exact g_vret hC hW hr hlocks rfl dX8_rank_53
abbrev rmX8_add : Room := { frames := 2, cells := 0, slots := 0, locals := 43 }
set_option maxHeartbeats 4000000 in
set_option maxRecDepth 100000 in
theorem c_X8_add (l : Launch) (G : gG) {o0 : Nat} {p1 : Int32} {p2 : Int32} {p3 : Int32} {p4 : Int32} {p5 : Int32} {p6 : Int32} {me : gM} {r0 : Int32} {m0 : gM}  (ho0 : ZC.2.1 o0 = 9) (hf : f_X8_add o0 p1 p2 p3 p4 p5 p6 me = some (r0, m0)) : Met l yX8_add wsX8_add rmX8_add (va_Pc [.ref (G.2.2.1 o0), .int p1, .int p2, .int p3, .int p4, .int p5, .int p6] (g_W ZC G me)) (g_Qi ZC G r0 m0) 0 0 (g_A ZC G) := by
  refine Met.ofW (cc := cX8_add) (maxL := 8) (ret := (some .int)) (by decide) rfl ?_
  intro p e s m args below meth c s₁ B hml hv
  obtain ⟨rfl, hW0⟩ := hv
  have hC : CallFix p m c cX8_add 8 s ([.ref (G.2.2.1 o0), .int p1, .int p2, .int p3, .int p4, .int p5, .int p6] : List Value).toArray wsX8_add RX8 := ⟨B.exec, B.bytes, hml, findClass_of_methodNamed B.named, atoms_spec (ws := wsX8_add) B.pre⟩
  have hx := hC.1
  have hb := hC.2.1
  have hown := hC.2.2.2.1
  have hts := hC.2.2.2.2
  have hr := B.returns
  have hlocks := B.notSynchronized
  have hW := g_H_enter hW0
  have hi8 : ∀ w ∈ wsX80, w ∈ wsX8_add := by decide +kernel
  have hl := lv_entry ([.ref (G.2.2.1 o0), .int p1, .int p2, .int p3, .int p4, .int p5, .int p6]) (n := 8) (Nat.le_of_ble_eq_true rfl)
  rw [lg_entry_eq]
  generalize (lg_sl ([.ref (G.2.2.1 o0), .int p1, .int p2, .int p3, .int p4, .int p5, .int p6]) ++ List.replicate (8 - (lg_sl ([.ref (G.2.2.1 o0), .int p1, .int p2, .int p3, .int p4, .int p5, .int p6])).length) Slot.unset).toArray = ls at hl ⊢
  have hl : lv_has ls 8 [(0, .ref (G.2.2.1 o0)), (1, .int p1), (2, .int p2), (3, .int p3), (4, .int p4), (5, .int p5), (6, .int p6)] := hl
  obtain ⟨Q, hQ⟩ : ∃ Q, Q = MQ below (g_Qi ZC G r0 m0) ([.ref (G.2.2.1 o0), .int p1, .int p2, .int p3, .int p4, .int p5, .int p6] : List Value).toArray s 0 0 (g_A ZC G) := ⟨_, rfl⟩
  refine g_goQ hQ ?_
  unfold f_X8_add at hf
  refine g_start hW (fun H locs hW => ?_)
  refine lv_aload_n hx hb dX8_add_0 rfl (lv_at hl 0 rfl) ?_
  obtain ⟨r1, hg, hf⟩ := ob_inv hf
  refine g_cVi hC hW (o := o0) (ci := 8) (As := []) (rest := []) ho0 (zc_lt ho0) rfl (c_X8_hasRoom l G ho0 hg) (cwV 0 hts gX8_add_X8_hasRoom rfl rfl rfl (by decide +kernel) ⟨Nat.le_of_ble_eq_true rfl, Nat.le_of_ble_eq_true rfl⟩) rfl hl.1 rfl (Nat.le_of_ble_eq_true rfl) dX8_add_1 ⟨Nat.le_of_ble_eq_true rfl, Nat.le_of_ble_eq_true rfl⟩ (fun H locs hW => ?_)
  refine lv_if_ne (tgt := 9) hx hb dX8_add_4 (by decide) (fun c2 => ?_) (fun c2 => ?_)
  · have hf := a_if_f c2 hf
    refine lv_aload_n hx hb dX8_add_9 rfl (lv_at hl 0 rfl) ?_
    refine g_geti hC hW (o := o0) (ci := 8) (k := 8) ho0 (zc_lt ho0) rfl hi8 (by decide) rfl (by decide +kernel) dX8_add_10 ?_
    obtain ⟨x3, h9, hf⟩ := ob_inv hf
    refine g_nmi (Option.some.inj h9) ?_
    refine lv_istore (lv' := [(7, .int x3), (0, .ref (G.2.2.1 o0)), (1, .int p1), (2, .int p2), (3, .int p3), (4, .int p4), (5, .int p5), (6, .int p6)]) hx hb dX8_add_13 hl (by decide) rfl (fun ls hl => ?_)
    refine lv_aload_n hx hb dX8_add_15 rfl (lv_at hl 1 rfl) ?_
    refine g_getr hC hW (o := o0) (ci := 8) (k := 0) ho0 (zc_lt ho0) rfl hi8 (by decide) rfl (t := (o0 + 1)) (zc_o8_0 ho0).1 (by decide +kernel) dX8_add_16 ?_
    refine lv_iload hx hb dX8_add_19 (lv_at hl 0 rfl) ?_
    refine lv_iload_n hx hb dX8_add_21 rfl (lv_at hl 2 rfl) ?_
    obtain ⟨m4, h9, hf⟩ := ob_inv hf
    refine g_ist hC hW (zc_o8_0 ho0).2.1 (zc_o8_0 ho0).2.2.1 (zc_o8_0 ho0).2.2.2 h9 dX8_add_22 (fun H locs hW => ?_)
    refine lv_aload_n hx hb dX8_add_23 rfl (lv_at hl 1 rfl) ?_
    refine g_getr hC hW (o := o0) (ci := 8) (k := 1) ho0 (zc_lt ho0) rfl hi8 (by decide) rfl (t := (o0 + 2)) (zc_o8_1 ho0).1 (by decide +kernel) dX8_add_24 ?_
    refine lv_iload hx hb dX8_add_27 (lv_at hl 0 rfl) ?_
    refine lv_iload_n hx hb dX8_add_29 rfl (lv_at hl 3 rfl) ?_
    obtain ⟨m5, h9, hf⟩ := ob_inv hf
    refine g_ist hC hW (zc_o8_1 ho0).2.1 (zc_o8_1 ho0).2.2.1 (zc_o8_1 ho0).2.2.2 h9 dX8_add_30 (fun H locs hW => ?_)
    refine lv_aload_n hx hb dX8_add_31 rfl (lv_at hl 1 rfl) ?_
    refine g_getr hC hW (o := o0) (ci := 8) (k := 2) ho0 (zc_lt ho0) rfl hi8 (by decide) rfl (t := (o0 + 3)) (zc_o8_2 ho0).1 (by decide +kernel) dX8_add_32 ?_
    refine lv_iload hx hb dX8_add_35 (lv_at hl 0 rfl) ?_
    refine lv_iload_n hx hb dX8_add_37 rfl (lv_at hl 4 rfl) ?_
    obtain ⟨m6, h9, hf⟩ := ob_inv hf
    refine g_ist hC hW (zc_o8_2 ho0).2.1 (zc_o8_2 ho0).2.2.1 (zc_o8_2 ho0).2.2.2 h9 dX8_add_38 (fun H locs hW => ?_)
    refine lv_aload_n hx hb dX8_add_39 rfl (lv_at hl 1 rfl) ?_
    refine g_getr hC hW (o := o0) (ci := 8) (k := 3) ho0 (zc_lt ho0) rfl hi8 (by decide) rfl (t := (o0 + 4)) (zc_o8_3 ho0).1 (by decide +kernel) dX8_add_40 ?_
    refine lv_iload hx hb dX8_add_43 (lv_at hl 0 rfl) ?_
    refine lv_iload hx hb dX8_add_45 (lv_at hl 5 rfl) ?_
    obtain ⟨m7, h9, hf⟩ := ob_inv hf
    refine g_zst hC hW (zc_o8_3 ho0).2.1 (zc_o8_3 ho0).2.2.1 (zc_o8_3 ho0).2.2.2 h9 dX8_add_47 (fun H locs hW => ?_)
    refine lv_aload_n hx hb dX8_add_48 rfl (lv_at hl 1 rfl) ?_
    refine g_getr hC hW (o := o0) (ci := 8) (k := 4) ho0 (zc_lt ho0) rfl hi8 (by decide) rfl (t := (o0 + 5)) (zc_o8_4 ho0).1 (by decide +kernel) dX8_add_49 ?_
    refine lv_iload hx hb dX8_add_52 (lv_at hl 0 rfl) ?_
    refine lv_iload hx hb dX8_add_54 (lv_at hl 6 rfl) ?_
    obtain ⟨m8, h9, hf⟩ := ob_inv hf
    refine g_ist hC hW (zc_o8_4 ho0).2.1 (zc_o8_4 ho0).2.2.1 (zc_o8_4 ho0).2.2.2 h9 dX8_add_56 (fun H locs hW => ?_)
    refine lv_aload_n hx hb dX8_add_57 rfl (lv_at hl 1 rfl) ?_
    refine g_getr hC hW (o := o0) (ci := 8) (k := 5) ho0 (zc_lt ho0) rfl hi8 (by decide) rfl (t := (o0 + 6)) (zc_o8_5 ho0).1 (by decide +kernel) dX8_add_58 ?_
    refine lv_iload hx hb dX8_add_61 (lv_at hl 0 rfl) ?_
    refine lv_iload hx hb dX8_add_63 (lv_at hl 7 rfl) ?_
    obtain ⟨m9, h9, hf⟩ := ob_inv hf
    refine g_ist hC hW (zc_o8_5 ho0).2.1 (zc_o8_5 ho0).2.2.1 (zc_o8_5 ho0).2.2.2 h9 dX8_add_65 (fun H locs hW => ?_)
    refine lv_aload_n hx hb dX8_add_66 rfl (lv_at hl 1 rfl) ?_
    refine g_getr hC hW (o := o0) (ci := 8) (k := 6) ho0 (zc_lt ho0) rfl hi8 (by decide) rfl (t := (o0 + 7)) (zc_o8_6 ho0).1 (by decide +kernel) dX8_add_67 ?_
    refine lv_iload hx hb dX8_add_70 (lv_at hl 0 rfl) ?_
    refine lv_iload hx hb dX8_add_72 (lv_at hl 7 rfl) ?_
    obtain ⟨m10, h9, hf⟩ := ob_inv hf
    refine g_ist hC hW (zc_o8_6 ho0).2.1 (zc_o8_6 ho0).2.2.1 (zc_o8_6 ho0).2.2.2 h9 dX8_add_74 (fun H locs hW => ?_)
    refine lv_aload_n hx hb dX8_add_75 rfl (lv_at hl 1 rfl) ?_
    refine lv_iload hx hb dX8_add_76 (lv_at hl 0 rfl) ?_
    obtain ⟨m11, hg, hf⟩ := ob_inv hf
    refine g_cVv hC hW (o := o0) (ci := 8) (As := [.int x3]) (rest := []) ho0 (zc_lt ho0) rfl (c_X8_rank l G ho0 hg) (cwV 1 hts gX8_add_X8_rank rfl rfl rfl (by decide +kernel) ⟨Nat.le_of_ble_eq_true rfl, Nat.le_of_ble_eq_true rfl⟩) rfl hl.1 rfl (Nat.le_of_ble_eq_true rfl) dX8_add_78 ⟨Nat.le_of_ble_eq_true rfl, Nat.le_of_ble_eq_true rfl⟩ (fun H locs hW => ?_)
    refine lv_aload_n hx hb dX8_add_81 rfl (lv_at hl 1 rfl) ?_
    refine lv_dup hx hb dX8_add_82 rfl ?_
    refine g_geti hC hW (o := o0) (ci := 8) (k := 8) ho0 (zc_lt ho0) rfl hi8 (by decide) rfl (by decide +kernel) dX8_add_83 ?_
    refine lv_iconst (v := 1) hx hb dX8_add_86 (by decide) ?_
    refine lv_iadd hx hb dX8_add_87 ?_
    obtain ⟨m12, h9, hf⟩ := ob_inv hf
    refine g_puti hC hW (o := o0) (ci := 8) (k := 8) ho0 (zc_lt ho0) rfl hi8 tyX8_ok nmX8 (by decide) rfl rfl rfl (by decide +kernel) dX8_add_88 (fun H locs hW => ?_)
    rw [Option.some.inj h9] at hW
    refine lv_iload hx hb dX8_add_91 (lv_at hl 0 rfl) ?_
    cases hf
    subst hQ
    exact g_iret hC hW hr hlocks rfl rfl dX8_add_93
  · have hf := a_if_t c2 hf
    refine lv_iconst (v := (-1)) hx hb dX8_add_7 (by decide) ?_
    cases hf
    subst hQ
    exact g_iret hC hW hr hlocks rfl rfl dX8_add_8
abbrev rmX8_fits : Room := { frames := 1, cells := 0, slots := 0, locals := 21 }
set_option maxHeartbeats 4000000 in
set_option maxRecDepth 100000 in
theorem c_X8_fits (l : Launch) (G : gG) {o0 : Nat} {p1 : Int32} {p2 : Int32} {me : gM} {r0 : Int32}  (ho0 : ZC.2.1 o0 = 9) (hf : f_X8_fits o0 p1 p2 me = some r0) : Met l yX8_fits wsX8_fits rmX8_fits (va_Pc [.ref (G.2.2.1 o0), .int p1, .int p2] (g_W ZC G me)) (g_Qi ZC G r0 me) 0 0 (g_A ZC G) := by
  refine Met.ofW (cc := cX8_fits) (maxL := 3) (ret := (some .boolean)) (by decide) rfl ?_
  intro p e s m args below meth c s₁ B hml hv
  obtain ⟨rfl, hW0⟩ := hv
  have hC : CallFix p m c cX8_fits 3 s ([.ref (G.2.2.1 o0), .int p1, .int p2] : List Value).toArray wsX8_fits RX8 := ⟨B.exec, B.bytes, hml, findClass_of_methodNamed B.named, atoms_spec (ws := wsX8_fits) B.pre⟩
  have hx := hC.1
  have hb := hC.2.1
  have hown := hC.2.2.2.1
  have hts := hC.2.2.2.2
  have hr := B.returns
  have hlocks := B.notSynchronized
  have hW := g_H_enter hW0
  have hi8 : ∀ w ∈ wsX80, w ∈ wsX8_fits := by decide +kernel
  have hl := lv_entry ([.ref (G.2.2.1 o0), .int p1, .int p2]) (n := 3) (Nat.le_of_ble_eq_true rfl)
  rw [lg_entry_eq]
  generalize (lg_sl ([.ref (G.2.2.1 o0), .int p1, .int p2]) ++ List.replicate (3 - (lg_sl ([.ref (G.2.2.1 o0), .int p1, .int p2])).length) Slot.unset).toArray = ls at hl ⊢
  have hl : lv_has ls 3 [(0, .ref (G.2.2.1 o0)), (1, .int p1), (2, .int p2)] := hl
  obtain ⟨Q, hQ⟩ : ∃ Q, Q = MQ below (g_Qi ZC G r0 me) ([.ref (G.2.2.1 o0), .int p1, .int p2] : List Value).toArray s 0 0 (g_A ZC G) := ⟨_, rfl⟩
  refine g_goQ hQ ?_
  unfold f_X8_fits at hf
  refine g_start hW (fun H locs hW => ?_)
  refine lv_aload_n hx hb dX8_fits_0 rfl (lv_at hl 0 rfl) ?_
  refine g_getr hC hW (o := o0) (ci := 8) (k := 3) ho0 (zc_lt ho0) rfl hi8 (by decide) rfl (t := (o0 + 4)) (zc_o8_3 ho0).1 (by decide +kernel) dX8_fits_1 ?_
  refine lv_iload_n hx hb dX8_fits_4 rfl (lv_at hl 1 rfl) ?_
  obtain ⟨v1, h9, hf⟩ := ob_inv hf
  refine g_zld hC hW (zc_o8_3 ho0).2.1 (zc_o8_3 ho0).2.2.1 (zc_o8_3 ho0).2.2.2 h9 dX8_fits_5 ?_
  refine lv_aload_n hx hb dX8_fits_6 rfl (lv_at hl 0 rfl) ?_
  refine g_getr hC hW (o := o0) (ci := 8) (k := 3) ho0 (zc_lt ho0) rfl hi8 (by decide) rfl (t := (o0 + 4)) (zc_o8_3 ho0).1 (by decide +kernel) dX8_fits_7 ?_
  refine lv_iload_n hx hb dX8_fits_10 rfl (lv_at hl 2 rfl) ?_
  obtain ⟨v2, h9, hf⟩ := ob_inv hf
  refine g_zld hC hW (zc_o8_3 ho0).2.1 (zc_o8_3 ho0).2.2.1 (zc_o8_3 ho0).2.2.2 h9 dX8_fits_11 ?_
  obtain ⟨z4, hg, hf⟩ := ob_inv hf
  have hJ73 : ∀ (H : Heap) (locs : List Loc) (ls : Array Slot), g_H ZC G s H locs me → lv_has ls 3 [] → W p l e (headSpec wsX8_fits rmX8_fits).room s m ([.ref (G.2.2.1 o0), .int p1, .int p2] : List Value).toArray below meth c H locs 0 0 Q (F0 m 73 ls [.int z4]) := by
    intro H locs ls hW hl
    obtain ⟨b16, h9, hf⟩ := ob_inv hf
    obtain ⟨h9, hn9⟩ := a_zc_inv h9
    refine g_nmi h9 ?_
    cases hf
    subst hQ
    exact g_zret hC hW hr hlocks hn9 rfl rfl dX8_fits_73
  replace hf := hg
  refine lv_icmp_eq (tgt := 72) hx hb dX8_fits_12 (by decide) (fun c3 => ?_) (fun c3 => ?_)
  · have hf := a_if_t c3 hf
    refine lv_iconst (v := 0) hx hb dX8_fits_72 (by decide) ?_
    cases hf
    exact hJ73 H locs ls hW (lv_sub hl [] rfl)
  · have hf := a_if_f c3 hf
    refine lv_aload_n hx hb dX8_fits_15 rfl (lv_at hl 0 rfl) ?_
    refine g_getr hC hW (o := o0) (ci := 8) (k := 2) ho0 (zc_lt ho0) rfl hi8 (by decide) rfl (t := (o0 + 3)) (zc_o8_2 ho0).1 (by decide +kernel) dX8_fits_16 ?_
    refine lv_iload_n hx hb dX8_fits_19 rfl (lv_at hl 1 rfl) ?_
    obtain ⟨v5, h9, hf⟩ := ob_inv hf
    refine g_ild hC hW (zc_o8_2 ho0).2.1 (zc_o8_2 ho0).2.2.1 (zc_o8_2 ho0).2.2.2 h9 dX8_fits_20 ?_
    refine lv_aload_n hx hb dX8_fits_21 rfl (lv_at hl 0 rfl) ?_
    refine g_getr hC hW (o := o0) (ci := 8) (k := 2) ho0 (zc_lt ho0) rfl hi8 (by decide) rfl (t := (o0 + 3)) (zc_o8_2 ho0).1 (by decide +kernel) dX8_fits_22 ?_
    refine lv_iload_n hx hb dX8_fits_25 rfl (lv_at hl 2 rfl) ?_
    obtain ⟨v6, h9, hf⟩ := ob_inv hf
    refine g_ild hC hW (zc_o8_2 ho0).2.1 (zc_o8_2 ho0).2.2.1 (zc_o8_2 ho0).2.2.2 h9 dX8_fits_26 ?_
    refine lv_icmp_ne (tgt := 72) hx hb dX8_fits_27 (by decide) (fun c7 => ?_) (fun c7 => ?_)
    · have hf := a_if_f c7 hf
      refine lv_iconst (v := 0) hx hb dX8_fits_72 (by decide) ?_
      cases hf
      exact hJ73 H locs ls hW (lv_sub hl [] rfl)
    · have hf := a_if_t c7 hf
      refine lv_aload_n hx hb dX8_fits_30 rfl (lv_at hl 0 rfl) ?_
      refine g_getr hC hW (o := o0) (ci := 8) (k := 0) ho0 (zc_lt ho0) rfl hi8 (by decide) rfl (t := (o0 + 1)) (zc_o8_0 ho0).1 (by decide +kernel) dX8_fits_31 ?_
      refine lv_iload_n hx hb dX8_fits_34 rfl (lv_at hl 1 rfl) ?_
      obtain ⟨v8, h9, hf⟩ := ob_inv hf
      refine g_ild hC hW (zc_o8_0 ho0).2.1 (zc_o8_0 ho0).2.2.1 (zc_o8_0 ho0).2.2.2 h9 dX8_fits_35 ?_
      refine lv_aload_n hx hb dX8_fits_36 rfl (lv_at hl 0 rfl) ?_
      refine g_getr hC hW (o := o0) (ci := 8) (k := 0) ho0 (zc_lt ho0) rfl hi8 (by decide) rfl (t := (o0 + 1)) (zc_o8_0 ho0).1 (by decide +kernel) dX8_fits_37 ?_
      refine lv_iload_n hx hb dX8_fits_40 rfl (lv_at hl 2 rfl) ?_
      obtain ⟨v9, h9, hf⟩ := ob_inv hf
      refine g_ild hC hW (zc_o8_0 ho0).2.1 (zc_o8_0 ho0).2.2.1 (zc_o8_0 ho0).2.2.2 h9 dX8_fits_41 ?_
      refine lv_icmp_eq (tgt := 72) hx hb dX8_fits_42 (by decide) (fun c10 => ?_) (fun c10 => ?_)
      · have hf := a_if_t c10 hf
        refine lv_iconst (v := 0) hx hb dX8_fits_72 (by decide) ?_
        cases hf
        exact hJ73 H locs ls hW (lv_sub hl [] rfl)
      · have hf := a_if_f c10 hf
        refine lv_aload_n hx hb dX8_fits_45 rfl (lv_at hl 0 rfl) ?_
        refine g_getr hC hW (o := o0) (ci := 8) (k := 6) ho0 (zc_lt ho0) rfl hi8 (by decide) rfl (t := (o0 + 7)) (zc_o8_6 ho0).1 (by decide +kernel) dX8_fits_46 ?_
        refine lv_iload_n hx hb dX8_fits_49 rfl (lv_at hl 2 rfl) ?_
        obtain ⟨v11, h9, hf⟩ := ob_inv hf
        refine g_ild hC hW (zc_o8_6 ho0).2.1 (zc_o8_6 ho0).2.2.1 (zc_o8_6 ho0).2.2.2 h9 dX8_fits_50 ?_
        refine lv_if_le (tgt := 72) hx hb dX8_fits_51 (by decide) (fun c12 => ?_) (fun c12 => ?_)
        · have hf := a_if_t c12 hf
          refine lv_iconst (v := 0) hx hb dX8_fits_72 (by decide) ?_
          cases hf
          exact hJ73 H locs ls hW (lv_sub hl [] rfl)
        · have hf := a_if_f c12 hf
          refine lv_aload_n hx hb dX8_fits_54 rfl (lv_at hl 0 rfl) ?_
          refine lv_iload_n hx hb dX8_fits_55 rfl (lv_at hl 1 rfl) ?_
          obtain ⟨r13, hg, hf⟩ := ob_inv hf
          refine g_cVi hC hW (o := o0) (ci := 8) (As := [.int p1]) (rest := []) ho0 (zc_lt ho0) rfl (c_X8_costOf l G ho0 hg) (cwV 1 hts gX8_fits_X8_costOf rfl rfl rfl (by decide +kernel) ⟨Nat.le_of_ble_eq_true rfl, Nat.le_of_ble_eq_true rfl⟩) rfl hl.1 rfl (Nat.le_of_ble_eq_true rfl) dX8_fits_56 ⟨Nat.le_of_ble_eq_true rfl, Nat.le_of_ble_eq_true rfl⟩ (fun H locs hW => ?_)
          refine lv_aload_n hx hb dX8_fits_59 rfl (lv_at hl 0 rfl) ?_
          refine lv_iload_n hx hb dX8_fits_60 rfl (lv_at hl 2 rfl) ?_
          obtain ⟨r14, hg, hf⟩ := ob_inv hf
          refine g_cVi hC hW (o := o0) (ci := 8) (As := [.int p2]) (rest := [.int r13]) ho0 (zc_lt ho0) rfl (c_X8_costOf l G ho0 hg) (cwV 1 hts gX8_fits_X8_costOf rfl rfl rfl (by decide +kernel) ⟨Nat.le_of_ble_eq_true rfl, Nat.le_of_ble_eq_true rfl⟩) rfl hl.1 rfl (Nat.le_of_ble_eq_true rfl) dX8_fits_61 ⟨Nat.le_of_ble_eq_true rfl, Nat.le_of_ble_eq_true rfl⟩ (fun H locs hW => ?_)
          refine lv_iadd hx hb dX8_fits_64 ?_
          refine lv_if_gt (tgt := 72) hx hb dX8_fits_65 (by decide) (fun c15 => ?_) (fun c15 => ?_)
          · have hf := a_if_t c15 hf
            refine lv_iconst (v := 0) hx hb dX8_fits_72 (by decide) ?_
            cases hf
            exact hJ73 H locs ls hW (lv_sub hl [] rfl)
          · have hf := a_if_f c15 hf
            refine lv_iconst (v := 1) hx hb dX8_fits_68 (by decide) ?_
            refine lv_goto (tgt := 73) hx hb dX8_fits_69 (by decide) ?_
            cases hf
            exact hJ73 H locs ls hW (lv_sub hl [] rfl)
abbrev rmX8_isIn : Room := { frames := 0, cells := 0, slots := 0, locals := 0 }
set_option maxHeartbeats 4000000 in
set_option maxRecDepth 100000 in
theorem c_X8_isIn (l : Launch) (G : gG) {o0 : Nat} {p1 : Int32} {p2 : Int32} {p3 : Int32} {me : gM} {r0 : Int32}  (ho0 : ZC.2.1 o0 = 9) (hf : f_X8_isIn o0 p1 p2 p3 me = some r0) : Met l yX8_isIn wsX8_isIn rmX8_isIn (va_Pc [.ref (G.2.2.1 o0), .int p1, .int p2, .int p3] (g_W ZC G me)) (g_Qi ZC G r0 me) 0 0 (g_A ZC G) := by
  refine Met.ofW (cc := cX8_isIn) (maxL := 4) (ret := (some .boolean)) (by decide) rfl ?_
  intro p e s m args below meth c s₁ B hml hv
  obtain ⟨rfl, hW0⟩ := hv
  have hC : CallFix p m c cX8_isIn 4 s ([.ref (G.2.2.1 o0), .int p1, .int p2, .int p3] : List Value).toArray wsX8_isIn RX8 := ⟨B.exec, B.bytes, hml, findClass_of_methodNamed B.named, atoms_spec (ws := wsX8_isIn) B.pre⟩
  have hx := hC.1
  have hb := hC.2.1
  have hown := hC.2.2.2.1
  have hts := hC.2.2.2.2
  have hr := B.returns
  have hlocks := B.notSynchronized
  have hW := g_H_enter hW0
  have hi8 : ∀ w ∈ wsX80, w ∈ wsX8_isIn := by decide +kernel
  have hl := lv_entry ([.ref (G.2.2.1 o0), .int p1, .int p2, .int p3]) (n := 4) (Nat.le_of_ble_eq_true rfl)
  rw [lg_entry_eq]
  generalize (lg_sl ([.ref (G.2.2.1 o0), .int p1, .int p2, .int p3]) ++ List.replicate (4 - (lg_sl ([.ref (G.2.2.1 o0), .int p1, .int p2, .int p3])).length) Slot.unset).toArray = ls at hl ⊢
  have hl : lv_has ls 4 [(0, .ref (G.2.2.1 o0)), (1, .int p1), (2, .int p2), (3, .int p3)] := hl
  obtain ⟨Q, hQ⟩ : ∃ Q, Q = MQ below (g_Qi ZC G r0 me) ([.ref (G.2.2.1 o0), .int p1, .int p2, .int p3] : List Value).toArray s 0 0 (g_A ZC G) := ⟨_, rfl⟩
  refine g_goQ hQ ?_
  unfold f_X8_isIn at hf
  refine g_start hW (fun H locs hW => ?_)
  refine lv_aload_n hx hb dX8_isIn_0 rfl (lv_at hl 0 rfl) ?_
  refine g_getr hC hW (o := o0) (ci := 8) (k := 1) ho0 (zc_lt ho0) rfl hi8 (by decide) rfl (t := (o0 + 2)) (zc_o8_1 ho0).1 (by decide +kernel) dX8_isIn_1 ?_
  refine lv_iload_n hx hb dX8_isIn_4 rfl (lv_at hl 1 rfl) ?_
  obtain ⟨v1, h9, hf⟩ := ob_inv hf
  refine g_ild hC hW (zc_o8_1 ho0).2.1 (zc_o8_1 ho0).2.2.1 (zc_o8_1 ho0).2.2.2 h9 dX8_isIn_5 ?_
  refine lv_iload_n hx hb dX8_isIn_6 rfl (lv_at hl 2 rfl) ?_
  obtain ⟨z3, hg, hf⟩ := ob_inv hf
  have hJ25 : ∀ (H : Heap) (locs : List Loc) (ls : Array Slot), g_H ZC G s H locs me → lv_has ls 4 [] → W p l e (headSpec wsX8_isIn rmX8_isIn).room s m ([.ref (G.2.2.1 o0), .int p1, .int p2, .int p3] : List Value).toArray below meth c H locs 0 0 Q (F0 m 25 ls [.int z3]) := by
    intro H locs ls hW hl
    obtain ⟨b6, h9, hf⟩ := ob_inv hf
    obtain ⟨h9, hn9⟩ := a_zc_inv h9
    refine g_nmi h9 ?_
    cases hf
    subst hQ
    exact g_zret hC hW hr hlocks hn9 rfl rfl dX8_isIn_25
  replace hf := hg
  refine lv_icmp_ne (tgt := 24) hx hb dX8_isIn_7 (by decide) (fun c2 => ?_) (fun c2 => ?_)
  · have hf := a_if_f c2 hf
    refine lv_iconst (v := 0) hx hb dX8_isIn_24 (by decide) ?_
    cases hf
    exact hJ25 H locs ls hW (lv_sub hl [] rfl)
  · have hf := a_if_t c2 hf
    refine lv_aload_n hx hb dX8_isIn_10 rfl (lv_at hl 0 rfl) ?_
    refine g_getr hC hW (o := o0) (ci := 8) (k := 2) ho0 (zc_lt ho0) rfl hi8 (by decide) rfl (t := (o0 + 3)) (zc_o8_2 ho0).1 (by decide +kernel) dX8_isIn_11 ?_
    refine lv_iload_n hx hb dX8_isIn_14 rfl (lv_at hl 1 rfl) ?_
    obtain ⟨v4, h9, hf⟩ := ob_inv hf
    refine g_ild hC hW (zc_o8_2 ho0).2.1 (zc_o8_2 ho0).2.2.1 (zc_o8_2 ho0).2.2.2 h9 dX8_isIn_15 ?_
    refine lv_iload_n hx hb dX8_isIn_16 rfl (lv_at hl 3 rfl) ?_
    refine lv_icmp_ne (tgt := 24) hx hb dX8_isIn_17 (by decide) (fun c5 => ?_) (fun c5 => ?_)
    · have hf := a_if_f c5 hf
      refine lv_iconst (v := 0) hx hb dX8_isIn_24 (by decide) ?_
      cases hf
      exact hJ25 H locs ls hW (lv_sub hl [] rfl)
    · have hf := a_if_t c5 hf
      refine lv_iconst (v := 1) hx hb dX8_isIn_20 (by decide) ?_
      refine lv_goto (tgt := 25) hx hb dX8_isIn_21 (by decide) ?_
      cases hf
      exact hJ25 H locs ls hW (lv_sub hl [] rfl)
abbrev rmX8_take : Room := { frames := 1, cells := 0, slots := 0, locals := 23 }
set_option maxHeartbeats 4000000 in
set_option maxRecDepth 100000 in
theorem c_X8_take (l : Launch) (G : gG) {o0 : Nat} {p1 : Int32} {p2 : Int32} {p3 : Int32} {p4 : Int32} {me : gM} {m0 : gM}  (ho0 : ZC.2.1 o0 = 9) (hf : f_X8_take o0 p1 p2 p3 p4 me = some m0) : Met l yX8_take wsX8_take rmX8_take (va_Pc [.ref (G.2.2.1 o0), .int p1, .int p2, .int p3, .int p4] (g_W ZC G me)) (g_Qv ZC G m0) 0 0 (g_A ZC G) := by
  refine Met.ofW (cc := cX8_take) (maxL := 10) (ret := none) (by decide) rfl ?_
  intro p e s m args below meth c s₁ B hml hv
  obtain ⟨rfl, hW0⟩ := hv
  have hC : CallFix p m c cX8_take 10 s ([.ref (G.2.2.1 o0), .int p1, .int p2, .int p3, .int p4] : List Value).toArray wsX8_take RX8 := ⟨B.exec, B.bytes, hml, findClass_of_methodNamed B.named, atoms_spec (ws := wsX8_take) B.pre⟩
  have hx := hC.1
  have hb := hC.2.1
  have hown := hC.2.2.2.1
  have hts := hC.2.2.2.2
  have hr := B.returns
  have hlocks := B.notSynchronized
  have hW := g_H_enter hW0
  have hi8 : ∀ w ∈ wsX80, w ∈ wsX8_take := by decide +kernel
  have hl := lv_entry ([.ref (G.2.2.1 o0), .int p1, .int p2, .int p3, .int p4]) (n := 10) (Nat.le_of_ble_eq_true rfl)
  rw [lg_entry_eq]
  generalize (lg_sl ([.ref (G.2.2.1 o0), .int p1, .int p2, .int p3, .int p4]) ++ List.replicate (10 - (lg_sl ([.ref (G.2.2.1 o0), .int p1, .int p2, .int p3, .int p4])).length) Slot.unset).toArray = ls at hl ⊢
  have hl : lv_has ls 10 [(0, .ref (G.2.2.1 o0)), (1, .int p1), (2, .int p2), (3, .int p3), (4, .int p4)] := hl
  obtain ⟨Q, hQ⟩ : ∃ Q, Q = MQ below (g_Qv ZC G m0) ([.ref (G.2.2.1 o0), .int p1, .int p2, .int p3, .int p4] : List Value).toArray s 0 0 (g_A ZC G) := ⟨_, rfl⟩
  refine g_goQ hQ ?_
  unfold f_X8_take at hf
  refine g_start hW (fun H locs hW => ?_)
  refine lv_iload_n hx hb dX8_take_0 rfl (lv_at hl 3 rfl) ?_
  refine lv_istore (lv' := [(5, .int p3), (0, .ref (G.2.2.1 o0)), (1, .int p1), (2, .int p2), (3, .int p3), (4, .int p4)]) hx hb dX8_take_1 hl (by decide) rfl (fun ls hl => ?_)
  refine lv_iload hx hb dX8_take_3 (lv_at hl 5 rfl) ?_
  refine lv_istore (lv' := [(6, .int p4), (5, .int p3), (0, .ref (G.2.2.1 o0)), (1, .int p1), (2, .int p2), (3, .int p3), (4, .int p4)]) hx hb dX8_take_5 hl (by decide) rfl (fun ls hl => ?_)
  refine lv_iconst (v := 0) hx hb dX8_take_7 (by decide) ?_
  refine lv_istore (lv' := [(7, .int 0), (6, .int p4), (5, .int p3), (0, .ref (G.2.2.1 o0)), (1, .int p1), (2, .int p2), (3, .int p3), (4, .int p4)]) hx hb dX8_take_8 hl (by decide) rfl (fun ls hl => ?_)
  have hL10 : ∀ (n : Nat) (x1 : Int32) (x2 : Int32) (x3 : Int32) (m4 : gM) (y5 : Int32) (y6 : Int32) (y7 : Int32) (m8 : gM) (H : Heap) (locs : List Loc) (ls : Array Slot), f_X8_take_L10 o0 p1 p2 n x1 x2 x3 m4 = some (y5, y6, y7, m8) → g_H ZC G s H locs m4 → lv_has ls 10 [(0, .ref (G.2.2.1 o0)), (1, .int p1), (2, .int p2), (5, .int x1), (6, .int x2), (7, .int x3)] → (∀ (H : Heap) (locs : List Loc) (ls : Array Slot), g_H ZC G s H locs m8 → lv_has ls 10 [] → W p l e (headSpec wsX8_take rmX8_take).room s m ([.ref (G.2.2.1 o0), .int p1, .int p2, .int p3, .int p4] : List Value).toArray below meth c H locs 0 0 Q (F0 m 133 ls [])) → W p l e (headSpec wsX8_take rmX8_take).room s m ([.ref (G.2.2.1 o0), .int p1, .int p2, .int p3, .int p4] : List Value).toArray below meth c H locs 0 0 Q (F0 m 10 ls []) := by
    intro n
    induction n with
    | zero =>
      intro x1 x2 x3 m4 y5 y6 y7 m8 H locs ls hf hW hl hE
      cases hf
    | succ n ih =>
      intro x1 x2 x3 m4 y5 y6 y7 m8 H locs ls hf hW hl hE
      rw [f_X8_take_L10] at hf
      refine lv_iload hx hb dX8_take_10 (lv_at hl 5 rfl) ?_
      refine lv_aload_n hx hb dX8_take_12 rfl (lv_at hl 0 rfl) ?_
      refine g_geti hC hW (o := o0) (ci := 8) (k := 8) ho0 (zc_lt ho0) rfl hi8 (by decide) rfl (by decide +kernel) dX8_take_13 ?_
      refine lv_icmp_ge (tgt := 133) hx hb dX8_take_16 (by decide) (fun c9 => ?_) (fun c9 => ?_)
      · have hf := a_if_t c9 hf
        cases hf
        exact hE H locs ls hW (lv_sub hl [] rfl)
      · have hf := a_if_f c9 hf
        refine lv_aload_n hx hb dX8_take_19 rfl (lv_at hl 0 rfl) ?_
        refine g_getr hC hW (o := o0) (ci := 8) (k := 7) ho0 (zc_lt ho0) rfl hi8 (by decide) rfl (t := (o0 + 8)) (zc_o8_7 ho0).1 (by decide +kernel) dX8_take_20 ?_
        refine lv_iload hx hb dX8_take_23 (lv_at hl 5 rfl) ?_
        obtain ⟨v10, h9, hf⟩ := ob_inv hf
        refine g_ild hC hW (zc_o8_7 ho0).2.1 (zc_o8_7 ho0).2.2.1 (zc_o8_7 ho0).2.2.2 h9 dX8_take_25 ?_
        refine lv_istore (lv' := [(8, .int v10), (0, .ref (G.2.2.1 o0)), (1, .int p1), (2, .int p2), (5, .int x1), (6, .int x2), (7, .int x3)]) hx hb dX8_take_26 hl (by decide) rfl (fun ls hl => ?_)
        refine lv_aload_n hx hb dX8_take_28 rfl (lv_at hl 1 rfl) ?_
        refine lv_iload hx hb dX8_take_29 (lv_at hl 0 rfl) ?_
        refine lv_iload_n hx hb dX8_take_31 rfl (lv_at hl 2 rfl) ?_
        refine lv_iload_n hx hb dX8_take_32 rfl (lv_at hl 3 rfl) ?_
        obtain ⟨r11, hg, hf⟩ := ob_inv hf
        refine g_cVi hC hW (o := o0) (ci := 8) (As := [.int v10, .int p1, .int p2]) (rest := []) ho0 (zc_lt ho0) rfl (c_X8_isIn l G ho0 hg) (cwV 3 hts gX8_take_X8_isIn rfl rfl rfl (by decide +kernel) ⟨Nat.le_of_ble_eq_true rfl, Nat.le_of_ble_eq_true rfl⟩) rfl hl.1 rfl (Nat.le_of_ble_eq_true rfl) dX8_take_33 ⟨Nat.le_of_ble_eq_true rfl, Nat.le_of_ble_eq_true rfl⟩ (fun H locs hW => ?_)
        obtain ⟨⟨x13, x14, m15⟩, hg, hf⟩ := ob_inv hf
        have hf := ob_inv3 hf
        have hJ127 : ∀ (H : Heap) (locs : List Loc) (ls : Array Slot), g_H ZC G s H locs m15 → lv_has ls 10 [(0, .ref (G.2.2.1 o0)), (1, .int p1), (2, .int p2), (5, .int x13), (6, .int x14), (7, .int x3)] → W p l e (headSpec wsX8_take rmX8_take).room s m ([.ref (G.2.2.1 o0), .int p1, .int p2, .int p3, .int p4] : List Value).toArray below meth c H locs 0 0 Q (F0 m 127 ls []) := by
          intro H locs ls hW hl
          refine lv_iinc (v := (x3 + 1)) (lv' := [(7, .int (x3 + 1)), (0, .ref (G.2.2.1 o0)), (1, .int p1), (2, .int p2), (5, .int x13), (6, .int x14)]) hx hb dX8_take_127 hl (k := 5) rfl (congrArg (fun z => x3 + z) (by decide)) (by decide) rfl (fun ls hl => ?_)
          refine lv_goto (tgt := 10) hx hb dX8_take_130 (by decide) ?_
          exact ih _ _ _ _ _ _ _ _ _ _ _ hf hW (lv_sub hl [1, 2, 3, 4, 5, 0] rfl) hE
        replace hf := hg
        refine lv_if_eq (tgt := 127) hx hb dX8_take_36 (by decide) (fun c12 => ?_) (fun c12 => ?_)
        · have hf := a_if_t c12 hf
          cases hf
          exact hJ127 H locs ls hW (lv_sub hl [1, 2, 3, 4, 5, 6] rfl)
        · have hf := a_if_f c12 hf
          refine lv_aload_n hx hb dX8_take_39 rfl (lv_at hl 1 rfl) ?_
          refine g_getr hC hW (o := o0) (ci := 8) (k := 5) ho0 (zc_lt ho0) rfl hi8 (by decide) rfl (t := (o0 + 6)) (zc_o8_5 ho0).1 (by decide +kernel) dX8_take_40 ?_
          refine lv_iload hx hb dX8_take_43 (lv_at hl 0 rfl) ?_
          obtain ⟨v16, h9, hf⟩ := ob_inv hf
          refine g_ild hC hW (zc_o8_5 ho0).2.1 (zc_o8_5 ho0).2.2.1 (zc_o8_5 ho0).2.2.2 h9 dX8_take_45 ?_
          refine lv_aload_n hx hb dX8_take_46 rfl (lv_at hl 1 rfl) ?_
          refine g_getr hC hW (o := o0) (ci := 8) (k := 3) ho0 (zc_lt ho0) rfl hi8 (by decide) rfl (t := (o0 + 4)) (zc_o8_3 ho0).1 (by decide +kernel) dX8_take_47 ?_
          refine lv_iload hx hb dX8_take_50 (lv_at hl 0 rfl) ?_
          obtain ⟨v17, h9, hf⟩ := ob_inv hf
          refine g_zld hC hW (zc_o8_3 ho0).2.1 (zc_o8_3 ho0).2.2.1 (zc_o8_3 ho0).2.2.2 h9 dX8_take_52 ?_
          obtain ⟨z19, hg, hf⟩ := ob_inv hf
          have hJ63 : ∀ (H : Heap) (locs : List Loc) (ls : Array Slot), g_H ZC G s H locs m4 → lv_has ls 10 [(0, .ref (G.2.2.1 o0)), (1, .int p1), (2, .int p2), (5, .int x1), (6, .int x2), (7, .int x3), (8, .int v10)] → W p l e (headSpec wsX8_take rmX8_take).room s m ([.ref (G.2.2.1 o0), .int p1, .int p2, .int p3, .int p4] : List Value).toArray below meth c H locs 0 0 Q (F0 m 63 ls [.int z19, .int v16]) := by
            intro H locs ls hW hl
            refine g_min hC hl.1 (by decide +kernel) (by decide +kernel) (by decide +kernel) (by decide +kernel) (Nat.le_of_ble_eq_true rfl) (Nat.le_of_ble_eq_true rfl) (Nat.le_of_ble_eq_true rfl) (Nat.le_of_ble_eq_true rfl) dX8_take_63 ?_
            obtain ⟨x20, h9, hf⟩ := ob_inv hf
            refine g_nmi (Option.some.inj h9) ?_
            refine lv_istore (lv' := [(9, .int x20), (0, .ref (G.2.2.1 o0)), (1, .int p1), (2, .int p2), (5, .int x1), (6, .int x2), (7, .int x3), (8, .int v10)]) hx hb dX8_take_66 hl (by decide) rfl (fun ls hl => ?_)
            refine lv_aload_n hx hb dX8_take_68 rfl (lv_at hl 1 rfl) ?_
            refine g_getr hC hW (o := o0) (ci := 8) (k := 6) ho0 (zc_lt ho0) rfl hi8 (by decide) rfl (t := (o0 + 7)) (zc_o8_6 ho0).1 (by decide +kernel) dX8_take_69 ?_
            refine lv_iload hx hb dX8_take_72 (lv_at hl 7 rfl) ?_
            refine lv_aload_n hx hb dX8_take_74 rfl (lv_at hl 1 rfl) ?_
            refine g_getr hC hW (o := o0) (ci := 8) (k := 5) ho0 (zc_lt ho0) rfl hi8 (by decide) rfl (t := (o0 + 6)) (zc_o8_5 ho0).1 (by decide +kernel) dX8_take_75 ?_
            refine lv_iload hx hb dX8_take_78 (lv_at hl 7 rfl) ?_
            obtain ⟨v21, h9, hf⟩ := ob_inv hf
            refine g_ild hC hW (zc_o8_5 ho0).2.1 (zc_o8_5 ho0).2.2.1 (zc_o8_5 ho0).2.2.2 h9 dX8_take_80 ?_
            refine lv_iload hx hb dX8_take_81 (lv_at hl 0 rfl) ?_
            refine lv_isub hx hb dX8_take_83 ?_
            obtain ⟨m22, h9, hf⟩ := ob_inv hf
            refine g_ist hC hW (zc_o8_6 ho0).2.1 (zc_o8_6 ho0).2.2.1 (zc_o8_6 ho0).2.2.2 h9 dX8_take_84 (fun H locs hW => ?_)
            refine lv_iload hx hb dX8_take_85 (lv_at hl 4 rfl) ?_
            refine lv_aload_n hx hb dX8_take_87 rfl (lv_at hl 1 rfl) ?_
            refine g_getr hC hW (o := o0) (ci := 8) (k := 3) ho0 (zc_lt ho0) rfl hi8 (by decide) rfl (t := (o0 + 4)) (zc_o8_3 ho0).1 (by decide +kernel) dX8_take_88 ?_
            refine lv_iload hx hb dX8_take_91 (lv_at hl 7 rfl) ?_
            obtain ⟨v23, h9, hf⟩ := ob_inv hf
            refine g_zld hC hW (zc_o8_3 ho0).2.1 (zc_o8_3 ho0).2.2.1 (zc_o8_3 ho0).2.2.2 h9 dX8_take_93 ?_
            obtain ⟨z25, hg, hf⟩ := ob_inv hf
            have hJ103 : ∀ (H : Heap) (locs : List Loc) (ls : Array Slot), g_H ZC G s H locs m22 → lv_has ls 10 [(0, .ref (G.2.2.1 o0)), (1, .int p1), (2, .int p2), (6, .int x2), (7, .int x3), (8, .int v10), (9, .int x20)] → W p l e (headSpec wsX8_take rmX8_take).room s m ([.ref (G.2.2.1 o0), .int p1, .int p2, .int p3, .int p4] : List Value).toArray below meth c H locs 0 0 Q (F0 m 103 ls [.int z25, .int x1]) := by
              intro H locs ls hW hl
              refine lv_isub hx hb dX8_take_103 ?_
              obtain ⟨x26, h9, hf⟩ := ob_inv hf
              refine g_nmi (Option.some.inj h9) ?_
              refine lv_istore (lv' := [(5, .int x26), (0, .ref (G.2.2.1 o0)), (1, .int p1), (2, .int p2), (6, .int x2), (7, .int x3), (8, .int v10), (9, .int x20)]) hx hb dX8_take_104 hl (by decide) rfl (fun ls hl => ?_)
              refine lv_iload hx hb dX8_take_106 (lv_at hl 4 rfl) ?_
              refine lv_aload_n hx hb dX8_take_108 rfl (lv_at hl 1 rfl) ?_
              refine g_getr hC hW (o := o0) (ci := 8) (k := 3) ho0 (zc_lt ho0) rfl hi8 (by decide) rfl (t := (o0 + 4)) (zc_o8_3 ho0).1 (by decide +kernel) dX8_take_109 ?_
              refine lv_iload hx hb dX8_take_112 (lv_at hl 6 rfl) ?_
              obtain ⟨v27, h9, hf⟩ := ob_inv hf
              refine g_zld hC hW (zc_o8_3 ho0).2.1 (zc_o8_3 ho0).2.2.1 (zc_o8_3 ho0).2.2.2 h9 dX8_take_114 ?_
              obtain ⟨z29, hg, hf⟩ := ob_inv hf
              have hJ124 : ∀ (H : Heap) (locs : List Loc) (ls : Array Slot), g_H ZC G s H locs m22 → lv_has ls 10 [(0, .ref (G.2.2.1 o0)), (1, .int p1), (2, .int p2), (5, .int x26), (7, .int x3)] → W p l e (headSpec wsX8_take rmX8_take).room s m ([.ref (G.2.2.1 o0), .int p1, .int p2, .int p3, .int p4] : List Value).toArray below meth c H locs 0 0 Q (F0 m 124 ls [.int z29, .int x2]) := by
                intro H locs ls hW hl
                refine lv_isub hx hb dX8_take_124 ?_
                obtain ⟨x30, h9, hf⟩ := ob_inv hf
                refine g_nmi (Option.some.inj h9) ?_
                refine lv_istore (lv' := [(6, .int x30), (0, .ref (G.2.2.1 o0)), (1, .int p1), (2, .int p2), (5, .int x26), (7, .int x3)]) hx hb dX8_take_125 hl (by decide) rfl (fun ls hl => ?_)
                cases hf
                exact hJ127 H locs ls hW (lv_sub hl [1, 2, 3, 4, 0, 5] rfl)
              replace hf := hg
              refine lv_if_eq (tgt := 122) hx hb dX8_take_115 (by decide) (fun c28 => ?_) (fun c28 => ?_)
              · have hf := a_if_t c28 hf
                refine lv_iload hx hb dX8_take_122 (lv_at hl 7 rfl) ?_
                cases hf
                exact hJ124 H locs ls hW (lv_sub hl [1, 2, 3, 0, 5] rfl)
              · have hf := a_if_f c28 hf
                refine lv_iconst (v := 0) hx hb dX8_take_118 (by decide) ?_
                refine lv_goto (tgt := 124) hx hb dX8_take_119 (by decide) ?_
                cases hf
                exact hJ124 H locs ls hW (lv_sub hl [1, 2, 3, 0, 5] rfl)
            replace hf := hg
            refine lv_if_eq (tgt := 102) hx hb dX8_take_94 (by decide) (fun c24 => ?_) (fun c24 => ?_)
            · have hf := a_if_t c24 hf
              refine lv_iconst (v := 0) hx hb dX8_take_102 (by decide) ?_
              cases hf
              exact hJ103 H locs ls hW (lv_sub hl [1, 2, 3, 5, 6, 7, 0] rfl)
            · have hf := a_if_f c24 hf
              refine lv_iload hx hb dX8_take_97 (lv_at hl 0 rfl) ?_
              refine lv_goto (tgt := 103) hx hb dX8_take_99 (by decide) ?_
              cases hf
              exact hJ103 H locs ls hW (lv_sub hl [1, 2, 3, 5, 6, 7, 0] rfl)
          replace hf := hg
          refine lv_if_eq (tgt := 61) hx hb dX8_take_53 (by decide) (fun c18 => ?_) (fun c18 => ?_)
          · have hf := a_if_t c18 hf
            refine lv_iload hx hb dX8_take_61 (lv_at hl 5 rfl) ?_
            cases hf
            exact hJ63 H locs ls hW (lv_sub hl [1, 2, 3, 4, 5, 6, 0] rfl)
          · have hf := a_if_f c18 hf
            refine lv_iload hx hb dX8_take_56 (lv_at hl 4 rfl) ?_
            refine lv_goto (tgt := 63) hx hb dX8_take_58 (by decide) ?_
            cases hf
            exact hJ63 H locs ls hW (lv_sub hl [1, 2, 3, 4, 5, 6, 0] rfl)
  obtain ⟨⟨y5, y6, y7, m8⟩, hg, hf⟩ := ob_inv hf
  have hf := ob_inv4 hf
  refine hL10 _ _ _ _ _ _ _ _ _ _ _ _ hg hW (lv_sub hl [3, 4, 5, 2, 1, 0] rfl) (fun H locs ls hW hl => ?_)
  cases hf
  subst hQ
  exact g_vret hC hW hr hlocks rfl dX8_take_133
