def f_X9_day (me : gM) : Option (Int32) :=
  some (me 0 8)
def f_X9_phase (me : gM) : Option (Int32) :=
  some (me 0 9)
def f_X9_house (me : gM) : Option (Int32) :=
  some (me 65 3)
def f_X9_takeBids_L2 (o1 : Nat) : Nat → Int32 → gM → Option (Int32 × gM)
  | 0, _, _ => none
  | n + 1, x1, m2 =>
    if (m2 4 8) ≤ x1 then
      some (x1, m2)
    else
      ob (a_ld 40 8 x1 m2) fun v6 =>
      ob (if v6 = 0 then
          ob (f_X8_used 4 x1 m2) fun r9 =>
          some r9
        else
          ob (f_X8_used 4 x1 m2) fun r10 =>
          some (-r10)) fun (z8 : Int32) =>
      ob (a_ld 40 6 x1 m2) fun v11 =>
      ob (a_ld 40 7 x1 m2) fun v12 =>
      ob (f_X9_spotOf v11 v12) fun r13 =>
      ob (a_ld 40 5 x1 m2) fun v14 =>
      ob (a_ld 12 (o1 + 1) r13 m2) fun v15 =>
      ob (f_X5_book o1 v14 r13 z8 v15 m2) fun m16 =>
      f_X9_takeBids_L2 o1 n (x1 + 1) m16
def f_X9_takeBids (o1 : Nat) (me : gM) : Option (gM) :=
  ob (f_X9_takeBids_L2 o1 f_fuel 0 me) fun t17 =>
  ob (some t17.1) fun y3 =>
  ob (some t17.2) fun m4 =>
  some m4
def f_X9_takeBlocks_L68 (o1 : Nat) (x1 : Int32) (z11 : Int32) : Nat → Int32 → gM → Option (Int32 × gM)
  | 0, _, _ => none
  | n + 1, x14, m15 =>
    if 4 ≤ x14 then
      some (x14, m15)
    else
      ob (a_ld 5 16 x1 m15) fun v19 =>
      ob (f_X9_isMember v19 x14) fun r20 =>
      ob (if r20 = 0 then
          some m15
        else
          ob (a_ld 5 15 x1 m15) fun v23 =>
          ob (f_X9_spotOf v23 x14) fun r24 =>
          ob (a_ld 5 14 x1 m15) fun v25 =>
          ob (a_ld 12 (o1 + 1) r24 m15) fun v26 =>
          ob (f_X5_book o1 v25 r24 z11 v26 m15) fun m27 =>
          some m27) fun (m22 : gM) =>
      f_X9_takeBlocks_L68 o1 x1 z11 n (x14 + 1) m22
def f_X9_takeBlocks_L2 (o1 : Nat) : Nat → Int32 → gM → Option (Int32 × gM)
  | 0, _, _ => none
  | n + 1, x1, m2 =>
    if (m2 13 8) ≤ x1 then
      some (x1, m2)
    else
      ob (f_X9_isMember (m2 13 9) x1) fun r6 =>
      ob (if r6 = 0 then
          some m2
        else
          ob (a_ld 5 17 x1 m2) fun v9 =>
          ob (if v9 = 0 then
              ob (a_ld 5 19 x1 m2) fun v12 =>
              some v12
            else
              ob (a_ld 5 19 x1 m2) fun v13 =>
              some (-v13)) fun (z11 : Int32) =>
          ob (f_X9_takeBlocks_L68 o1 x1 z11 f_fuel 0 m2) fun t28 =>
          ob (some t28.1) fun y16 =>
          ob (some t28.2) fun m17 =>
          some m17) fun (m8 : gM) =>
      f_X9_takeBlocks_L2 o1 n (x1 + 1) m8
def f_X9_takeBlocks (o1 : Nat) (me : gM) : Option (gM) :=
  ob (f_X9_takeBlocks_L2 o1 f_fuel 0 me) fun t29 =>
  ob (some t29.1) fun y3 =>
  ob (some t29.2) fun m4 =>
  some m4
def f_X9_giveRights_L9 (o1 : Nat) (x1 : Int32) : Nat → Int32 → gM → Option (Int32 × gM)
  | 0, _, _ => none
  | n + 1, x6, m7 =>
    if 3 ≤ x6 then
      some (x6, m7)
    else
      ob (if x1 = x6 then
          some m7
        else
          ob (f_X9_lineBetween x1 x6) fun r13 =>
          ob (a_ld 3 3 r13 m7) fun v14 =>
          ob (f_X1_giveOut x1 x6 v14 o1 m7) fun m15 =>
          some m15) fun (m12 : gM) =>
      f_X9_giveRights_L9 o1 x1 n (x6 + 1) m12
def f_X9_giveRights_L2 (o1 : Nat) : Nat → Int32 → gM → Option (Int32 × gM)
  | 0, _, _ => none
  | n + 1, x1, m2 =>
    if 3 ≤ x1 then
      some (x1, m2)
    else
      ob (f_X9_giveRights_L9 o1 x1 f_fuel 0 m2) fun t16 =>
      ob (some t16.1) fun y8 =>
      ob (some t16.2) fun m9 =>
      f_X9_giveRights_L2 o1 n (x1 + 1) m9
def f_X9_giveRights (o1 : Nat) (me : gM) : Option (gM) :=
  ob (f_X9_giveRights_L2 o1 f_fuel 0 me) fun t17 =>
  ob (some t17.1) fun y3 =>
  ob (some t17.2) fun m4 =>
  some m4
def f_X9_worthTaken_L17 (me : gM) : Nat → Int32 → Int32 → Option (Int32 × Int32)
  | 0, _, _ => none
  | n + 1, x2, x3 =>
    if (me 4 8) ≤ x3 then
      some (x2, x3)
    else
      ob (a_ld 40 8 x3 me) fun v7 =>
      ob (if v7 = 0 then
          ob (a_ld 40 9 x3 me) fun v10 =>
          some (-v10)
        else
          ob (a_ld 40 9 x3 me) fun v11 =>
          some v11) fun (z9 : Int32) =>
      ob (f_X8_used 4 x3 me) fun r12 =>
      ob (some (x2 + (z9 * r12))) fun (x13 : Int32) =>
      f_X9_worthTaken_L17 me n x13 (x3 + 1)
def f_X9_worthTaken (me : gM) : Option (Int32) :=
  ob (f_X2_worthOf (me 13 9) me) fun r1 =>
  ob (f_X9_worthTaken_L17 me f_fuel r1 0) fun t14 =>
  ob (some t14.1) fun y4 =>
  ob (some t14.2) fun y5 =>
  some y4
def f_X9_moveUnit (n1 : Nat) (a1 : Nat) (p2 : Int32) (p3 : Int32) (p4 : Int32) (me : gM) : Option (Int32 × gM) :=
  ob (a_ld n1 a1 p2 me) fun v1 =>
  ob (a_st n1 a1 p2 (v1 + 1) me) fun m2 =>
  ob (a_ld n1 a1 p3 m2) fun v3 =>
  ob (a_st n1 a1 p3 (v3 - 1) m2) fun m4 =>
  ob (f_X9_spotOf 0 p4) fun r5 =>
  ob (a_ld n1 a1 r5 m4) fun v6 =>
  ob (f_X9_spotOf 1 p4) fun r7 =>
  ob (a_ld n1 a1 r7 m4) fun v8 =>
  ob (f_X9_spotOf 2 p4) fun r9 =>
  ob (a_ld n1 a1 r9 m4) fun v10 =>
  ob (f_X6_allows v6 v8 v10 m4) fun r11 =>
  if r11 = 0 then
    ob (a_ld n1 a1 p2 m4) fun v13 =>
    ob (a_st n1 a1 p2 (v13 - 1) m4) fun m14 =>
    ob (a_ld n1 a1 p3 m14) fun v15 =>
    ob (a_st n1 a1 p3 (v15 + 1) m14) fun m16 =>
    some (0, m16)
  else
    some (1, m4)
def f_X9_trade_L118 (d8 : Nat) (r10 : Int32) (r12 : Int32) (v7 : Int32) (x15 : Int32) : Nat → Int32 → gM → Option (Int32 × gM)
  | 0, _, _ => none
  | n + 1, x16, m17 =>
    if x15 ≤ x16 then
      some (x16, m17)
    else
      ob (f_X9_moveUnit 12 (d8 + 2) r10 r12 v7 m17) fun w23 =>
      ob (some w23.1) fun r21 =>
      ob (some w23.2) fun m22 =>
      if r21 = 0 then
        some (x16, m22)
      else
        f_X9_trade_L118 d8 r10 r12 v7 x15 n (x16 + 1) m22
def f_X9_trade (p1 : Int32) (p2 : Int32) (me : gM) : Option (gM) :=
  ob (a_ld 60 59 p1 me) fun v1 =>
  ob (if v1 = 0 then
      some p1
    else
      some p2) fun (z3 : Int32) =>
  ob (a_ld 60 59 p1 me) fun v4 =>
  ob (if v4 = 0 then
      some p2
    else
      some p1) fun (z6 : Int32) =>
  ob (a_ld 60 58 p1 me) fun v7 =>
  ob (a_rf 10 69 16 (me 0 8)) fun d8 =>
  ob (a_ld 60 57 z3 me) fun v9 =>
  ob (f_X9_spotOf v9 v7) fun r10 =>
  ob (a_ld 60 57 z6 me) fun v11 =>
  ob (f_X9_spotOf v11 v7) fun r12 =>
  ob (a_ld 60 62 p1 me) fun v13 =>
  ob (a_ld 60 62 p2 me) fun v14 =>
  ob (some (a_min v13 v14)) fun (x15 : Int32) =>
  ob (f_X9_trade_L118 d8 r10 r12 v7 x15 f_fuel 0 me) fun t35 =>
  ob (some t35.1) fun y18 =>
  ob (some t35.2) fun m19 =>
  ob (a_ld 60 62 p1 m19) fun v25 =>
  ob (a_st 60 62 p1 (v25 - y18) m19) fun m26 =>
  ob (a_ld 60 62 p2 m26) fun v27 =>
  ob (a_st 60 62 p2 (v27 - y18) m26) fun m28 =>
  ob (a_ld 60 56 z3 m28) fun v29 =>
  ob (a_ld 60 60 p2 m28) fun v30 =>
  ob (f_X5_book d8 v29 r10 y18 v30 m28) fun m31 =>
  ob (a_ld 60 56 z6 m31) fun v32 =>
  ob (a_ld 60 60 p2 m31) fun v33 =>
  ob (f_X5_book d8 v32 r12 (-y18) v33 m31) fun m34 =>
  some m34
def f_X9_tradeAll_L2 (p1 : Int32) : Nat → Int32 → gM → Option (Int32 × gM)
  | 0, _, _ => none
  | n + 1, x1, m2 =>
    if (m2 55 8) ≤ x1 then
      some (x1, m2)
    else
      ob (a_ld 60 62 p1 m2) fun v6 =>
      if v6 ≤ 0 then
        some (x1, m2)
      else
        ob (a_ld 60 63 x1 m2) fun v8 =>
        ob (f_X8_fits 55 p1 v8 m2) fun r9 =>
        ob (if r9 = 0 then
            some m2
          else
            ob (f_X9_trade p1 v8 m2) fun m12 =>
            some m12) fun (m11 : gM) =>
        f_X9_tradeAll_L2 p1 n (x1 + 1) m11
def f_X9_tradeAll (p1 : Int32) (me : gM) : Option (gM) :=
  ob (f_X9_tradeAll_L2 p1 f_fuel 0 me) fun t13 =>
  ob (some t13.1) fun y3 =>
  ob (some t13.2) fun m4 =>
  some m4
abbrev rmX9_day : Room := { frames := 0, cells := 0, slots := 0, locals := 0 }
set_option maxHeartbeats 4000000 in
set_option maxRecDepth 100000 in
theorem c_X9_day (l : Launch) (G : gG)  {me : gM} {r0 : Int32}  (hf : f_X9_day me = some r0) : Met l yX9_day wsX9_day rmX9_day (va_Pc [.ref (G.2.2.1 0)] (g_W ZC G me)) (g_Qi ZC G r0 me) 0 0 (g_A ZC G) := by
  refine Met.ofW (cc := cX9_day) (maxL := 1) (ret := (some .int)) (by decide) rfl ?_
  intro p e s m args below meth c s₁ B hml hv
  obtain ⟨rfl, hW0⟩ := hv
  have hC : CallFix p m c cX9_day 1 s ([.ref (G.2.2.1 0)] : List Value).toArray wsX9_day RX9 := ⟨B.exec, B.bytes, hml, findClass_of_methodNamed B.named, atoms_spec (ws := wsX9_day) B.pre⟩
  have hx := hC.1
  have hb := hC.2.1
  have hown := hC.2.2.2.1
  have hts := hC.2.2.2.2
  have hr := B.returns
  have hlocks := B.notSynchronized
  have hW := g_H_enter hW0
  have hi9 : ∀ w ∈ wsX90, w ∈ wsX9_day := by decide +kernel
  have hl := lv_entry ([.ref (G.2.2.1 0)]) (n := 1) (Nat.le_of_ble_eq_true rfl)
  rw [lg_entry_eq]
  generalize (lg_sl ([.ref (G.2.2.1 0)]) ++ List.replicate (1 - (lg_sl ([.ref (G.2.2.1 0)])).length) Slot.unset).toArray = ls at hl ⊢
  have hl : lv_has ls 1 [(0, .ref (G.2.2.1 0))] := hl
  obtain ⟨Q, hQ⟩ : ∃ Q, Q = MQ below (g_Qi ZC G r0 me) ([.ref (G.2.2.1 0)] : List Value).toArray s 0 0 (g_A ZC G) := ⟨_, rfl⟩
  refine g_goQ hQ ?_
  unfold f_X9_day at hf
  refine g_start hW (fun H locs hW => ?_)
  refine lv_aload_n hx hb dX9_day_0 rfl (lv_at hl 0 rfl) ?_
  refine g_geti hC hW (o := 0) (ci := 9) (k := 8) zc_k0 zc_b0 rfl hi9 (by decide) rfl (by decide +kernel) dX9_day_1 ?_
  cases hf
  subst hQ
  exact g_iret hC hW hr hlocks rfl rfl dX9_day_4
abbrev rmX9_phase : Room := { frames := 0, cells := 0, slots := 0, locals := 0 }
set_option maxHeartbeats 4000000 in
set_option maxRecDepth 100000 in
theorem c_X9_phase (l : Launch) (G : gG)  {me : gM} {r0 : Int32}  (hf : f_X9_phase me = some r0) : Met l yX9_phase wsX9_phase rmX9_phase (va_Pc [.ref (G.2.2.1 0)] (g_W ZC G me)) (g_Qi ZC G r0 me) 0 0 (g_A ZC G) := by
  refine Met.ofW (cc := cX9_phase) (maxL := 1) (ret := (some .int)) (by decide) rfl ?_
  intro p e s m args below meth c s₁ B hml hv
  obtain ⟨rfl, hW0⟩ := hv
  have hC : CallFix p m c cX9_phase 1 s ([.ref (G.2.2.1 0)] : List Value).toArray wsX9_phase RX9 := ⟨B.exec, B.bytes, hml, findClass_of_methodNamed B.named, atoms_spec (ws := wsX9_phase) B.pre⟩
  have hx := hC.1
  have hb := hC.2.1
  have hown := hC.2.2.2.1
  have hts := hC.2.2.2.2
  have hr := B.returns
  have hlocks := B.notSynchronized
  have hW := g_H_enter hW0
  have hi9 : ∀ w ∈ wsX90, w ∈ wsX9_phase := by decide +kernel
  have hl := lv_entry ([.ref (G.2.2.1 0)]) (n := 1) (Nat.le_of_ble_eq_true rfl)
  rw [lg_entry_eq]
  generalize (lg_sl ([.ref (G.2.2.1 0)]) ++ List.replicate (1 - (lg_sl ([.ref (G.2.2.1 0)])).length) Slot.unset).toArray = ls at hl ⊢
  have hl : lv_has ls 1 [(0, .ref (G.2.2.1 0))] := hl
  obtain ⟨Q, hQ⟩ : ∃ Q, Q = MQ below (g_Qi ZC G r0 me) ([.ref (G.2.2.1 0)] : List Value).toArray s 0 0 (g_A ZC G) := ⟨_, rfl⟩
  refine g_goQ hQ ?_
  unfold f_X9_phase at hf
  refine g_start hW (fun H locs hW => ?_)
  refine lv_aload_n hx hb dX9_phase_0 rfl (lv_at hl 0 rfl) ?_
  refine g_geti hC hW (o := 0) (ci := 9) (k := 9) zc_k0 zc_b0 rfl hi9 (by decide) rfl (by decide +kernel) dX9_phase_1 ?_
  cases hf
  subst hQ
  exact g_iret hC hW hr hlocks rfl rfl dX9_phase_4
abbrev rmX9_house : Room := { frames := 0, cells := 0, slots := 0, locals := 0 }
set_option maxHeartbeats 4000000 in
set_option maxRecDepth 100000 in
theorem c_X9_house (l : Launch) (G : gG)  {me : gM} {r0 : Int32}  (hf : f_X9_house me = some r0) : Met l yX9_house wsX9_house rmX9_house (va_Pc [.ref (G.2.2.1 0)] (g_W ZC G me)) (g_Qi ZC G r0 me) 0 0 (g_A ZC G) := by
  refine Met.ofW (cc := cX9_house) (maxL := 1) (ret := (some .int)) (by decide) rfl ?_
  intro p e s m args below meth c s₁ B hml hv
  obtain ⟨rfl, hW0⟩ := hv
  have hC : CallFix p m c cX9_house 1 s ([.ref (G.2.2.1 0)] : List Value).toArray wsX9_house RX9 := ⟨B.exec, B.bytes, hml, findClass_of_methodNamed B.named, atoms_spec (ws := wsX9_house) B.pre⟩
  have hx := hC.1
  have hb := hC.2.1
  have hown := hC.2.2.2.1
  have hts := hC.2.2.2.2
  have hr := B.returns
  have hlocks := B.notSynchronized
  have hW := g_H_enter hW0
  have hi0 : ∀ w ∈ wsX00, w ∈ wsX9_house := by decide +kernel
  have hi9 : ∀ w ∈ wsX90, w ∈ wsX9_house := by decide +kernel
  have hl := lv_entry ([.ref (G.2.2.1 0)]) (n := 1) (Nat.le_of_ble_eq_true rfl)
  rw [lg_entry_eq]
  generalize (lg_sl ([.ref (G.2.2.1 0)]) ++ List.replicate (1 - (lg_sl ([.ref (G.2.2.1 0)])).length) Slot.unset).toArray = ls at hl ⊢
  have hl : lv_has ls 1 [(0, .ref (G.2.2.1 0))] := hl
  obtain ⟨Q, hQ⟩ : ∃ Q, Q = MQ below (g_Qi ZC G r0 me) ([.ref (G.2.2.1 0)] : List Value).toArray s 0 0 (g_A ZC G) := ⟨_, rfl⟩
  refine g_goQ hQ ?_
  unfold f_X9_house at hf
  refine g_start hW (fun H locs hW => ?_)
  refine lv_aload_n hx hb dX9_house_0 rfl (lv_at hl 0 rfl) ?_
  refine g_getr hC hW (o := 0) (ci := 9) (k := 7) zc_k0 zc_b0 rfl hi9 (by decide) rfl (t := 65) zc_r0_7 (by decide +kernel) dX9_house_1 ?_
  refine g_geti hC hW (o := 65) (ci := 0) (k := 3) zc_k65 zc_b65 rfl hi0 (by decide) rfl (by decide +kernel) dX9_house_4 ?_
  cases hf
  subst hQ
  exact g_iret hC hW hr hlocks rfl rfl dX9_house_7
abbrev rmX9_takeBids : Room := { frames := 1, cells := 0, slots := 0, locals := 24 }
set_option maxHeartbeats 4000000 in
set_option maxRecDepth 100000 in
theorem c_X9_takeBids (l : Launch) (G : gG) {o1 : Nat} {me : gM} {m0 : gM}  (ho1 : ZC.2.1 o1 = 6) (hf : f_X9_takeBids o1 me = some m0) : Met l yX9_takeBids wsX9_takeBids rmX9_takeBids (va_Pc [.ref (G.2.2.1 0), .ref (G.2.2.1 o1)] (g_W ZC G me)) (g_Qv ZC G m0) 0 0 (g_A ZC G) := by
  refine Met.ofW (cc := cX9_takeBids) (maxL := 5) (ret := none) (by decide) rfl ?_
  intro p e s m args below meth c s₁ B hml hv
  obtain ⟨rfl, hW0⟩ := hv
  have hC : CallFix p m c cX9_takeBids 5 s ([.ref (G.2.2.1 0), .ref (G.2.2.1 o1)] : List Value).toArray wsX9_takeBids RX9 := ⟨B.exec, B.bytes, hml, findClass_of_methodNamed B.named, atoms_spec (ws := wsX9_takeBids) B.pre⟩
  have hx := hC.1
  have hb := hC.2.1
  have hown := hC.2.2.2.1
  have hts := hC.2.2.2.2
  have hr := B.returns
  have hlocks := B.notSynchronized
  have hW := g_H_enter hW0
  have hi5 : ∀ w ∈ wsX50, w ∈ wsX9_takeBids := by decide +kernel
  have hi8 : ∀ w ∈ wsX80, w ∈ wsX9_takeBids := by decide +kernel
  have hi9 : ∀ w ∈ wsX90, w ∈ wsX9_takeBids := by decide +kernel
  have hl := lv_entry ([.ref (G.2.2.1 0), .ref (G.2.2.1 o1)]) (n := 5) (Nat.le_of_ble_eq_true rfl)
  rw [lg_entry_eq]
  generalize (lg_sl ([.ref (G.2.2.1 0), .ref (G.2.2.1 o1)]) ++ List.replicate (5 - (lg_sl ([.ref (G.2.2.1 0), .ref (G.2.2.1 o1)])).length) Slot.unset).toArray = ls at hl ⊢
  have hl : lv_has ls 5 [(0, .ref (G.2.2.1 0)), (1, .ref (G.2.2.1 o1))] := hl
  obtain ⟨Q, hQ⟩ : ∃ Q, Q = MQ below (g_Qv ZC G m0) ([.ref (G.2.2.1 0), .ref (G.2.2.1 o1)] : List Value).toArray s 0 0 (g_A ZC G) := ⟨_, rfl⟩
  refine g_goQ hQ ?_
  unfold f_X9_takeBids at hf
  refine g_start hW (fun H locs hW => ?_)
  refine lv_iconst (v := 0) hx hb dX9_takeBids_0 (by decide) ?_
  refine lv_istore_n (lv' := [(2, .int 0), (0, .ref (G.2.2.1 0)), (1, .ref (G.2.2.1 o1))]) hx hb dX9_takeBids_1 rfl hl (by decide) rfl (fun ls hl => ?_)
  have hL2 : ∀ (n : Nat) (x1 : Int32) (m2 : gM) (y3 : Int32) (m4 : gM) (H : Heap) (locs : List Loc) (ls : Array Slot), f_X9_takeBids_L2 o1 n x1 m2 = some (y3, m4) → g_H ZC G s H locs m2 → lv_has ls 5 [(0, .ref (G.2.2.1 0)), (1, .ref (G.2.2.1 o1)), (2, .int x1)] → (∀ (H : Heap) (locs : List Loc) (ls : Array Slot), g_H ZC G s H locs m4 → lv_has ls 5 [] → W p l e (headSpec wsX9_takeBids rmX9_takeBids).room s m ([.ref (G.2.2.1 0), .ref (G.2.2.1 o1)] : List Value).toArray below meth c H locs 0 0 Q (F0 m 98 ls [])) → W p l e (headSpec wsX9_takeBids rmX9_takeBids).room s m ([.ref (G.2.2.1 0), .ref (G.2.2.1 o1)] : List Value).toArray below meth c H locs 0 0 Q (F0 m 2 ls []) := by
    intro n
    induction n with
    | zero =>
      intro x1 m2 y3 m4 H locs ls hf hW hl hE
      cases hf
    | succ n ih =>
      intro x1 m2 y3 m4 H locs ls hf hW hl hE
      rw [f_X9_takeBids_L2] at hf
      refine lv_iload_n hx hb dX9_takeBids_2 rfl (lv_at hl 2 rfl) ?_
      refine lv_aload_n hx hb dX9_takeBids_3 rfl (lv_at hl 0 rfl) ?_
      refine g_getr hC hW (o := 0) (ci := 9) (k := 2) zc_k0 zc_b0 rfl hi9 (by decide) rfl (t := 4) zc_r0_2 (by decide +kernel) dX9_takeBids_4 ?_
      refine g_geti hC hW (o := 4) (ci := 8) (k := 8) zc_k4 zc_b4 rfl hi8 (by decide) rfl (by decide +kernel) dX9_takeBids_7 ?_
      refine lv_icmp_ge (tgt := 98) hx hb dX9_takeBids_10 (by decide) (fun c5 => ?_) (fun c5 => ?_)
      · have hf := a_if_t c5 hf
        cases hf
        exact hE H locs ls hW (lv_sub hl [] rfl)
      · have hf := a_if_f c5 hf
        refine lv_aload_n hx hb dX9_takeBids_13 rfl (lv_at hl 0 rfl) ?_
        refine g_getr hC hW (o := 0) (ci := 9) (k := 2) zc_k0 zc_b0 rfl hi9 (by decide) rfl (t := 4) zc_r0_2 (by decide +kernel) dX9_takeBids_14 ?_
        refine g_getr hC hW (o := 4) (ci := 8) (k := 3) zc_k4 zc_b4 rfl hi8 (by decide) rfl (t := 8) zc_r4_3 (by decide +kernel) dX9_takeBids_17 ?_
        refine lv_iload_n hx hb dX9_takeBids_20 rfl (lv_at hl 2 rfl) ?_
        obtain ⟨v6, h9, hf⟩ := ob_inv hf
        refine g_zld hC hW zc_k8 zc_b8 zc_n8 h9 dX9_takeBids_21 ?_
        obtain ⟨z8, hg, hf⟩ := ob_inv hf
        have hJ45 : ∀ (H : Heap) (locs : List Loc) (ls : Array Slot), g_H ZC G s H locs m2 → lv_has ls 5 [(0, .ref (G.2.2.1 0)), (1, .ref (G.2.2.1 o1)), (2, .int x1)] → W p l e (headSpec wsX9_takeBids rmX9_takeBids).room s m ([.ref (G.2.2.1 0), .ref (G.2.2.1 o1)] : List Value).toArray below meth c H locs 0 0 Q (F0 m 45 ls [.int z8]) := by
          intro H locs ls hW hl
          refine lv_istore_n (lv' := [(3, .int z8), (0, .ref (G.2.2.1 0)), (1, .ref (G.2.2.1 o1)), (2, .int x1)]) hx hb dX9_takeBids_45 rfl hl (by decide) rfl (fun ls hl => ?_)
          refine lv_aload_n hx hb dX9_takeBids_46 rfl (lv_at hl 1 rfl) ?_
          refine g_getr hC hW (o := 0) (ci := 9) (k := 2) zc_k0 zc_b0 rfl hi9 (by decide) rfl (t := 4) zc_r0_2 (by decide +kernel) dX9_takeBids_47 ?_
          refine g_getr hC hW (o := 4) (ci := 8) (k := 1) zc_k4 zc_b4 rfl hi8 (by decide) rfl (t := 6) zc_r4_1 (by decide +kernel) dX9_takeBids_50 ?_
          refine lv_iload_n hx hb dX9_takeBids_53 rfl (lv_at hl 3 rfl) ?_
          obtain ⟨v11, h9, hf⟩ := ob_inv hf
          refine g_ild hC hW zc_k6 zc_b6 zc_n6 h9 dX9_takeBids_54 ?_
          refine lv_aload_n hx hb dX9_takeBids_55 rfl (lv_at hl 1 rfl) ?_
          refine g_getr hC hW (o := 0) (ci := 9) (k := 2) zc_k0 zc_b0 rfl hi9 (by decide) rfl (t := 4) zc_r0_2 (by decide +kernel) dX9_takeBids_56 ?_
          refine g_getr hC hW (o := 4) (ci := 8) (k := 2) zc_k4 zc_b4 rfl hi8 (by decide) rfl (t := 7) zc_r4_2 (by decide +kernel) dX9_takeBids_59 ?_
          refine lv_iload_n hx hb dX9_takeBids_62 rfl (lv_at hl 3 rfl) ?_
          obtain ⟨v12, h9, hf⟩ := ob_inv hf
          refine g_ild hC hW zc_k7 zc_b7 zc_n7 h9 dX9_takeBids_63 ?_
          obtain ⟨r13, hg, hf⟩ := ob_inv hf
          refine g_cSi hC hW (As := [.int v11, .int v12]) (rest := []) (c_X9_spotOf l G  hg) (va_cwS 2 hts gX9_takeBids_X9_spotOf rfl rfl rfl (by decide +kernel) ⟨Nat.le_of_ble_eq_true rfl, Nat.le_of_ble_eq_true rfl⟩) rfl hl.1 rfl (Nat.le_of_ble_eq_true rfl) dX9_takeBids_64 ⟨Nat.le_of_ble_eq_true rfl, Nat.le_of_ble_eq_true rfl⟩ (fun H locs hW => ?_)
          refine lv_istore (lv' := [(4, .int r13), (3, .int z8), (0, .ref (G.2.2.1 0)), (1, .ref (G.2.2.1 o1)), (2, .int x1)]) hx hb dX9_takeBids_67 hl (by decide) rfl (fun ls hl => ?_)
          refine lv_aload_n hx hb dX9_takeBids_69 rfl (lv_at hl 3 rfl) ?_
          refine lv_aload_n hx hb dX9_takeBids_70 rfl (lv_at hl 2 rfl) ?_
          refine g_getr hC hW (o := 0) (ci := 9) (k := 2) zc_k0 zc_b0 rfl hi9 (by decide) rfl (t := 4) zc_r0_2 (by decide +kernel) dX9_takeBids_71 ?_
          refine g_getr hC hW (o := 4) (ci := 8) (k := 0) zc_k4 zc_b4 rfl hi8 (by decide) rfl (t := 5) zc_r4_0 (by decide +kernel) dX9_takeBids_74 ?_
          refine lv_iload_n hx hb dX9_takeBids_77 rfl (lv_at hl 4 rfl) ?_
          obtain ⟨v14, h9, hf⟩ := ob_inv hf
          refine g_ild hC hW zc_k5 zc_b5 zc_n5 h9 dX9_takeBids_78 ?_
          refine lv_iload hx hb dX9_takeBids_79 (lv_at hl 0 rfl) ?_
          refine lv_iload_n hx hb dX9_takeBids_81 rfl (lv_at hl 1 rfl) ?_
          refine lv_aload_n hx hb dX9_takeBids_82 rfl (lv_at hl 3 rfl) ?_
          refine g_getr hC hW (o := o1) (ci := 5) (k := 0) ho1 (zc_lt ho1) rfl hi5 (by decide) rfl (t := (o1 + 1)) (zc_o5_0 ho1).1 (by decide +kernel) dX9_takeBids_83 ?_
          refine lv_iload hx hb dX9_takeBids_86 (lv_at hl 0 rfl) ?_
          obtain ⟨v15, h9, hf⟩ := ob_inv hf
          refine g_ild hC hW (zc_o5_0 ho1).2.1 (zc_o5_0 ho1).2.2.1 (zc_o5_0 ho1).2.2.2 h9 dX9_takeBids_88 ?_
          obtain ⟨m16, hg, hf⟩ := ob_inv hf
          refine g_cVv hC hW (o := o1) (ci := 5) (As := [.int v14, .int r13, .int z8, .int v15]) (rest := []) ho1 (zc_lt ho1) rfl (c_X5_book l G ho1 hg) (cwV 4 hts gX9_takeBids_X5_book rfl rfl rfl (by decide +kernel) ⟨Nat.le_of_ble_eq_true rfl, Nat.le_of_ble_eq_true rfl⟩) rfl hl.1 rfl (Nat.le_of_ble_eq_true rfl) dX9_takeBids_89 ⟨Nat.le_of_ble_eq_true rfl, Nat.le_of_ble_eq_true rfl⟩ (fun H locs hW => ?_)
          refine lv_iinc (v := (x1 + 1)) (lv' := [(2, .int (x1 + 1)), (4, .int r13), (3, .int z8), (0, .ref (G.2.2.1 0)), (1, .ref (G.2.2.1 o1))]) hx hb dX9_takeBids_92 hl (k := 4) rfl (congrArg (fun z => x1 + z) (by decide)) (by decide) rfl (fun ls hl => ?_)
          refine lv_goto (tgt := 2) hx hb dX9_takeBids_95 (by decide) ?_
          exact ih _ _ _ _ _ _ _ hf hW (lv_sub hl [3, 4, 0] rfl) hE
        replace hf := hg
        refine lv_if_eq (tgt := 37) hx hb dX9_takeBids_22 (by decide) (fun c7 => ?_) (fun c7 => ?_)
        · have hf := a_if_t c7 hf
          refine lv_aload_n hx hb dX9_takeBids_37 rfl (lv_at hl 0 rfl) ?_
          refine g_getr hC hW (o := 0) (ci := 9) (k := 2) zc_k0 zc_b0 rfl hi9 (by decide) rfl (t := 4) zc_r0_2 (by decide +kernel) dX9_takeBids_38 ?_
          refine lv_iload_n hx hb dX9_takeBids_41 rfl (lv_at hl 2 rfl) ?_
          obtain ⟨r9, hg, hf⟩ := ob_inv hf
          refine g_cVi hC hW (o := 4) (ci := 8) (As := [.int x1]) (rest := []) zc_k4 zc_b4 rfl (c_X8_used l G zc_k4 hg) (cwV 1 hts gX9_takeBids_X8_used rfl rfl rfl (by decide +kernel) ⟨Nat.le_of_ble_eq_true rfl, Nat.le_of_ble_eq_true rfl⟩) rfl hl.1 rfl (Nat.le_of_ble_eq_true rfl) dX9_takeBids_42 ⟨Nat.le_of_ble_eq_true rfl, Nat.le_of_ble_eq_true rfl⟩ (fun H locs hW => ?_)
          cases hf
          exact hJ45 H locs ls hW (lv_sub hl [0, 1, 2] rfl)
        · have hf := a_if_f c7 hf
          refine lv_aload_n hx hb dX9_takeBids_25 rfl (lv_at hl 0 rfl) ?_
          refine g_getr hC hW (o := 0) (ci := 9) (k := 2) zc_k0 zc_b0 rfl hi9 (by decide) rfl (t := 4) zc_r0_2 (by decide +kernel) dX9_takeBids_26 ?_
          refine lv_iload_n hx hb dX9_takeBids_29 rfl (lv_at hl 2 rfl) ?_
          obtain ⟨r10, hg, hf⟩ := ob_inv hf
          refine g_cVi hC hW (o := 4) (ci := 8) (As := [.int x1]) (rest := []) zc_k4 zc_b4 rfl (c_X8_used l G zc_k4 hg) (cwV 1 hts gX9_takeBids_X8_used rfl rfl rfl (by decide +kernel) ⟨Nat.le_of_ble_eq_true rfl, Nat.le_of_ble_eq_true rfl⟩) rfl hl.1 rfl (Nat.le_of_ble_eq_true rfl) dX9_takeBids_30 ⟨Nat.le_of_ble_eq_true rfl, Nat.le_of_ble_eq_true rfl⟩ (fun H locs hW => ?_)
          refine lv_ineg hx hb dX9_takeBids_33 ?_
          refine lv_goto (tgt := 45) hx hb dX9_takeBids_34 (by decide) ?_
          cases hf
          exact hJ45 H locs ls hW (lv_sub hl [0, 1, 2] rfl)
  obtain ⟨⟨y3, m4⟩, hg, hf⟩ := ob_inv hf
  have hf := ob_inv2 hf
  refine hL2 _ _ _ _ _ _ _ _ hg hW (lv_sub hl [1, 2, 0] rfl) (fun H locs ls hW hl => ?_)
  cases hf
  subst hQ
  exact g_vret hC hW hr hlocks rfl dX9_takeBids_98
abbrev rmX9_takeBlocks : Room := { frames := 1, cells := 0, slots := 0, locals := 24 }
set_option maxHeartbeats 4000000 in
set_option maxRecDepth 100000 in
theorem c_X9_takeBlocks (l : Launch) (G : gG) {o1 : Nat} {me : gM} {m0 : gM}  (ho1 : ZC.2.1 o1 = 6) (hf : f_X9_takeBlocks o1 me = some m0) : Met l yX9_takeBlocks wsX9_takeBlocks rmX9_takeBlocks (va_Pc [.ref (G.2.2.1 0), .ref (G.2.2.1 o1)] (g_W ZC G me)) (g_Qv ZC G m0) 0 0 (g_A ZC G) := by
  refine Met.ofW (cc := cX9_takeBlocks) (maxL := 6) (ret := none) (by decide) rfl ?_
  intro p e s m args below meth c s₁ B hml hv
  obtain ⟨rfl, hW0⟩ := hv
  have hC : CallFix p m c cX9_takeBlocks 6 s ([.ref (G.2.2.1 0), .ref (G.2.2.1 o1)] : List Value).toArray wsX9_takeBlocks RX9 := ⟨B.exec, B.bytes, hml, findClass_of_methodNamed B.named, atoms_spec (ws := wsX9_takeBlocks) B.pre⟩
  have hx := hC.1
  have hb := hC.2.1
  have hown := hC.2.2.2.1
  have hts := hC.2.2.2.2
  have hr := B.returns
  have hlocks := B.notSynchronized
  have hW := g_H_enter hW0
  have hi2 : ∀ w ∈ wsX20, w ∈ wsX9_takeBlocks := by decide +kernel
  have hi5 : ∀ w ∈ wsX50, w ∈ wsX9_takeBlocks := by decide +kernel
  have hi9 : ∀ w ∈ wsX90, w ∈ wsX9_takeBlocks := by decide +kernel
  have hl := lv_entry ([.ref (G.2.2.1 0), .ref (G.2.2.1 o1)]) (n := 6) (Nat.le_of_ble_eq_true rfl)
  rw [lg_entry_eq]
  generalize (lg_sl ([.ref (G.2.2.1 0), .ref (G.2.2.1 o1)]) ++ List.replicate (6 - (lg_sl ([.ref (G.2.2.1 0), .ref (G.2.2.1 o1)])).length) Slot.unset).toArray = ls at hl ⊢
  have hl : lv_has ls 6 [(0, .ref (G.2.2.1 0)), (1, .ref (G.2.2.1 o1))] := hl
  obtain ⟨Q, hQ⟩ : ∃ Q, Q = MQ below (g_Qv ZC G m0) ([.ref (G.2.2.1 0), .ref (G.2.2.1 o1)] : List Value).toArray s 0 0 (g_A ZC G) := ⟨_, rfl⟩
  refine g_goQ hQ ?_
  unfold f_X9_takeBlocks at hf
  refine g_start hW (fun H locs hW => ?_)
  refine lv_iconst (v := 0) hx hb dX9_takeBlocks_0 (by decide) ?_
  refine lv_istore_n (lv' := [(2, .int 0), (0, .ref (G.2.2.1 0)), (1, .ref (G.2.2.1 o1))]) hx hb dX9_takeBlocks_1 rfl hl (by decide) rfl (fun ls hl => ?_)
  have hL2 : ∀ (n : Nat) (x1 : Int32) (m2 : gM) (y3 : Int32) (m4 : gM) (H : Heap) (locs : List Loc) (ls : Array Slot), f_X9_takeBlocks_L2 o1 n x1 m2 = some (y3, m4) → g_H ZC G s H locs m2 → lv_has ls 6 [(0, .ref (G.2.2.1 0)), (1, .ref (G.2.2.1 o1)), (2, .int x1)] → (∀ (H : Heap) (locs : List Loc) (ls : Array Slot), g_H ZC G s H locs m4 → lv_has ls 6 [] → W p l e (headSpec wsX9_takeBlocks rmX9_takeBlocks).room s m ([.ref (G.2.2.1 0), .ref (G.2.2.1 o1)] : List Value).toArray below meth c H locs 0 0 Q (F0 m 142 ls [])) → W p l e (headSpec wsX9_takeBlocks rmX9_takeBlocks).room s m ([.ref (G.2.2.1 0), .ref (G.2.2.1 o1)] : List Value).toArray below meth c H locs 0 0 Q (F0 m 2 ls []) := by
    intro n
    induction n with
    | zero =>
      intro x1 m2 y3 m4 H locs ls hf hW hl hE
      cases hf
    | succ n ih =>
      intro x1 m2 y3 m4 H locs ls hf hW hl hE
      rw [f_X9_takeBlocks_L2] at hf
      refine lv_iload_n hx hb dX9_takeBlocks_2 rfl (lv_at hl 2 rfl) ?_
      refine lv_aload_n hx hb dX9_takeBlocks_3 rfl (lv_at hl 0 rfl) ?_
      refine g_getr hC hW (o := 0) (ci := 9) (k := 3) zc_k0 zc_b0 rfl hi9 (by decide) rfl (t := 13) zc_r0_3 (by decide +kernel) dX9_takeBlocks_4 ?_
      refine g_geti hC hW (o := 13) (ci := 2) (k := 8) zc_k13 zc_b13 rfl hi2 (by decide) rfl (by decide +kernel) dX9_takeBlocks_7 ?_
      refine lv_icmp_ge (tgt := 142) hx hb dX9_takeBlocks_10 (by decide) (fun c5 => ?_) (fun c5 => ?_)
      · have hf := a_if_t c5 hf
        cases hf
        exact hE H locs ls hW (lv_sub hl [] rfl)
      · have hf := a_if_f c5 hf
        refine lv_aload_n hx hb dX9_takeBlocks_13 rfl (lv_at hl 0 rfl) ?_
        refine g_getr hC hW (o := 0) (ci := 9) (k := 3) zc_k0 zc_b0 rfl hi9 (by decide) rfl (t := 13) zc_r0_3 (by decide +kernel) dX9_takeBlocks_14 ?_
        refine g_geti hC hW (o := 13) (ci := 2) (k := 9) zc_k13 zc_b13 rfl hi2 (by decide) rfl (by decide +kernel) dX9_takeBlocks_17 ?_
        refine lv_iload_n hx hb dX9_takeBlocks_20 rfl (lv_at hl 2 rfl) ?_
        obtain ⟨r6, hg, hf⟩ := ob_inv hf
        refine g_cSi hC hW (As := [.int (m2 13 9), .int x1]) (rest := []) (c_X9_isMember l G  hg) (va_cwS 2 hts gX9_takeBlocks_X9_isMember rfl rfl rfl (by decide +kernel) ⟨Nat.le_of_ble_eq_true rfl, Nat.le_of_ble_eq_true rfl⟩) rfl hl.1 rfl (Nat.le_of_ble_eq_true rfl) dX9_takeBlocks_21 ⟨Nat.le_of_ble_eq_true rfl, Nat.le_of_ble_eq_true rfl⟩ (fun H locs hW => ?_)
        obtain ⟨m8, hg, hf⟩ := ob_inv hf
        have hJ136 : ∀ (H : Heap) (locs : List Loc) (ls : Array Slot), g_H ZC G s H locs m8 → lv_has ls 6 [(0, .ref (G.2.2.1 0)), (1, .ref (G.2.2.1 o1)), (2, .int x1)] → W p l e (headSpec wsX9_takeBlocks rmX9_takeBlocks).room s m ([.ref (G.2.2.1 0), .ref (G.2.2.1 o1)] : List Value).toArray below meth c H locs 0 0 Q (F0 m 136 ls []) := by
          intro H locs ls hW hl
          refine lv_iinc (v := (x1 + 1)) (lv' := [(2, .int (x1 + 1)), (0, .ref (G.2.2.1 0)), (1, .ref (G.2.2.1 o1))]) hx hb dX9_takeBlocks_136 hl (k := 2) rfl (congrArg (fun z => x1 + z) (by decide)) (by decide) rfl (fun ls hl => ?_)
          refine lv_goto (tgt := 2) hx hb dX9_takeBlocks_139 (by decide) ?_
          exact ih _ _ _ _ _ _ _ hf hW (lv_sub hl [1, 2, 0] rfl) hE
        replace hf := hg
        refine lv_if_ne (tgt := 30) hx hb dX9_takeBlocks_24 (by decide) (fun c7 => ?_) (fun c7 => ?_)
        · have hf := a_if_f c7 hf
          refine lv_aload_n hx hb dX9_takeBlocks_30 rfl (lv_at hl 0 rfl) ?_
          refine g_getr hC hW (o := 0) (ci := 9) (k := 3) zc_k0 zc_b0 rfl hi9 (by decide) rfl (t := 13) zc_r0_3 (by decide +kernel) dX9_takeBlocks_31 ?_
          refine g_getr hC hW (o := 13) (ci := 2) (k := 3) zc_k13 zc_b13 rfl hi2 (by decide) rfl (t := 17) zc_r13_3 (by decide +kernel) dX9_takeBlocks_34 ?_
          refine lv_iload_n hx hb dX9_takeBlocks_37 rfl (lv_at hl 2 rfl) ?_
          obtain ⟨v9, h9, hf⟩ := ob_inv hf
          refine g_zld hC hW zc_k17 zc_b17 zc_n17 h9 dX9_takeBlocks_38 ?_
          obtain ⟨z11, hg, hf⟩ := ob_inv hf
          have hJ64 : ∀ (H : Heap) (locs : List Loc) (ls : Array Slot), g_H ZC G s H locs m2 → lv_has ls 6 [(0, .ref (G.2.2.1 0)), (1, .ref (G.2.2.1 o1)), (2, .int x1)] → W p l e (headSpec wsX9_takeBlocks rmX9_takeBlocks).room s m ([.ref (G.2.2.1 0), .ref (G.2.2.1 o1)] : List Value).toArray below meth c H locs 0 0 Q (F0 m 64 ls [.int z11]) := by
            intro H locs ls hW hl
            refine lv_istore_n (lv' := [(3, .int z11), (0, .ref (G.2.2.1 0)), (1, .ref (G.2.2.1 o1)), (2, .int x1)]) hx hb dX9_takeBlocks_64 rfl hl (by decide) rfl (fun ls hl => ?_)
            refine lv_iconst (v := 0) hx hb dX9_takeBlocks_65 (by decide) ?_
            refine lv_istore (lv' := [(4, .int 0), (3, .int z11), (0, .ref (G.2.2.1 0)), (1, .ref (G.2.2.1 o1)), (2, .int x1)]) hx hb dX9_takeBlocks_66 hl (by decide) rfl (fun ls hl => ?_)
            have hL68 : ∀ (n : Nat) (x14 : Int32) (m15 : gM) (y16 : Int32) (m17 : gM) (H : Heap) (locs : List Loc) (ls : Array Slot), f_X9_takeBlocks_L68 o1 x1 z11 n x14 m15 = some (y16, m17) → g_H ZC G s H locs m15 → lv_has ls 6 [(0, .ref (G.2.2.1 0)), (1, .ref (G.2.2.1 o1)), (2, .int x1), (3, .int z11), (4, .int x14)] → (∀ (H : Heap) (locs : List Loc) (ls : Array Slot), g_H ZC G s H locs m17 → lv_has ls 6 [(0, .ref (G.2.2.1 0)), (1, .ref (G.2.2.1 o1)), (2, .int x1)] → W p l e (headSpec wsX9_takeBlocks rmX9_takeBlocks).room s m ([.ref (G.2.2.1 0), .ref (G.2.2.1 o1)] : List Value).toArray below meth c H locs 0 0 Q (F0 m 136 ls [])) → W p l e (headSpec wsX9_takeBlocks rmX9_takeBlocks).room s m ([.ref (G.2.2.1 0), .ref (G.2.2.1 o1)] : List Value).toArray below meth c H locs 0 0 Q (F0 m 68 ls []) := by
              intro n
              induction n with
              | zero =>
                intro x14 m15 y16 m17 H locs ls hf hW hl hE
                cases hf
              | succ n ih =>
                intro x14 m15 y16 m17 H locs ls hf hW hl hE
                rw [f_X9_takeBlocks_L68] at hf
                refine lv_iload hx hb dX9_takeBlocks_68 (lv_at hl 4 rfl) ?_
                refine lv_iconst (v := 4) hx hb dX9_takeBlocks_70 (by decide) ?_
                refine lv_icmp_ge (tgt := 136) hx hb dX9_takeBlocks_71 (by decide) (fun c18 => ?_) (fun c18 => ?_)
                · have hf := a_if_t c18 hf
                  cases hf
                  exact hE H locs ls hW (lv_sub hl [0, 1, 2] rfl)
                · have hf := a_if_f c18 hf
                  refine lv_aload_n hx hb dX9_takeBlocks_74 rfl (lv_at hl 0 rfl) ?_
                  refine g_getr hC hW (o := 0) (ci := 9) (k := 3) zc_k0 zc_b0 rfl hi9 (by decide) rfl (t := 13) zc_r0_3 (by decide +kernel) dX9_takeBlocks_75 ?_
                  refine g_getr hC hW (o := 13) (ci := 2) (k := 2) zc_k13 zc_b13 rfl hi2 (by decide) rfl (t := 16) zc_r13_2 (by decide +kernel) dX9_takeBlocks_78 ?_
                  refine lv_iload_n hx hb dX9_takeBlocks_81 rfl (lv_at hl 2 rfl) ?_
                  obtain ⟨v19, h9, hf⟩ := ob_inv hf
                  refine g_ild hC hW zc_k16 zc_b16 zc_n16 h9 dX9_takeBlocks_82 ?_
                  refine lv_iload hx hb dX9_takeBlocks_83 (lv_at hl 4 rfl) ?_
                  obtain ⟨r20, hg, hf⟩ := ob_inv hf
                  refine g_cSi hC hW (As := [.int v19, .int x14]) (rest := []) (c_X9_isMember l G  hg) (va_cwS 2 hts gX9_takeBlocks_X9_isMember rfl rfl rfl (by decide +kernel) ⟨Nat.le_of_ble_eq_true rfl, Nat.le_of_ble_eq_true rfl⟩) rfl hl.1 rfl (Nat.le_of_ble_eq_true rfl) dX9_takeBlocks_85 ⟨Nat.le_of_ble_eq_true rfl, Nat.le_of_ble_eq_true rfl⟩ (fun H locs hW => ?_)
                  obtain ⟨m22, hg, hf⟩ := ob_inv hf
                  have hJ130 : ∀ (H : Heap) (locs : List Loc) (ls : Array Slot), g_H ZC G s H locs m22 → lv_has ls 6 [(0, .ref (G.2.2.1 0)), (1, .ref (G.2.2.1 o1)), (2, .int x1), (3, .int z11), (4, .int x14)] → W p l e (headSpec wsX9_takeBlocks rmX9_takeBlocks).room s m ([.ref (G.2.2.1 0), .ref (G.2.2.1 o1)] : List Value).toArray below meth c H locs 0 0 Q (F0 m 130 ls []) := by
                    intro H locs ls hW hl
                    refine lv_iinc (v := (x14 + 1)) (lv' := [(4, .int (x14 + 1)), (0, .ref (G.2.2.1 0)), (1, .ref (G.2.2.1 o1)), (2, .int x1), (3, .int z11)]) hx hb dX9_takeBlocks_130 hl (k := 4) rfl (congrArg (fun z => x14 + z) (by decide)) (by decide) rfl (fun ls hl => ?_)
                    refine lv_goto (tgt := 68) hx hb dX9_takeBlocks_133 (by decide) ?_
                    exact ih _ _ _ _ _ _ _ hf hW (lv_sub hl [1, 2, 3, 4, 0] rfl) hE
                  replace hf := hg
                  refine lv_if_eq (tgt := 130) hx hb dX9_takeBlocks_88 (by decide) (fun c21 => ?_) (fun c21 => ?_)
                  · have hf := a_if_t c21 hf
                    cases hf
                    exact hJ130 H locs ls hW (lv_sub hl [0, 1, 2, 3, 4] rfl)
                  · have hf := a_if_f c21 hf
                    refine lv_aload_n hx hb dX9_takeBlocks_91 rfl (lv_at hl 0 rfl) ?_
                    refine g_getr hC hW (o := 0) (ci := 9) (k := 3) zc_k0 zc_b0 rfl hi9 (by decide) rfl (t := 13) zc_r0_3 (by decide +kernel) dX9_takeBlocks_92 ?_
                    refine g_getr hC hW (o := 13) (ci := 2) (k := 1) zc_k13 zc_b13 rfl hi2 (by decide) rfl (t := 15) zc_r13_1 (by decide +kernel) dX9_takeBlocks_95 ?_
                    refine lv_iload_n hx hb dX9_takeBlocks_98 rfl (lv_at hl 2 rfl) ?_
                    obtain ⟨v23, h9, hf⟩ := ob_inv hf
                    refine g_ild hC hW zc_k15 zc_b15 zc_n15 h9 dX9_takeBlocks_99 ?_
                    refine lv_iload hx hb dX9_takeBlocks_100 (lv_at hl 4 rfl) ?_
                    obtain ⟨r24, hg, hf⟩ := ob_inv hf
                    refine g_cSi hC hW (As := [.int v23, .int x14]) (rest := []) (c_X9_spotOf l G  hg) (va_cwS 2 hts gX9_takeBlocks_X9_spotOf rfl rfl rfl (by decide +kernel) ⟨Nat.le_of_ble_eq_true rfl, Nat.le_of_ble_eq_true rfl⟩) rfl hl.1 rfl (Nat.le_of_ble_eq_true rfl) dX9_takeBlocks_102 ⟨Nat.le_of_ble_eq_true rfl, Nat.le_of_ble_eq_true rfl⟩ (fun H locs hW => ?_)
                    refine lv_istore (lv' := [(5, .int r24), (0, .ref (G.2.2.1 0)), (1, .ref (G.2.2.1 o1)), (2, .int x1), (3, .int z11), (4, .int x14)]) hx hb dX9_takeBlocks_105 hl (by decide) rfl (fun ls hl => ?_)
                    refine lv_aload_n hx hb dX9_takeBlocks_107 rfl (lv_at hl 2 rfl) ?_
                    refine lv_aload_n hx hb dX9_takeBlocks_108 rfl (lv_at hl 1 rfl) ?_
                    refine g_getr hC hW (o := 0) (ci := 9) (k := 3) zc_k0 zc_b0 rfl hi9 (by decide) rfl (t := 13) zc_r0_3 (by decide +kernel) dX9_takeBlocks_109 ?_
                    refine g_getr hC hW (o := 13) (ci := 2) (k := 0) zc_k13 zc_b13 rfl hi2 (by decide) rfl (t := 14) zc_r13_0 (by decide +kernel) dX9_takeBlocks_112 ?_
                    refine lv_iload_n hx hb dX9_takeBlocks_115 rfl (lv_at hl 3 rfl) ?_
                    obtain ⟨v25, h9, hf⟩ := ob_inv hf
                    refine g_ild hC hW zc_k14 zc_b14 zc_n14 h9 dX9_takeBlocks_116 ?_
                    refine lv_iload hx hb dX9_takeBlocks_117 (lv_at hl 0 rfl) ?_
                    refine lv_iload_n hx hb dX9_takeBlocks_119 rfl (lv_at hl 4 rfl) ?_
                    refine lv_aload_n hx hb dX9_takeBlocks_120 rfl (lv_at hl 2 rfl) ?_
                    refine g_getr hC hW (o := o1) (ci := 5) (k := 0) ho1 (zc_lt ho1) rfl hi5 (by decide) rfl (t := (o1 + 1)) (zc_o5_0 ho1).1 (by decide +kernel) dX9_takeBlocks_121 ?_
                    refine lv_iload hx hb dX9_takeBlocks_124 (lv_at hl 0 rfl) ?_
                    obtain ⟨v26, h9, hf⟩ := ob_inv hf
                    refine g_ild hC hW (zc_o5_0 ho1).2.1 (zc_o5_0 ho1).2.2.1 (zc_o5_0 ho1).2.2.2 h9 dX9_takeBlocks_126 ?_
                    obtain ⟨m27, hg, hf⟩ := ob_inv hf
                    refine g_cVv hC hW (o := o1) (ci := 5) (As := [.int v25, .int r24, .int z11, .int v26]) (rest := []) ho1 (zc_lt ho1) rfl (c_X5_book l G ho1 hg) (cwV 4 hts gX9_takeBlocks_X5_book rfl rfl rfl (by decide +kernel) ⟨Nat.le_of_ble_eq_true rfl, Nat.le_of_ble_eq_true rfl⟩) rfl hl.1 rfl (Nat.le_of_ble_eq_true rfl) dX9_takeBlocks_127 ⟨Nat.le_of_ble_eq_true rfl, Nat.le_of_ble_eq_true rfl⟩ (fun H locs hW => ?_)
                    cases hf
                    exact hJ130 H locs ls hW (lv_sub hl [1, 2, 3, 4, 5] rfl)
            obtain ⟨⟨y16, m17⟩, hg, hf⟩ := ob_inv hf
            have hf := ob_inv2 hf
            refine hL68 _ _ _ _ _ _ _ _ hg hW (lv_sub hl [2, 3, 4, 1, 0] rfl) (fun H locs ls hW hl => ?_)
            cases hf
            exact hJ136 H locs ls hW (lv_sub hl [0, 1, 2] rfl)
          replace hf := hg
          refine lv_if_eq (tgt := 55) hx hb dX9_takeBlocks_39 (by decide) (fun c10 => ?_) (fun c10 => ?_)
          · have hf := a_if_t c10 hf
            refine lv_aload_n hx hb dX9_takeBlocks_55 rfl (lv_at hl 0 rfl) ?_
            refine g_getr hC hW (o := 0) (ci := 9) (k := 3) zc_k0 zc_b0 rfl hi9 (by decide) rfl (t := 13) zc_r0_3 (by decide +kernel) dX9_takeBlocks_56 ?_
            refine g_getr hC hW (o := 13) (ci := 2) (k := 5) zc_k13 zc_b13 rfl hi2 (by decide) rfl (t := 19) zc_r13_5 (by decide +kernel) dX9_takeBlocks_59 ?_
            refine lv_iload_n hx hb dX9_takeBlocks_62 rfl (lv_at hl 2 rfl) ?_
            obtain ⟨v12, h9, hf⟩ := ob_inv hf
            refine g_ild hC hW zc_k19 zc_b19 zc_n19 h9 dX9_takeBlocks_63 ?_
            cases hf
            exact hJ64 H locs ls hW (lv_sub hl [0, 1, 2] rfl)
          · have hf := a_if_f c10 hf
            refine lv_aload_n hx hb dX9_takeBlocks_42 rfl (lv_at hl 0 rfl) ?_
            refine g_getr hC hW (o := 0) (ci := 9) (k := 3) zc_k0 zc_b0 rfl hi9 (by decide) rfl (t := 13) zc_r0_3 (by decide +kernel) dX9_takeBlocks_43 ?_
            refine g_getr hC hW (o := 13) (ci := 2) (k := 5) zc_k13 zc_b13 rfl hi2 (by decide) rfl (t := 19) zc_r13_5 (by decide +kernel) dX9_takeBlocks_46 ?_
            refine lv_iload_n hx hb dX9_takeBlocks_49 rfl (lv_at hl 2 rfl) ?_
            obtain ⟨v13, h9, hf⟩ := ob_inv hf
            refine g_ild hC hW zc_k19 zc_b19 zc_n19 h9 dX9_takeBlocks_50 ?_
            refine lv_ineg hx hb dX9_takeBlocks_51 ?_
            refine lv_goto (tgt := 64) hx hb dX9_takeBlocks_52 (by decide) ?_
            cases hf
            exact hJ64 H locs ls hW (lv_sub hl [0, 1, 2] rfl)
        · have hf := a_if_t c7 hf
          refine lv_goto (tgt := 136) hx hb dX9_takeBlocks_27 (by decide) ?_
          cases hf
          exact hJ136 H locs ls hW (lv_sub hl [0, 1, 2] rfl)
  obtain ⟨⟨y3, m4⟩, hg, hf⟩ := ob_inv hf
  have hf := ob_inv2 hf
  refine hL2 _ _ _ _ _ _ _ _ hg hW (lv_sub hl [1, 2, 0] rfl) (fun H locs ls hW hl => ?_)
  cases hf
  subst hQ
  exact g_vret hC hW hr hlocks rfl dX9_takeBlocks_142
abbrev rmX9_giveRights : Room := { frames := 3, cells := 0, slots := 0, locals := 75 }
set_option maxHeartbeats 4000000 in
set_option maxRecDepth 100000 in
theorem c_X9_giveRights (l : Launch) (G : gG) {o1 : Nat} {me : gM} {m0 : gM}  (ho1 : ZC.2.1 o1 = 6) (hf : f_X9_giveRights o1 me = some m0) : Met l yX9_giveRights wsX9_giveRights rmX9_giveRights (va_Pc [.ref (G.2.2.1 0), .ref (G.2.2.1 o1)] (g_W ZC G me)) (g_Qv ZC G m0) 0 0 (g_A ZC G) := by
  refine Met.ofW (cc := cX9_giveRights) (maxL := 4) (ret := none) (by decide) rfl ?_
  intro p e s m args below meth c s₁ B hml hv
  obtain ⟨rfl, hW0⟩ := hv
  have hC : CallFix p m c cX9_giveRights 4 s ([.ref (G.2.2.1 0), .ref (G.2.2.1 o1)] : List Value).toArray wsX9_giveRights RX9 := ⟨B.exec, B.bytes, hml, findClass_of_methodNamed B.named, atoms_spec (ws := wsX9_giveRights) B.pre⟩
  have hx := hC.1
  have hb := hC.2.1
  have hown := hC.2.2.2.1
  have hts := hC.2.2.2.2
  have hr := B.returns
  have hlocks := B.notSynchronized
  have hW := g_H_enter hW0
  have hi6 : ∀ w ∈ wsX60, w ∈ wsX9_giveRights := by decide +kernel
  have hi9 : ∀ w ∈ wsX90, w ∈ wsX9_giveRights := by decide +kernel
  have hl := lv_entry ([.ref (G.2.2.1 0), .ref (G.2.2.1 o1)]) (n := 4) (Nat.le_of_ble_eq_true rfl)
  rw [lg_entry_eq]
  generalize (lg_sl ([.ref (G.2.2.1 0), .ref (G.2.2.1 o1)]) ++ List.replicate (4 - (lg_sl ([.ref (G.2.2.1 0), .ref (G.2.2.1 o1)])).length) Slot.unset).toArray = ls at hl ⊢
  have hl : lv_has ls 4 [(0, .ref (G.2.2.1 0)), (1, .ref (G.2.2.1 o1))] := hl
  obtain ⟨Q, hQ⟩ : ∃ Q, Q = MQ below (g_Qv ZC G m0) ([.ref (G.2.2.1 0), .ref (G.2.2.1 o1)] : List Value).toArray s 0 0 (g_A ZC G) := ⟨_, rfl⟩
  refine g_goQ hQ ?_
  unfold f_X9_giveRights at hf
  refine g_start hW (fun H locs hW => ?_)
  refine lv_iconst (v := 0) hx hb dX9_giveRights_0 (by decide) ?_
  refine lv_istore_n (lv' := [(2, .int 0), (0, .ref (G.2.2.1 0)), (1, .ref (G.2.2.1 o1))]) hx hb dX9_giveRights_1 rfl hl (by decide) rfl (fun ls hl => ?_)
  have hL2 : ∀ (n : Nat) (x1 : Int32) (m2 : gM) (y3 : Int32) (m4 : gM) (H : Heap) (locs : List Loc) (ls : Array Slot), f_X9_giveRights_L2 o1 n x1 m2 = some (y3, m4) → g_H ZC G s H locs m2 → lv_has ls 4 [(0, .ref (G.2.2.1 0)), (1, .ref (G.2.2.1 o1)), (2, .int x1)] → (∀ (H : Heap) (locs : List Loc) (ls : Array Slot), g_H ZC G s H locs m4 → lv_has ls 4 [] → W p l e (headSpec wsX9_giveRights rmX9_giveRights).room s m ([.ref (G.2.2.1 0), .ref (G.2.2.1 o1)] : List Value).toArray below meth c H locs 0 0 Q (F0 m 54 ls [])) → W p l e (headSpec wsX9_giveRights rmX9_giveRights).room s m ([.ref (G.2.2.1 0), .ref (G.2.2.1 o1)] : List Value).toArray below meth c H locs 0 0 Q (F0 m 2 ls []) := by
    intro n
    induction n with
    | zero =>
      intro x1 m2 y3 m4 H locs ls hf hW hl hE
      cases hf
    | succ n ih =>
      intro x1 m2 y3 m4 H locs ls hf hW hl hE
      rw [f_X9_giveRights_L2] at hf
      refine lv_iload_n hx hb dX9_giveRights_2 rfl (lv_at hl 2 rfl) ?_
      refine lv_iconst (v := 3) hx hb dX9_giveRights_3 (by decide) ?_
      refine lv_icmp_ge (tgt := 54) hx hb dX9_giveRights_4 (by decide) (fun c5 => ?_) (fun c5 => ?_)
      · have hf := a_if_t c5 hf
        cases hf
        exact hE H locs ls hW (lv_sub hl [] rfl)
      · have hf := a_if_f c5 hf
        refine lv_iconst (v := 0) hx hb dX9_giveRights_7 (by decide) ?_
        refine lv_istore_n (lv' := [(3, .int 0), (0, .ref (G.2.2.1 0)), (1, .ref (G.2.2.1 o1)), (2, .int x1)]) hx hb dX9_giveRights_8 rfl hl (by decide) rfl (fun ls hl => ?_)
        have hL9 : ∀ (n : Nat) (x6 : Int32) (m7 : gM) (y8 : Int32) (m9 : gM) (H : Heap) (locs : List Loc) (ls : Array Slot), f_X9_giveRights_L9 o1 x1 n x6 m7 = some (y8, m9) → g_H ZC G s H locs m7 → lv_has ls 4 [(0, .ref (G.2.2.1 0)), (1, .ref (G.2.2.1 o1)), (2, .int x1), (3, .int x6)] → (∀ (H : Heap) (locs : List Loc) (ls : Array Slot), g_H ZC G s H locs m9 → lv_has ls 4 [(0, .ref (G.2.2.1 0)), (1, .ref (G.2.2.1 o1)), (2, .int x1)] → W p l e (headSpec wsX9_giveRights rmX9_giveRights).room s m ([.ref (G.2.2.1 0), .ref (G.2.2.1 o1)] : List Value).toArray below meth c H locs 0 0 Q (F0 m 48 ls [])) → W p l e (headSpec wsX9_giveRights rmX9_giveRights).room s m ([.ref (G.2.2.1 0), .ref (G.2.2.1 o1)] : List Value).toArray below meth c H locs 0 0 Q (F0 m 9 ls []) := by
          intro n
          induction n with
          | zero =>
            intro x6 m7 y8 m9 H locs ls hf hW hl hE
            cases hf
          | succ n ih =>
            intro x6 m7 y8 m9 H locs ls hf hW hl hE
            rw [f_X9_giveRights_L9] at hf
            refine lv_iload_n hx hb dX9_giveRights_9 rfl (lv_at hl 3 rfl) ?_
            refine lv_iconst (v := 3) hx hb dX9_giveRights_10 (by decide) ?_
            refine lv_icmp_ge (tgt := 48) hx hb dX9_giveRights_11 (by decide) (fun c10 => ?_) (fun c10 => ?_)
            · have hf := a_if_t c10 hf
              cases hf
              exact hE H locs ls hW (lv_sub hl [0, 1, 2] rfl)
            · have hf := a_if_f c10 hf
              refine lv_iload_n hx hb dX9_giveRights_14 rfl (lv_at hl 2 rfl) ?_
              refine lv_iload_n hx hb dX9_giveRights_15 rfl (lv_at hl 3 rfl) ?_
              obtain ⟨m12, hg, hf⟩ := ob_inv hf
              have hJ42 : ∀ (H : Heap) (locs : List Loc) (ls : Array Slot), g_H ZC G s H locs m12 → lv_has ls 4 [(0, .ref (G.2.2.1 0)), (1, .ref (G.2.2.1 o1)), (2, .int x1), (3, .int x6)] → W p l e (headSpec wsX9_giveRights rmX9_giveRights).room s m ([.ref (G.2.2.1 0), .ref (G.2.2.1 o1)] : List Value).toArray below meth c H locs 0 0 Q (F0 m 42 ls []) := by
                intro H locs ls hW hl
                refine lv_iinc (v := (x6 + 1)) (lv' := [(3, .int (x6 + 1)), (0, .ref (G.2.2.1 0)), (1, .ref (G.2.2.1 o1)), (2, .int x1)]) hx hb dX9_giveRights_42 hl (k := 3) rfl (congrArg (fun z => x6 + z) (by decide)) (by decide) rfl (fun ls hl => ?_)
                refine lv_goto (tgt := 9) hx hb dX9_giveRights_45 (by decide) ?_
                exact ih _ _ _ _ _ _ _ hf hW (lv_sub hl [1, 2, 3, 0] rfl) hE
              replace hf := hg
              refine lv_icmp_eq (tgt := 42) hx hb dX9_giveRights_16 (by decide) (fun c11 => ?_) (fun c11 => ?_)
              · have hf := a_if_t c11 hf
                cases hf
                exact hJ42 H locs ls hW (lv_sub hl [0, 1, 2, 3] rfl)
              · have hf := a_if_f c11 hf
                refine lv_aload_n hx hb dX9_giveRights_19 rfl (lv_at hl 0 rfl) ?_
                refine g_getr hC hW (o := 0) (ci := 9) (k := 4) zc_k0 zc_b0 rfl hi9 (by decide) rfl (t := 44) zc_r0_4 (by decide +kernel) dX9_giveRights_20 ?_
                refine lv_iload_n hx hb dX9_giveRights_23 rfl (lv_at hl 2 rfl) ?_
                refine lv_iload_n hx hb dX9_giveRights_24 rfl (lv_at hl 3 rfl) ?_
                refine lv_aload_n hx hb dX9_giveRights_25 rfl (lv_at hl 0 rfl) ?_
                refine g_getr hC hW (o := 0) (ci := 9) (k := 1) zc_k0 zc_b0 rfl hi9 (by decide) rfl (t := 2) zc_r0_1 (by decide +kernel) dX9_giveRights_26 ?_
                refine g_getr hC hW (o := 2) (ci := 6) (k := 0) zc_k2 zc_b2 rfl hi6 (by decide) rfl (t := 3) zc_r2_0 (by decide +kernel) dX9_giveRights_29 ?_
                refine lv_iload_n hx hb dX9_giveRights_32 rfl (lv_at hl 2 rfl) ?_
                refine lv_iload_n hx hb dX9_giveRights_33 rfl (lv_at hl 3 rfl) ?_
                obtain ⟨r13, hg, hf⟩ := ob_inv hf
                refine g_cSi hC hW (As := [.int x1, .int x6]) (rest := [.ref (G.2.2.1 3), .int x6, .int x1, .ref (G.2.2.1 44)]) (c_X9_lineBetween l G  hg) (va_cwS 2 hts gX9_giveRights_X9_lineBetween rfl rfl rfl (by decide +kernel) ⟨Nat.le_of_ble_eq_true rfl, Nat.le_of_ble_eq_true rfl⟩) rfl hl.1 rfl (Nat.le_of_ble_eq_true rfl) dX9_giveRights_34 ⟨Nat.le_of_ble_eq_true rfl, Nat.le_of_ble_eq_true rfl⟩ (fun H locs hW => ?_)
                obtain ⟨v14, h9, hf⟩ := ob_inv hf
                refine g_ild hC hW zc_k3 zc_b3 zc_n3 h9 dX9_giveRights_37 ?_
                refine lv_aload_n hx hb dX9_giveRights_38 rfl (lv_at hl 1 rfl) ?_
                obtain ⟨m15, hg, hf⟩ := ob_inv hf
                refine g_cVv hC hW (o := 44) (ci := 1) (As := [.int x1, .int x6, .int v14, .ref (G.2.2.1 o1)]) (rest := []) zc_k44 zc_b44 rfl (c_X1_giveOut l G ho1 hg) (cwV 4 hts gX9_giveRights_X1_giveOut rfl rfl rfl (by decide +kernel) ⟨Nat.le_of_ble_eq_true rfl, Nat.le_of_ble_eq_true rfl⟩) rfl hl.1 rfl (Nat.le_of_ble_eq_true rfl) dX9_giveRights_39 ⟨Nat.le_of_ble_eq_true rfl, Nat.le_of_ble_eq_true rfl⟩ (fun H locs hW => ?_)
                cases hf
                exact hJ42 H locs ls hW (lv_sub hl [0, 1, 2, 3] rfl)
        obtain ⟨⟨y8, m9⟩, hg, hf⟩ := ob_inv hf
        have hf := ob_inv2 hf
        refine hL9 _ _ _ _ _ _ _ _ hg hW (lv_sub hl [1, 2, 3, 0] rfl) (fun H locs ls hW hl => ?_)
        refine lv_iinc (v := (x1 + 1)) (lv' := [(2, .int (x1 + 1)), (0, .ref (G.2.2.1 0)), (1, .ref (G.2.2.1 o1))]) hx hb dX9_giveRights_48 hl (k := 2) rfl (congrArg (fun z => x1 + z) (by decide)) (by decide) rfl (fun ls hl => ?_)
        refine lv_goto (tgt := 2) hx hb dX9_giveRights_51 (by decide) ?_
        exact ih _ _ _ _ _ _ _ hf hW (lv_sub hl [1, 2, 0] rfl) hE
  obtain ⟨⟨y3, m4⟩, hg, hf⟩ := ob_inv hf
  have hf := ob_inv2 hf
  refine hL2 _ _ _ _ _ _ _ _ hg hW (lv_sub hl [1, 2, 0] rfl) (fun H locs ls hW hl => ?_)
  cases hf
  subst hQ
  exact g_vret hC hW hr hlocks rfl dX9_giveRights_54
abbrev rmX9_worthTaken : Room := { frames := 2, cells := 0, slots := 0, locals := 45 }
set_option maxHeartbeats 4000000 in
set_option maxRecDepth 100000 in
theorem c_X9_worthTaken (l : Launch) (G : gG)  {me : gM} {r0 : Int32}  (hf : f_X9_worthTaken me = some r0) : Met l yX9_worthTaken wsX9_worthTaken rmX9_worthTaken (va_Pc [.ref (G.2.2.1 0)] (g_W ZC G me)) (g_Qi ZC G r0 me) 0 0 (g_A ZC G) := by
  refine Met.ofW (cc := cX9_worthTaken) (maxL := 4) (ret := (some .int)) (by decide) rfl ?_
  intro p e s m args below meth c s₁ B hml hv
  obtain ⟨rfl, hW0⟩ := hv
  have hC : CallFix p m c cX9_worthTaken 4 s ([.ref (G.2.2.1 0)] : List Value).toArray wsX9_worthTaken RX9 := ⟨B.exec, B.bytes, hml, findClass_of_methodNamed B.named, atoms_spec (ws := wsX9_worthTaken) B.pre⟩
  have hx := hC.1
  have hb := hC.2.1
  have hown := hC.2.2.2.1
  have hts := hC.2.2.2.2
  have hr := B.returns
  have hlocks := B.notSynchronized
  have hW := g_H_enter hW0
  have hi2 : ∀ w ∈ wsX20, w ∈ wsX9_worthTaken := by decide +kernel
  have hi8 : ∀ w ∈ wsX80, w ∈ wsX9_worthTaken := by decide +kernel
  have hi9 : ∀ w ∈ wsX90, w ∈ wsX9_worthTaken := by decide +kernel
  have hl := lv_entry ([.ref (G.2.2.1 0)]) (n := 4) (Nat.le_of_ble_eq_true rfl)
  rw [lg_entry_eq]
  generalize (lg_sl ([.ref (G.2.2.1 0)]) ++ List.replicate (4 - (lg_sl ([.ref (G.2.2.1 0)])).length) Slot.unset).toArray = ls at hl ⊢
  have hl : lv_has ls 4 [(0, .ref (G.2.2.1 0))] := hl
  obtain ⟨Q, hQ⟩ : ∃ Q, Q = MQ below (g_Qi ZC G r0 me) ([.ref (G.2.2.1 0)] : List Value).toArray s 0 0 (g_A ZC G) := ⟨_, rfl⟩
  refine g_goQ hQ ?_
  unfold f_X9_worthTaken at hf
  refine g_start hW (fun H locs hW => ?_)
  refine lv_aload_n hx hb dX9_worthTaken_0 rfl (lv_at hl 0 rfl) ?_
  refine g_getr hC hW (o := 0) (ci := 9) (k := 3) zc_k0 zc_b0 rfl hi9 (by decide) rfl (t := 13) zc_r0_3 (by decide +kernel) dX9_worthTaken_1 ?_
  refine lv_aload_n hx hb dX9_worthTaken_4 rfl (lv_at hl 0 rfl) ?_
  refine g_getr hC hW (o := 0) (ci := 9) (k := 3) zc_k0 zc_b0 rfl hi9 (by decide) rfl (t := 13) zc_r0_3 (by decide +kernel) dX9_worthTaken_5 ?_
  refine g_geti hC hW (o := 13) (ci := 2) (k := 9) zc_k13 zc_b13 rfl hi2 (by decide) rfl (by decide +kernel) dX9_worthTaken_8 ?_
  obtain ⟨r1, hg, hf⟩ := ob_inv hf
  refine g_cVi hC hW (o := 13) (ci := 2) (As := [.int (me 13 9)]) (rest := []) zc_k13 zc_b13 rfl (c_X2_worthOf l G  hg) (cwV 1 hts gX9_worthTaken_X2_worthOf rfl rfl rfl (by decide +kernel) ⟨Nat.le_of_ble_eq_true rfl, Nat.le_of_ble_eq_true rfl⟩) rfl hl.1 rfl (Nat.le_of_ble_eq_true rfl) dX9_worthTaken_11 ⟨Nat.le_of_ble_eq_true rfl, Nat.le_of_ble_eq_true rfl⟩ (fun H locs hW => ?_)
  refine lv_istore_n (lv' := [(1, .int r1), (0, .ref (G.2.2.1 0))]) hx hb dX9_worthTaken_14 rfl hl (by decide) rfl (fun ls hl => ?_)
  refine lv_iconst (v := 0) hx hb dX9_worthTaken_15 (by decide) ?_
  refine lv_istore_n (lv' := [(2, .int 0), (1, .int r1), (0, .ref (G.2.2.1 0))]) hx hb dX9_worthTaken_16 rfl hl (by decide) rfl (fun ls hl => ?_)
  have hL17 : ∀ (n : Nat) (x2 : Int32) (x3 : Int32) (y4 : Int32) (y5 : Int32) (H : Heap) (locs : List Loc) (ls : Array Slot), f_X9_worthTaken_L17 me n x2 x3 = some (y4, y5) → g_H ZC G s H locs me → lv_has ls 4 [(0, .ref (G.2.2.1 0)), (1, .int x2), (2, .int x3)] → (∀ (H : Heap) (locs : List Loc) (ls : Array Slot), g_H ZC G s H locs me → lv_has ls 4 [(1, .int y4)] → W p l e (headSpec wsX9_worthTaken rmX9_worthTaken).room s m ([.ref (G.2.2.1 0)] : List Value).toArray below meth c H locs 0 0 Q (F0 m 82 ls [])) → W p l e (headSpec wsX9_worthTaken rmX9_worthTaken).room s m ([.ref (G.2.2.1 0)] : List Value).toArray below meth c H locs 0 0 Q (F0 m 17 ls []) := by
    intro n
    induction n with
    | zero =>
      intro x2 x3 y4 y5 H locs ls hf hW hl hE
      cases hf
    | succ n ih =>
      intro x2 x3 y4 y5 H locs ls hf hW hl hE
      rw [f_X9_worthTaken_L17] at hf
      refine lv_iload_n hx hb dX9_worthTaken_17 rfl (lv_at hl 2 rfl) ?_
      refine lv_aload_n hx hb dX9_worthTaken_18 rfl (lv_at hl 0 rfl) ?_
      refine g_getr hC hW (o := 0) (ci := 9) (k := 2) zc_k0 zc_b0 rfl hi9 (by decide) rfl (t := 4) zc_r0_2 (by decide +kernel) dX9_worthTaken_19 ?_
      refine g_geti hC hW (o := 4) (ci := 8) (k := 8) zc_k4 zc_b4 rfl hi8 (by decide) rfl (by decide +kernel) dX9_worthTaken_22 ?_
      refine lv_icmp_ge (tgt := 82) hx hb dX9_worthTaken_25 (by decide) (fun c6 => ?_) (fun c6 => ?_)
      · have hf := a_if_t c6 hf
        cases hf
        exact hE H locs ls hW (lv_sub hl [1] rfl)
      · have hf := a_if_f c6 hf
        refine lv_aload_n hx hb dX9_worthTaken_28 rfl (lv_at hl 0 rfl) ?_
        refine g_getr hC hW (o := 0) (ci := 9) (k := 2) zc_k0 zc_b0 rfl hi9 (by decide) rfl (t := 4) zc_r0_2 (by decide +kernel) dX9_worthTaken_29 ?_
        refine g_getr hC hW (o := 4) (ci := 8) (k := 3) zc_k4 zc_b4 rfl hi8 (by decide) rfl (t := 8) zc_r4_3 (by decide +kernel) dX9_worthTaken_32 ?_
        refine lv_iload_n hx hb dX9_worthTaken_35 rfl (lv_at hl 2 rfl) ?_
        obtain ⟨v7, h9, hf⟩ := ob_inv hf
        refine g_zld hC hW zc_k8 zc_b8 zc_n8 h9 dX9_worthTaken_36 ?_
        obtain ⟨z9, hg, hf⟩ := ob_inv hf
        have hJ62 : ∀ (H : Heap) (locs : List Loc) (ls : Array Slot), g_H ZC G s H locs me → lv_has ls 4 [(0, .ref (G.2.2.1 0)), (1, .int x2), (2, .int x3)] → W p l e (headSpec wsX9_worthTaken rmX9_worthTaken).room s m ([.ref (G.2.2.1 0)] : List Value).toArray below meth c H locs 0 0 Q (F0 m 62 ls [.int z9]) := by
          intro H locs ls hW hl
          refine lv_istore_n (lv' := [(3, .int z9), (0, .ref (G.2.2.1 0)), (1, .int x2), (2, .int x3)]) hx hb dX9_worthTaken_62 rfl hl (by decide) rfl (fun ls hl => ?_)
          refine lv_iload_n hx hb dX9_worthTaken_63 rfl (lv_at hl 2 rfl) ?_
          refine lv_iload_n hx hb dX9_worthTaken_64 rfl (lv_at hl 0 rfl) ?_
          refine lv_aload_n hx hb dX9_worthTaken_65 rfl (lv_at hl 1 rfl) ?_
          refine g_getr hC hW (o := 0) (ci := 9) (k := 2) zc_k0 zc_b0 rfl hi9 (by decide) rfl (t := 4) zc_r0_2 (by decide +kernel) dX9_worthTaken_66 ?_
          refine lv_iload_n hx hb dX9_worthTaken_69 rfl (lv_at hl 3 rfl) ?_
          obtain ⟨r12, hg, hf⟩ := ob_inv hf
          refine g_cVi hC hW (o := 4) (ci := 8) (As := [.int x3]) (rest := [.int z9, .int x2]) zc_k4 zc_b4 rfl (c_X8_used l G zc_k4 hg) (cwV 1 hts gX9_worthTaken_X8_used rfl rfl rfl (by decide +kernel) ⟨Nat.le_of_ble_eq_true rfl, Nat.le_of_ble_eq_true rfl⟩) rfl hl.1 rfl (Nat.le_of_ble_eq_true rfl) dX9_worthTaken_70 ⟨Nat.le_of_ble_eq_true rfl, Nat.le_of_ble_eq_true rfl⟩ (fun H locs hW => ?_)
          refine lv_imul hx hb dX9_worthTaken_73 ?_
          refine lv_iadd hx hb dX9_worthTaken_74 ?_
          obtain ⟨x13, h9, hf⟩ := ob_inv hf
          refine g_nmi (Option.some.inj h9) ?_
          refine lv_istore_n (lv' := [(1, .int x13), (3, .int z9), (0, .ref (G.2.2.1 0)), (2, .int x3)]) hx hb dX9_worthTaken_75 rfl hl (by decide) rfl (fun ls hl => ?_)
          refine lv_iinc (v := (x3 + 1)) (lv' := [(2, .int (x3 + 1)), (1, .int x13), (3, .int z9), (0, .ref (G.2.2.1 0))]) hx hb dX9_worthTaken_76 hl (k := 3) rfl (congrArg (fun z => x3 + z) (by decide)) (by decide) rfl (fun ls hl => ?_)
          refine lv_goto (tgt := 17) hx hb dX9_worthTaken_79 (by decide) ?_
          exact ih _ _ _ _ _ _ _ hf hW (lv_sub hl [3, 1, 0] rfl) hE
        replace hf := hg
        refine lv_if_eq (tgt := 52) hx hb dX9_worthTaken_37 (by decide) (fun c8 => ?_) (fun c8 => ?_)
        · have hf := a_if_t c8 hf
          refine lv_aload_n hx hb dX9_worthTaken_52 rfl (lv_at hl 0 rfl) ?_
          refine g_getr hC hW (o := 0) (ci := 9) (k := 2) zc_k0 zc_b0 rfl hi9 (by decide) rfl (t := 4) zc_r0_2 (by decide +kernel) dX9_worthTaken_53 ?_
          refine g_getr hC hW (o := 4) (ci := 8) (k := 4) zc_k4 zc_b4 rfl hi8 (by decide) rfl (t := 9) zc_r4_4 (by decide +kernel) dX9_worthTaken_56 ?_
          refine lv_iload_n hx hb dX9_worthTaken_59 rfl (lv_at hl 2 rfl) ?_
          obtain ⟨v10, h9, hf⟩ := ob_inv hf
          refine g_ild hC hW zc_k9 zc_b9 zc_n9 h9 dX9_worthTaken_60 ?_
          refine lv_ineg hx hb dX9_worthTaken_61 ?_
          cases hf
          exact hJ62 H locs ls hW (lv_sub hl [0, 1, 2] rfl)
        · have hf := a_if_f c8 hf
          refine lv_aload_n hx hb dX9_worthTaken_40 rfl (lv_at hl 0 rfl) ?_
          refine g_getr hC hW (o := 0) (ci := 9) (k := 2) zc_k0 zc_b0 rfl hi9 (by decide) rfl (t := 4) zc_r0_2 (by decide +kernel) dX9_worthTaken_41 ?_
          refine g_getr hC hW (o := 4) (ci := 8) (k := 4) zc_k4 zc_b4 rfl hi8 (by decide) rfl (t := 9) zc_r4_4 (by decide +kernel) dX9_worthTaken_44 ?_
          refine lv_iload_n hx hb dX9_worthTaken_47 rfl (lv_at hl 2 rfl) ?_
          obtain ⟨v11, h9, hf⟩ := ob_inv hf
          refine g_ild hC hW zc_k9 zc_b9 zc_n9 h9 dX9_worthTaken_48 ?_
          refine lv_goto (tgt := 62) hx hb dX9_worthTaken_49 (by decide) ?_
          cases hf
          exact hJ62 H locs ls hW (lv_sub hl [0, 1, 2] rfl)
  obtain ⟨⟨y4, y5⟩, hg, hf⟩ := ob_inv hf
  have hf := ob_inv2 hf
  refine hL17 _ _ _ _ _ _ _ _ hg hW (lv_sub hl [2, 1, 0] rfl) (fun H locs ls hW hl => ?_)
  refine lv_iload_n hx hb dX9_worthTaken_82 rfl (lv_at hl 0 rfl) ?_
  cases hf
  subst hQ
  exact g_iret hC hW hr hlocks rfl rfl dX9_worthTaken_83
abbrev rmX9_moveUnit : Room := { frames := 2, cells := 0, slots := 0, locals := 44 }
set_option maxHeartbeats 4000000 in
set_option maxRecDepth 100000 in
theorem c_X9_moveUnit (l : Launch) (G : gG) {n1 : Nat} {a1 : Nat} {p2 : Int32} {p3 : Int32} {p4 : Int32} {me : gM} {r0 : Int32} {m0 : gM}  (ha1 : ZC.2.1 a1 = 20) (hn1 : ZC.2.2.1 a1 = n1) (hf : f_X9_moveUnit n1 a1 p2 p3 p4 me = some (r0, m0)) : Met l yX9_moveUnit wsX9_moveUnit rmX9_moveUnit (va_Pc [.ref (G.2.2.1 0), .ref (G.2.2.1 a1), .int p2, .int p3, .int p4] (g_W ZC G me)) (g_Qi ZC G r0 m0) 0 0 (g_A ZC G) := by
  refine Met.ofW (cc := cX9_moveUnit) (maxL := 5) (ret := (some .boolean)) (by decide) rfl ?_
  intro p e s m args below meth c s₁ B hml hv
  obtain ⟨rfl, hW0⟩ := hv
  have hC : CallFix p m c cX9_moveUnit 5 s ([.ref (G.2.2.1 0), .ref (G.2.2.1 a1), .int p2, .int p3, .int p4] : List Value).toArray wsX9_moveUnit RX9 := ⟨B.exec, B.bytes, hml, findClass_of_methodNamed B.named, atoms_spec (ws := wsX9_moveUnit) B.pre⟩
  have hx := hC.1
  have hb := hC.2.1
  have hown := hC.2.2.2.1
  have hts := hC.2.2.2.2
  have hr := B.returns
  have hlocks := B.notSynchronized
  have hW := g_H_enter hW0
  have hi9 : ∀ w ∈ wsX90, w ∈ wsX9_moveUnit := by decide +kernel
  have hl := lv_entry ([.ref (G.2.2.1 0), .ref (G.2.2.1 a1), .int p2, .int p3, .int p4]) (n := 5) (Nat.le_of_ble_eq_true rfl)
  rw [lg_entry_eq]
  generalize (lg_sl ([.ref (G.2.2.1 0), .ref (G.2.2.1 a1), .int p2, .int p3, .int p4]) ++ List.replicate (5 - (lg_sl ([.ref (G.2.2.1 0), .ref (G.2.2.1 a1), .int p2, .int p3, .int p4])).length) Slot.unset).toArray = ls at hl ⊢
  have hl : lv_has ls 5 [(0, .ref (G.2.2.1 0)), (1, .ref (G.2.2.1 a1)), (2, .int p2), (3, .int p3), (4, .int p4)] := hl
  obtain ⟨Q, hQ⟩ : ∃ Q, Q = MQ below (g_Qi ZC G r0 m0) ([.ref (G.2.2.1 0), .ref (G.2.2.1 a1), .int p2, .int p3, .int p4] : List Value).toArray s 0 0 (g_A ZC G) := ⟨_, rfl⟩
  refine g_goQ hQ ?_
  unfold f_X9_moveUnit at hf
  refine g_start hW (fun H locs hW => ?_)
  refine lv_aload_n hx hb dX9_moveUnit_0 rfl (lv_at hl 1 rfl) ?_
  refine lv_iload_n hx hb dX9_moveUnit_1 rfl (lv_at hl 2 rfl) ?_
  refine lv_dup2_11 hx hb dX9_moveUnit_2 rfl rfl ?_
  obtain ⟨v1, h9, hf⟩ := ob_inv hf
  refine g_ild hC hW ha1 (zc_lt ha1) hn1 h9 dX9_moveUnit_3 ?_
  refine lv_iconst (v := 1) hx hb dX9_moveUnit_4 (by decide) ?_
  refine lv_iadd hx hb dX9_moveUnit_5 ?_
  obtain ⟨m2, h9, hf⟩ := ob_inv hf
  refine g_ist hC hW ha1 (zc_lt ha1) hn1 h9 dX9_moveUnit_6 (fun H locs hW => ?_)
  refine lv_aload_n hx hb dX9_moveUnit_7 rfl (lv_at hl 1 rfl) ?_
  refine lv_iload_n hx hb dX9_moveUnit_8 rfl (lv_at hl 3 rfl) ?_
  refine lv_dup2_11 hx hb dX9_moveUnit_9 rfl rfl ?_
  obtain ⟨v3, h9, hf⟩ := ob_inv hf
  refine g_ild hC hW ha1 (zc_lt ha1) hn1 h9 dX9_moveUnit_10 ?_
  refine lv_iconst (v := 1) hx hb dX9_moveUnit_11 (by decide) ?_
  refine lv_isub hx hb dX9_moveUnit_12 ?_
  obtain ⟨m4, h9, hf⟩ := ob_inv hf
  refine g_ist hC hW ha1 (zc_lt ha1) hn1 h9 dX9_moveUnit_13 (fun H locs hW => ?_)
  refine lv_aload_n hx hb dX9_moveUnit_14 rfl (lv_at hl 0 rfl) ?_
  refine g_getr hC hW (o := 0) (ci := 9) (k := 1) zc_k0 zc_b0 rfl hi9 (by decide) rfl (t := 2) zc_r0_1 (by decide +kernel) dX9_moveUnit_15 ?_
  refine lv_aload_n hx hb dX9_moveUnit_18 rfl (lv_at hl 1 rfl) ?_
  refine lv_iconst (v := 0) hx hb dX9_moveUnit_19 (by decide) ?_
  refine lv_iload hx hb dX9_moveUnit_20 (lv_at hl 4 rfl) ?_
  obtain ⟨r5, hg, hf⟩ := ob_inv hf
  refine g_cSi hC hW (As := [.int 0, .int p4]) (rest := [.ref (G.2.2.1 a1), .ref (G.2.2.1 2)]) (c_X9_spotOf l G  hg) (va_cwS 2 hts gX9_moveUnit_X9_spotOf rfl rfl rfl (by decide +kernel) ⟨Nat.le_of_ble_eq_true rfl, Nat.le_of_ble_eq_true rfl⟩) rfl hl.1 rfl (Nat.le_of_ble_eq_true rfl) dX9_moveUnit_22 ⟨Nat.le_of_ble_eq_true rfl, Nat.le_of_ble_eq_true rfl⟩ (fun H locs hW => ?_)
  obtain ⟨v6, h9, hf⟩ := ob_inv hf
  refine g_ild hC hW ha1 (zc_lt ha1) hn1 h9 dX9_moveUnit_25 ?_
  refine lv_aload_n hx hb dX9_moveUnit_26 rfl (lv_at hl 1 rfl) ?_
  refine lv_iconst (v := 1) hx hb dX9_moveUnit_27 (by decide) ?_
  refine lv_iload hx hb dX9_moveUnit_28 (lv_at hl 4 rfl) ?_
  obtain ⟨r7, hg, hf⟩ := ob_inv hf
  refine g_cSi hC hW (As := [.int 1, .int p4]) (rest := [.ref (G.2.2.1 a1), .int v6, .ref (G.2.2.1 2)]) (c_X9_spotOf l G  hg) (va_cwS 2 hts gX9_moveUnit_X9_spotOf rfl rfl rfl (by decide +kernel) ⟨Nat.le_of_ble_eq_true rfl, Nat.le_of_ble_eq_true rfl⟩) rfl hl.1 rfl (Nat.le_of_ble_eq_true rfl) dX9_moveUnit_30 ⟨Nat.le_of_ble_eq_true rfl, Nat.le_of_ble_eq_true rfl⟩ (fun H locs hW => ?_)
  obtain ⟨v8, h9, hf⟩ := ob_inv hf
  refine g_ild hC hW ha1 (zc_lt ha1) hn1 h9 dX9_moveUnit_33 ?_
  refine lv_aload_n hx hb dX9_moveUnit_34 rfl (lv_at hl 1 rfl) ?_
  refine lv_iconst (v := 2) hx hb dX9_moveUnit_35 (by decide) ?_
  refine lv_iload hx hb dX9_moveUnit_36 (lv_at hl 4 rfl) ?_
  obtain ⟨r9, hg, hf⟩ := ob_inv hf
  refine g_cSi hC hW (As := [.int 2, .int p4]) (rest := [.ref (G.2.2.1 a1), .int v8, .int v6, .ref (G.2.2.1 2)]) (c_X9_spotOf l G  hg) (va_cwS 2 hts gX9_moveUnit_X9_spotOf rfl rfl rfl (by decide +kernel) ⟨Nat.le_of_ble_eq_true rfl, Nat.le_of_ble_eq_true rfl⟩) rfl hl.1 rfl (Nat.le_of_ble_eq_true rfl) dX9_moveUnit_38 ⟨Nat.le_of_ble_eq_true rfl, Nat.le_of_ble_eq_true rfl⟩ (fun H locs hW => ?_)
  obtain ⟨v10, h9, hf⟩ := ob_inv hf
  refine g_ild hC hW ha1 (zc_lt ha1) hn1 h9 dX9_moveUnit_41 ?_
  obtain ⟨r11, hg, hf⟩ := ob_inv hf
  refine g_cVi hC hW (o := 2) (ci := 6) (As := [.int v6, .int v8, .int v10]) (rest := []) zc_k2 zc_b2 rfl (c_X6_allows l G  hg) (cwV 3 hts gX9_moveUnit_X6_allows rfl rfl rfl (by decide +kernel) ⟨Nat.le_of_ble_eq_true rfl, Nat.le_of_ble_eq_true rfl⟩) rfl hl.1 rfl (Nat.le_of_ble_eq_true rfl) dX9_moveUnit_42 ⟨Nat.le_of_ble_eq_true rfl, Nat.le_of_ble_eq_true rfl⟩ (fun H locs hW => ?_)
  refine lv_if_eq (tgt := 50) hx hb dX9_moveUnit_45 (by decide) (fun c12 => ?_) (fun c12 => ?_)
  · have hf := a_if_t c12 hf
    refine lv_aload_n hx hb dX9_moveUnit_50 rfl (lv_at hl 1 rfl) ?_
    refine lv_iload_n hx hb dX9_moveUnit_51 rfl (lv_at hl 2 rfl) ?_
    refine lv_dup2_11 hx hb dX9_moveUnit_52 rfl rfl ?_
    obtain ⟨v13, h9, hf⟩ := ob_inv hf
    refine g_ild hC hW ha1 (zc_lt ha1) hn1 h9 dX9_moveUnit_53 ?_
    refine lv_iconst (v := 1) hx hb dX9_moveUnit_54 (by decide) ?_
    refine lv_isub hx hb dX9_moveUnit_55 ?_
    obtain ⟨m14, h9, hf⟩ := ob_inv hf
    refine g_ist hC hW ha1 (zc_lt ha1) hn1 h9 dX9_moveUnit_56 (fun H locs hW => ?_)
    refine lv_aload_n hx hb dX9_moveUnit_57 rfl (lv_at hl 1 rfl) ?_
    refine lv_iload_n hx hb dX9_moveUnit_58 rfl (lv_at hl 3 rfl) ?_
    refine lv_dup2_11 hx hb dX9_moveUnit_59 rfl rfl ?_
    obtain ⟨v15, h9, hf⟩ := ob_inv hf
    refine g_ild hC hW ha1 (zc_lt ha1) hn1 h9 dX9_moveUnit_60 ?_
    refine lv_iconst (v := 1) hx hb dX9_moveUnit_61 (by decide) ?_
    refine lv_iadd hx hb dX9_moveUnit_62 ?_
    obtain ⟨m16, h9, hf⟩ := ob_inv hf
    refine g_ist hC hW ha1 (zc_lt ha1) hn1 h9 dX9_moveUnit_63 (fun H locs hW => ?_)
    refine lv_iconst (v := 0) hx hb dX9_moveUnit_64 (by decide) ?_
    cases hf
    subst hQ
    exact g_zret hC hW hr hlocks rfl rfl rfl dX9_moveUnit_65
  · have hf := a_if_f c12 hf
    refine lv_iconst (v := 1) hx hb dX9_moveUnit_48 (by decide) ?_
    cases hf
    subst hQ
    exact g_zret hC hW hr hlocks rfl rfl rfl dX9_moveUnit_49
abbrev rmX9_trade : Room := { frames := 3, cells := 0, slots := 0, locals := 68 }
set_option maxHeartbeats 4000000 in
set_option maxRecDepth 100000 in
theorem c_X9_trade (l : Launch) (G : gG) {p1 : Int32} {p2 : Int32} {me : gM} {m0 : gM}  (hf : f_X9_trade p1 p2 me = some m0) : Met l yX9_trade wsX9_trade rmX9_trade (va_Pc [.ref (G.2.2.1 0), .int p1, .int p2] (g_W ZC G me)) (g_Qv ZC G m0) 0 0 (g_A ZC G) := by
  refine Met.ofW (cc := cX9_trade) (maxL := 11) (ret := none) (by decide) rfl ?_
  intro p e s m args below meth c s₁ B hml hv
  obtain ⟨rfl, hW0⟩ := hv
  have hC : CallFix p m c cX9_trade 11 s ([.ref (G.2.2.1 0), .int p1, .int p2] : List Value).toArray wsX9_trade RX9 := ⟨B.exec, B.bytes, hml, findClass_of_methodNamed B.named, atoms_spec (ws := wsX9_trade) B.pre⟩
  have hx := hC.1
  have hb := hC.2.1
  have hown := hC.2.2.2.1
  have hts := hC.2.2.2.2
  have hr := B.returns
  have hlocks := B.notSynchronized
  have hW := g_H_enter hW0
  have hi5 : ∀ w ∈ wsX50, w ∈ wsX9_trade := by decide +kernel
  have hi8 : ∀ w ∈ wsX80, w ∈ wsX9_trade := by decide +kernel
  have hi9 : ∀ w ∈ wsX90, w ∈ wsX9_trade := by decide +kernel
  have hl := lv_entry ([.ref (G.2.2.1 0), .int p1, .int p2]) (n := 11) (Nat.le_of_ble_eq_true rfl)
  rw [lg_entry_eq]
  generalize (lg_sl ([.ref (G.2.2.1 0), .int p1, .int p2]) ++ List.replicate (11 - (lg_sl ([.ref (G.2.2.1 0), .int p1, .int p2])).length) Slot.unset).toArray = ls at hl ⊢
  have hl : lv_has ls 11 [(0, .ref (G.2.2.1 0)), (1, .int p1), (2, .int p2)] := hl
  obtain ⟨Q, hQ⟩ : ∃ Q, Q = MQ below (g_Qv ZC G m0) ([.ref (G.2.2.1 0), .int p1, .int p2] : List Value).toArray s 0 0 (g_A ZC G) := ⟨_, rfl⟩
  refine g_goQ hQ ?_
  unfold f_X9_trade at hf
  refine g_start hW (fun H locs hW => ?_)
  refine lv_aload_n hx hb dX9_trade_0 rfl (lv_at hl 0 rfl) ?_
  refine g_getr hC hW (o := 0) (ci := 9) (k := 5) zc_k0 zc_b0 rfl hi9 (by decide) rfl (t := 55) zc_r0_5 (by decide +kernel) dX9_trade_1 ?_
  refine g_getr hC hW (o := 55) (ci := 8) (k := 3) zc_k55 zc_b55 rfl hi8 (by decide) rfl (t := 59) zc_r55_3 (by decide +kernel) dX9_trade_4 ?_
  refine lv_iload_n hx hb dX9_trade_7 rfl (lv_at hl 1 rfl) ?_
  obtain ⟨v1, h9, hf⟩ := ob_inv hf
  refine g_zld hC hW zc_k59 zc_b59 zc_n59 h9 dX9_trade_8 ?_
  obtain ⟨z3, hg, hf⟩ := ob_inv hf
  have hJ17 : ∀ (H : Heap) (locs : List Loc) (ls : Array Slot), g_H ZC G s H locs me → lv_has ls 11 [(0, .ref (G.2.2.1 0)), (1, .int p1), (2, .int p2)] → W p l e (headSpec wsX9_trade rmX9_trade).room s m ([.ref (G.2.2.1 0), .int p1, .int p2] : List Value).toArray below meth c H locs 0 0 Q (F0 m 17 ls [.int z3]) := by
    intro H locs ls hW hl
    refine lv_istore_n (lv' := [(3, .int z3), (0, .ref (G.2.2.1 0)), (1, .int p1), (2, .int p2)]) hx hb dX9_trade_17 rfl hl (by decide) rfl (fun ls hl => ?_)
    refine lv_aload_n hx hb dX9_trade_18 rfl (lv_at hl 1 rfl) ?_
    refine g_getr hC hW (o := 0) (ci := 9) (k := 5) zc_k0 zc_b0 rfl hi9 (by decide) rfl (t := 55) zc_r0_5 (by decide +kernel) dX9_trade_19 ?_
    refine g_getr hC hW (o := 55) (ci := 8) (k := 3) zc_k55 zc_b55 rfl hi8 (by decide) rfl (t := 59) zc_r55_3 (by decide +kernel) dX9_trade_22 ?_
    refine lv_iload_n hx hb dX9_trade_25 rfl (lv_at hl 2 rfl) ?_
    obtain ⟨v4, h9, hf⟩ := ob_inv hf
    refine g_zld hC hW zc_k59 zc_b59 zc_n59 h9 dX9_trade_26 ?_
    obtain ⟨z6, hg, hf⟩ := ob_inv hf
    have hJ35 : ∀ (H : Heap) (locs : List Loc) (ls : Array Slot), g_H ZC G s H locs me → lv_has ls 11 [(0, .ref (G.2.2.1 0)), (1, .int p1), (2, .int p2), (3, .int z3)] → W p l e (headSpec wsX9_trade rmX9_trade).room s m ([.ref (G.2.2.1 0), .int p1, .int p2] : List Value).toArray below meth c H locs 0 0 Q (F0 m 35 ls [.int z6]) := by
      intro H locs ls hW hl
      refine lv_istore (lv' := [(4, .int z6), (0, .ref (G.2.2.1 0)), (1, .int p1), (2, .int p2), (3, .int z3)]) hx hb dX9_trade_35 hl (by decide) rfl (fun ls hl => ?_)
      refine lv_aload_n hx hb dX9_trade_37 rfl (lv_at hl 1 rfl) ?_
      refine g_getr hC hW (o := 0) (ci := 9) (k := 5) zc_k0 zc_b0 rfl hi9 (by decide) rfl (t := 55) zc_r0_5 (by decide +kernel) dX9_trade_38 ?_
      refine g_getr hC hW (o := 55) (ci := 8) (k := 2) zc_k55 zc_b55 rfl hi8 (by decide) rfl (t := 58) zc_r55_2 (by decide +kernel) dX9_trade_41 ?_
      refine lv_iload_n hx hb dX9_trade_44 rfl (lv_at hl 2 rfl) ?_
      obtain ⟨v7, h9, hf⟩ := ob_inv hf
      refine g_ild hC hW zc_k58 zc_b58 zc_n58 h9 dX9_trade_45 ?_
      refine lv_istore (lv' := [(5, .int v7), (4, .int z6), (0, .ref (G.2.2.1 0)), (1, .int p1), (2, .int p2), (3, .int z3)]) hx hb dX9_trade_46 hl (by decide) rfl (fun ls hl => ?_)
      refine lv_aload_n hx hb dX9_trade_48 rfl (lv_at hl 2 rfl) ?_
      refine g_getr hC hW (o := 0) (ci := 9) (k := 6) zc_k0 zc_b0 rfl hi9 (by decide) rfl (t := 64) zc_r0_6 (by decide +kernel) dX9_trade_49 ?_
      refine lv_aload_n hx hb dX9_trade_52 rfl (lv_at hl 2 rfl) ?_
      refine g_geti hC hW (o := 0) (ci := 9) (k := 8) zc_k0 zc_b0 rfl hi9 (by decide) rfl (by decide +kernel) dX9_trade_53 ?_
      obtain ⟨d8, h9, hf⟩ := ob_inv hf
      have hd8 := zc_rk5 h9
      refine g_rldD hC hW zc_k64 zc_b64 zc_n64 zc_rr5 h9 dX9_trade_56 ?_
      refine lv_astore (lv' := [(6, .ref (G.2.2.1 d8)), (5, .int v7), (4, .int z6), (0, .ref (G.2.2.1 0)), (1, .int p1), (2, .int p2), (3, .int z3)]) hx hb dX9_trade_57 hl (by decide) rfl (fun ls hl => ?_)
      refine lv_aload_n hx hb dX9_trade_59 rfl (lv_at hl 3 rfl) ?_
      refine g_getr hC hW (o := 0) (ci := 9) (k := 5) zc_k0 zc_b0 rfl hi9 (by decide) rfl (t := 55) zc_r0_5 (by decide +kernel) dX9_trade_60 ?_
      refine g_getr hC hW (o := 55) (ci := 8) (k := 1) zc_k55 zc_b55 rfl hi8 (by decide) rfl (t := 57) zc_r55_1 (by decide +kernel) dX9_trade_63 ?_
      refine lv_iload_n hx hb dX9_trade_66 rfl (lv_at hl 6 rfl) ?_
      obtain ⟨v9, h9, hf⟩ := ob_inv hf
      refine g_ild hC hW zc_k57 zc_b57 zc_n57 h9 dX9_trade_67 ?_
      refine lv_iload hx hb dX9_trade_68 (lv_at hl 1 rfl) ?_
      obtain ⟨r10, hg, hf⟩ := ob_inv hf
      refine g_cSi hC hW (As := [.int v9, .int v7]) (rest := []) (c_X9_spotOf l G  hg) (va_cwS 2 hts gX9_trade_X9_spotOf rfl rfl rfl (by decide +kernel) ⟨Nat.le_of_ble_eq_true rfl, Nat.le_of_ble_eq_true rfl⟩) rfl hl.1 rfl (Nat.le_of_ble_eq_true rfl) dX9_trade_70 ⟨Nat.le_of_ble_eq_true rfl, Nat.le_of_ble_eq_true rfl⟩ (fun H locs hW => ?_)
      refine lv_istore (lv' := [(7, .int r10), (6, .ref (G.2.2.1 d8)), (5, .int v7), (4, .int z6), (0, .ref (G.2.2.1 0)), (1, .int p1), (2, .int p2), (3, .int z3)]) hx hb dX9_trade_73 hl (by decide) rfl (fun ls hl => ?_)
      refine lv_aload_n hx hb dX9_trade_75 rfl (lv_at hl 4 rfl) ?_
      refine g_getr hC hW (o := 0) (ci := 9) (k := 5) zc_k0 zc_b0 rfl hi9 (by decide) rfl (t := 55) zc_r0_5 (by decide +kernel) dX9_trade_76 ?_
      refine g_getr hC hW (o := 55) (ci := 8) (k := 1) zc_k55 zc_b55 rfl hi8 (by decide) rfl (t := 57) zc_r55_1 (by decide +kernel) dX9_trade_79 ?_
      refine lv_iload hx hb dX9_trade_82 (lv_at hl 3 rfl) ?_
      obtain ⟨v11, h9, hf⟩ := ob_inv hf
      refine g_ild hC hW zc_k57 zc_b57 zc_n57 h9 dX9_trade_84 ?_
      refine lv_iload hx hb dX9_trade_85 (lv_at hl 2 rfl) ?_
      obtain ⟨r12, hg, hf⟩ := ob_inv hf
      refine g_cSi hC hW (As := [.int v11, .int v7]) (rest := []) (c_X9_spotOf l G  hg) (va_cwS 2 hts gX9_trade_X9_spotOf rfl rfl rfl (by decide +kernel) ⟨Nat.le_of_ble_eq_true rfl, Nat.le_of_ble_eq_true rfl⟩) rfl hl.1 rfl (Nat.le_of_ble_eq_true rfl) dX9_trade_87 ⟨Nat.le_of_ble_eq_true rfl, Nat.le_of_ble_eq_true rfl⟩ (fun H locs hW => ?_)
      refine lv_istore (lv' := [(8, .int r12), (7, .int r10), (6, .ref (G.2.2.1 d8)), (5, .int v7), (4, .int z6), (0, .ref (G.2.2.1 0)), (1, .int p1), (2, .int p2), (3, .int z3)]) hx hb dX9_trade_90 hl (by decide) rfl (fun ls hl => ?_)
      refine lv_aload_n hx hb dX9_trade_92 rfl (lv_at hl 5 rfl) ?_
      refine g_getr hC hW (o := 0) (ci := 9) (k := 5) zc_k0 zc_b0 rfl hi9 (by decide) rfl (t := 55) zc_r0_5 (by decide +kernel) dX9_trade_93 ?_
      refine g_getr hC hW (o := 55) (ci := 8) (k := 6) zc_k55 zc_b55 rfl hi8 (by decide) rfl (t := 62) zc_r55_6 (by decide +kernel) dX9_trade_96 ?_
      refine lv_iload_n hx hb dX9_trade_99 rfl (lv_at hl 6 rfl) ?_
      obtain ⟨v13, h9, hf⟩ := ob_inv hf
      refine g_ild hC hW zc_k62 zc_b62 zc_n62 h9 dX9_trade_100 ?_
      refine lv_aload_n hx hb dX9_trade_101 rfl (lv_at hl 5 rfl) ?_
      refine g_getr hC hW (o := 0) (ci := 9) (k := 5) zc_k0 zc_b0 rfl hi9 (by decide) rfl (t := 55) zc_r0_5 (by decide +kernel) dX9_trade_102 ?_
      refine g_getr hC hW (o := 55) (ci := 8) (k := 6) zc_k55 zc_b55 rfl hi8 (by decide) rfl (t := 62) zc_r55_6 (by decide +kernel) dX9_trade_105 ?_
      refine lv_iload_n hx hb dX9_trade_108 rfl (lv_at hl 7 rfl) ?_
      obtain ⟨v14, h9, hf⟩ := ob_inv hf
      refine g_ild hC hW zc_k62 zc_b62 zc_n62 h9 dX9_trade_109 ?_
      refine g_min hC hl.1 (by decide +kernel) (by decide +kernel) (by decide +kernel) (by decide +kernel) (Nat.le_of_ble_eq_true rfl) (Nat.le_of_ble_eq_true rfl) (Nat.le_of_ble_eq_true rfl) (Nat.le_of_ble_eq_true rfl) dX9_trade_110 ?_
      obtain ⟨x15, h9, hf⟩ := ob_inv hf
      refine g_nmi (Option.some.inj h9) ?_
      refine lv_istore (lv' := [(9, .int x15), (8, .int r12), (7, .int r10), (6, .ref (G.2.2.1 d8)), (5, .int v7), (4, .int z6), (0, .ref (G.2.2.1 0)), (1, .int p1), (2, .int p2), (3, .int z3)]) hx hb dX9_trade_113 hl (by decide) rfl (fun ls hl => ?_)
      refine lv_iconst (v := 0) hx hb dX9_trade_115 (by decide) ?_
      refine lv_istore (lv' := [(10, .int 0), (9, .int x15), (8, .int r12), (7, .int r10), (6, .ref (G.2.2.1 d8)), (5, .int v7), (4, .int z6), (0, .ref (G.2.2.1 0)), (1, .int p1), (2, .int p2), (3, .int z3)]) hx hb dX9_trade_116 hl (by decide) rfl (fun ls hl => ?_)
      have hL118 : ∀ (n : Nat) (x16 : Int32) (m17 : gM) (y18 : Int32) (m19 : gM) (H : Heap) (locs : List Loc) (ls : Array Slot), f_X9_trade_L118 d8 r10 r12 v7 x15 n x16 m17 = some (y18, m19) → g_H ZC G s H locs m17 → lv_has ls 11 [(0, .ref (G.2.2.1 0)), (1, .int p1), (2, .int p2), (3, .int z3), (4, .int z6), (5, .int v7), (6, .ref (G.2.2.1 d8)), (7, .int r10), (8, .int r12), (9, .int x15), (10, .int x16)] → (∀ (H : Heap) (locs : List Loc) (ls : Array Slot), g_H ZC G s H locs m19 → lv_has ls 11 [(0, .ref (G.2.2.1 0)), (1, .int p1), (2, .int p2), (3, .int z3), (4, .int z6), (6, .ref (G.2.2.1 d8)), (7, .int r10), (8, .int r12), (10, .int y18)] → W p l e (headSpec wsX9_trade rmX9_trade).room s m ([.ref (G.2.2.1 0), .int p1, .int p2] : List Value).toArray below meth c H locs 0 0 Q (F0 m 149 ls [])) → W p l e (headSpec wsX9_trade rmX9_trade).room s m ([.ref (G.2.2.1 0), .int p1, .int p2] : List Value).toArray below meth c H locs 0 0 Q (F0 m 118 ls []) := by
        intro n
        induction n with
        | zero =>
          intro x16 m17 y18 m19 H locs ls hf hW hl hE
          cases hf
        | succ n ih =>
          intro x16 m17 y18 m19 H locs ls hf hW hl hE
          rw [f_X9_trade_L118] at hf
          refine lv_iload hx hb dX9_trade_118 (lv_at hl 10 rfl) ?_
          refine lv_iload hx hb dX9_trade_120 (lv_at hl 9 rfl) ?_
          refine lv_icmp_ge (tgt := 149) hx hb dX9_trade_122 (by decide) (fun c20 => ?_) (fun c20 => ?_)
          · have hf := a_if_t c20 hf
            cases hf
            exact hE H locs ls hW (lv_sub hl [0, 1, 2, 3, 4, 6, 7, 8, 10] rfl)
          · have hf := a_if_f c20 hf
            refine lv_aload_n hx hb dX9_trade_125 rfl (lv_at hl 0 rfl) ?_
            refine lv_aload hx hb dX9_trade_126 (lv_at hl 6 rfl) ?_
            refine g_getr hC hW (o := d8) (ci := 5) (k := 1) hd8 (zc_lt hd8) rfl hi5 (by decide) rfl (t := (d8 + 2)) (zc_o5_1 hd8).1 (by decide +kernel) dX9_trade_128 ?_
            refine lv_iload hx hb dX9_trade_131 (lv_at hl 7 rfl) ?_
            refine lv_iload hx hb dX9_trade_133 (lv_at hl 8 rfl) ?_
            refine lv_iload hx hb dX9_trade_135 (lv_at hl 5 rfl) ?_
            obtain ⟨⟨r21, m22⟩, hg, hf⟩ := ob_inv hf
            have hf := ob_inv2 hf
            refine g_cVi hC hW (o := 0) (ci := 9) (As := [.ref (G.2.2.1 (d8 + 2)), .int r10, .int r12, .int v7]) (rest := []) zc_k0 zc_b0 rfl (c_X9_moveUnit l G ((zc_o5_1 hd8).2.1) ((zc_o5_1 hd8).2.2.2) hg) (cwV 4 hts gX9_trade_X9_moveUnit rfl rfl rfl (by decide +kernel) ⟨Nat.le_of_ble_eq_true rfl, Nat.le_of_ble_eq_true rfl⟩) rfl hl.1 rfl (Nat.le_of_ble_eq_true rfl) dX9_trade_137 ⟨Nat.le_of_ble_eq_true rfl, Nat.le_of_ble_eq_true rfl⟩ (fun H locs hW => ?_)
            refine lv_if_eq (tgt := 149) hx hb dX9_trade_140 (by decide) (fun c24 => ?_) (fun c24 => ?_)
            · have hf := a_if_t c24 hf
              cases hf
              exact hE H locs ls hW (lv_sub hl [0, 1, 2, 3, 4, 6, 7, 8, 10] rfl)
            · have hf := a_if_f c24 hf
              refine lv_iinc (v := (x16 + 1)) (lv' := [(10, .int (x16 + 1)), (0, .ref (G.2.2.1 0)), (1, .int p1), (2, .int p2), (3, .int z3), (4, .int z6), (5, .int v7), (6, .ref (G.2.2.1 d8)), (7, .int r10), (8, .int r12), (9, .int x15)]) hx hb dX9_trade_143 hl (k := 10) rfl (congrArg (fun z => x16 + z) (by decide)) (by decide) rfl (fun ls hl => ?_)
              refine lv_goto (tgt := 118) hx hb dX9_trade_146 (by decide) ?_
              exact ih _ _ _ _ _ _ _ hf hW (lv_sub hl [1, 2, 3, 4, 5, 6, 7, 8, 9, 10, 0] rfl) hE
      obtain ⟨⟨y18, m19⟩, hg, hf⟩ := ob_inv hf
      have hf := ob_inv2 hf
      refine hL118 _ _ _ _ _ _ _ _ hg hW (lv_sub hl [7, 8, 9, 10, 6, 5, 4, 3, 2, 1, 0] rfl) (fun H locs ls hW hl => ?_)
      refine lv_aload_n hx hb dX9_trade_149 rfl (lv_at hl 0 rfl) ?_
      refine g_getr hC hW (o := 0) (ci := 9) (k := 5) zc_k0 zc_b0 rfl hi9 (by decide) rfl (t := 55) zc_r0_5 (by decide +kernel) dX9_trade_150 ?_
      refine g_getr hC hW (o := 55) (ci := 8) (k := 6) zc_k55 zc_b55 rfl hi8 (by decide) rfl (t := 62) zc_r55_6 (by decide +kernel) dX9_trade_153 ?_
      refine lv_iload_n hx hb dX9_trade_156 rfl (lv_at hl 1 rfl) ?_
      refine lv_dup2_11 hx hb dX9_trade_157 rfl rfl ?_
      obtain ⟨v25, h9, hf⟩ := ob_inv hf
      refine g_ild hC hW zc_k62 zc_b62 zc_n62 h9 dX9_trade_158 ?_
      refine lv_iload hx hb dX9_trade_159 (lv_at hl 8 rfl) ?_
      refine lv_isub hx hb dX9_trade_161 ?_
      obtain ⟨m26, h9, hf⟩ := ob_inv hf
      refine g_ist hC hW zc_k62 zc_b62 zc_n62 h9 dX9_trade_162 (fun H locs hW => ?_)
      refine lv_aload_n hx hb dX9_trade_163 rfl (lv_at hl 0 rfl) ?_
      refine g_getr hC hW (o := 0) (ci := 9) (k := 5) zc_k0 zc_b0 rfl hi9 (by decide) rfl (t := 55) zc_r0_5 (by decide +kernel) dX9_trade_164 ?_
      refine g_getr hC hW (o := 55) (ci := 8) (k := 6) zc_k55 zc_b55 rfl hi8 (by decide) rfl (t := 62) zc_r55_6 (by decide +kernel) dX9_trade_167 ?_
      refine lv_iload_n hx hb dX9_trade_170 rfl (lv_at hl 2 rfl) ?_
      refine lv_dup2_11 hx hb dX9_trade_171 rfl rfl ?_
      obtain ⟨v27, h9, hf⟩ := ob_inv hf
      refine g_ild hC hW zc_k62 zc_b62 zc_n62 h9 dX9_trade_172 ?_
      refine lv_iload hx hb dX9_trade_173 (lv_at hl 8 rfl) ?_
      refine lv_isub hx hb dX9_trade_175 ?_
      obtain ⟨m28, h9, hf⟩ := ob_inv hf
      refine g_ist hC hW zc_k62 zc_b62 zc_n62 h9 dX9_trade_176 (fun H locs hW => ?_)
      refine lv_aload hx hb dX9_trade_177 (lv_at hl 5 rfl) ?_
      refine lv_aload_n hx hb dX9_trade_179 rfl (lv_at hl 0 rfl) ?_
      refine g_getr hC hW (o := 0) (ci := 9) (k := 5) zc_k0 zc_b0 rfl hi9 (by decide) rfl (t := 55) zc_r0_5 (by decide +kernel) dX9_trade_180 ?_
      refine g_getr hC hW (o := 55) (ci := 8) (k := 0) zc_k55 zc_b55 rfl hi8 (by decide) rfl (t := 56) zc_r55_0 (by decide +kernel) dX9_trade_183 ?_
      refine lv_iload_n hx hb dX9_trade_186 rfl (lv_at hl 3 rfl) ?_
      obtain ⟨v29, h9, hf⟩ := ob_inv hf
      refine g_ild hC hW zc_k56 zc_b56 zc_n56 h9 dX9_trade_187 ?_
      refine lv_iload hx hb dX9_trade_188 (lv_at hl 6 rfl) ?_
      refine lv_iload hx hb dX9_trade_190 (lv_at hl 8 rfl) ?_
      refine lv_aload_n hx hb dX9_trade_192 rfl (lv_at hl 0 rfl) ?_
      refine g_getr hC hW (o := 0) (ci := 9) (k := 5) zc_k0 zc_b0 rfl hi9 (by decide) rfl (t := 55) zc_r0_5 (by decide +kernel) dX9_trade_193 ?_
      refine g_getr hC hW (o := 55) (ci := 8) (k := 4) zc_k55 zc_b55 rfl hi8 (by decide) rfl (t := 60) zc_r55_4 (by decide +kernel) dX9_trade_196 ?_
      refine lv_iload_n hx hb dX9_trade_199 rfl (lv_at hl 2 rfl) ?_
      obtain ⟨v30, h9, hf⟩ := ob_inv hf
      refine g_ild hC hW zc_k60 zc_b60 zc_n60 h9 dX9_trade_200 ?_
      obtain ⟨m31, hg, hf⟩ := ob_inv hf
      refine g_cVv hC hW (o := d8) (ci := 5) (As := [.int v29, .int r10, .int y18, .int v30]) (rest := []) hd8 (zc_lt hd8) rfl (c_X5_book l G hd8 hg) (cwV 4 hts gX9_trade_X5_book rfl rfl rfl (by decide +kernel) ⟨Nat.le_of_ble_eq_true rfl, Nat.le_of_ble_eq_true rfl⟩) rfl hl.1 rfl (Nat.le_of_ble_eq_true rfl) dX9_trade_201 ⟨Nat.le_of_ble_eq_true rfl, Nat.le_of_ble_eq_true rfl⟩ (fun H locs hW => ?_)
      refine lv_aload hx hb dX9_trade_204 (lv_at hl 5 rfl) ?_
      refine lv_aload_n hx hb dX9_trade_206 rfl (lv_at hl 0 rfl) ?_
      refine g_getr hC hW (o := 0) (ci := 9) (k := 5) zc_k0 zc_b0 rfl hi9 (by decide) rfl (t := 55) zc_r0_5 (by decide +kernel) dX9_trade_207 ?_
      refine g_getr hC hW (o := 55) (ci := 8) (k := 0) zc_k55 zc_b55 rfl hi8 (by decide) rfl (t := 56) zc_r55_0 (by decide +kernel) dX9_trade_210 ?_
      refine lv_iload hx hb dX9_trade_213 (lv_at hl 4 rfl) ?_
      obtain ⟨v32, h9, hf⟩ := ob_inv hf
      refine g_ild hC hW zc_k56 zc_b56 zc_n56 h9 dX9_trade_215 ?_
      refine lv_iload hx hb dX9_trade_216 (lv_at hl 7 rfl) ?_
      refine lv_iload hx hb dX9_trade_218 (lv_at hl 8 rfl) ?_
      refine lv_ineg hx hb dX9_trade_220 ?_
      refine lv_aload_n hx hb dX9_trade_221 rfl (lv_at hl 0 rfl) ?_
      refine g_getr hC hW (o := 0) (ci := 9) (k := 5) zc_k0 zc_b0 rfl hi9 (by decide) rfl (t := 55) zc_r0_5 (by decide +kernel) dX9_trade_222 ?_
      refine g_getr hC hW (o := 55) (ci := 8) (k := 4) zc_k55 zc_b55 rfl hi8 (by decide) rfl (t := 60) zc_r55_4 (by decide +kernel) dX9_trade_225 ?_
      refine lv_iload_n hx hb dX9_trade_228 rfl (lv_at hl 2 rfl) ?_
      obtain ⟨v33, h9, hf⟩ := ob_inv hf
      refine g_ild hC hW zc_k60 zc_b60 zc_n60 h9 dX9_trade_229 ?_
      obtain ⟨m34, hg, hf⟩ := ob_inv hf
      refine g_cVv hC hW (o := d8) (ci := 5) (As := [.int v32, .int r12, .int (-y18), .int v33]) (rest := []) hd8 (zc_lt hd8) rfl (c_X5_book l G hd8 hg) (cwV 4 hts gX9_trade_X5_book rfl rfl rfl (by decide +kernel) ⟨Nat.le_of_ble_eq_true rfl, Nat.le_of_ble_eq_true rfl⟩) rfl hl.1 rfl (Nat.le_of_ble_eq_true rfl) dX9_trade_230 ⟨Nat.le_of_ble_eq_true rfl, Nat.le_of_ble_eq_true rfl⟩ (fun H locs hW => ?_)
      cases hf
      subst hQ
      exact g_vret hC hW hr hlocks rfl dX9_trade_233
    replace hf := hg
    refine lv_if_eq (tgt := 34) hx hb dX9_trade_27 (by decide) (fun c5 => ?_) (fun c5 => ?_)
    · have hf := a_if_t c5 hf
      refine lv_iload_n hx hb dX9_trade_34 rfl (lv_at hl 3 rfl) ?_
      cases hf
      exact hJ35 H locs ls hW (lv_sub hl [1, 2, 3, 0] rfl)
    · have hf := a_if_f c5 hf
      refine lv_iload_n hx hb dX9_trade_30 rfl (lv_at hl 2 rfl) ?_
      refine lv_goto (tgt := 35) hx hb dX9_trade_31 (by decide) ?_
      cases hf
      exact hJ35 H locs ls hW (lv_sub hl [1, 2, 3, 0] rfl)
  replace hf := hg
  refine lv_if_eq (tgt := 16) hx hb dX9_trade_9 (by decide) (fun c2 => ?_) (fun c2 => ?_)
  · have hf := a_if_t c2 hf
    refine lv_iload_n hx hb dX9_trade_16 rfl (lv_at hl 1 rfl) ?_
    cases hf
    exact hJ17 H locs ls hW (lv_sub hl [0, 1, 2] rfl)
  · have hf := a_if_f c2 hf
    refine lv_iload_n hx hb dX9_trade_12 rfl (lv_at hl 2 rfl) ?_
    refine lv_goto (tgt := 17) hx hb dX9_trade_13 (by decide) ?_
    cases hf
    exact hJ17 H locs ls hW (lv_sub hl [0, 1, 2] rfl)
abbrev rmX9_tradeAll : Room := { frames := 4, cells := 0, slots := 0, locals := 98 }
set_option maxHeartbeats 4000000 in
set_option maxRecDepth 100000 in
theorem c_X9_tradeAll (l : Launch) (G : gG) {p1 : Int32} {me : gM} {m0 : gM}  (hf : f_X9_tradeAll p1 me = some m0) : Met l yX9_tradeAll wsX9_tradeAll rmX9_tradeAll (va_Pc [.ref (G.2.2.1 0), .int p1] (g_W ZC G me)) (g_Qv ZC G m0) 0 0 (g_A ZC G) := by
  refine Met.ofW (cc := cX9_tradeAll) (maxL := 4) (ret := none) (by decide) rfl ?_
  intro p e s m args below meth c s₁ B hml hv
  obtain ⟨rfl, hW0⟩ := hv
  have hC : CallFix p m c cX9_tradeAll 4 s ([.ref (G.2.2.1 0), .int p1] : List Value).toArray wsX9_tradeAll RX9 := ⟨B.exec, B.bytes, hml, findClass_of_methodNamed B.named, atoms_spec (ws := wsX9_tradeAll) B.pre⟩
  have hx := hC.1
  have hb := hC.2.1
  have hown := hC.2.2.2.1
  have hts := hC.2.2.2.2
  have hr := B.returns
  have hlocks := B.notSynchronized
  have hW := g_H_enter hW0
  have hi8 : ∀ w ∈ wsX80, w ∈ wsX9_tradeAll := by decide +kernel
  have hi9 : ∀ w ∈ wsX90, w ∈ wsX9_tradeAll := by decide +kernel
  have hl := lv_entry ([.ref (G.2.2.1 0), .int p1]) (n := 4) (Nat.le_of_ble_eq_true rfl)
  rw [lg_entry_eq]
  generalize (lg_sl ([.ref (G.2.2.1 0), .int p1]) ++ List.replicate (4 - (lg_sl ([.ref (G.2.2.1 0), .int p1])).length) Slot.unset).toArray = ls at hl ⊢
  have hl : lv_has ls 4 [(0, .ref (G.2.2.1 0)), (1, .int p1)] := hl
  obtain ⟨Q, hQ⟩ : ∃ Q, Q = MQ below (g_Qv ZC G m0) ([.ref (G.2.2.1 0), .int p1] : List Value).toArray s 0 0 (g_A ZC G) := ⟨_, rfl⟩
  refine g_goQ hQ ?_
  unfold f_X9_tradeAll at hf
  refine g_start hW (fun H locs hW => ?_)
  refine lv_iconst (v := 0) hx hb dX9_tradeAll_0 (by decide) ?_
  refine lv_istore_n (lv' := [(2, .int 0), (0, .ref (G.2.2.1 0)), (1, .int p1)]) hx hb dX9_tradeAll_1 rfl hl (by decide) rfl (fun ls hl => ?_)
  have hL2 : ∀ (n : Nat) (x1 : Int32) (m2 : gM) (y3 : Int32) (m4 : gM) (H : Heap) (locs : List Loc) (ls : Array Slot), f_X9_tradeAll_L2 p1 n x1 m2 = some (y3, m4) → g_H ZC G s H locs m2 → lv_has ls 4 [(0, .ref (G.2.2.1 0)), (1, .int p1), (2, .int x1)] → (∀ (H : Heap) (locs : List Loc) (ls : Array Slot), g_H ZC G s H locs m4 → lv_has ls 4 [] → W p l e (headSpec wsX9_tradeAll rmX9_tradeAll).room s m ([.ref (G.2.2.1 0), .int p1] : List Value).toArray below meth c H locs 0 0 Q (F0 m 59 ls [])) → W p l e (headSpec wsX9_tradeAll rmX9_tradeAll).room s m ([.ref (G.2.2.1 0), .int p1] : List Value).toArray below meth c H locs 0 0 Q (F0 m 2 ls []) := by
    intro n
    induction n with
    | zero =>
      intro x1 m2 y3 m4 H locs ls hf hW hl hE
      cases hf
    | succ n ih =>
      intro x1 m2 y3 m4 H locs ls hf hW hl hE
      rw [f_X9_tradeAll_L2] at hf
      refine lv_iload_n hx hb dX9_tradeAll_2 rfl (lv_at hl 2 rfl) ?_
      refine lv_aload_n hx hb dX9_tradeAll_3 rfl (lv_at hl 0 rfl) ?_
      refine g_getr hC hW (o := 0) (ci := 9) (k := 5) zc_k0 zc_b0 rfl hi9 (by decide) rfl (t := 55) zc_r0_5 (by decide +kernel) dX9_tradeAll_4 ?_
      refine g_geti hC hW (o := 55) (ci := 8) (k := 8) zc_k55 zc_b55 rfl hi8 (by decide) rfl (by decide +kernel) dX9_tradeAll_7 ?_
      refine lv_icmp_ge (tgt := 59) hx hb dX9_tradeAll_10 (by decide) (fun c5 => ?_) (fun c5 => ?_)
      · have hf := a_if_t c5 hf
        cases hf
        exact hE H locs ls hW (lv_sub hl [] rfl)
      · have hf := a_if_f c5 hf
        refine lv_aload_n hx hb dX9_tradeAll_13 rfl (lv_at hl 0 rfl) ?_
        refine g_getr hC hW (o := 0) (ci := 9) (k := 5) zc_k0 zc_b0 rfl hi9 (by decide) rfl (t := 55) zc_r0_5 (by decide +kernel) dX9_tradeAll_14 ?_
        refine g_getr hC hW (o := 55) (ci := 8) (k := 6) zc_k55 zc_b55 rfl hi8 (by decide) rfl (t := 62) zc_r55_6 (by decide +kernel) dX9_tradeAll_17 ?_
        refine lv_iload_n hx hb dX9_tradeAll_20 rfl (lv_at hl 1 rfl) ?_
        obtain ⟨v6, h9, hf⟩ := ob_inv hf
        refine g_ild hC hW zc_k62 zc_b62 zc_n62 h9 dX9_tradeAll_21 ?_
        refine lv_if_le (tgt := 59) hx hb dX9_tradeAll_22 (by decide) (fun c7 => ?_) (fun c7 => ?_)
        · have hf := a_if_t c7 hf
          cases hf
          exact hE H locs ls hW (lv_sub hl [] rfl)
        · have hf := a_if_f c7 hf
          refine lv_aload_n hx hb dX9_tradeAll_25 rfl (lv_at hl 0 rfl) ?_
          refine g_getr hC hW (o := 0) (ci := 9) (k := 5) zc_k0 zc_b0 rfl hi9 (by decide) rfl (t := 55) zc_r0_5 (by decide +kernel) dX9_tradeAll_26 ?_
          refine g_getr hC hW (o := 55) (ci := 8) (k := 7) zc_k55 zc_b55 rfl hi8 (by decide) rfl (t := 63) zc_r55_7 (by decide +kernel) dX9_tradeAll_29 ?_
          refine lv_iload_n hx hb dX9_tradeAll_32 rfl (lv_at hl 2 rfl) ?_
          obtain ⟨v8, h9, hf⟩ := ob_inv hf
          refine g_ild hC hW zc_k63 zc_b63 zc_n63 h9 dX9_tradeAll_33 ?_
          refine lv_istore_n (lv' := [(3, .int v8), (0, .ref (G.2.2.1 0)), (1, .int p1), (2, .int x1)]) hx hb dX9_tradeAll_34 rfl hl (by decide) rfl (fun ls hl => ?_)
          refine lv_aload_n hx hb dX9_tradeAll_35 rfl (lv_at hl 1 rfl) ?_
          refine g_getr hC hW (o := 0) (ci := 9) (k := 5) zc_k0 zc_b0 rfl hi9 (by decide) rfl (t := 55) zc_r0_5 (by decide +kernel) dX9_tradeAll_36 ?_
          refine lv_iload_n hx hb dX9_tradeAll_39 rfl (lv_at hl 2 rfl) ?_
          refine lv_iload_n hx hb dX9_tradeAll_40 rfl (lv_at hl 0 rfl) ?_
          obtain ⟨r9, hg, hf⟩ := ob_inv hf
          refine g_cVi hC hW (o := 55) (ci := 8) (As := [.int p1, .int v8]) (rest := []) zc_k55 zc_b55 rfl (c_X8_fits l G zc_k55 hg) (cwV 2 hts gX9_tradeAll_X8_fits rfl rfl rfl (by decide +kernel) ⟨Nat.le_of_ble_eq_true rfl, Nat.le_of_ble_eq_true rfl⟩) rfl hl.1 rfl (Nat.le_of_ble_eq_true rfl) dX9_tradeAll_41 ⟨Nat.le_of_ble_eq_true rfl, Nat.le_of_ble_eq_true rfl⟩ (fun H locs hW => ?_)
          obtain ⟨m11, hg, hf⟩ := ob_inv hf
          have hJ53 : ∀ (H : Heap) (locs : List Loc) (ls : Array Slot), g_H ZC G s H locs m11 → lv_has ls 4 [(0, .ref (G.2.2.1 0)), (1, .int p1), (2, .int x1)] → W p l e (headSpec wsX9_tradeAll rmX9_tradeAll).room s m ([.ref (G.2.2.1 0), .int p1] : List Value).toArray below meth c H locs 0 0 Q (F0 m 53 ls []) := by
            intro H locs ls hW hl
            refine lv_iinc (v := (x1 + 1)) (lv' := [(2, .int (x1 + 1)), (0, .ref (G.2.2.1 0)), (1, .int p1)]) hx hb dX9_tradeAll_53 hl (k := 2) rfl (congrArg (fun z => x1 + z) (by decide)) (by decide) rfl (fun ls hl => ?_)
            refine lv_goto (tgt := 2) hx hb dX9_tradeAll_56 (by decide) ?_
            exact ih _ _ _ _ _ _ _ hf hW (lv_sub hl [1, 2, 0] rfl) hE
          replace hf := hg
          refine lv_if_eq (tgt := 53) hx hb dX9_tradeAll_44 (by decide) (fun c10 => ?_) (fun c10 => ?_)
          · have hf := a_if_t c10 hf
            cases hf
            exact hJ53 H locs ls hW (lv_sub hl [1, 2, 3] rfl)
          · have hf := a_if_f c10 hf
            refine lv_aload_n hx hb dX9_tradeAll_47 rfl (lv_at hl 1 rfl) ?_
            refine lv_iload_n hx hb dX9_tradeAll_48 rfl (lv_at hl 2 rfl) ?_
            refine lv_iload_n hx hb dX9_tradeAll_49 rfl (lv_at hl 0 rfl) ?_
            obtain ⟨m12, hg, hf⟩ := ob_inv hf
            refine g_cVv hC hW (o := 0) (ci := 9) (As := [.int p1, .int v8]) (rest := []) zc_k0 zc_b0 rfl (c_X9_trade l G  hg) (cwV 2 hts gX9_tradeAll_X9_trade rfl rfl rfl (by decide +kernel) ⟨Nat.le_of_ble_eq_true rfl, Nat.le_of_ble_eq_true rfl⟩) rfl hl.1 rfl (Nat.le_of_ble_eq_true rfl) dX9_tradeAll_50 ⟨Nat.le_of_ble_eq_true rfl, Nat.le_of_ble_eq_true rfl⟩ (fun H locs hW => ?_)
            cases hf
            exact hJ53 H locs ls hW (lv_sub hl [1, 2, 3] rfl)
  obtain ⟨⟨y3, m4⟩, hg, hf⟩ := ob_inv hf
  have hf := ob_inv2 hf
  refine hL2 _ _ _ _ _ _ _ _ hg hW (lv_sub hl [1, 2, 0] rfl) (fun H locs ls hW hl => ?_)
  cases hf
  subst hQ
  exact g_vret hC hW hr hlocks rfl dX9_tradeAll_59
