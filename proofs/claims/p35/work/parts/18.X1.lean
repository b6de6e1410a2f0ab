def f_X1_add (p1 : Int32) (p2 : Int32) (p3 : Int32) (p4 : Int32) (p5 : Int32) (me : gM) : Option (Int32 × gM) :=
  ob (f_X8_add 45 p1 p2 0 1 p5 p4 me) fun w3 =>
  ob (some w3.1) fun r1 =>
  ob (some w3.2) fun m2 =>
  ob (if r1 = (-1) then
      some m2
    else
      ob (a_st 20 54 r1 p3 m2) fun m6 =>
      some m6) fun (m5 : gM) =>
  some (r1, m5)
def f_X1_isBetween (p1 : Int32) (p2 : Int32) (p3 : Int32) (me : gM) : Option (Int32) :=
  ob (a_ld 20 47 p1 me) fun v1 =>
  ob (if v1 = p2 then
      ob (a_ld 20 54 p1 me) fun v4 =>
      if v4 = p3 then
        some 1
      else
        some 0
    else
      some 0) fun (z3 : Int32) =>
  ob (a_zc z3) fun b6 =>
  some b6
def f_X1_giveOut_L12 (p1 : Int32) (p2 : Int32) : Nat → Int32 → Int32 → Int32 → Int32 → gM → Option (Int32 × Int32 × Int32 × Int32 × gM)
  | 0, _, _, _, _, _ => none
  | n + 1, x1, x2, x3, x4, m5 =>
    if (m5 45 8) ≤ x4 then
      some (x1, x2, x3, x4, m5)
    else
      ob (a_ld 20 53 x4 m5) fun v12 =>
      ob (f_X1_isBetween v12 p1 p2 m5) fun r13 =>
      ob (if r13 = 0 then
          some (x1, x2, x3, m5)
        else
          ob (a_ld 20 51 v12 m5) fun v19 =>
          ob (some (a_min x1 v19)) fun (x20 : Int32) =>
          ob (a_ld 20 52 v12 m5) fun v21 =>
          ob (a_st 20 52 v12 (v21 - x20) m5) fun m22 =>
          ob (some (x1 - x20)) fun (x23 : Int32) =>
          ob (if x20 ≤ 0 then
              some x2
            else
              ob (a_ld 20 50 v12 m22) fun v26 =>
              some v26) fun (z25 : Int32) =>
          ob (if x3 = 0 then
              some 0
            else
              ob (a_ld 20 52 v12 m22) fun v29 =>
              if v29 = 0 then
                some 1
              else
                some 0) fun (z28 : Int32) =>
          some (x23, z25, z28, m22)) fun (t31 : Int32 × Int32 × Int32 × gM) =>
      ob (some t31.1) fun x15 =>
      ob (some t31.2.1) fun x16 =>
      ob (some t31.2.2.1) fun x17 =>
      ob (some t31.2.2.2) fun m18 =>
      f_X1_giveOut_L12 p1 p2 n x15 x16 x17 (x4 + 1) m18
def f_X1_giveOut_L163 (o4 : Nat) (p1 : Int32) (p2 : Int32) (x35 : Int32) : Nat → Int32 → gM → Option (Int32 × gM)
  | 0, _, _ => none
  | n + 1, x36, m37 =>
    if (m37 45 8) ≤ x36 then
      some (x36, m37)
    else
      ob (f_X1_isBetween x36 p1 p2 m37) fun r41 =>
      ob (if r41 = 0 then
          some m37
        else
          ob (a_ld 20 46 x36 m37) fun v44 =>
          ob (a_ld 6 (o4 + 5) v44 m37) fun v45 =>
          ob (f_X8_used 45 x36 m37) fun r46 =>
          ob (a_st 6 (o4 + 5) v44 (v45 + (x35 * r46)) m37) fun m47 =>
          some m47) fun (m43 : gM) =>
      f_X1_giveOut_L163 o4 p1 p2 x35 n (x36 + 1) m43
def f_X1_giveOut (p1 : Int32) (p2 : Int32) (p3 : Int32) (o4 : Nat) (me : gM) : Option (gM) :=
  ob (f_X1_giveOut_L12 p1 p2 f_fuel p3 0 1 0 me) fun t49 =>
  ob (some t49.1) fun y6 =>
  ob (some t49.2.1) fun y7 =>
  ob (some t49.2.2.1) fun y8 =>
  ob (some t49.2.2.2.1) fun y9 =>
  ob (some t49.2.2.2.2) fun m10 =>
  ob (f_X5_differenceOf o4 p1 p2 m10) fun r32 =>
  ob (if y8 = 0 then
      some y7
    else
      some 0) fun (z34 : Int32) =>
  ob (some (r32 - z34)) fun (x35 : Int32) =>
  ob (f_X1_giveOut_L163 o4 p1 p2 x35 f_fuel 0 m10) fun t48 =>
  ob (some t48.1) fun y38 =>
  ob (some t48.2) fun m39 =>
  some m39
abbrev rmX1_add : Room := { frames := 3, cells := 0, slots := 0, locals := 70 }
set_option maxHeartbeats 4000000 in
set_option maxRecDepth 100000 in
theorem c_X1_add (l : Launch) (G : gG) {p1 : Int32} {p2 : Int32} {p3 : Int32} {p4 : Int32} {p5 : Int32} {me : gM} {r0 : Int32} {m0 : gM}  (hf : f_X1_add p1 p2 p3 p4 p5 me = some (r0, m0)) : Met l yX1_add wsX1_add rmX1_add (va_Pc [.ref (G.2.2.1 44), .int p1, .int p2, .int p3, .int p4, .int p5] (g_W ZC G me)) (g_Qi ZC G r0 m0) 0 0 (g_A ZC G) := by
  refine Met.ofW (cc := cX1_add) (maxL := 7) (ret := (some .int)) (by decide) rfl ?_
  intro p e s m args below meth c s₁ B hml hv
  obtain ⟨rfl, hW0⟩ := hv
  have hC : CallFix p m c cX1_add 7 s ([.ref (G.2.2.1 44), .int p1, .int p2, .int p3, .int p4, .int p5] : List Value).toArray wsX1_add RX1 := ⟨B.exec, B.bytes, hml, findClass_of_methodNamed B.named, atoms_spec (ws := wsX1_add) B.pre⟩
  have hx := hC.1
  have hb := hC.2.1
  have hown := hC.2.2.2.1
  have hts := hC.2.2.2.2
  have hr := B.returns
  have hlocks := B.notSynchronized
  have hW := g_H_enter hW0
  have hi1 : ∀ w ∈ wsX10, w ∈ wsX1_add := by decide +kernel
  have hl := lv_entry ([.ref (G.2.2.1 44), .int p1, .int p2, .int p3, .int p4, .int p5]) (n := 7) (Nat.le_of_ble_eq_true rfl)
  rw [lg_entry_eq]
  generalize (lg_sl ([.ref (G.2.2.1 44), .int p1, .int p2, .int p3, .int p4, .int p5]) ++ List.replicate (7 - (lg_sl ([.ref (G.2.2.1 44), .int p1, .int p2, .int p3, .int p4, .int p5])).length) Slot.unset).toArray = ls at hl ⊢
  have hl : lv_has ls 7 [(0, .ref (G.2.2.1 44)), (1, .int p1), (2, .int p2), (3, .int p3), (4, .int p4), (5, .int p5)] := hl
  obtain ⟨Q, hQ⟩ : ∃ Q, Q = MQ below (g_Qi ZC G r0 m0) ([.ref (G.2.2.1 44), .int p1, .int p2, .int p3, .int p4, .int p5] : List Value).toArray s 0 0 (g_A ZC G) := ⟨_, rfl⟩
  refine g_goQ hQ ?_
  unfold f_X1_add at hf
  refine g_start hW (fun H locs hW => ?_)
  refine lv_aload_n hx hb dX1_add_0 rfl (lv_at hl 0 rfl) ?_
  refine g_getr hC hW (o := 44) (ci := 1) (k := 0) zc_k44 zc_b44 rfl hi1 (by decide) rfl (t := 45) zc_r44_0 (by decide +kernel) dX1_add_1 ?_
  refine lv_iload_n hx hb dX1_add_4 rfl (lv_at hl 1 rfl) ?_
  refine lv_iload_n hx hb dX1_add_5 rfl (lv_at hl 2 rfl) ?_
  refine lv_iconst (v := 0) hx hb dX1_add_6 (by decide) ?_
  refine lv_iconst (v := 1) hx hb dX1_add_7 (by decide) ?_
  refine lv_iload hx hb dX1_add_8 (lv_at hl 5 rfl) ?_
  refine lv_iload hx hb dX1_add_10 (lv_at hl 4 rfl) ?_
  obtain ⟨⟨r1, m2⟩, hg, hf⟩ := ob_inv hf
  have hf := ob_inv2 hf
  refine g_cVi hC hW (o := 45) (ci := 8) (As := [.int p1, .int p2, .int 0, .int 1, .int p5, .int p4]) (rest := []) zc_k45 zc_b45 rfl (c_X8_add l G zc_k45 hg) (cwV 6 hts gX1_add_X8_add rfl rfl rfl (by decide +kernel) ⟨Nat.le_of_ble_eq_true rfl, Nat.le_of_ble_eq_true rfl⟩) rfl hl.1 rfl (Nat.le_of_ble_eq_true rfl) dX1_add_12 ⟨Nat.le_of_ble_eq_true rfl, Nat.le_of_ble_eq_true rfl⟩ (fun H locs hW => ?_)
  refine lv_istore (lv' := [(6, .int r1), (0, .ref (G.2.2.1 44)), (1, .int p1), (2, .int p2), (3, .int p3), (4, .int p4), (5, .int p5)]) hx hb dX1_add_15 hl (by decide) rfl (fun ls hl => ?_)
  refine lv_iload hx hb dX1_add_17 (lv_at hl 0 rfl) ?_
  refine lv_iconst (v := (-1)) hx hb dX1_add_19 (by decide) ?_
  obtain ⟨m5, hg, hf⟩ := ob_inv hf
  have hJ31 : ∀ (H : Heap) (locs : List Loc) (ls : Array Slot), g_H ZC G s H locs m5 → lv_has ls 7 [(6, .int r1)] → W p l e (headSpec wsX1_add rmX1_add).room s m ([.ref (G.2.2.1 44), .int p1, .int p2, .int p3, .int p4, .int p5] : List Value).toArray below meth c H locs 0 0 Q (F0 m 31 ls []) := by
    intro H locs ls hW hl
    refine lv_iload hx hb dX1_add_31 (lv_at hl 0 rfl) ?_
    cases hf
    subst hQ
    exact g_iret hC hW hr hlocks rfl rfl dX1_add_33
  replace hf := hg
  refine lv_icmp_eq (tgt := 31) hx hb dX1_add_20 (by decide) (fun c4 => ?_) (fun c4 => ?_)
  · have hf := a_if_t c4 hf
    cases hf
    exact hJ31 H locs ls hW (lv_sub hl [0] rfl)
  · have hf := a_if_f c4 hf
    refine lv_aload_n hx hb dX1_add_23 rfl (lv_at hl 1 rfl) ?_
    refine g_getr hC hW (o := 44) (ci := 1) (k := 1) zc_k44 zc_b44 rfl hi1 (by decide) rfl (t := 54) zc_r44_1 (by decide +kernel) dX1_add_24 ?_
    refine lv_iload hx hb dX1_add_27 (lv_at hl 0 rfl) ?_
    refine lv_iload_n hx hb dX1_add_29 rfl (lv_at hl 4 rfl) ?_
    obtain ⟨m6, h9, hf⟩ := ob_inv hf
    refine g_ist hC hW zc_k54 zc_b54 zc_n54 h9 dX1_add_30 (fun H locs hW => ?_)
    cases hf
    exact hJ31 H locs ls hW (lv_sub hl [0] rfl)
abbrev rmX1_isBetween : Room := { frames := 0, cells := 0, slots := 0, locals := 0 }
set_option maxHeartbeats 4000000 in
set_option maxRecDepth 100000 in
theorem c_X1_isBetween (l : Launch) (G : gG) {p1 : Int32} {p2 : Int32} {p3 : Int32} {me : gM} {r0 : Int32}  (hf : f_X1_isBetween p1 p2 p3 me = some r0) : Met l yX1_isBetween wsX1_isBetween rmX1_isBetween (va_Pc [.ref (G.2.2.1 44), .int p1, .int p2, .int p3] (g_W ZC G me)) (g_Qi ZC G r0 me) 0 0 (g_A ZC G) := by
  refine Met.ofW (cc := cX1_isBetween) (maxL := 4) (ret := (some .boolean)) (by decide) rfl ?_
  intro p e s m args below meth c s₁ B hml hv
  obtain ⟨rfl, hW0⟩ := hv
  have hC : CallFix p m c cX1_isBetween 4 s ([.ref (G.2.2.1 44), .int p1, .int p2, .int p3] : List Value).toArray wsX1_isBetween RX1 := ⟨B.exec, B.bytes, hml, findClass_of_methodNamed B.named, atoms_spec (ws := wsX1_isBetween) B.pre⟩
  have hx := hC.1
  have hb := hC.2.1
  have hown := hC.2.2.2.1
  have hts := hC.2.2.2.2
  have hr := B.returns
  have hlocks := B.notSynchronized
  have hW := g_H_enter hW0
  have hi1 : ∀ w ∈ wsX10, w ∈ wsX1_isBetween := by decide +kernel
  have hi8 : ∀ w ∈ wsX80, w ∈ wsX1_isBetween := by decide +kernel
  have hl := lv_entry ([.ref (G.2.2.1 44), .int p1, .int p2, .int p3]) (n := 4) (Nat.le_of_ble_eq_true rfl)
  rw [lg_entry_eq]
  generalize (lg_sl ([.ref (G.2.2.1 44), .int p1, .int p2, .int p3]) ++ List.replicate (4 - (lg_sl ([.ref (G.2.2.1 44), .int p1, .int p2, .int p3])).length) Slot.unset).toArray = ls at hl ⊢
  have hl : lv_has ls 4 [(0, .ref (G.2.2.1 44)), (1, .int p1), (2, .int p2), (3, .int p3)] := hl
  obtain ⟨Q, hQ⟩ : ∃ Q, Q = MQ below (g_Qi ZC G r0 me) ([.ref (G.2.2.1 44), .int p1, .int p2, .int p3] : List Value).toArray s 0 0 (g_A ZC G) := ⟨_, rfl⟩
  refine g_goQ hQ ?_
  unfold f_X1_isBetween at hf
  refine g_start hW (fun H locs hW => ?_)
  refine lv_aload_n hx hb dX1_isBetween_0 rfl (lv_at hl 0 rfl) ?_
  refine g_getr hC hW (o := 44) (ci := 1) (k := 0) zc_k44 zc_b44 rfl hi1 (by decide) rfl (t := 45) zc_r44_0 (by decide +kernel) dX1_isBetween_1 ?_
  refine g_getr hC hW (o := 45) (ci := 8) (k := 1) zc_k45 zc_b45 rfl hi8 (by decide) rfl (t := 47) zc_r45_1 (by decide +kernel) dX1_isBetween_4 ?_
  refine lv_iload_n hx hb dX1_isBetween_7 rfl (lv_at hl 1 rfl) ?_
  obtain ⟨v1, h9, hf⟩ := ob_inv hf
  refine g_ild hC hW zc_k47 zc_b47 zc_n47 h9 dX1_isBetween_8 ?_
  refine lv_iload_n hx hb dX1_isBetween_9 rfl (lv_at hl 2 rfl) ?_
  obtain ⟨z3, hg, hf⟩ := ob_inv hf
  have hJ28 : ∀ (H : Heap) (locs : List Loc) (ls : Array Slot), g_H ZC G s H locs me → lv_has ls 4 [] → W p l e (headSpec wsX1_isBetween rmX1_isBetween).room s m ([.ref (G.2.2.1 44), .int p1, .int p2, .int p3] : List Value).toArray below meth c H locs 0 0 Q (F0 m 28 ls [.int z3]) := by
    intro H locs ls hW hl
    obtain ⟨b6, h9, hf⟩ := ob_inv hf
    obtain ⟨h9, hn9⟩ := a_zc_inv h9
    refine g_nmi h9 ?_
    cases hf
    subst hQ
    exact g_zret hC hW hr hlocks hn9 rfl rfl dX1_isBetween_28
  replace hf := hg
  refine lv_icmp_ne (tgt := 27) hx hb dX1_isBetween_10 (by decide) (fun c2 => ?_) (fun c2 => ?_)
  · have hf := a_if_f c2 hf
    refine lv_iconst (v := 0) hx hb dX1_isBetween_27 (by decide) ?_
    cases hf
    exact hJ28 H locs ls hW (lv_sub hl [] rfl)
  · have hf := a_if_t c2 hf
    refine lv_aload_n hx hb dX1_isBetween_13 rfl (lv_at hl 0 rfl) ?_
    refine g_getr hC hW (o := 44) (ci := 1) (k := 1) zc_k44 zc_b44 rfl hi1 (by decide) rfl (t := 54) zc_r44_1 (by decide +kernel) dX1_isBetween_14 ?_
    refine lv_iload_n hx hb dX1_isBetween_17 rfl (lv_at hl 1 rfl) ?_
    obtain ⟨v4, h9, hf⟩ := ob_inv hf
    refine g_ild hC hW zc_k54 zc_b54 zc_n54 h9 dX1_isBetween_18 ?_
    refine lv_iload_n hx hb dX1_isBetween_19 rfl (lv_at hl 3 rfl) ?_
    refine lv_icmp_ne (tgt := 27) hx hb dX1_isBetween_20 (by decide) (fun c5 => ?_) (fun c5 => ?_)
    · have hf := a_if_f c5 hf
      refine lv_iconst (v := 0) hx hb dX1_isBetween_27 (by decide) ?_
      cases hf
      exact hJ28 H locs ls hW (lv_sub hl [] rfl)
    · have hf := a_if_t c5 hf
      refine lv_iconst (v := 1) hx hb dX1_isBetween_23 (by decide) ?_
      refine lv_goto (tgt := 28) hx hb dX1_isBetween_24 (by decide) ?_
      cases hf
      exact hJ28 H locs ls hW (lv_sub hl [] rfl)
abbrev rmX1_giveOut : Room := { frames := 2, cells := 0, slots := 0, locals := 45 }
set_option maxHeartbeats 4000000 in
set_option maxRecDepth 100000 in
theorem c_X1_giveOut (l : Launch) (G : gG) {p1 : Int32} {p2 : Int32} {p3 : Int32} {o4 : Nat} {me : gM} {m0 : gM}  (ho4 : ZC.2.1 o4 = 6) (hf : f_X1_giveOut p1 p2 p3 o4 me = some m0) : Met l yX1_giveOut wsX1_giveOut rmX1_giveOut (va_Pc [.ref (G.2.2.1 44), .int p1, .int p2, .int p3, .ref (G.2.2.1 o4)] (g_W ZC G me)) (g_Qv ZC G m0) 0 0 (g_A ZC G) := by
  refine Met.ofW (cc := cX1_giveOut) (maxL := 11) (ret := none) (by decide) rfl ?_
  intro p e s m args below meth c s₁ B hml hv
  obtain ⟨rfl, hW0⟩ := hv
  have hC : CallFix p m c cX1_giveOut 11 s ([.ref (G.2.2.1 44), .int p1, .int p2, .int p3, .ref (G.2.2.1 o4)] : List Value).toArray wsX1_giveOut RX1 := ⟨B.exec, B.bytes, hml, findClass_of_methodNamed B.named, atoms_spec (ws := wsX1_giveOut) B.pre⟩
  have hx := hC.1
  have hb := hC.2.1
  have hown := hC.2.2.2.1
  have hts := hC.2.2.2.2
  have hr := B.returns
  have hlocks := B.notSynchronized
  have hW := g_H_enter hW0
  have hi1 : ∀ w ∈ wsX10, w ∈ wsX1_giveOut := by decide +kernel
  have hi5 : ∀ w ∈ wsX50, w ∈ wsX1_giveOut := by decide +kernel
  have hi8 : ∀ w ∈ wsX80, w ∈ wsX1_giveOut := by decide +kernel
  have hl := lv_entry ([.ref (G.2.2.1 44), .int p1, .int p2, .int p3, .ref (G.2.2.1 o4)]) (n := 11) (Nat.le_of_ble_eq_true rfl)
  rw [lg_entry_eq]
  generalize (lg_sl ([.ref (G.2.2.1 44), .int p1, .int p2, .int p3, .ref (G.2.2.1 o4)]) ++ List.replicate (11 - (lg_sl ([.ref (G.2.2.1 44), .int p1, .int p2, .int p3, .ref (G.2.2.1 o4)])).length) Slot.unset).toArray = ls at hl ⊢
  have hl : lv_has ls 11 [(0, .ref (G.2.2.1 44)), (1, .int p1), (2, .int p2), (3, .int p3), (4, .ref (G.2.2.1 o4))] := hl
  obtain ⟨Q, hQ⟩ : ∃ Q, Q = MQ below (g_Qv ZC G m0) ([.ref (G.2.2.1 44), .int p1, .int p2, .int p3, .ref (G.2.2.1 o4)] : List Value).toArray s 0 0 (g_A ZC G) := ⟨_, rfl⟩
  refine g_goQ hQ ?_
  unfold f_X1_giveOut at hf
  refine g_start hW (fun H locs hW => ?_)
  refine lv_iload_n hx hb dX1_giveOut_0 rfl (lv_at hl 3 rfl) ?_
  refine lv_istore (lv' := [(5, .int p3), (0, .ref (G.2.2.1 44)), (1, .int p1), (2, .int p2), (3, .int p3), (4, .ref (G.2.2.1 o4))]) hx hb dX1_giveOut_1 hl (by decide) rfl (fun ls hl => ?_)
  refine lv_iconst (v := 0) hx hb dX1_giveOut_3 (by decide) ?_
  refine lv_istore (lv' := [(6, .int 0), (5, .int p3), (0, .ref (G.2.2.1 44)), (1, .int p1), (2, .int p2), (3, .int p3), (4, .ref (G.2.2.1 o4))]) hx hb dX1_giveOut_4 hl (by decide) rfl (fun ls hl => ?_)
  refine lv_iconst (v := 1) hx hb dX1_giveOut_6 (by decide) ?_
  refine lv_istore (lv' := [(7, .int 1), (6, .int 0), (5, .int p3), (0, .ref (G.2.2.1 44)), (1, .int p1), (2, .int p2), (3, .int p3), (4, .ref (G.2.2.1 o4))]) hx hb dX1_giveOut_7 hl (by decide) rfl (fun ls hl => ?_)
  refine lv_iconst (v := 0) hx hb dX1_giveOut_9 (by decide) ?_
  refine lv_istore (lv' := [(8, .int 0), (7, .int 1), (6, .int 0), (5, .int p3), (0, .ref (G.2.2.1 44)), (1, .int p1), (2, .int p2), (3, .int p3), (4, .ref (G.2.2.1 o4))]) hx hb dX1_giveOut_10 hl (by decide) rfl (fun ls hl => ?_)
  have hL12 : ∀ (n : Nat) (x1 : Int32) (x2 : Int32) (x3 : Int32) (x4 : Int32) (m5 : gM) (y6 : Int32) (y7 : Int32) (y8 : Int32) (y9 : Int32) (m10 : gM) (H : Heap) (locs : List Loc) (ls : Array Slot), f_X1_giveOut_L12 p1 p2 n x1 x2 x3 x4 m5 = some (y6, y7, y8, y9, m10) → g_H ZC G s H locs m5 → lv_has ls 11 [(0, .ref (G.2.2.1 44)), (1, .int p1), (2, .int p2), (4, .ref (G.2.2.1 o4)), (5, .int x1), (6, .int x2), (7, .int x3), (8, .int x4)] → (∀ (H : Heap) (locs : List Loc) (ls : Array Slot), g_H ZC G s H locs m10 → lv_has ls 11 [(0, .ref (G.2.2.1 44)), (1, .int p1), (2, .int p2), (4, .ref (G.2.2.1 o4)), (6, .int y7), (7, .int y8)] → W p l e (headSpec wsX1_giveOut rmX1_giveOut).room s m ([.ref (G.2.2.1 44), .int p1, .int p2, .int p3, .ref (G.2.2.1 o4)] : List Value).toArray below meth c H locs 0 0 Q (F0 m 139 ls [])) → W p l e (headSpec wsX1_giveOut rmX1_giveOut).room s m ([.ref (G.2.2.1 44), .int p1, .int p2, .int p3, .ref (G.2.2.1 o4)] : List Value).toArray below meth c H locs 0 0 Q (F0 m 12 ls []) := by
    intro n
    induction n with
    | zero =>
      intro x1 x2 x3 x4 m5 y6 y7 y8 y9 m10 H locs ls hf hW hl hE
      cases hf
    | succ n ih =>
      intro x1 x2 x3 x4 m5 y6 y7 y8 y9 m10 H locs ls hf hW hl hE
      rw [f_X1_giveOut_L12] at hf
      refine lv_iload hx hb dX1_giveOut_12 (lv_at hl 7 rfl) ?_
      refine lv_aload_n hx hb dX1_giveOut_14 rfl (lv_at hl 0 rfl) ?_
      refine g_getr hC hW (o := 44) (ci := 1) (k := 0) zc_k44 zc_b44 rfl hi1 (by decide) rfl (t := 45) zc_r44_0 (by decide +kernel) dX1_giveOut_15 ?_
      refine g_geti hC hW (o := 45) (ci := 8) (k := 8) zc_k45 zc_b45 rfl hi8 (by decide) rfl (by decide +kernel) dX1_giveOut_18 ?_
      refine lv_icmp_ge (tgt := 139) hx hb dX1_giveOut_21 (by decide) (fun c11 => ?_) (fun c11 => ?_)
      · have hf := a_if_t c11 hf
        cases hf
        exact hE H locs ls hW (lv_sub hl [0, 1, 2, 3, 5, 6] rfl)
      · have hf := a_if_f c11 hf
        refine lv_aload_n hx hb dX1_giveOut_24 rfl (lv_at hl 0 rfl) ?_
        refine g_getr hC hW (o := 44) (ci := 1) (k := 0) zc_k44 zc_b44 rfl hi1 (by decide) rfl (t := 45) zc_r44_0 (by decide +kernel) dX1_giveOut_25 ?_
        refine g_getr hC hW (o := 45) (ci := 8) (k := 7) zc_k45 zc_b45 rfl hi8 (by decide) rfl (t := 53) zc_r45_7 (by decide +kernel) dX1_giveOut_28 ?_
        refine lv_iload hx hb dX1_giveOut_31 (lv_at hl 7 rfl) ?_
        obtain ⟨v12, h9, hf⟩ := ob_inv hf
        refine g_ild hC hW zc_k53 zc_b53 zc_n53 h9 dX1_giveOut_33 ?_
        refine lv_istore (lv' := [(9, .int v12), (0, .ref (G.2.2.1 44)), (1, .int p1), (2, .int p2), (4, .ref (G.2.2.1 o4)), (5, .int x1), (6, .int x2), (7, .int x3), (8, .int x4)]) hx hb dX1_giveOut_34 hl (by decide) rfl (fun ls hl => ?_)
        refine lv_aload_n hx hb dX1_giveOut_36 rfl (lv_at hl 1 rfl) ?_
        refine lv_iload hx hb dX1_giveOut_37 (lv_at hl 0 rfl) ?_
        refine lv_iload_n hx hb dX1_giveOut_39 rfl (lv_at hl 2 rfl) ?_
        refine lv_iload_n hx hb dX1_giveOut_40 rfl (lv_at hl 3 rfl) ?_
        obtain ⟨r13, hg, hf⟩ := ob_inv hf
        refine g_cVi hC hW (o := 44) (ci := 1) (As := [.int v12, .int p1, .int p2]) (rest := []) zc_k44 zc_b44 rfl (c_X1_isBetween l G  hg) (cwV 3 hts gX1_giveOut_X1_isBetween rfl rfl rfl (by decide +kernel) ⟨Nat.le_of_ble_eq_true rfl, Nat.le_of_ble_eq_true rfl⟩) rfl hl.1 rfl (Nat.le_of_ble_eq_true rfl) dX1_giveOut_41 ⟨Nat.le_of_ble_eq_true rfl, Nat.le_of_ble_eq_true rfl⟩ (fun H locs hW => ?_)
        obtain ⟨⟨x15, x16, x17, m18⟩, hg, hf⟩ := ob_inv hf
        have hf := ob_inv4 hf
        have hJ133 : ∀ (H : Heap) (locs : List Loc) (ls : Array Slot), g_H ZC G s H locs m18 → lv_has ls 11 [(0, .ref (G.2.2.1 44)), (1, .int p1), (2, .int p2), (4, .ref (G.2.2.1 o4)), (5, .int x15), (6, .int x16), (7, .int x17), (8, .int x4)] → W p l e (headSpec wsX1_giveOut rmX1_giveOut).room s m ([.ref (G.2.2.1 44), .int p1, .int p2, .int p3, .ref (G.2.2.1 o4)] : List Value).toArray below meth c H locs 0 0 Q (F0 m 133 ls []) := by
          intro H locs ls hW hl
          refine lv_iinc (v := (x4 + 1)) (lv' := [(8, .int (x4 + 1)), (0, .ref (G.2.2.1 44)), (1, .int p1), (2, .int p2), (4, .ref (G.2.2.1 o4)), (5, .int x15), (6, .int x16), (7, .int x17)]) hx hb dX1_giveOut_133 hl (k := 7) rfl (congrArg (fun z => x4 + z) (by decide)) (by decide) rfl (fun ls hl => ?_)
          refine lv_goto (tgt := 12) hx hb dX1_giveOut_136 (by decide) ?_
          exact ih _ _ _ _ _ _ _ _ _ _ _ _ _ hf hW (lv_sub hl [1, 2, 3, 4, 5, 6, 7, 0] rfl) hE
        replace hf := hg
        refine lv_if_eq (tgt := 133) hx hb dX1_giveOut_44 (by decide) (fun c14 => ?_) (fun c14 => ?_)
        · have hf := a_if_t c14 hf
          cases hf
          exact hJ133 H locs ls hW (lv_sub hl [1, 2, 3, 4, 5, 6, 7, 8] rfl)
        · have hf := a_if_f c14 hf
          refine lv_iload hx hb dX1_giveOut_47 (lv_at hl 5 rfl) ?_
          refine lv_aload_n hx hb dX1_giveOut_49 rfl (lv_at hl 1 rfl) ?_
          refine g_getr hC hW (o := 44) (ci := 1) (k := 0) zc_k44 zc_b44 rfl hi1 (by decide) rfl (t := 45) zc_r44_0 (by decide +kernel) dX1_giveOut_50 ?_
          refine g_getr hC hW (o := 45) (ci := 8) (k := 5) zc_k45 zc_b45 rfl hi8 (by decide) rfl (t := 51) zc_r45_5 (by decide +kernel) dX1_giveOut_53 ?_
          refine lv_iload hx hb dX1_giveOut_56 (lv_at hl 0 rfl) ?_
          obtain ⟨v19, h9, hf⟩ := ob_inv hf
          refine g_ild hC hW zc_k51 zc_b51 zc_n51 h9 dX1_giveOut_58 ?_
          refine g_min hC hl.1 (by decide +kernel) (by decide +kernel) (by decide +kernel) (by decide +kernel) (Nat.le_of_ble_eq_true rfl) (Nat.le_of_ble_eq_true rfl) (Nat.le_of_ble_eq_true rfl) (Nat.le_of_ble_eq_true rfl) dX1_giveOut_59 ?_
          obtain ⟨x20, h9, hf⟩ := ob_inv hf
          refine g_nmi (Option.some.inj h9) ?_
          refine lv_istore (lv' := [(10, .int x20), (9, .int v12), (0, .ref (G.2.2.1 44)), (1, .int p1), (2, .int p2), (4, .ref (G.2.2.1 o4)), (5, .int x1), (6, .int x2), (7, .int x3), (8, .int x4)]) hx hb dX1_giveOut_62 hl (by decide) rfl (fun ls hl => ?_)
          refine lv_aload_n hx hb dX1_giveOut_64 rfl (lv_at hl 2 rfl) ?_
          refine g_getr hC hW (o := 44) (ci := 1) (k := 0) zc_k44 zc_b44 rfl hi1 (by decide) rfl (t := 45) zc_r44_0 (by decide +kernel) dX1_giveOut_65 ?_
          refine g_getr hC hW (o := 45) (ci := 8) (k := 6) zc_k45 zc_b45 rfl hi8 (by decide) rfl (t := 52) zc_r45_6 (by decide +kernel) dX1_giveOut_68 ?_
          refine lv_iload hx hb dX1_giveOut_71 (lv_at hl 1 rfl) ?_
          refine lv_dup2_11 hx hb dX1_giveOut_73 rfl rfl ?_
          obtain ⟨v21, h9, hf⟩ := ob_inv hf
          refine g_ild hC hW zc_k52 zc_b52 zc_n52 h9 dX1_giveOut_74 ?_
          refine lv_iload hx hb dX1_giveOut_75 (lv_at hl 0 rfl) ?_
          refine lv_isub hx hb dX1_giveOut_77 ?_
          obtain ⟨m22, h9, hf⟩ := ob_inv hf
          refine g_ist hC hW zc_k52 zc_b52 zc_n52 h9 dX1_giveOut_78 (fun H locs hW => ?_)
          refine lv_iload hx hb dX1_giveOut_79 (lv_at hl 6 rfl) ?_
          refine lv_iload hx hb dX1_giveOut_81 (lv_at hl 0 rfl) ?_
          refine lv_isub hx hb dX1_giveOut_83 ?_
          obtain ⟨x23, h9, hf⟩ := ob_inv hf
          refine g_nmi (Option.some.inj h9) ?_
          refine lv_istore (lv' := [(5, .int x23), (10, .int x20), (9, .int v12), (0, .ref (G.2.2.1 44)), (1, .int p1), (2, .int p2), (4, .ref (G.2.2.1 o4)), (6, .int x2), (7, .int x3), (8, .int x4)]) hx hb dX1_giveOut_84 hl (by decide) rfl (fun ls hl => ?_)
          refine lv_iload hx hb dX1_giveOut_86 (lv_at hl 1 rfl) ?_
          obtain ⟨z25, hg, hf⟩ := ob_inv hf
          have hJ106 : ∀ (H : Heap) (locs : List Loc) (ls : Array Slot), g_H ZC G s H locs m22 → lv_has ls 11 [(0, .ref (G.2.2.1 44)), (1, .int p1), (2, .int p2), (4, .ref (G.2.2.1 o4)), (5, .int x23), (7, .int x3), (8, .int x4), (9, .int v12)] → W p l e (headSpec wsX1_giveOut rmX1_giveOut).room s m ([.ref (G.2.2.1 44), .int p1, .int p2, .int p3, .ref (G.2.2.1 o4)] : List Value).toArray below meth c H locs 0 0 Q (F0 m 106 ls [.int z25]) := by
            intro H locs ls hW hl
            refine lv_istore (lv' := [(6, .int z25), (0, .ref (G.2.2.1 44)), (1, .int p1), (2, .int p2), (4, .ref (G.2.2.1 o4)), (5, .int x23), (7, .int x3), (8, .int x4), (9, .int v12)]) hx hb dX1_giveOut_106 hl (by decide) rfl (fun ls hl => ?_)
            refine lv_iload hx hb dX1_giveOut_108 (lv_at hl 6 rfl) ?_
            obtain ⟨z28, hg, hf⟩ := ob_inv hf
            have hJ131 : ∀ (H : Heap) (locs : List Loc) (ls : Array Slot), g_H ZC G s H locs m22 → lv_has ls 11 [(0, .ref (G.2.2.1 44)), (1, .int p1), (2, .int p2), (4, .ref (G.2.2.1 o4)), (5, .int x23), (6, .int z25), (8, .int x4)] → W p l e (headSpec wsX1_giveOut rmX1_giveOut).room s m ([.ref (G.2.2.1 44), .int p1, .int p2, .int p3, .ref (G.2.2.1 o4)] : List Value).toArray below meth c H locs 0 0 Q (F0 m 131 ls [.int z28]) := by
              intro H locs ls hW hl
              refine lv_istore (lv' := [(7, .int z28), (0, .ref (G.2.2.1 44)), (1, .int p1), (2, .int p2), (4, .ref (G.2.2.1 o4)), (5, .int x23), (6, .int z25), (8, .int x4)]) hx hb dX1_giveOut_131 hl (by decide) rfl (fun ls hl => ?_)
              cases hf
              exact hJ133 H locs ls hW (lv_sub hl [1, 2, 3, 4, 5, 6, 0, 7] rfl)
            replace hf := hg
            refine lv_if_eq (tgt := 130) hx hb dX1_giveOut_110 (by decide) (fun c27 => ?_) (fun c27 => ?_)
            · have hf := a_if_t c27 hf
              refine lv_iconst (v := 0) hx hb dX1_giveOut_130 (by decide) ?_
              cases hf
              exact hJ131 H locs ls hW (lv_sub hl [1, 2, 3, 4, 5, 0, 7] rfl)
            · have hf := a_if_f c27 hf
              refine lv_aload_n hx hb dX1_giveOut_113 rfl (lv_at hl 1 rfl) ?_
              refine g_getr hC hW (o := 44) (ci := 1) (k := 0) zc_k44 zc_b44 rfl hi1 (by decide) rfl (t := 45) zc_r44_0 (by decide +kernel) dX1_giveOut_114 ?_
              refine g_getr hC hW (o := 45) (ci := 8) (k := 6) zc_k45 zc_b45 rfl hi8 (by decide) rfl (t := 52) zc_r45_6 (by decide +kernel) dX1_giveOut_117 ?_
              refine lv_iload hx hb dX1_giveOut_120 (lv_at hl 8 rfl) ?_
              obtain ⟨v29, h9, hf⟩ := ob_inv hf
              refine g_ild hC hW zc_k52 zc_b52 zc_n52 h9 dX1_giveOut_122 ?_
              refine lv_if_ne (tgt := 130) hx hb dX1_giveOut_123 (by decide) (fun c30 => ?_) (fun c30 => ?_)
              · have hf := a_if_f c30 hf
                refine lv_iconst (v := 0) hx hb dX1_giveOut_130 (by decide) ?_
                cases hf
                exact hJ131 H locs ls hW (lv_sub hl [1, 2, 3, 4, 5, 0, 7] rfl)
              · have hf := a_if_t c30 hf
                refine lv_iconst (v := 1) hx hb dX1_giveOut_126 (by decide) ?_
                refine lv_goto (tgt := 131) hx hb dX1_giveOut_127 (by decide) ?_
                cases hf
                exact hJ131 H locs ls hW (lv_sub hl [1, 2, 3, 4, 5, 0, 7] rfl)
          replace hf := hg
          refine lv_if_le (tgt := 104) hx hb dX1_giveOut_88 (by decide) (fun c24 => ?_) (fun c24 => ?_)
          · have hf := a_if_t c24 hf
            refine lv_iload hx hb dX1_giveOut_104 (lv_at hl 7 rfl) ?_
            cases hf
            exact hJ106 H locs ls hW (lv_sub hl [3, 4, 5, 6, 0, 8, 9, 2] rfl)
          · have hf := a_if_f c24 hf
            refine lv_aload_n hx hb dX1_giveOut_91 rfl (lv_at hl 3 rfl) ?_
            refine g_getr hC hW (o := 44) (ci := 1) (k := 0) zc_k44 zc_b44 rfl hi1 (by decide) rfl (t := 45) zc_r44_0 (by decide +kernel) dX1_giveOut_92 ?_
            refine g_getr hC hW (o := 45) (ci := 8) (k := 4) zc_k45 zc_b45 rfl hi8 (by decide) rfl (t := 50) zc_r45_4 (by decide +kernel) dX1_giveOut_95 ?_
            refine lv_iload hx hb dX1_giveOut_98 (lv_at hl 2 rfl) ?_
            obtain ⟨v26, h9, hf⟩ := ob_inv hf
            refine g_ild hC hW zc_k50 zc_b50 zc_n50 h9 dX1_giveOut_100 ?_
            refine lv_goto (tgt := 106) hx hb dX1_giveOut_101 (by decide) ?_
            cases hf
            exact hJ106 H locs ls hW (lv_sub hl [3, 4, 5, 6, 0, 8, 9, 2] rfl)
  obtain ⟨⟨y6, y7, y8, y9, m10⟩, hg, hf⟩ := ob_inv hf
  have hf := ob_inv5 hf
  refine hL12 _ _ _ _ _ _ _ _ _ _ _ _ _ _ hg hW (lv_sub hl [4, 5, 6, 8, 3, 2, 1, 0] rfl) (fun H locs ls hW hl => ?_)
  refine lv_aload hx hb dX1_giveOut_139 (lv_at hl 3 rfl) ?_
  refine lv_iload_n hx hb dX1_giveOut_141 rfl (lv_at hl 1 rfl) ?_
  refine lv_iload_n hx hb dX1_giveOut_142 rfl (lv_at hl 2 rfl) ?_
  obtain ⟨r32, hg, hf⟩ := ob_inv hf
  refine g_cVi hC hW (o := o4) (ci := 5) (As := [.int p1, .int p2]) (rest := []) ho4 (zc_lt ho4) rfl (c_X5_differenceOf l G ho4 hg) (cwV 2 hts gX1_giveOut_X5_differenceOf rfl rfl rfl (by decide +kernel) ⟨Nat.le_of_ble_eq_true rfl, Nat.le_of_ble_eq_true rfl⟩) rfl hl.1 rfl (Nat.le_of_ble_eq_true rfl) dX1_giveOut_143 ⟨Nat.le_of_ble_eq_true rfl, Nat.le_of_ble_eq_true rfl⟩ (fun H locs hW => ?_)
  refine lv_iload hx hb dX1_giveOut_146 (lv_at hl 5 rfl) ?_
  obtain ⟨z34, hg, hf⟩ := ob_inv hf
  have hJ157 : ∀ (H : Heap) (locs : List Loc) (ls : Array Slot), g_H ZC G s H locs m10 → lv_has ls 11 [(0, .ref (G.2.2.1 44)), (1, .int p1), (2, .int p2), (4, .ref (G.2.2.1 o4))] → W p l e (headSpec wsX1_giveOut rmX1_giveOut).room s m ([.ref (G.2.2.1 44), .int p1, .int p2, .int p3, .ref (G.2.2.1 o4)] : List Value).toArray below meth c H locs 0 0 Q (F0 m 157 ls [.int z34, .int r32]) := by
    intro H locs ls hW hl
    refine lv_isub hx hb dX1_giveOut_157 ?_
    obtain ⟨x35, h9, hf⟩ := ob_inv hf
    refine g_nmi (Option.some.inj h9) ?_
    refine lv_istore (lv' := [(8, .int x35), (0, .ref (G.2.2.1 44)), (1, .int p1), (2, .int p2), (4, .ref (G.2.2.1 o4))]) hx hb dX1_giveOut_158 hl (by decide) rfl (fun ls hl => ?_)
    refine lv_iconst (v := 0) hx hb dX1_giveOut_160 (by decide) ?_
    refine lv_istore (lv' := [(9, .int 0), (8, .int x35), (0, .ref (G.2.2.1 44)), (1, .int p1), (2, .int p2), (4, .ref (G.2.2.1 o4))]) hx hb dX1_giveOut_161 hl (by decide) rfl (fun ls hl => ?_)
    have hL163 : ∀ (n : Nat) (x36 : Int32) (m37 : gM) (y38 : Int32) (m39 : gM) (H : Heap) (locs : List Loc) (ls : Array Slot), f_X1_giveOut_L163 o4 p1 p2 x35 n x36 m37 = some (y38, m39) → g_H ZC G s H locs m37 → lv_has ls 11 [(0, .ref (G.2.2.1 44)), (1, .int p1), (2, .int p2), (4, .ref (G.2.2.1 o4)), (8, .int x35), (9, .int x36)] → (∀ (H : Heap) (locs : List Loc) (ls : Array Slot), g_H ZC G s H locs m39 → lv_has ls 11 [] → W p l e (headSpec wsX1_giveOut rmX1_giveOut).room s m ([.ref (G.2.2.1 44), .int p1, .int p2, .int p3, .ref (G.2.2.1 o4)] : List Value).toArray below meth c H locs 0 0 Q (F0 m 223 ls [])) → W p l e (headSpec wsX1_giveOut rmX1_giveOut).room s m ([.ref (G.2.2.1 44), .int p1, .int p2, .int p3, .ref (G.2.2.1 o4)] : List Value).toArray below meth c H locs 0 0 Q (F0 m 163 ls []) := by
      intro n
      induction n with
      | zero =>
        intro x36 m37 y38 m39 H locs ls hf hW hl hE
        cases hf
      | succ n ih =>
        intro x36 m37 y38 m39 H locs ls hf hW hl hE
        rw [f_X1_giveOut_L163] at hf
        refine lv_iload hx hb dX1_giveOut_163 (lv_at hl 5 rfl) ?_
        refine lv_aload_n hx hb dX1_giveOut_165 rfl (lv_at hl 0 rfl) ?_
        refine g_getr hC hW (o := 44) (ci := 1) (k := 0) zc_k44 zc_b44 rfl hi1 (by decide) rfl (t := 45) zc_r44_0 (by decide +kernel) dX1_giveOut_166 ?_
        refine g_geti hC hW (o := 45) (ci := 8) (k := 8) zc_k45 zc_b45 rfl hi8 (by decide) rfl (by decide +kernel) dX1_giveOut_169 ?_
        refine lv_icmp_ge (tgt := 223) hx hb dX1_giveOut_172 (by decide) (fun c40 => ?_) (fun c40 => ?_)
        · have hf := a_if_t c40 hf
          cases hf
          exact hE H locs ls hW (lv_sub hl [] rfl)
        · have hf := a_if_f c40 hf
          refine lv_aload_n hx hb dX1_giveOut_175 rfl (lv_at hl 0 rfl) ?_
          refine lv_iload hx hb dX1_giveOut_176 (lv_at hl 5 rfl) ?_
          refine lv_iload_n hx hb dX1_giveOut_178 rfl (lv_at hl 1 rfl) ?_
          refine lv_iload_n hx hb dX1_giveOut_179 rfl (lv_at hl 2 rfl) ?_
          obtain ⟨r41, hg, hf⟩ := ob_inv hf
          refine g_cVi hC hW (o := 44) (ci := 1) (As := [.int x36, .int p1, .int p2]) (rest := []) zc_k44 zc_b44 rfl (c_X1_isBetween l G  hg) (cwV 3 hts gX1_giveOut_X1_isBetween rfl rfl rfl (by decide +kernel) ⟨Nat.le_of_ble_eq_true rfl, Nat.le_of_ble_eq_true rfl⟩) rfl hl.1 rfl (Nat.le_of_ble_eq_true rfl) dX1_giveOut_180 ⟨Nat.le_of_ble_eq_true rfl, Nat.le_of_ble_eq_true rfl⟩ (fun H locs hW => ?_)
          obtain ⟨m43, hg, hf⟩ := ob_inv hf
          have hJ217 : ∀ (H : Heap) (locs : List Loc) (ls : Array Slot), g_H ZC G s H locs m43 → lv_has ls 11 [(0, .ref (G.2.2.1 44)), (1, .int p1), (2, .int p2), (4, .ref (G.2.2.1 o4)), (8, .int x35), (9, .int x36)] → W p l e (headSpec wsX1_giveOut rmX1_giveOut).room s m ([.ref (G.2.2.1 44), .int p1, .int p2, .int p3, .ref (G.2.2.1 o4)] : List Value).toArray below meth c H locs 0 0 Q (F0 m 217 ls []) := by
            intro H locs ls hW hl
            refine lv_iinc (v := (x36 + 1)) (lv' := [(9, .int (x36 + 1)), (0, .ref (G.2.2.1 44)), (1, .int p1), (2, .int p2), (4, .ref (G.2.2.1 o4)), (8, .int x35)]) hx hb dX1_giveOut_217 hl (k := 5) rfl (congrArg (fun z => x36 + z) (by decide)) (by decide) rfl (fun ls hl => ?_)
            refine lv_goto (tgt := 163) hx hb dX1_giveOut_220 (by decide) ?_
            exact ih _ _ _ _ _ _ _ hf hW (lv_sub hl [1, 2, 3, 4, 5, 0] rfl) hE
          replace hf := hg
          refine lv_if_eq (tgt := 217) hx hb dX1_giveOut_183 (by decide) (fun c42 => ?_) (fun c42 => ?_)
          · have hf := a_if_t c42 hf
            cases hf
            exact hJ217 H locs ls hW (lv_sub hl [0, 1, 2, 3, 4, 5] rfl)
          · have hf := a_if_f c42 hf
            refine lv_aload hx hb dX1_giveOut_186 (lv_at hl 3 rfl) ?_
            refine g_getr hC hW (o := o4) (ci := 5) (k := 4) ho4 (zc_lt ho4) rfl hi5 (by decide) rfl (t := (o4 + 5)) (zc_o5_4 ho4).1 (by decide +kernel) dX1_giveOut_188 ?_
            refine lv_aload_n hx hb dX1_giveOut_191 rfl (lv_at hl 0 rfl) ?_
            refine g_getr hC hW (o := 44) (ci := 1) (k := 0) zc_k44 zc_b44 rfl hi1 (by decide) rfl (t := 45) zc_r44_0 (by decide +kernel) dX1_giveOut_192 ?_
            refine g_getr hC hW (o := 45) (ci := 8) (k := 0) zc_k45 zc_b45 rfl hi8 (by decide) rfl (t := 46) zc_r45_0 (by decide +kernel) dX1_giveOut_195 ?_
            refine lv_iload hx hb dX1_giveOut_198 (lv_at hl 5 rfl) ?_
            obtain ⟨v44, h9, hf⟩ := ob_inv hf
            refine g_ild hC hW zc_k46 zc_b46 zc_n46 h9 dX1_giveOut_200 ?_
            refine lv_dup2_11 hx hb dX1_giveOut_201 rfl rfl ?_
            obtain ⟨v45, h9, hf⟩ := ob_inv hf
            refine g_ild hC hW (zc_o5_4 ho4).2.1 (zc_o5_4 ho4).2.2.1 (zc_o5_4 ho4).2.2.2 h9 dX1_giveOut_202 ?_
            refine lv_iload hx hb dX1_giveOut_203 (lv_at hl 4 rfl) ?_
            refine lv_aload_n hx hb dX1_giveOut_205 rfl (lv_at hl 0 rfl) ?_
            refine g_getr hC hW (o := 44) (ci := 1) (k := 0) zc_k44 zc_b44 rfl hi1 (by decide) rfl (t := 45) zc_r44_0 (by decide +kernel) dX1_giveOut_206 ?_
            refine lv_iload hx hb dX1_giveOut_209 (lv_at hl 5 rfl) ?_
            obtain ⟨r46, hg, hf⟩ := ob_inv hf
            refine g_cVi hC hW (o := 45) (ci := 8) (As := [.int x36]) (rest := [.int x35, .int v45, .int v44, .ref (G.2.2.1 (o4 + 5))]) zc_k45 zc_b45 rfl (c_X8_used l G zc_k45 hg) (cwV 1 hts gX1_giveOut_X8_used rfl rfl rfl (by decide +kernel) ⟨Nat.le_of_ble_eq_true rfl, Nat.le_of_ble_eq_true rfl⟩) rfl hl.1 rfl (Nat.le_of_ble_eq_true rfl) dX1_giveOut_211 ⟨Nat.le_of_ble_eq_true rfl, Nat.le_of_ble_eq_true rfl⟩ (fun H locs hW => ?_)
            refine lv_imul hx hb dX1_giveOut_214 ?_
            refine lv_iadd hx hb dX1_giveOut_215 ?_
            obtain ⟨m47, h9, hf⟩ := ob_inv hf
            refine g_ist hC hW (zc_o5_4 ho4).2.1 (zc_o5_4 ho4).2.2.1 (zc_o5_4 ho4).2.2.2 h9 dX1_giveOut_216 (fun H locs hW => ?_)
            cases hf
            exact hJ217 H locs ls hW (lv_sub hl [0, 1, 2, 3, 4, 5] rfl)
    obtain ⟨⟨y38, m39⟩, hg, hf⟩ := ob_inv hf
    have hf := ob_inv2 hf
    refine hL163 _ _ _ _ _ _ _ _ hg hW (lv_sub hl [2, 3, 4, 5, 1, 0] rfl) (fun H locs ls hW hl => ?_)
    cases hf
    subst hQ
    exact g_vret hC hW hr hlocks rfl dX1_giveOut_223
  replace hf := hg
  refine lv_if_eq (tgt := 155) hx hb dX1_giveOut_148 (by decide) (fun c33 => ?_) (fun c33 => ?_)
  · have hf := a_if_t c33 hf
    refine lv_iload hx hb dX1_giveOut_155 (lv_at hl 4 rfl) ?_
    cases hf
    exact hJ157 H locs ls hW (lv_sub hl [0, 1, 2, 3] rfl)
  · have hf := a_if_f c33 hf
    refine lv_iconst (v := 0) hx hb dX1_giveOut_151 (by decide) ?_
    refine lv_goto (tgt := 157) hx hb dX1_giveOut_152 (by decide) ?_
    cases hf
    exact hJ157 H locs ls hW (lv_sub hl [0, 1, 2, 3] rfl)
