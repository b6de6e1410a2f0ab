def f_J6_bitCount_0f7a4 (p0 : Int32) : Option (Int32) :=
  ob (some (p0 - ((a_ushr p0 1) &&& 1431655765))) fun (x1 : Int32) =>
  ob (some ((x1 &&& 858993459) + ((a_ushr x1 2) &&& 858993459))) fun (x2 : Int32) =>
  ob (some ((x2 + (a_ushr x2 4)) &&& 252645135)) fun (x3 : Int32) =>
  ob (some (x3 + (a_ushr x3 8))) fun (x4 : Int32) =>
  ob (some (x4 + (a_ushr x4 16))) fun (x5 : Int32) =>
  some (x5 &&& 63)
def f_X9_isMember (p0 : Int32) (p1 : Int32) : Option (Int32) :=
  ob (if ((p0 >>> (p1 &&& 31)) &&& 1) = 1 then
      some 1
    else
      some 0) fun (z2 : Int32) =>
  ob (a_zc z2) fun b3 =>
  some b3
def f_X9_spotOf (p0 : Int32) (p1 : Int32) : Option (Int32) :=
  some ((p0 * 4) + p1)
def f_X9_placeOf (p0 : Int32) (p1 : Int32) (p2 : Int32) : Option (Int32) :=
  ob (f_X9_spotOf p1 p2) fun r1 =>
  some (((p0 * 3) * 4) + r1)
def f_X9_lineBegin (p0 : Int32) : Option (Int32) :=
  ob (if p0 = 1 then
      some 1
    else
      some 0) fun (z2 : Int32) =>
  some z2
def f_X9_lineEnd (p0 : Int32) : Option (Int32) :=
  ob (if p0 = 0 then
      some 1
    else
      some 2) fun (z2 : Int32) =>
  some z2
def f_X9_lineBetween (p0 : Int32) (p1 : Int32) : Option (Int32) :=
  if p0 = 2 then
    ob (if p0 = 0 then
        some 2
      else
        if p1 = 0 then
          some 2
        else
          some 1) fun (z3 : Int32) =>
    some z3
  else
    if p1 = 2 then
      ob (if p0 = 0 then
          some 2
        else
          if p1 = 0 then
            some 2
          else
            some 1) fun (z7 : Int32) =>
      some z7
    else
      some 0
abbrev rmJ6_bitCount_0f7a4 : Room := { frames := 0, cells := 0, slots := 0, locals := 0 }
set_option maxHeartbeats 4000000 in
set_option maxRecDepth 100000 in
theorem c_J6_bitCount_0f7a4 (l : Launch) (G : gG) {p0 : Int32} {me : gM} {r0 : Int32}  (hf : f_J6_bitCount_0f7a4 p0 = some r0) : Met l yJ6_bitCount_0f7a4 wsJ6_bitCount_0f7a4 rmJ6_bitCount_0f7a4 (va_Pc [.int p0] (g_W ZC G me)) (g_Qi ZC G r0 me) 0 0 (g_A ZC G) := by
  refine Met.ofW (cc := cJ6_bitCount_0f7a4) (maxL := 1) (ret := (some .int)) (by decide) rfl ?_
  intro p e s m args below meth c s₁ B hml hv
  obtain ⟨rfl, hW0⟩ := hv
  have hC : CallFix p m c cJ6_bitCount_0f7a4 1 s ([.int p0] : List Value).toArray wsJ6_bitCount_0f7a4 RJ6 := ⟨B.exec, B.bytes, hml, findClass_of_methodNamed B.named, atoms_spec (ws := wsJ6_bitCount_0f7a4) B.pre⟩
  have hx := hC.1
  have hb := hC.2.1
  have hown := hC.2.2.2.1
  have hts := hC.2.2.2.2
  have hr := B.returns
  have hlocks := B.notSynchronized
  have hW := g_H_enter hW0
  have hl := lv_entry ([.int p0]) (n := 1) (Nat.le_of_ble_eq_true rfl)
  rw [lg_entry_eq]
  generalize (lg_sl ([.int p0]) ++ List.replicate (1 - (lg_sl ([.int p0])).length) Slot.unset).toArray = ls at hl ⊢
  have hl : lv_has ls 1 [(0, .int p0)] := hl
  obtain ⟨Q, hQ⟩ : ∃ Q, Q = MQ below (g_Qi ZC G r0 me) ([.int p0] : List Value).toArray s 0 0 (g_A ZC G) := ⟨_, rfl⟩
  refine g_goQ hQ ?_
  unfold f_J6_bitCount_0f7a4 at hf
  refine g_start hW (fun H locs hW => ?_)
  refine lv_iload_n hx hb dJ6_bitCount_0f7a4_0 rfl (lv_at hl 0 rfl) ?_
  refine lv_iload_n hx hb dJ6_bitCount_0f7a4_1 rfl (lv_at hl 0 rfl) ?_
  refine lv_iconst (v := 1) hx hb dJ6_bitCount_0f7a4_2 (by decide) ?_
  refine lv_iushr (v := (a_ushr p0 1)) hx hb dJ6_bitCount_0f7a4_3 rfl ?_
  refine lv_ldcw (v := 1431655765) hx hb hown (hts _ (by decide +kernel : Cond.constant RJ6 265 (1431655765) ∈ wsJ6_bitCount_0f7a4)) dJ6_bitCount_0f7a4_4 ?_
  refine lv_iand hx hb dJ6_bitCount_0f7a4_7 ?_
  refine lv_isub hx hb dJ6_bitCount_0f7a4_8 ?_
  obtain ⟨x1, h9, hf⟩ := ob_inv hf
  refine g_nmi (Option.some.inj h9) ?_
  refine lv_istore_n (lv' := [(0, .int x1)]) hx hb dJ6_bitCount_0f7a4_9 rfl hl (by decide) rfl (fun ls hl => ?_)
  refine lv_iload_n hx hb dJ6_bitCount_0f7a4_10 rfl (lv_at hl 0 rfl) ?_
  refine lv_ldcw (v := 858993459) hx hb hown (hts _ (by decide +kernel : Cond.constant RJ6 266 (858993459) ∈ wsJ6_bitCount_0f7a4)) dJ6_bitCount_0f7a4_11 ?_
  refine lv_iand hx hb dJ6_bitCount_0f7a4_14 ?_
  refine lv_iload_n hx hb dJ6_bitCount_0f7a4_15 rfl (lv_at hl 0 rfl) ?_
  refine lv_iconst (v := 2) hx hb dJ6_bitCount_0f7a4_16 (by decide) ?_
  refine lv_iushr (v := (a_ushr x1 2)) hx hb dJ6_bitCount_0f7a4_17 rfl ?_
  refine lv_ldcw (v := 858993459) hx hb hown (hts _ (by decide +kernel : Cond.constant RJ6 266 (858993459) ∈ wsJ6_bitCount_0f7a4)) dJ6_bitCount_0f7a4_18 ?_
  refine lv_iand hx hb dJ6_bitCount_0f7a4_21 ?_
  refine lv_iadd hx hb dJ6_bitCount_0f7a4_22 ?_
  obtain ⟨x2, h9, hf⟩ := ob_inv hf
  refine g_nmi (Option.some.inj h9) ?_
  refine lv_istore_n (lv' := [(0, .int x2)]) hx hb dJ6_bitCount_0f7a4_23 rfl hl (by decide) rfl (fun ls hl => ?_)
  refine lv_iload_n hx hb dJ6_bitCount_0f7a4_24 rfl (lv_at hl 0 rfl) ?_
  refine lv_iload_n hx hb dJ6_bitCount_0f7a4_25 rfl (lv_at hl 0 rfl) ?_
  refine lv_iconst (v := 4) hx hb dJ6_bitCount_0f7a4_26 (by decide) ?_
  refine lv_iushr (v := (a_ushr x2 4)) hx hb dJ6_bitCount_0f7a4_27 rfl ?_
  refine lv_iadd hx hb dJ6_bitCount_0f7a4_28 ?_
  refine lv_ldcw (v := 252645135) hx hb hown (hts _ (by decide +kernel : Cond.constant RJ6 267 (252645135) ∈ wsJ6_bitCount_0f7a4)) dJ6_bitCount_0f7a4_29 ?_
  refine lv_iand hx hb dJ6_bitCount_0f7a4_32 ?_
  obtain ⟨x3, h9, hf⟩ := ob_inv hf
  refine g_nmi (Option.some.inj h9) ?_
  refine lv_istore_n (lv' := [(0, .int x3)]) hx hb dJ6_bitCount_0f7a4_33 rfl hl (by decide) rfl (fun ls hl => ?_)
  refine lv_iload_n hx hb dJ6_bitCount_0f7a4_34 rfl (lv_at hl 0 rfl) ?_
  refine lv_iload_n hx hb dJ6_bitCount_0f7a4_35 rfl (lv_at hl 0 rfl) ?_
  refine lv_bipush (v := 8) hx hb dJ6_bitCount_0f7a4_36 (by decide) ?_
  refine lv_iushr (v := (a_ushr x3 8)) hx hb dJ6_bitCount_0f7a4_38 rfl ?_
  refine lv_iadd hx hb dJ6_bitCount_0f7a4_39 ?_
  obtain ⟨x4, h9, hf⟩ := ob_inv hf
  refine g_nmi (Option.some.inj h9) ?_
  refine lv_istore_n (lv' := [(0, .int x4)]) hx hb dJ6_bitCount_0f7a4_40 rfl hl (by decide) rfl (fun ls hl => ?_)
  refine lv_iload_n hx hb dJ6_bitCount_0f7a4_41 rfl (lv_at hl 0 rfl) ?_
  refine lv_iload_n hx hb dJ6_bitCount_0f7a4_42 rfl (lv_at hl 0 rfl) ?_
  refine lv_bipush (v := 16) hx hb dJ6_bitCount_0f7a4_43 (by decide) ?_
  refine lv_iushr (v := (a_ushr x4 16)) hx hb dJ6_bitCount_0f7a4_45 rfl ?_
  refine lv_iadd hx hb dJ6_bitCount_0f7a4_46 ?_
  obtain ⟨x5, h9, hf⟩ := ob_inv hf
  refine g_nmi (Option.some.inj h9) ?_
  refine lv_istore_n (lv' := [(0, .int x5)]) hx hb dJ6_bitCount_0f7a4_47 rfl hl (by decide) rfl (fun ls hl => ?_)
  refine lv_iload_n hx hb dJ6_bitCount_0f7a4_48 rfl (lv_at hl 0 rfl) ?_
  refine lv_bipush (v := 63) hx hb dJ6_bitCount_0f7a4_49 (by decide) ?_
  refine lv_iand hx hb dJ6_bitCount_0f7a4_51 ?_
  cases hf
  subst hQ
  exact g_iret hC hW hr hlocks rfl rfl dJ6_bitCount_0f7a4_52
abbrev rmX9_isMember : Room := { frames := 0, cells := 0, slots := 0, locals := 0 }
set_option maxHeartbeats 4000000 in
set_option maxRecDepth 100000 in
theorem c_X9_isMember (l : Launch) (G : gG) {p0 : Int32} {p1 : Int32} {me : gM} {r0 : Int32}  (hf : f_X9_isMember p0 p1 = some r0) : Met l yX9_isMember wsX9_isMember rmX9_isMember (va_Pc [.int p0, .int p1] (g_W ZC G me)) (g_Qi ZC G r0 me) 0 0 (g_A ZC G) := by
  refine Met.ofW (cc := cX9_isMember) (maxL := 2) (ret := (some .boolean)) (by decide) rfl ?_
  intro p e s m args below meth c s₁ B hml hv
  obtain ⟨rfl, hW0⟩ := hv
  have hC : CallFix p m c cX9_isMember 2 s ([.int p0, .int p1] : List Value).toArray wsX9_isMember RX9 := ⟨B.exec, B.bytes, hml, findClass_of_methodNamed B.named, atoms_spec (ws := wsX9_isMember) B.pre⟩
  have hx := hC.1
  have hb := hC.2.1
  have hown := hC.2.2.2.1
  have hts := hC.2.2.2.2
  have hr := B.returns
  have hlocks := B.notSynchronized
  have hW := g_H_enter hW0
  have hl := lv_entry ([.int p0, .int p1]) (n := 2) (Nat.le_of_ble_eq_true rfl)
  rw [lg_entry_eq]
  generalize (lg_sl ([.int p0, .int p1]) ++ List.replicate (2 - (lg_sl ([.int p0, .int p1])).length) Slot.unset).toArray = ls at hl ⊢
  have hl : lv_has ls 2 [(0, .int p0), (1, .int p1)] := hl
  obtain ⟨Q, hQ⟩ : ∃ Q, Q = MQ below (g_Qi ZC G r0 me) ([.int p0, .int p1] : List Value).toArray s 0 0 (g_A ZC G) := ⟨_, rfl⟩
  refine g_goQ hQ ?_
  unfold f_X9_isMember at hf
  refine g_start hW (fun H locs hW => ?_)
  refine lv_iload_n hx hb dX9_isMember_0 rfl (lv_at hl 0 rfl) ?_
  refine lv_iload_n hx hb dX9_isMember_1 rfl (lv_at hl 1 rfl) ?_
  refine lv_ishr hx hb dX9_isMember_2 ?_
  refine lv_iconst (v := 1) hx hb dX9_isMember_3 (by decide) ?_
  refine lv_iand hx hb dX9_isMember_4 ?_
  refine lv_iconst (v := 1) hx hb dX9_isMember_5 (by decide) ?_
  obtain ⟨z2, hg, hf⟩ := ob_inv hf
  have hJ14 : ∀ (H : Heap) (locs : List Loc) (ls : Array Slot), g_H ZC G s H locs me → lv_has ls 2 [] → W p l e (headSpec wsX9_isMember rmX9_isMember).room s m ([.int p0, .int p1] : List Value).toArray below meth c H locs 0 0 Q (F0 m 14 ls [.int z2]) := by
    intro H locs ls hW hl
    obtain ⟨b3, h9, hf⟩ := ob_inv hf
    obtain ⟨h9, hn9⟩ := a_zc_inv h9
    refine g_nmi h9 ?_
    cases hf
    subst hQ
    exact g_zret hC hW hr hlocks hn9 rfl rfl dX9_isMember_14
  replace hf := hg
  refine lv_icmp_ne (tgt := 13) hx hb dX9_isMember_6 (by decide) (fun c1 => ?_) (fun c1 => ?_)
  · have hf := a_if_f c1 hf
    refine lv_iconst (v := 0) hx hb dX9_isMember_13 (by decide) ?_
    cases hf
    exact hJ14 H locs ls hW (lv_sub hl [] rfl)
  · have hf := a_if_t c1 hf
    refine lv_iconst (v := 1) hx hb dX9_isMember_9 (by decide) ?_
    refine lv_goto (tgt := 14) hx hb dX9_isMember_10 (by decide) ?_
    cases hf
    exact hJ14 H locs ls hW (lv_sub hl [] rfl)
abbrev rmX9_spotOf : Room := { frames := 0, cells := 0, slots := 0, locals := 0 }
set_option maxHeartbeats 4000000 in
set_option maxRecDepth 100000 in
theorem c_X9_spotOf (l : Launch) (G : gG) {p0 : Int32} {p1 : Int32} {me : gM} {r0 : Int32}  (hf : f_X9_spotOf p0 p1 = some r0) : Met l yX9_spotOf wsX9_spotOf rmX9_spotOf (va_Pc [.int p0, .int p1] (g_W ZC G me)) (g_Qi ZC G r0 me) 0 0 (g_A ZC G) := by
  refine Met.ofW (cc := cX9_spotOf) (maxL := 2) (ret := (some .int)) (by decide) rfl ?_
  intro p e s m args below meth c s₁ B hml hv
  obtain ⟨rfl, hW0⟩ := hv
  have hC : CallFix p m c cX9_spotOf 2 s ([.int p0, .int p1] : List Value).toArray wsX9_spotOf RX9 := ⟨B.exec, B.bytes, hml, findClass_of_methodNamed B.named, atoms_spec (ws := wsX9_spotOf) B.pre⟩
  have hx := hC.1
  have hb := hC.2.1
  have hown := hC.2.2.2.1
  have hts := hC.2.2.2.2
  have hr := B.returns
  have hlocks := B.notSynchronized
  have hW := g_H_enter hW0
  have hl := lv_entry ([.int p0, .int p1]) (n := 2) (Nat.le_of_ble_eq_true rfl)
  rw [lg_entry_eq]
  generalize (lg_sl ([.int p0, .int p1]) ++ List.replicate (2 - (lg_sl ([.int p0, .int p1])).length) Slot.unset).toArray = ls at hl ⊢
  have hl : lv_has ls 2 [(0, .int p0), (1, .int p1)] := hl
  obtain ⟨Q, hQ⟩ : ∃ Q, Q = MQ below (g_Qi ZC G r0 me) ([.int p0, .int p1] : List Value).toArray s 0 0 (g_A ZC G) := ⟨_, rfl⟩
  refine g_goQ hQ ?_
  unfold f_X9_spotOf at hf
  refine g_start hW (fun H locs hW => ?_)
  refine lv_iload_n hx hb dX9_spotOf_0 rfl (lv_at hl 0 rfl) ?_
  refine lv_iconst (v := 4) hx hb dX9_spotOf_1 (by decide) ?_
  refine lv_imul hx hb dX9_spotOf_2 ?_
  refine lv_iload_n hx hb dX9_spotOf_3 rfl (lv_at hl 1 rfl) ?_
  refine lv_iadd hx hb dX9_spotOf_4 ?_
  cases hf
  subst hQ
  exact g_iret hC hW hr hlocks rfl rfl dX9_spotOf_5
abbrev rmX9_placeOf : Room := { frames := 1, cells := 0, slots := 0, locals := 21 }
set_option maxHeartbeats 4000000 in
set_option maxRecDepth 100000 in
theorem c_X9_placeOf (l : Launch) (G : gG) {p0 : Int32} {p1 : Int32} {p2 : Int32} {me : gM} {r0 : Int32}  (hf : f_X9_placeOf p0 p1 p2 = some r0) : Met l yX9_placeOf wsX9_placeOf rmX9_placeOf (va_Pc [.int p0, .int p1, .int p2] (g_W ZC G me)) (g_Qi ZC G r0 me) 0 0 (g_A ZC G) := by
  refine Met.ofW (cc := cX9_placeOf) (maxL := 3) (ret := (some .int)) (by decide) rfl ?_
  intro p e s m args below meth c s₁ B hml hv
  obtain ⟨rfl, hW0⟩ := hv
  have hC : CallFix p m c cX9_placeOf 3 s ([.int p0, .int p1, .int p2] : List Value).toArray wsX9_placeOf RX9 := ⟨B.exec, B.bytes, hml, findClass_of_methodNamed B.named, atoms_spec (ws := wsX9_placeOf) B.pre⟩
  have hx := hC.1
  have hb := hC.2.1
  have hown := hC.2.2.2.1
  have hts := hC.2.2.2.2
  have hr := B.returns
  have hlocks := B.notSynchronized
  have hW := g_H_enter hW0
  have hl := lv_entry ([.int p0, .int p1, .int p2]) (n := 3) (Nat.le_of_ble_eq_true rfl)
  rw [lg_entry_eq]
  generalize (lg_sl ([.int p0, .int p1, .int p2]) ++ List.replicate (3 - (lg_sl ([.int p0, .int p1, .int p2])).length) Slot.unset).toArray = ls at hl ⊢
  have hl : lv_has ls 3 [(0, .int p0), (1, .int p1), (2, .int p2)] := hl
  obtain ⟨Q, hQ⟩ : ∃ Q, Q = MQ below (g_Qi ZC G r0 me) ([.int p0, .int p1, .int p2] : List Value).toArray s 0 0 (g_A ZC G) := ⟨_, rfl⟩
  refine g_goQ hQ ?_
  unfold f_X9_placeOf at hf
  refine g_start hW (fun H locs hW => ?_)
  refine lv_iload_n hx hb dX9_placeOf_0 rfl (lv_at hl 0 rfl) ?_
  refine lv_iconst (v := 3) hx hb dX9_placeOf_1 (by decide) ?_
  refine lv_imul hx hb dX9_placeOf_2 ?_
  refine lv_iconst (v := 4) hx hb dX9_placeOf_3 (by decide) ?_
  refine lv_imul hx hb dX9_placeOf_4 ?_
  refine lv_iload_n hx hb dX9_placeOf_5 rfl (lv_at hl 1 rfl) ?_
  refine lv_iload_n hx hb dX9_placeOf_6 rfl (lv_at hl 2 rfl) ?_
  obtain ⟨r1, hg, hf⟩ := ob_inv hf
  refine g_cSi hC hW (As := [.int p1, .int p2]) (rest := [.int ((p0 * 3) * 4)]) (c_X9_spotOf l G  hg) (va_cwS 2 hts gX9_placeOf_X9_spotOf rfl rfl rfl (by decide +kernel) ⟨Nat.le_of_ble_eq_true rfl, Nat.le_of_ble_eq_true rfl⟩) rfl hl.1 rfl (Nat.le_of_ble_eq_true rfl) dX9_placeOf_7 ⟨Nat.le_of_ble_eq_true rfl, Nat.le_of_ble_eq_true rfl⟩ (fun H locs hW => ?_)
  refine lv_iadd hx hb dX9_placeOf_10 ?_
  cases hf
  subst hQ
  exact g_iret hC hW hr hlocks rfl rfl dX9_placeOf_11
abbrev rmX9_lineBegin : Room := { frames := 0, cells := 0, slots := 0, locals := 0 }
set_option maxHeartbeats 4000000 in
set_option maxRecDepth 100000 in
theorem c_X9_lineBegin (l : Launch) (G : gG) {p0 : Int32} {me : gM} {r0 : Int32}  (hf : f_X9_lineBegin p0 = some r0) : Met l yX9_lineBegin wsX9_lineBegin rmX9_lineBegin (va_Pc [.int p0] (g_W ZC G me)) (g_Qi ZC G r0 me) 0 0 (g_A ZC G) := by
  refine Met.ofW (cc := cX9_lineBegin) (maxL := 1) (ret := (some .int)) (by decide) rfl ?_
  intro p e s m args below meth c s₁ B hml hv
  obtain ⟨rfl, hW0⟩ := hv
  have hC : CallFix p m c cX9_lineBegin 1 s ([.int p0] : List Value).toArray wsX9_lineBegin RX9 := ⟨B.exec, B.bytes, hml, findClass_of_methodNamed B.named, atoms_spec (ws := wsX9_lineBegin) B.pre⟩
  have hx := hC.1
  have hb := hC.2.1
  have hown := hC.2.2.2.1
  have hts := hC.2.2.2.2
  have hr := B.returns
  have hlocks := B.notSynchronized
  have hW := g_H_enter hW0
  have hl := lv_entry ([.int p0]) (n := 1) (Nat.le_of_ble_eq_true rfl)
  rw [lg_entry_eq]
  generalize (lg_sl ([.int p0]) ++ List.replicate (1 - (lg_sl ([.int p0])).length) Slot.unset).toArray = ls at hl ⊢
  have hl : lv_has ls 1 [(0, .int p0)] := hl
  obtain ⟨Q, hQ⟩ : ∃ Q, Q = MQ below (g_Qi ZC G r0 me) ([.int p0] : List Value).toArray s 0 0 (g_A ZC G) := ⟨_, rfl⟩
  refine g_goQ hQ ?_
  unfold f_X9_lineBegin at hf
  refine g_start hW (fun H locs hW => ?_)
  refine lv_iload_n hx hb dX9_lineBegin_0 rfl (lv_at hl 0 rfl) ?_
  refine lv_iconst (v := 1) hx hb dX9_lineBegin_1 (by decide) ?_
  obtain ⟨z2, hg, hf⟩ := ob_inv hf
  have hJ10 : ∀ (H : Heap) (locs : List Loc) (ls : Array Slot), g_H ZC G s H locs me → lv_has ls 1 [] → W p l e (headSpec wsX9_lineBegin rmX9_lineBegin).room s m ([.int p0] : List Value).toArray below meth c H locs 0 0 Q (F0 m 10 ls [.int z2]) := by
    intro H locs ls hW hl
    cases hf
    subst hQ
    exact g_iret hC hW hr hlocks rfl rfl dX9_lineBegin_10
  replace hf := hg
  refine lv_icmp_ne (tgt := 9) hx hb dX9_lineBegin_2 (by decide) (fun c1 => ?_) (fun c1 => ?_)
  · have hf := a_if_f c1 hf
    refine lv_iconst (v := 0) hx hb dX9_lineBegin_9 (by decide) ?_
    cases hf
    exact hJ10 H locs ls hW (lv_sub hl [] rfl)
  · have hf := a_if_t c1 hf
    refine lv_iconst (v := 1) hx hb dX9_lineBegin_5 (by decide) ?_
    refine lv_goto (tgt := 10) hx hb dX9_lineBegin_6 (by decide) ?_
    cases hf
    exact hJ10 H locs ls hW (lv_sub hl [] rfl)
abbrev rmX9_lineEnd : Room := { frames := 0, cells := 0, slots := 0, locals := 0 }
set_option maxHeartbeats 4000000 in
set_option maxRecDepth 100000 in
theorem c_X9_lineEnd (l : Launch) (G : gG) {p0 : Int32} {me : gM} {r0 : Int32}  (hf : f_X9_lineEnd p0 = some r0) : Met l yX9_lineEnd wsX9_lineEnd rmX9_lineEnd (va_Pc [.int p0] (g_W ZC G me)) (g_Qi ZC G r0 me) 0 0 (g_A ZC G) := by
  refine Met.ofW (cc := cX9_lineEnd) (maxL := 1) (ret := (some .int)) (by decide) rfl ?_
  intro p e s m args below meth c s₁ B hml hv
  obtain ⟨rfl, hW0⟩ := hv
  have hC : CallFix p m c cX9_lineEnd 1 s ([.int p0] : List Value).toArray wsX9_lineEnd RX9 := ⟨B.exec, B.bytes, hml, findClass_of_methodNamed B.named, atoms_spec (ws := wsX9_lineEnd) B.pre⟩
  have hx := hC.1
  have hb := hC.2.1
  have hown := hC.2.2.2.1
  have hts := hC.2.2.2.2
  have hr := B.returns
  have hlocks := B.notSynchronized
  have hW := g_H_enter hW0
  have hl := lv_entry ([.int p0]) (n := 1) (Nat.le_of_ble_eq_true rfl)
  rw [lg_entry_eq]
  generalize (lg_sl ([.int p0]) ++ List.replicate (1 - (lg_sl ([.int p0])).length) Slot.unset).toArray = ls at hl ⊢
  have hl : lv_has ls 1 [(0, .int p0)] := hl
  obtain ⟨Q, hQ⟩ : ∃ Q, Q = MQ below (g_Qi ZC G r0 me) ([.int p0] : List Value).toArray s 0 0 (g_A ZC G) := ⟨_, rfl⟩
  refine g_goQ hQ ?_
  unfold f_X9_lineEnd at hf
  refine g_start hW (fun H locs hW => ?_)
  refine lv_iload_n hx hb dX9_lineEnd_0 rfl (lv_at hl 0 rfl) ?_
  obtain ⟨z2, hg, hf⟩ := ob_inv hf
  have hJ9 : ∀ (H : Heap) (locs : List Loc) (ls : Array Slot), g_H ZC G s H locs me → lv_has ls 1 [] → W p l e (headSpec wsX9_lineEnd rmX9_lineEnd).room s m ([.int p0] : List Value).toArray below meth c H locs 0 0 Q (F0 m 9 ls [.int z2]) := by
    intro H locs ls hW hl
    cases hf
    subst hQ
    exact g_iret hC hW hr hlocks rfl rfl dX9_lineEnd_9
  replace hf := hg
  refine lv_if_ne (tgt := 8) hx hb dX9_lineEnd_1 (by decide) (fun c1 => ?_) (fun c1 => ?_)
  · have hf := a_if_f c1 hf
    refine lv_iconst (v := 2) hx hb dX9_lineEnd_8 (by decide) ?_
    cases hf
    exact hJ9 H locs ls hW (lv_sub hl [] rfl)
  · have hf := a_if_t c1 hf
    refine lv_iconst (v := 1) hx hb dX9_lineEnd_4 (by decide) ?_
    refine lv_goto (tgt := 9) hx hb dX9_lineEnd_5 (by decide) ?_
    cases hf
    exact hJ9 H locs ls hW (lv_sub hl [] rfl)
abbrev rmX9_lineBetween : Room := { frames := 0, cells := 0, slots := 0, locals := 0 }
set_option maxHeartbeats 4000000 in
set_option maxRecDepth 100000 in
theorem c_X9_lineBetween (l : Launch) (G : gG) {p0 : Int32} {p1 : Int32} {me : gM} {r0 : Int32}  (hf : f_X9_lineBetween p0 p1 = some r0) : Met l yX9_lineBetween wsX9_lineBetween rmX9_lineBetween (va_Pc [.int p0, .int p1] (g_W ZC G me)) (g_Qi ZC G r0 me) 0 0 (g_A ZC G) := by
  refine Met.ofW (cc := cX9_lineBetween) (maxL := 2) (ret := (some .int)) (by decide) rfl ?_
  intro p e s m args below meth c s₁ B hml hv
  obtain ⟨rfl, hW0⟩ := hv
  have hC : CallFix p m c cX9_lineBetween 2 s ([.int p0, .int p1] : List Value).toArray wsX9_lineBetween RX9 := ⟨B.exec, B.bytes, hml, findClass_of_methodNamed B.named, atoms_spec (ws := wsX9_lineBetween) B.pre⟩
  have hx := hC.1
  have hb := hC.2.1
  have hown := hC.2.2.2.1
  have hts := hC.2.2.2.2
  have hr := B.returns
  have hlocks := B.notSynchronized
  have hW := g_H_enter hW0
  have hl := lv_entry ([.int p0, .int p1]) (n := 2) (Nat.le_of_ble_eq_true rfl)
  rw [lg_entry_eq]
  generalize (lg_sl ([.int p0, .int p1]) ++ List.replicate (2 - (lg_sl ([.int p0, .int p1])).length) Slot.unset).toArray = ls at hl ⊢
  have hl : lv_has ls 2 [(0, .int p0), (1, .int p1)] := hl
  obtain ⟨Q, hQ⟩ : ∃ Q, Q = MQ below (g_Qi ZC G r0 me) ([.int p0, .int p1] : List Value).toArray s 0 0 (g_A ZC G) := ⟨_, rfl⟩
  refine g_goQ hQ ?_
  unfold f_X9_lineBetween at hf
  refine g_start hW (fun H locs hW => ?_)
  refine lv_iload_n hx hb dX9_lineBetween_0 rfl (lv_at hl 0 rfl) ?_
  refine lv_iconst (v := 2) hx hb dX9_lineBetween_1 (by decide) ?_
  refine lv_icmp_eq (tgt := 12) hx hb dX9_lineBetween_2 (by decide) (fun c1 => ?_) (fun c1 => ?_)
  · have hf := a_if_t c1 hf
    refine lv_iload_n hx hb dX9_lineBetween_12 rfl (lv_at hl 0 rfl) ?_
    obtain ⟨z3, hg, hf⟩ := ob_inv hf
    have hJ25 : ∀ (H : Heap) (locs : List Loc) (ls : Array Slot), g_H ZC G s H locs me → lv_has ls 2 [] → W p l e (headSpec wsX9_lineBetween rmX9_lineBetween).room s m ([.int p0, .int p1] : List Value).toArray below meth c H locs 0 0 Q (F0 m 25 ls [.int z3]) := by
      intro H locs ls hW hl
      cases hf
      subst hQ
      exact g_iret hC hW hr hlocks rfl rfl dX9_lineBetween_25
    replace hf := hg
    refine lv_if_eq (tgt := 24) hx hb dX9_lineBetween_13 (by decide) (fun c2 => ?_) (fun c2 => ?_)
    · have hf := a_if_t c2 hf
      refine lv_iconst (v := 2) hx hb dX9_lineBetween_24 (by decide) ?_
      cases hf
      exact hJ25 H locs ls hW (lv_sub hl [] rfl)
    · have hf := a_if_f c2 hf
      refine lv_iload_n hx hb dX9_lineBetween_16 rfl (lv_at hl 1 rfl) ?_
      refine lv_if_eq (tgt := 24) hx hb dX9_lineBetween_17 (by decide) (fun c4 => ?_) (fun c4 => ?_)
      · have hf := a_if_t c4 hf
        refine lv_iconst (v := 2) hx hb dX9_lineBetween_24 (by decide) ?_
        cases hf
        exact hJ25 H locs ls hW (lv_sub hl [] rfl)
      · have hf := a_if_f c4 hf
        refine lv_iconst (v := 1) hx hb dX9_lineBetween_20 (by decide) ?_
        refine lv_goto (tgt := 25) hx hb dX9_lineBetween_21 (by decide) ?_
        cases hf
        exact hJ25 H locs ls hW (lv_sub hl [] rfl)
  · have hf := a_if_f c1 hf
    refine lv_iload_n hx hb dX9_lineBetween_5 rfl (lv_at hl 1 rfl) ?_
    refine lv_iconst (v := 2) hx hb dX9_lineBetween_6 (by decide) ?_
    refine lv_icmp_eq (tgt := 12) hx hb dX9_lineBetween_7 (by decide) (fun c5 => ?_) (fun c5 => ?_)
    · have hf := a_if_t c5 hf
      refine lv_iload_n hx hb dX9_lineBetween_12 rfl (lv_at hl 0 rfl) ?_
      obtain ⟨z7, hg, hf⟩ := ob_inv hf
      have hJ25 : ∀ (H : Heap) (locs : List Loc) (ls : Array Slot), g_H ZC G s H locs me → lv_has ls 2 [] → W p l e (headSpec wsX9_lineBetween rmX9_lineBetween).room s m ([.int p0, .int p1] : List Value).toArray below meth c H locs 0 0 Q (F0 m 25 ls [.int z7]) := by
        intro H locs ls hW hl
        cases hf
        subst hQ
        exact g_iret hC hW hr hlocks rfl rfl dX9_lineBetween_25
      replace hf := hg
      refine lv_if_eq (tgt := 24) hx hb dX9_lineBetween_13 (by decide) (fun c6 => ?_) (fun c6 => ?_)
      · have hf := a_if_t c6 hf
        refine lv_iconst (v := 2) hx hb dX9_lineBetween_24 (by decide) ?_
        cases hf
        exact hJ25 H locs ls hW (lv_sub hl [] rfl)
      · have hf := a_if_f c6 hf
        refine lv_iload_n hx hb dX9_lineBetween_16 rfl (lv_at hl 1 rfl) ?_
        refine lv_if_eq (tgt := 24) hx hb dX9_lineBetween_17 (by decide) (fun c8 => ?_) (fun c8 => ?_)
        · have hf := a_if_t c8 hf
          refine lv_iconst (v := 2) hx hb dX9_lineBetween_24 (by decide) ?_
          cases hf
          exact hJ25 H locs ls hW (lv_sub hl [] rfl)
        · have hf := a_if_f c8 hf
          refine lv_iconst (v := 1) hx hb dX9_lineBetween_20 (by decide) ?_
          refine lv_goto (tgt := 25) hx hb dX9_lineBetween_21 (by decide) ?_
          cases hf
          exact hJ25 H locs ls hW (lv_sub hl [] rfl)
    · have hf := a_if_f c5 hf
      refine lv_iconst (v := 0) hx hb dX9_lineBetween_10 (by decide) ?_
      cases hf
      subst hQ
      exact g_iret hC hW hr hlocks rfl rfl dX9_lineBetween_11
