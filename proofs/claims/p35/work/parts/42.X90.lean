abbrev rm0X9_checkIndex : Room := { frames := 6, cells := 0, slots := 0, locals := 90 }
set_option maxHeartbeats 4000000 in
set_option maxRecDepth 100000 in
theorem c0_X9_checkIndex (l : Launch) (G : gG) {p0 : Int32} {p1 : Int32} {me : gM}  (hf : f_X9_checkIndex p0 p1 = some (.inr ())) : Met l yX9_checkIndex wsX9_checkIndex rm0X9_checkIndex (va_Pc [.int p0, .int p1] (g_W ZC G me)) (g_Qv ZC G me) 0 0 (g_A ZC G) := by
  refine Met.ofW (cc := cX9_checkIndex) (maxL := 2) (ret := none) (by decide) rfl ?_
  intro p e s m args below meth c s₁ B hml hv
  obtain ⟨rfl, hW0⟩ := hv
  have hC : CallFix p m c cX9_checkIndex 2 s ([.int p0, .int p1] : List Value).toArray wsX9_checkIndex RX9 := ⟨B.exec, B.bytes, hml, findClass_of_methodNamed B.named, atoms_spec (ws := wsX9_checkIndex) B.pre⟩
  have hx := hC.1
  have hb := hC.2.1
  have hown := hC.2.2.2.1
  have hts := hC.2.2.2.2
  have hr := B.returns
  have hlocks := B.notSynchronized
  have hW := g_H_enter hW0
  have hl := lv_entry ([.int p0, .int p1]) (n := 2) (Nat.le_of_ble_eq_true rfl)
  rw [lg_entry_eq]
  generalize (lg_sl ([.int p0, .int p1]) ++ List.replicate (2 - (lg_sl ([.int p0, .int p1])).length) Slot.unset).toArray = ls at hl ⊢
  have hl : lv_has ls 2 [(0, .int p0), (1, .int p1)] := hl
  obtain ⟨Q, hQ⟩ : ∃ Q, Q = MQ below (g_Qv ZC G me) ([.int p0, .int p1] : List Value).toArray s 0 0 (g_A ZC G) := ⟨_, rfl⟩
  refine g_goQ hQ ?_
  unfold f_X9_checkIndex at hf
  refine g_start hW (fun H locs hW => ?_)
  refine lv_iload_n hx hb dX9_checkIndex_0 rfl (lv_at hl 0 rfl) ?_
  refine lv_if_lt (tgt := 9) hx hb dX9_checkIndex_1 (by decide) (fun c1 => ?_) (fun c1 => ?_)
  · have hf := a_if_t c1 hf
    cases hf
  · have hf := a_if_f c1 hf
    refine lv_iload_n hx hb dX9_checkIndex_4 rfl (lv_at hl 0 rfl) ?_
    refine lv_iload_n hx hb dX9_checkIndex_5 rfl (lv_at hl 1 rfl) ?_
    refine lv_icmp_lt (tgt := 17) hx hb dX9_checkIndex_6 (by decide) (fun c2 => ?_) (fun c2 => ?_)
    · have hf := a_if_t c2 hf
      cases hf
      subst hQ
      exact g_vret hC hW hr hlocks rfl dX9_checkIndex_17
    · have hf := a_if_f c2 hf
      cases hf
abbrev rm0X9_checkRange : Room := { frames := 6, cells := 0, slots := 0, locals := 90 }
set_option maxHeartbeats 4000000 in
set_option maxRecDepth 100000 in
theorem c0_X9_checkRange (l : Launch) (G : gG) {p0 : Int32} {p1 : Int32} {p2 : Int32} {me : gM}  (hf : f_X9_checkRange p0 p1 p2 = some (.inr ())) : Met l yX9_checkRange wsX9_checkRange rm0X9_checkRange (va_Pc [.int p0, .int p1, .int p2] (g_W ZC G me)) (g_Qv ZC G me) 0 0 (g_A ZC G) := by
  refine Met.ofW (cc := cX9_checkRange) (maxL := 3) (ret := none) (by decide) rfl ?_
  intro p e s m args below meth c s₁ B hml hv
  obtain ⟨rfl, hW0⟩ := hv
  have hC : CallFix p m c cX9_checkRange 3 s ([.int p0, .int p1, .int p2] : List Value).toArray wsX9_checkRange RX9 := ⟨B.exec, B.bytes, hml, findClass_of_methodNamed B.named, atoms_spec (ws := wsX9_checkRange) B.pre⟩
  have hx := hC.1
  have hb := hC.2.1
  have hown := hC.2.2.2.1
  have hts := hC.2.2.2.2
  have hr := B.returns
  have hlocks := B.notSynchronized
  have hW := g_H_enter hW0
  have hl := lv_entry ([.int p0, .int p1, .int p2]) (n := 3) (Nat.le_of_ble_eq_true rfl)
  rw [lg_entry_eq]
  generalize (lg_sl ([.int p0, .int p1, .int p2]) ++ List.replicate (3 - (lg_sl ([.int p0, .int p1, .int p2])).length) Slot.unset).toArray = ls at hl ⊢
  have hl : lv_has ls 3 [(0, .int p0), (1, .int p1), (2, .int p2)] := hl
  obtain ⟨Q, hQ⟩ : ∃ Q, Q = MQ below (g_Qv ZC G me) ([.int p0, .int p1, .int p2] : List Value).toArray s 0 0 (g_A ZC G) := ⟨_, rfl⟩
  refine g_goQ hQ ?_
  unfold f_X9_checkRange at hf
  refine g_start hW (fun H locs hW => ?_)
  refine lv_iload_n hx hb dX9_checkRange_0 rfl (lv_at hl 0 rfl) ?_
  refine lv_iload_n hx hb dX9_checkRange_1 rfl (lv_at hl 1 rfl) ?_
  refine lv_icmp_lt (tgt := 10) hx hb dX9_checkRange_2 (by decide) (fun c1 => ?_) (fun c1 => ?_)
  · have hf := a_if_t c1 hf
    cases hf
  · have hf := a_if_f c1 hf
    refine lv_iload_n hx hb dX9_checkRange_5 rfl (lv_at hl 0 rfl) ?_
    refine lv_iload_n hx hb dX9_checkRange_6 rfl (lv_at hl 2 rfl) ?_
    refine lv_icmp_le (tgt := 18) hx hb dX9_checkRange_7 (by decide) (fun c2 => ?_) (fun c2 => ?_)
    · have hf := a_if_t c2 hf
      cases hf
      subst hQ
      exact g_vret hC hW hr hlocks rfl dX9_checkRange_18
    · have hf := a_if_f c2 hf
      cases hf
abbrev rm0X9_checkState : Room := { frames := 6, cells := 0, slots := 0, locals := 90 }
set_option maxHeartbeats 4000000 in
set_option maxRecDepth 100000 in
theorem c0_X9_checkState (l : Launch) (G : gG) {p0 : Int32} {me : gM}  (hf : f_X9_checkState p0 = some (.inr ())) : Met l yX9_checkState wsX9_checkState rm0X9_checkState (va_Pc [.int p0] (g_W ZC G me)) (g_Qv ZC G me) 0 0 (g_A ZC G) := by
  refine Met.ofW (cc := cX9_checkState) (maxL := 1) (ret := none) (by decide) rfl ?_
  intro p e s m args below meth c s₁ B hml hv
  obtain ⟨rfl, hW0⟩ := hv
  have hC : CallFix p m c cX9_checkState 1 s ([.int p0] : List Value).toArray wsX9_checkState RX9 := ⟨B.exec, B.bytes, hml, findClass_of_methodNamed B.named, atoms_spec (ws := wsX9_checkState) B.pre⟩
  have hx := hC.1
  have hb := hC.2.1
  have hown := hC.2.2.2.1
  have hts := hC.2.2.2.2
  have hr := B.returns
  have hlocks := B.notSynchronized
  have hW := g_H_enter hW0
  have hl := lv_entry ([.int p0]) (n := 1) (Nat.le_of_ble_eq_true rfl)
  rw [lg_entry_eq]
  generalize (lg_sl ([.int p0]) ++ List.replicate (1 - (lg_sl ([.int p0])).length) Slot.unset).toArray = ls at hl ⊢
  have hl : lv_has ls 1 [(0, .int p0)] := hl
  obtain ⟨Q, hQ⟩ : ∃ Q, Q = MQ below (g_Qv ZC G me) ([.int p0] : List Value).toArray s 0 0 (g_A ZC G) := ⟨_, rfl⟩
  refine g_goQ hQ ?_
  unfold f_X9_checkState at hf
  refine g_start hW (fun H locs hW => ?_)
  refine lv_iload_n hx hb dX9_checkState_0 rfl (lv_at hl 0 rfl) ?_
  refine lv_if_ne (tgt := 12) hx hb dX9_checkState_1 (by decide) (fun c1 => ?_) (fun c1 => ?_)
  · have hf := a_if_f c1 hf
    cases hf
    subst hQ
    exact g_vret hC hW hr hlocks rfl dX9_checkState_12
  · have hf := a_if_t c1 hf
    cases hf
abbrev rm0X9_deposit : Room := { frames := 7, cells := 0, slots := 0, locals := 112 }
set_option maxHeartbeats 4000000 in
set_option maxRecDepth 100000 in
theorem c0_X9_deposit (l : Launch) (G : gG) {p1 : Int32} {p2 : Int32} {me : gM} {r0 : Int32} {m0 : gM}  (hf : f_X9_deposit p1 p2 me = some (.inr (r0, m0))) : Met l yX9_deposit wsX9_deposit rm0X9_deposit (va_Pc [.ref (G.2.2.1 0), .int p1, .int p2] (g_W ZC G me)) (g_Qi ZC G r0 m0) 0 0 (g_A ZC G) := by
  refine Met.ofW (cc := cX9_deposit) (maxL := 3) (ret := (some .int)) (by decide) rfl ?_
  intro p e s m args below meth c s₁ B hml hv
  obtain ⟨rfl, hW0⟩ := hv
  have hC : CallFix p m c cX9_deposit 3 s ([.ref (G.2.2.1 0), .int p1, .int p2] : List Value).toArray wsX9_deposit RX9 := ⟨B.exec, B.bytes, hml, findClass_of_methodNamed B.named, atoms_spec (ws := wsX9_deposit) B.pre⟩
  have hx := hC.1
  have hb := hC.2.1
  have hown := hC.2.2.2.1
  have hts := hC.2.2.2.2
  have hr := B.returns
  have hlocks := B.notSynchronized
  have hW := g_H_enter hW0
  have hi0 : ∀ w ∈ wsX00, w ∈ wsX9_deposit := by decide +kernel
  have hi9 : ∀ w ∈ wsX90, w ∈ wsX9_deposit := by decide +kernel
  have hl := lv_entry ([.ref (G.2.2.1 0), .int p1, .int p2]) (n := 3) (Nat.le_of_ble_eq_true rfl)
  rw [lg_entry_eq]
  generalize (lg_sl ([.ref (G.2.2.1 0), .int p1, .int p2]) ++ List.replicate (3 - (lg_sl ([.ref (G.2.2.1 0), .int p1, .int p2])).length) Slot.unset).toArray = ls at hl ⊢
  have hl : lv_has ls 3 [(0, .ref (G.2.2.1 0)), (1, .int p1), (2, .int p2)] := hl
  obtain ⟨Q, hQ⟩ : ∃ Q, Q = MQ below (g_Qi ZC G r0 m0) ([.ref (G.2.2.1 0), .int p1, .int p2] : List Value).toArray s 0 0 (g_A ZC G) := ⟨_, rfl⟩
  refine g_goQ hQ ?_
  unfold f_X9_deposit at hf
  refine g_start hW (fun H locs hW => ?_)
  refine lv_iload_n hx hb dX9_deposit_0 rfl (lv_at hl 1 rfl) ?_
  refine lv_bipush (v := 6) hx hb dX9_deposit_1 (by decide) ?_
  obtain ⟨⟨⟩, hg, hf⟩ := ox_invR hf
  refine g_cSv hC hW (As := [.int p1, .int 6]) (rest := []) (c0_X9_checkIndex l G  hg) (va_cwS 2 hts gX9_deposit_X9_checkIndex rfl rfl rfl (by decide +kernel) ⟨Nat.le_of_ble_eq_true rfl, Nat.le_of_ble_eq_true rfl⟩) rfl hl.1 rfl (Nat.le_of_ble_eq_true rfl) dX9_deposit_3 ⟨Nat.le_of_ble_eq_true rfl, Nat.le_of_ble_eq_true rfl⟩ (fun H locs hW => ?_)
  refine lv_iload_n hx hb dX9_deposit_6 rfl (lv_at hl 2 rfl) ?_
  refine lv_iconst (v := 1) hx hb dX9_deposit_7 (by decide) ?_
  refine lv_ldc (v := 100000) hx hb hown (hts _ (by decide +kernel : Cond.constant RX9 71 (100000) ∈ wsX9_deposit)) dX9_deposit_8 ?_
  obtain ⟨⟨⟩, hg, hf⟩ := ox_invR hf
  refine g_cSv hC hW (As := [.int p2, .int 1, .int 100000]) (rest := []) (c0_X9_checkRange l G  hg) (va_cwS 3 hts gX9_deposit_X9_checkRange rfl rfl rfl (by decide +kernel) ⟨Nat.le_of_ble_eq_true rfl, Nat.le_of_ble_eq_true rfl⟩) rfl hl.1 rfl (Nat.le_of_ble_eq_true rfl) dX9_deposit_10 ⟨Nat.le_of_ble_eq_true rfl, Nat.le_of_ble_eq_true rfl⟩ (fun H locs hW => ?_)
  refine lv_aload_n hx hb dX9_deposit_13 rfl (lv_at hl 0 rfl) ?_
  refine g_getr hC hW (o := 0) (ci := 9) (k := 7) zc_k0 zc_b0 rfl hi9 (by decide) rfl (t := 65) zc_r0_7 (by decide +kernel) dX9_deposit_14 ?_
  refine g_getr hC hW (o := 65) (ci := 0) (k := 2) zc_k65 zc_b65 rfl hi0 (by decide) rfl (t := 68) zc_r65_2 (by decide +kernel) dX9_deposit_17 ?_
  refine lv_iload_n hx hb dX9_deposit_20 rfl (lv_at hl 1 rfl) ?_
  obtain ⟨v1, h9, hf⟩ := ob_inv hf
  refine g_zld hC hW zc_k68 zc_b68 zc_n68 h9 dX9_deposit_21 ?_
  obtain ⟨z3, hg, hf⟩ := ob_inv hf
  have hJ46 : ∀ (H : Heap) (locs : List Loc) (ls : Array Slot), g_H ZC G s H locs me → lv_has ls 3 [(0, .ref (G.2.2.1 0)), (1, .int p1), (2, .int p2)] → W p l e (headSpec wsX9_deposit rm0X9_deposit).room s m ([.ref (G.2.2.1 0), .int p1, .int p2] : List Value).toArray below meth c H locs 0 0 Q (F0 m 46 ls [.int z3]) := by
    intro H locs ls hW hl
    obtain ⟨⟨⟩, hg, hf⟩ := ox_invR hf
    refine g_cSv hC hW (As := [.int z3]) (rest := []) (c0_X9_checkState l G  hg) (va_cwS 1 hts gX9_deposit_X9_checkState rfl rfl rfl (by decide +kernel) ⟨Nat.le_of_ble_eq_true rfl, Nat.le_of_ble_eq_true rfl⟩) rfl hl.1 rfl (Nat.le_of_ble_eq_true rfl) dX9_deposit_46 ⟨Nat.le_of_ble_eq_true rfl, Nat.le_of_ble_eq_true rfl⟩ (fun H locs hW => ?_)
    refine lv_aload_n hx hb dX9_deposit_49 rfl (lv_at hl 0 rfl) ?_
    refine g_getr hC hW (o := 0) (ci := 9) (k := 7) zc_k0 zc_b0 rfl hi9 (by decide) rfl (t := 65) zc_r0_7 (by decide +kernel) dX9_deposit_50 ?_
    refine g_getr hC hW (o := 65) (ci := 0) (k := 1) zc_k65 zc_b65 rfl hi0 (by decide) rfl (t := 67) zc_r65_1 (by decide +kernel) dX9_deposit_53 ?_
    refine lv_iload_n hx hb dX9_deposit_56 rfl (lv_at hl 1 rfl) ?_
    refine lv_dup2_11 hx hb dX9_deposit_57 rfl rfl ?_
    obtain ⟨v6, h9, hf⟩ := ob_inv hf
    refine g_ild hC hW zc_k67 zc_b67 zc_n67 h9 dX9_deposit_58 ?_
    refine lv_iload_n hx hb dX9_deposit_59 rfl (lv_at hl 2 rfl) ?_
    refine lv_iadd hx hb dX9_deposit_60 ?_
    obtain ⟨m7, h9, hf⟩ := ob_inv hf
    refine g_ist hC hW zc_k67 zc_b67 zc_n67 h9 dX9_deposit_61 (fun H locs hW => ?_)
    refine lv_aload_n hx hb dX9_deposit_62 rfl (lv_at hl 0 rfl) ?_
    refine g_getr hC hW (o := 0) (ci := 9) (k := 7) zc_k0 zc_b0 rfl hi9 (by decide) rfl (t := 65) zc_r0_7 (by decide +kernel) dX9_deposit_63 ?_
    refine g_getr hC hW (o := 65) (ci := 0) (k := 0) zc_k65 zc_b65 rfl hi0 (by decide) rfl (t := 66) zc_r65_0 (by decide +kernel) dX9_deposit_66 ?_
    refine lv_iload_n hx hb dX9_deposit_69 rfl (lv_at hl 1 rfl) ?_
    refine lv_dup2_11 hx hb dX9_deposit_70 rfl rfl ?_
    obtain ⟨v8, h9, hf⟩ := ob_inv hf
    refine g_ild hC hW zc_k66 zc_b66 zc_n66 h9 dX9_deposit_71 ?_
    refine lv_iload_n hx hb dX9_deposit_72 rfl (lv_at hl 2 rfl) ?_
    refine lv_iadd hx hb dX9_deposit_73 ?_
    obtain ⟨m9, h9, hf⟩ := ob_inv hf
    refine g_ist hC hW zc_k66 zc_b66 zc_n66 h9 dX9_deposit_74 (fun H locs hW => ?_)
    refine lv_aload_n hx hb dX9_deposit_75 rfl (lv_at hl 0 rfl) ?_
    refine g_getr hC hW (o := 0) (ci := 9) (k := 7) zc_k0 zc_b0 rfl hi9 (by decide) rfl (t := 65) zc_r0_7 (by decide +kernel) dX9_deposit_76 ?_
    refine g_getr hC hW (o := 65) (ci := 0) (k := 0) zc_k65 zc_b65 rfl hi0 (by decide) rfl (t := 66) zc_r65_0 (by decide +kernel) dX9_deposit_79 ?_
    refine lv_iload_n hx hb dX9_deposit_82 rfl (lv_at hl 1 rfl) ?_
    obtain ⟨v10, h9, hf⟩ := ob_inv hf
    refine g_ild hC hW zc_k66 zc_b66 zc_n66 h9 dX9_deposit_83 ?_
    cases hf
    subst hQ
    exact g_iret hC hW hr hlocks rfl rfl dX9_deposit_84
  replace hf := hg
  refine lv_if_ne (tgt := 45) hx hb dX9_deposit_22 (by decide) (fun c2 => ?_) (fun c2 => ?_)
  · have hf := a_if_f c2 hf
    refine lv_iconst (v := 0) hx hb dX9_deposit_45 (by decide) ?_
    cases hf
    exact hJ46 H locs ls hW (lv_sub hl [0, 1, 2] rfl)
  · have hf := a_if_t c2 hf
    refine lv_aload_n hx hb dX9_deposit_25 rfl (lv_at hl 0 rfl) ?_
    refine g_getr hC hW (o := 0) (ci := 9) (k := 7) zc_k0 zc_b0 rfl hi9 (by decide) rfl (t := 65) zc_r0_7 (by decide +kernel) dX9_deposit_26 ?_
    refine g_getr hC hW (o := 65) (ci := 0) (k := 1) zc_k65 zc_b65 rfl hi0 (by decide) rfl (t := 67) zc_r65_1 (by decide +kernel) dX9_deposit_29 ?_
    refine lv_iload_n hx hb dX9_deposit_32 rfl (lv_at hl 1 rfl) ?_
    obtain ⟨v4, h9, hf⟩ := ob_inv hf
    refine g_ild hC hW zc_k67 zc_b67 zc_n67 h9 dX9_deposit_33 ?_
    refine lv_iload_n hx hb dX9_deposit_34 rfl (lv_at hl 2 rfl) ?_
    refine lv_iadd hx hb dX9_deposit_35 ?_
    refine lv_ldc (v := 10000000) hx hb hown (hts _ (by decide +kernel : Cond.constant RX9 84 (10000000) ∈ wsX9_deposit)) dX9_deposit_36 ?_
    refine lv_icmp_gt (tgt := 45) hx hb dX9_deposit_38 (by decide) (fun c5 => ?_) (fun c5 => ?_)
    · have hf := a_if_t c5 hf
      refine lv_iconst (v := 0) hx hb dX9_deposit_45 (by decide) ?_
      cases hf
      exact hJ46 H locs ls hW (lv_sub hl [0, 1, 2] rfl)
    · have hf := a_if_f c5 hf
      refine lv_iconst (v := 1) hx hb dX9_deposit_41 (by decide) ?_
      refine lv_goto (tgt := 46) hx hb dX9_deposit_42 (by decide) ?_
      cases hf
      exact hJ46 H locs ls hW (lv_sub hl [0, 1, 2] rfl)
abbrev rm0X9_setLimit : Room := { frames := 7, cells := 0, slots := 0, locals := 112 }
set_option maxHeartbeats 4000000 in
set_option maxRecDepth 100000 in
theorem c0_X9_setLimit (l : Launch) (G : gG) {p1 : Int32} {p2 : Int32} {me : gM} {r0 : Int32} {m0 : gM}  (hf : f_X9_setLimit p1 p2 me = some (.inr (r0, m0))) : Met l yX9_setLimit wsX9_setLimit rm0X9_setLimit (va_Pc [.ref (G.2.2.1 0), .int p1, .int p2] (g_W ZC G me)) (g_Qi ZC G r0 m0) 0 0 (g_A ZC G) := by
  refine Met.ofW (cc := cX9_setLimit) (maxL := 4) (ret := (some .int)) (by decide) rfl ?_
  intro p e s m args below meth c s₁ B hml hv
  obtain ⟨rfl, hW0⟩ := hv
  have hC : CallFix p m c cX9_setLimit 4 s ([.ref (G.2.2.1 0), .int p1, .int p2] : List Value).toArray wsX9_setLimit RX9 := ⟨B.exec, B.bytes, hml, findClass_of_methodNamed B.named, atoms_spec (ws := wsX9_setLimit) B.pre⟩
  have hx := hC.1
  have hb := hC.2.1
  have hown := hC.2.2.2.1
  have hts := hC.2.2.2.2
  have hr := B.returns
  have hlocks := B.notSynchronized
  have hW := g_H_enter hW0
  have hi6 : ∀ w ∈ wsX60, w ∈ wsX9_setLimit := by decide +kernel
  have hi9 : ∀ w ∈ wsX90, w ∈ wsX9_setLimit := by decide +kernel
  have hl := lv_entry ([.ref (G.2.2.1 0), .int p1, .int p2]) (n := 4) (Nat.le_of_ble_eq_true rfl)
  rw [lg_entry_eq]
  generalize (lg_sl ([.ref (G.2.2.1 0), .int p1, .int p2]) ++ List.replicate (4 - (lg_sl ([.ref (G.2.2.1 0), .int p1, .int p2])).length) Slot.unset).toArray = ls at hl ⊢
  have hl : lv_has ls 4 [(0, .ref (G.2.2.1 0)), (1, .int p1), (2, .int p2)] := hl
  obtain ⟨Q, hQ⟩ : ∃ Q, Q = MQ below (g_Qi ZC G r0 m0) ([.ref (G.2.2.1 0), .int p1, .int p2] : List Value).toArray s 0 0 (g_A ZC G) := ⟨_, rfl⟩
  refine g_goQ hQ ?_
  unfold f_X9_setLimit at hf
  refine g_start hW (fun H locs hW => ?_)
  refine lv_iload_n hx hb dX9_setLimit_0 rfl (lv_at hl 1 rfl) ?_
  refine lv_iconst (v := 3) hx hb dX9_setLimit_1 (by decide) ?_
  obtain ⟨⟨⟩, hg, hf⟩ := ox_invR hf
  refine g_cSv hC hW (As := [.int p1, .int 3]) (rest := []) (c0_X9_checkIndex l G  hg) (va_cwS 2 hts gX9_setLimit_X9_checkIndex rfl rfl rfl (by decide +kernel) ⟨Nat.le_of_ble_eq_true rfl, Nat.le_of_ble_eq_true rfl⟩) rfl hl.1 rfl (Nat.le_of_ble_eq_true rfl) dX9_setLimit_2 ⟨Nat.le_of_ble_eq_true rfl, Nat.le_of_ble_eq_true rfl⟩ (fun H locs hW => ?_)
  refine lv_iload_n hx hb dX9_setLimit_5 rfl (lv_at hl 2 rfl) ?_
  refine lv_iconst (v := 0) hx hb dX9_setLimit_6 (by decide) ?_
  refine lv_bipush (v := 10) hx hb dX9_setLimit_7 (by decide) ?_
  obtain ⟨⟨⟩, hg, hf⟩ := ox_invR hf
  refine g_cSv hC hW (As := [.int p2, .int 0, .int 10]) (rest := []) (c0_X9_checkRange l G  hg) (va_cwS 3 hts gX9_setLimit_X9_checkRange rfl rfl rfl (by decide +kernel) ⟨Nat.le_of_ble_eq_true rfl, Nat.le_of_ble_eq_true rfl⟩) rfl hl.1 rfl (Nat.le_of_ble_eq_true rfl) dX9_setLimit_9 ⟨Nat.le_of_ble_eq_true rfl, Nat.le_of_ble_eq_true rfl⟩ (fun H locs hW => ?_)
  refine lv_aload_n hx hb dX9_setLimit_12 rfl (lv_at hl 0 rfl) ?_
  refine g_geti hC hW (o := 0) (ci := 9) (k := 9) zc_k0 zc_b0 rfl hi9 (by decide) rfl (by decide +kernel) dX9_setLimit_13 ?_
  obtain ⟨z2, hg, hf⟩ := ob_inv hf
  have hJ24 : ∀ (H : Heap) (locs : List Loc) (ls : Array Slot), g_H ZC G s H locs me → lv_has ls 4 [(0, .ref (G.2.2.1 0)), (1, .int p1), (2, .int p2)] → W p l e (headSpec wsX9_setLimit rm0X9_setLimit).room s m ([.ref (G.2.2.1 0), .int p1, .int p2] : List Value).toArray below meth c H locs 0 0 Q (F0 m 24 ls [.int z2]) := by
    intro H locs ls hW hl
    obtain ⟨⟨⟩, hg, hf⟩ := ox_invR hf
    refine g_cSv hC hW (As := [.int z2]) (rest := []) (c0_X9_checkState l G  hg) (va_cwS 1 hts gX9_setLimit_X9_checkState rfl rfl rfl (by decide +kernel) ⟨Nat.le_of_ble_eq_true rfl, Nat.le_of_ble_eq_true rfl⟩) rfl hl.1 rfl (Nat.le_of_ble_eq_true rfl) dX9_setLimit_24 ⟨Nat.le_of_ble_eq_true rfl, Nat.le_of_ble_eq_true rfl⟩ (fun H locs hW => ?_)
    refine lv_aload_n hx hb dX9_setLimit_27 rfl (lv_at hl 0 rfl) ?_
    refine g_getr hC hW (o := 0) (ci := 9) (k := 1) zc_k0 zc_b0 rfl hi9 (by decide) rfl (t := 2) zc_r0_1 (by decide +kernel) dX9_setLimit_28 ?_
    refine g_getr hC hW (o := 2) (ci := 6) (k := 0) zc_k2 zc_b2 rfl hi6 (by decide) rfl (t := 3) zc_r2_0 (by decide +kernel) dX9_setLimit_31 ?_
    refine lv_iload_n hx hb dX9_setLimit_34 rfl (lv_at hl 1 rfl) ?_
    obtain ⟨v3, h9, hf⟩ := ob_inv hf
    refine g_ild hC hW zc_k3 zc_b3 zc_n3 h9 dX9_setLimit_35 ?_
    refine lv_istore_n (lv' := [(3, .int v3), (0, .ref (G.2.2.1 0)), (1, .int p1), (2, .int p2)]) hx hb dX9_setLimit_36 rfl hl (by decide) rfl (fun ls hl => ?_)
    refine lv_aload_n hx hb dX9_setLimit_37 rfl (lv_at hl 1 rfl) ?_
    refine g_getr hC hW (o := 0) (ci := 9) (k := 1) zc_k0 zc_b0 rfl hi9 (by decide) rfl (t := 2) zc_r0_1 (by decide +kernel) dX9_setLimit_38 ?_
    refine g_getr hC hW (o := 2) (ci := 6) (k := 0) zc_k2 zc_b2 rfl hi6 (by decide) rfl (t := 3) zc_r2_0 (by decide +kernel) dX9_setLimit_41 ?_
    refine lv_iload_n hx hb dX9_setLimit_44 rfl (lv_at hl 2 rfl) ?_
    refine lv_iload_n hx hb dX9_setLimit_45 rfl (lv_at hl 3 rfl) ?_
    obtain ⟨m4, h9, hf⟩ := ob_inv hf
    refine g_ist hC hW zc_k3 zc_b3 zc_n3 h9 dX9_setLimit_46 (fun H locs hW => ?_)
    refine lv_iload_n hx hb dX9_setLimit_47 rfl (lv_at hl 0 rfl) ?_
    cases hf
    subst hQ
    exact g_iret hC hW hr hlocks rfl rfl dX9_setLimit_48
  replace hf := hg
  refine lv_if_ne (tgt := 23) hx hb dX9_setLimit_16 (by decide) (fun c1 => ?_) (fun c1 => ?_)
  · have hf := a_if_f c1 hf
    refine lv_iconst (v := 0) hx hb dX9_setLimit_23 (by decide) ?_
    cases hf
    exact hJ24 H locs ls hW (lv_sub hl [0, 1, 2] rfl)
  · have hf := a_if_t c1 hf
    refine lv_iconst (v := 1) hx hb dX9_setLimit_19 (by decide) ?_
    refine lv_goto (tgt := 24) hx hb dX9_setLimit_20 (by decide) ?_
    cases hf
    exact hJ24 H locs ls hW (lv_sub hl [0, 1, 2] rfl)
abbrev rm0X9_bid : Room := { frames := 7, cells := 0, slots := 0, locals := 112 }
set_option maxHeartbeats 4000000 in
set_option maxRecDepth 100000 in
theorem c0_X9_bid (l : Launch) (G : gG) {p1 : Int32} {p2 : Int32} {p3 : Int32} {p4 : Int32} {p5 : Int32} {p6 : Int32} {me : gM} {r0 : Int32} {m0 : gM}  (hf : f_X9_bid p1 p2 p3 p4 p5 p6 me = some (.inr (r0, m0))) : Met l yX9_bid wsX9_bid rm0X9_bid (va_Pc [.ref (G.2.2.1 0), .int p1, .int p2, .int p3, .int p4, .int p5, .int p6] (g_W ZC G me)) (g_Qi ZC G r0 m0) 0 0 (g_A ZC G) := by
  refine Met.ofW (cc := cX9_bid) (maxL := 7) (ret := (some .int)) (by decide) rfl ?_
  intro p e s m args below meth c s₁ B hml hv
  obtain ⟨rfl, hW0⟩ := hv
  have hC : CallFix p m c cX9_bid 7 s ([.ref (G.2.2.1 0), .int p1, .int p2, .int p3, .int p4, .int p5, .int p6] : List Value).toArray wsX9_bid RX9 := ⟨B.exec, B.bytes, hml, findClass_of_methodNamed B.named, atoms_spec (ws := wsX9_bid) B.pre⟩
  have hx := hC.1
  have hb := hC.2.1
  have hown := hC.2.2.2.1
  have hts := hC.2.2.2.2
  have hr := B.returns
  have hlocks := B.notSynchronized
  have hW := g_H_enter hW0
  have hi0 : ∀ w ∈ wsX00, w ∈ wsX9_bid := by decide +kernel
  have hi9 : ∀ w ∈ wsX90, w ∈ wsX9_bid := by decide +kernel
  have hl := lv_entry ([.ref (G.2.2.1 0), .int p1, .int p2, .int p3, .int p4, .int p5, .int p6]) (n := 7) (Nat.le_of_ble_eq_true rfl)
  rw [lg_entry_eq]
  generalize (lg_sl ([.ref (G.2.2.1 0), .int p1, .int p2, .int p3, .int p4, .int p5, .int p6]) ++ List.replicate (7 - (lg_sl ([.ref (G.2.2.1 0), .int p1, .int p2, .int p3, .int p4, .int p5, .int p6])).length) Slot.unset).toArray = ls at hl ⊢
  have hl : lv_has ls 7 [(0, .ref (G.2.2.1 0)), (1, .int p1), (2, .int p2), (3, .int p3), (4, .int p4), (5, .int p5), (6, .int p6)] := hl
  obtain ⟨Q, hQ⟩ : ∃ Q, Q = MQ below (g_Qi ZC G r0 m0) ([.ref (G.2.2.1 0), .int p1, .int p2, .int p3, .int p4, .int p5, .int p6] : List Value).toArray s 0 0 (g_A ZC G) := ⟨_, rfl⟩
  refine g_goQ hQ ?_
  unfold f_X9_bid at hf
  refine g_start hW (fun H locs hW => ?_)
  refine lv_iload_n hx hb dX9_bid_0 rfl (lv_at hl 1 rfl) ?_
  refine lv_bipush (v := 6) hx hb dX9_bid_1 (by decide) ?_
  obtain ⟨⟨⟩, hg, hf⟩ := ox_invR hf
  refine g_cSv hC hW (As := [.int p1, .int 6]) (rest := []) (c0_X9_checkIndex l G  hg) (va_cwS 2 hts gX9_bid_X9_checkIndex rfl rfl rfl (by decide +kernel) ⟨Nat.le_of_ble_eq_true rfl, Nat.le_of_ble_eq_true rfl⟩) rfl hl.1 rfl (Nat.le_of_ble_eq_true rfl) dX9_bid_3 ⟨Nat.le_of_ble_eq_true rfl, Nat.le_of_ble_eq_true rfl⟩ (fun H locs hW => ?_)
  refine lv_iload_n hx hb dX9_bid_6 rfl (lv_at hl 2 rfl) ?_
  refine lv_iconst (v := 3) hx hb dX9_bid_7 (by decide) ?_
  obtain ⟨⟨⟩, hg, hf⟩ := ox_invR hf
  refine g_cSv hC hW (As := [.int p2, .int 3]) (rest := []) (c0_X9_checkIndex l G  hg) (va_cwS 2 hts gX9_bid_X9_checkIndex rfl rfl rfl (by decide +kernel) ⟨Nat.le_of_ble_eq_true rfl, Nat.le_of_ble_eq_true rfl⟩) rfl hl.1 rfl (Nat.le_of_ble_eq_true rfl) dX9_bid_8 ⟨Nat.le_of_ble_eq_true rfl, Nat.le_of_ble_eq_true rfl⟩ (fun H locs hW => ?_)
  refine lv_iload_n hx hb dX9_bid_11 rfl (lv_at hl 3 rfl) ?_
  refine lv_iconst (v := 4) hx hb dX9_bid_12 (by decide) ?_
  obtain ⟨⟨⟩, hg, hf⟩ := ox_invR hf
  refine g_cSv hC hW (As := [.int p3, .int 4]) (rest := []) (c0_X9_checkIndex l G  hg) (va_cwS 2 hts gX9_bid_X9_checkIndex rfl rfl rfl (by decide +kernel) ⟨Nat.le_of_ble_eq_true rfl, Nat.le_of_ble_eq_true rfl⟩) rfl hl.1 rfl (Nat.le_of_ble_eq_true rfl) dX9_bid_13 ⟨Nat.le_of_ble_eq_true rfl, Nat.le_of_ble_eq_true rfl⟩ (fun H locs hW => ?_)
  refine lv_iload hx hb dX9_bid_16 (lv_at hl 5 rfl) ?_
  refine lv_iconst (v := 0) hx hb dX9_bid_18 (by decide) ?_
  refine lv_sipush (v := 200) hx hb dX9_bid_19 (by decide) ?_
  obtain ⟨⟨⟩, hg, hf⟩ := ox_invR hf
  refine g_cSv hC hW (As := [.int p5, .int 0, .int 200]) (rest := []) (c0_X9_checkRange l G  hg) (va_cwS 3 hts gX9_bid_X9_checkRange rfl rfl rfl (by decide +kernel) ⟨Nat.le_of_ble_eq_true rfl, Nat.le_of_ble_eq_true rfl⟩) rfl hl.1 rfl (Nat.le_of_ble_eq_true rfl) dX9_bid_22 ⟨Nat.le_of_ble_eq_true rfl, Nat.le_of_ble_eq_true rfl⟩ (fun H locs hW => ?_)
  refine lv_iload hx hb dX9_bid_25 (lv_at hl 6 rfl) ?_
  refine lv_iconst (v := 1) hx hb dX9_bid_27 (by decide) ?_
  refine lv_bipush (v := 10) hx hb dX9_bid_28 (by decide) ?_
  obtain ⟨⟨⟩, hg, hf⟩ := ox_invR hf
  refine g_cSv hC hW (As := [.int p6, .int 1, .int 10]) (rest := []) (c0_X9_checkRange l G  hg) (va_cwS 3 hts gX9_bid_X9_checkRange rfl rfl rfl (by decide +kernel) ⟨Nat.le_of_ble_eq_true rfl, Nat.le_of_ble_eq_true rfl⟩) rfl hl.1 rfl (Nat.le_of_ble_eq_true rfl) dX9_bid_30 ⟨Nat.le_of_ble_eq_true rfl, Nat.le_of_ble_eq_true rfl⟩ (fun H locs hW => ?_)
  refine lv_aload_n hx hb dX9_bid_33 rfl (lv_at hl 0 rfl) ?_
  refine g_getr hC hW (o := 0) (ci := 9) (k := 7) zc_k0 zc_b0 rfl hi9 (by decide) rfl (t := 65) zc_r0_7 (by decide +kernel) dX9_bid_34 ?_
  refine g_getr hC hW (o := 65) (ci := 0) (k := 2) zc_k65 zc_b65 rfl hi0 (by decide) rfl (t := 68) zc_r65_2 (by decide +kernel) dX9_bid_37 ?_
  refine lv_iload_n hx hb dX9_bid_40 rfl (lv_at hl 1 rfl) ?_
  obtain ⟨v1, h9, hf⟩ := ob_inv hf
  refine g_zld hC hW zc_k68 zc_b68 zc_n68 h9 dX9_bid_41 ?_
  obtain ⟨z3, hg, hf⟩ := ob_inv hf
  have hJ67 : ∀ (H : Heap) (locs : List Loc) (ls : Array Slot), g_H ZC G s H locs me → lv_has ls 7 [(0, .ref (G.2.2.1 0)), (1, .int p1), (2, .int p2), (3, .int p3), (4, .int p4), (5, .int p5), (6, .int p6)] → W p l e (headSpec wsX9_bid rm0X9_bid).room s m ([.ref (G.2.2.1 0), .int p1, .int p2, .int p3, .int p4, .int p5, .int p6] : List Value).toArray below meth c H locs 0 0 Q (F0 m 67 ls [.int z3]) := by
    intro H locs ls hW hl
    obtain ⟨⟨⟩, hg, hf⟩ := ox_invR hf
    refine g_cSv hC hW (As := [.int z3]) (rest := []) (c0_X9_checkState l G  hg) (va_cwS 1 hts gX9_bid_X9_checkState rfl rfl rfl (by decide +kernel) ⟨Nat.le_of_ble_eq_true rfl, Nat.le_of_ble_eq_true rfl⟩) rfl hl.1 rfl (Nat.le_of_ble_eq_true rfl) dX9_bid_67 ⟨Nat.le_of_ble_eq_true rfl, Nat.le_of_ble_eq_true rfl⟩ (fun H locs hW => ?_)
    refine lv_aload_n hx hb dX9_bid_70 rfl (lv_at hl 0 rfl) ?_
    refine g_getr hC hW (o := 0) (ci := 9) (k := 2) zc_k0 zc_b0 rfl hi9 (by decide) rfl (t := 4) zc_r0_2 (by decide +kernel) dX9_bid_71 ?_
    refine lv_iload_n hx hb dX9_bid_74 rfl (lv_at hl 1 rfl) ?_
    refine lv_iload_n hx hb dX9_bid_75 rfl (lv_at hl 2 rfl) ?_
    refine lv_iload_n hx hb dX9_bid_76 rfl (lv_at hl 3 rfl) ?_
    refine lv_iload hx hb dX9_bid_77 (lv_at hl 4 rfl) ?_
    refine lv_iload hx hb dX9_bid_79 (lv_at hl 5 rfl) ?_
    refine lv_iload hx hb dX9_bid_81 (lv_at hl 6 rfl) ?_
    obtain ⟨⟨r7, m8⟩, hg, hf⟩ := ob_inv hf
    have hf := ob_inv2 hf
    refine g_cVi hC hW (o := 4) (ci := 8) (As := [.int p1, .int p2, .int p3, .int p4, .int p5, .int p6]) (rest := []) zc_k4 zc_b4 rfl (c_X8_add l G zc_k4 hg) (cwV 6 hts gX9_bid_X8_add rfl rfl rfl (by decide +kernel) ⟨Nat.le_of_ble_eq_true rfl, Nat.le_of_ble_eq_true rfl⟩) rfl hl.1 rfl (Nat.le_of_ble_eq_true rfl) dX9_bid_83 ⟨Nat.le_of_ble_eq_true rfl, Nat.le_of_ble_eq_true rfl⟩ (fun H locs hW => ?_)
    cases hf
    subst hQ
    exact g_iret hC hW hr hlocks rfl rfl dX9_bid_86
  replace hf := hg
  refine lv_if_ne (tgt := 66) hx hb dX9_bid_42 (by decide) (fun c2 => ?_) (fun c2 => ?_)
  · have hf := a_if_f c2 hf
    refine lv_iconst (v := 0) hx hb dX9_bid_66 (by decide) ?_
    cases hf
    exact hJ67 H locs ls hW (lv_sub hl [0, 1, 2, 3, 4, 5, 6] rfl)
  · have hf := a_if_t c2 hf
    refine lv_aload_n hx hb dX9_bid_45 rfl (lv_at hl 0 rfl) ?_
    refine g_geti hC hW (o := 0) (ci := 9) (k := 9) zc_k0 zc_b0 rfl hi9 (by decide) rfl (by decide +kernel) dX9_bid_46 ?_
    refine lv_if_ne (tgt := 66) hx hb dX9_bid_49 (by decide) (fun c4 => ?_) (fun c4 => ?_)
    · have hf := a_if_f c4 hf
      refine lv_iconst (v := 0) hx hb dX9_bid_66 (by decide) ?_
      cases hf
      exact hJ67 H locs ls hW (lv_sub hl [0, 1, 2, 3, 4, 5, 6] rfl)
    · have hf := a_if_t c4 hf
      refine lv_aload_n hx hb dX9_bid_52 rfl (lv_at hl 0 rfl) ?_
      refine g_getr hC hW (o := 0) (ci := 9) (k := 2) zc_k0 zc_b0 rfl hi9 (by decide) rfl (t := 4) zc_r0_2 (by decide +kernel) dX9_bid_53 ?_
      obtain ⟨r5, hg, hf⟩ := ob_inv hf
      refine g_cVi hC hW (o := 4) (ci := 8) (As := []) (rest := []) zc_k4 zc_b4 rfl (c_X8_hasRoom l G zc_k4 hg) (cwV 0 hts gX9_bid_X8_hasRoom rfl rfl rfl (by decide +kernel) ⟨Nat.le_of_ble_eq_true rfl, Nat.le_of_ble_eq_true rfl⟩) rfl hl.1 rfl (Nat.le_of_ble_eq_true rfl) dX9_bid_56 ⟨Nat.le_of_ble_eq_true rfl, Nat.le_of_ble_eq_true rfl⟩ (fun H locs hW => ?_)
      refine lv_if_eq (tgt := 66) hx hb dX9_bid_59 (by decide) (fun c6 => ?_) (fun c6 => ?_)
      · have hf := a_if_t c6 hf
        refine lv_iconst (v := 0) hx hb dX9_bid_66 (by decide) ?_
        cases hf
        exact hJ67 H locs ls hW (lv_sub hl [0, 1, 2, 3, 4, 5, 6] rfl)
      · have hf := a_if_f c6 hf
        refine lv_iconst (v := 1) hx hb dX9_bid_62 (by decide) ?_
        refine lv_goto (tgt := 67) hx hb dX9_bid_63 (by decide) ?_
        cases hf
        exact hJ67 H locs ls hW (lv_sub hl [0, 1, 2, 3, 4, 5, 6] rfl)
abbrev rm0X9_block : Room := { frames := 7, cells := 0, slots := 0, locals := 112 }
set_option maxHeartbeats 4000000 in
set_option maxRecDepth 100000 in
theorem c0_X9_block (l : Launch) (G : gG) {p1 : Int32} {p2 : Int32} {p3 : Int32} {p4 : Int32} {p5 : Int32} {p6 : Int32} {me : gM} {r0 : Int32} {m0 : gM}  (hf : f_X9_block p1 p2 p3 p4 p5 p6 me = some (.inr (r0, m0))) : Met l yX9_block wsX9_block rm0X9_block (va_Pc [.ref (G.2.2.1 0), .int p1, .int p2, .int p3, .int p4, .int p5, .int p6] (g_W ZC G me)) (g_Qi ZC G r0 m0) 0 0 (g_A ZC G) := by
  refine Met.ofW (cc := cX9_block) (maxL := 7) (ret := (some .int)) (by decide) rfl ?_
  intro p e s m args below meth c s₁ B hml hv
  obtain ⟨rfl, hW0⟩ := hv
  have hC : CallFix p m c cX9_block 7 s ([.ref (G.2.2.1 0), .int p1, .int p2, .int p3, .int p4, .int p5, .int p6] : List Value).toArray wsX9_block RX9 := ⟨B.exec, B.bytes, hml, findClass_of_methodNamed B.named, atoms_spec (ws := wsX9_block) B.pre⟩
  have hx := hC.1
  have hb := hC.2.1
  have hown := hC.2.2.2.1
  have hts := hC.2.2.2.2
  have hr := B.returns
  have hlocks := B.notSynchronized
  have hW := g_H_enter hW0
  have hi0 : ∀ w ∈ wsX00, w ∈ wsX9_block := by decide +kernel
  have hi2 : ∀ w ∈ wsX20, w ∈ wsX9_block := by decide +kernel
  have hi9 : ∀ w ∈ wsX90, w ∈ wsX9_block := by decide +kernel
  have hl := lv_entry ([.ref (G.2.2.1 0), .int p1, .int p2, .int p3, .int p4, .int p5, .int p6]) (n := 7) (Nat.le_of_ble_eq_true rfl)
  rw [lg_entry_eq]
  generalize (lg_sl ([.ref (G.2.2.1 0), .int p1, .int p2, .int p3, .int p4, .int p5, .int p6]) ++ List.replicate (7 - (lg_sl ([.ref (G.2.2.1 0), .int p1, .int p2, .int p3, .int p4, .int p5, .int p6])).length) Slot.unset).toArray = ls at hl ⊢
  have hl : lv_has ls 7 [(0, .ref (G.2.2.1 0)), (1, .int p1), (2, .int p2), (3, .int p3), (4, .int p4), (5, .int p5), (6, .int p6)] := hl
  obtain ⟨Q, hQ⟩ : ∃ Q, Q = MQ below (g_Qi ZC G r0 m0) ([.ref (G.2.2.1 0), .int p1, .int p2, .int p3, .int p4, .int p5, .int p6] : List Value).toArray s 0 0 (g_A ZC G) := ⟨_, rfl⟩
  refine g_goQ hQ ?_
  unfold f_X9_block at hf
  refine g_start hW (fun H locs hW => ?_)
  refine lv_iload_n hx hb dX9_block_0 rfl (lv_at hl 1 rfl) ?_
  refine lv_bipush (v := 6) hx hb dX9_block_1 (by decide) ?_
  obtain ⟨⟨⟩, hg, hf⟩ := ox_invR hf
  refine g_cSv hC hW (As := [.int p1, .int 6]) (rest := []) (c0_X9_checkIndex l G  hg) (va_cwS 2 hts gX9_block_X9_checkIndex rfl rfl rfl (by decide +kernel) ⟨Nat.le_of_ble_eq_true rfl, Nat.le_of_ble_eq_true rfl⟩) rfl hl.1 rfl (Nat.le_of_ble_eq_true rfl) dX9_block_3 ⟨Nat.le_of_ble_eq_true rfl, Nat.le_of_ble_eq_true rfl⟩ (fun H locs hW => ?_)
  refine lv_iload_n hx hb dX9_block_6 rfl (lv_at hl 2 rfl) ?_
  refine lv_iconst (v := 3) hx hb dX9_block_7 (by decide) ?_
  obtain ⟨⟨⟩, hg, hf⟩ := ox_invR hf
  refine g_cSv hC hW (As := [.int p2, .int 3]) (rest := []) (c0_X9_checkIndex l G  hg) (va_cwS 2 hts gX9_block_X9_checkIndex rfl rfl rfl (by decide +kernel) ⟨Nat.le_of_ble_eq_true rfl, Nat.le_of_ble_eq_true rfl⟩) rfl hl.1 rfl (Nat.le_of_ble_eq_true rfl) dX9_block_8 ⟨Nat.le_of_ble_eq_true rfl, Nat.le_of_ble_eq_true rfl⟩ (fun H locs hW => ?_)
  refine lv_iload_n hx hb dX9_block_11 rfl (lv_at hl 3 rfl) ?_
  refine lv_iconst (v := 1) hx hb dX9_block_12 (by decide) ?_
  refine lv_bipush (v := 15) hx hb dX9_block_13 (by decide) ?_
  obtain ⟨⟨⟩, hg, hf⟩ := ox_invR hf
  refine g_cSv hC hW (As := [.int p3, .int 1, .int 15]) (rest := []) (c0_X9_checkRange l G  hg) (va_cwS 3 hts gX9_block_X9_checkRange rfl rfl rfl (by decide +kernel) ⟨Nat.le_of_ble_eq_true rfl, Nat.le_of_ble_eq_true rfl⟩) rfl hl.1 rfl (Nat.le_of_ble_eq_true rfl) dX9_block_15 ⟨Nat.le_of_ble_eq_true rfl, Nat.le_of_ble_eq_true rfl⟩ (fun H locs hW => ?_)
  refine lv_iload hx hb dX9_block_18 (lv_at hl 5 rfl) ?_
  refine lv_iconst (v := 0) hx hb dX9_block_20 (by decide) ?_
  refine lv_sipush (v := 200) hx hb dX9_block_21 (by decide) ?_
  obtain ⟨⟨⟩, hg, hf⟩ := ox_invR hf
  refine g_cSv hC hW (As := [.int p5, .int 0, .int 200]) (rest := []) (c0_X9_checkRange l G  hg) (va_cwS 3 hts gX9_block_X9_checkRange rfl rfl rfl (by decide +kernel) ⟨Nat.le_of_ble_eq_true rfl, Nat.le_of_ble_eq_true rfl⟩) rfl hl.1 rfl (Nat.le_of_ble_eq_true rfl) dX9_block_24 ⟨Nat.le_of_ble_eq_true rfl, Nat.le_of_ble_eq_true rfl⟩ (fun H locs hW => ?_)
  refine lv_iload hx hb dX9_block_27 (lv_at hl 6 rfl) ?_
  refine lv_iconst (v := 1) hx hb dX9_block_29 (by decide) ?_
  refine lv_bipush (v := 10) hx hb dX9_block_30 (by decide) ?_
  obtain ⟨⟨⟩, hg, hf⟩ := ox_invR hf
  refine g_cSv hC hW (As := [.int p6, .int 1, .int 10]) (rest := []) (c0_X9_checkRange l G  hg) (va_cwS 3 hts gX9_block_X9_checkRange rfl rfl rfl (by decide +kernel) ⟨Nat.le_of_ble_eq_true rfl, Nat.le_of_ble_eq_true rfl⟩) rfl hl.1 rfl (Nat.le_of_ble_eq_true rfl) dX9_block_32 ⟨Nat.le_of_ble_eq_true rfl, Nat.le_of_ble_eq_true rfl⟩ (fun H locs hW => ?_)
  refine lv_aload_n hx hb dX9_block_35 rfl (lv_at hl 0 rfl) ?_
  refine g_getr hC hW (o := 0) (ci := 9) (k := 7) zc_k0 zc_b0 rfl hi9 (by decide) rfl (t := 65) zc_r0_7 (by decide +kernel) dX9_block_36 ?_
  refine g_getr hC hW (o := 65) (ci := 0) (k := 2) zc_k65 zc_b65 rfl hi0 (by decide) rfl (t := 68) zc_r65_2 (by decide +kernel) dX9_block_39 ?_
  refine lv_iload_n hx hb dX9_block_42 rfl (lv_at hl 1 rfl) ?_
  obtain ⟨v1, h9, hf⟩ := ob_inv hf
  refine g_zld hC hW zc_k68 zc_b68 zc_n68 h9 dX9_block_43 ?_
  obtain ⟨z3, hg, hf⟩ := ob_inv hf
  have hJ70 : ∀ (H : Heap) (locs : List Loc) (ls : Array Slot), g_H ZC G s H locs me → lv_has ls 7 [(0, .ref (G.2.2.1 0)), (1, .int p1), (2, .int p2), (3, .int p3), (4, .int p4), (5, .int p5), (6, .int p6)] → W p l e (headSpec wsX9_block rm0X9_block).room s m ([.ref (G.2.2.1 0), .int p1, .int p2, .int p3, .int p4, .int p5, .int p6] : List Value).toArray below meth c H locs 0 0 Q (F0 m 70 ls [.int z3]) := by
    intro H locs ls hW hl
    obtain ⟨⟨⟩, hg, hf⟩ := ox_invR hf
    refine g_cSv hC hW (As := [.int z3]) (rest := []) (c0_X9_checkState l G  hg) (va_cwS 1 hts gX9_block_X9_checkState rfl rfl rfl (by decide +kernel) ⟨Nat.le_of_ble_eq_true rfl, Nat.le_of_ble_eq_true rfl⟩) rfl hl.1 rfl (Nat.le_of_ble_eq_true rfl) dX9_block_70 ⟨Nat.le_of_ble_eq_true rfl, Nat.le_of_ble_eq_true rfl⟩ (fun H locs hW => ?_)
    refine lv_aload_n hx hb dX9_block_73 rfl (lv_at hl 0 rfl) ?_
    refine g_getr hC hW (o := 0) (ci := 9) (k := 3) zc_k0 zc_b0 rfl hi9 (by decide) rfl (t := 13) zc_r0_3 (by decide +kernel) dX9_block_74 ?_
    refine lv_iload_n hx hb dX9_block_77 rfl (lv_at hl 1 rfl) ?_
    refine lv_iload_n hx hb dX9_block_78 rfl (lv_at hl 2 rfl) ?_
    refine lv_iload_n hx hb dX9_block_79 rfl (lv_at hl 3 rfl) ?_
    refine lv_iload hx hb dX9_block_80 (lv_at hl 4 rfl) ?_
    refine lv_iload hx hb dX9_block_82 (lv_at hl 5 rfl) ?_
    refine lv_iload hx hb dX9_block_84 (lv_at hl 6 rfl) ?_
    obtain ⟨⟨r6, m7⟩, hg, hf⟩ := ob_inv hf
    have hf := ob_inv2 hf
    refine g_cVi hC hW (o := 13) (ci := 2) (As := [.int p1, .int p2, .int p3, .int p4, .int p5, .int p6]) (rest := []) zc_k13 zc_b13 rfl (c_X2_add l G  hg) (cwV 6 hts gX9_block_X2_add rfl rfl rfl (by decide +kernel) ⟨Nat.le_of_ble_eq_true rfl, Nat.le_of_ble_eq_true rfl⟩) rfl hl.1 rfl (Nat.le_of_ble_eq_true rfl) dX9_block_86 ⟨Nat.le_of_ble_eq_true rfl, Nat.le_of_ble_eq_true rfl⟩ (fun H locs hW => ?_)
    cases hf
    subst hQ
    exact g_iret hC hW hr hlocks rfl rfl dX9_block_89
  replace hf := hg
  refine lv_if_ne (tgt := 69) hx hb dX9_block_44 (by decide) (fun c2 => ?_) (fun c2 => ?_)
  · have hf := a_if_f c2 hf
    refine lv_iconst (v := 0) hx hb dX9_block_69 (by decide) ?_
    cases hf
    exact hJ70 H locs ls hW (lv_sub hl [0, 1, 2, 3, 4, 5, 6] rfl)
  · have hf := a_if_t c2 hf
    refine lv_aload_n hx hb dX9_block_47 rfl (lv_at hl 0 rfl) ?_
    refine g_geti hC hW (o := 0) (ci := 9) (k := 9) zc_k0 zc_b0 rfl hi9 (by decide) rfl (by decide +kernel) dX9_block_48 ?_
    refine lv_if_ne (tgt := 69) hx hb dX9_block_51 (by decide) (fun c4 => ?_) (fun c4 => ?_)
    · have hf := a_if_f c4 hf
      refine lv_iconst (v := 0) hx hb dX9_block_69 (by decide) ?_
      cases hf
      exact hJ70 H locs ls hW (lv_sub hl [0, 1, 2, 3, 4, 5, 6] rfl)
    · have hf := a_if_t c4 hf
      refine lv_aload_n hx hb dX9_block_54 rfl (lv_at hl 0 rfl) ?_
      refine g_getr hC hW (o := 0) (ci := 9) (k := 3) zc_k0 zc_b0 rfl hi9 (by decide) rfl (t := 13) zc_r0_3 (by decide +kernel) dX9_block_55 ?_
      refine g_geti hC hW (o := 13) (ci := 2) (k := 8) zc_k13 zc_b13 rfl hi2 (by decide) rfl (by decide +kernel) dX9_block_58 ?_
      refine lv_iconst (v := 5) hx hb dX9_block_61 (by decide) ?_
      refine lv_icmp_ge (tgt := 69) hx hb dX9_block_62 (by decide) (fun c5 => ?_) (fun c5 => ?_)
      · have hf := a_if_t c5 hf
        refine lv_iconst (v := 0) hx hb dX9_block_69 (by decide) ?_
        cases hf
        exact hJ70 H locs ls hW (lv_sub hl [0, 1, 2, 3, 4, 5, 6] rfl)
      · have hf := a_if_f c5 hf
        refine lv_iconst (v := 1) hx hb dX9_block_65 (by decide) ?_
        refine lv_goto (tgt := 70) hx hb dX9_block_66 (by decide) ?_
        cases hf
        exact hJ70 H locs ls hW (lv_sub hl [0, 1, 2, 3, 4, 5, 6] rfl)
abbrev rm0X9_link : Room := { frames := 7, cells := 0, slots := 0, locals := 112 }
set_option maxHeartbeats 4000000 in
set_option maxRecDepth 100000 in
theorem c0_X9_link (l : Launch) (G : gG) {p1 : Int32} {p2 : Int32} {p3 : Int32} {me : gM} {m0 : gM}  (hf : f_X9_link p1 p2 p3 me = some (.inr m0)) : Met l yX9_link wsX9_link rm0X9_link (va_Pc [.ref (G.2.2.1 0), .int p1, .int p2, .int p3] (g_W ZC G me)) (g_Qv ZC G m0) 0 0 (g_A ZC G) := by
  refine Met.ofW (cc := cX9_link) (maxL := 4) (ret := none) (by decide) rfl ?_
  intro p e s m args below meth c s₁ B hml hv
  obtain ⟨rfl, hW0⟩ := hv
  have hC : CallFix p m c cX9_link 4 s ([.ref (G.2.2.1 0), .int p1, .int p2, .int p3] : List Value).toArray wsX9_link RX9 := ⟨B.exec, B.bytes, hml, findClass_of_methodNamed B.named, atoms_spec (ws := wsX9_link) B.pre⟩
  have hx := hC.1
  have hb := hC.2.1
  have hown := hC.2.2.2.1
  have hts := hC.2.2.2.2
  have hr := B.returns
  have hlocks := B.notSynchronized
  have hW := g_H_enter hW0
  have hi2 : ∀ w ∈ wsX20, w ∈ wsX9_link := by decide +kernel
  have hi9 : ∀ w ∈ wsX90, w ∈ wsX9_link := by decide +kernel
  have hl := lv_entry ([.ref (G.2.2.1 0), .int p1, .int p2, .int p3]) (n := 4) (Nat.le_of_ble_eq_true rfl)
  rw [lg_entry_eq]
  generalize (lg_sl ([.ref (G.2.2.1 0), .int p1, .int p2, .int p3]) ++ List.replicate (4 - (lg_sl ([.ref (G.2.2.1 0), .int p1, .int p2, .int p3])).length) Slot.unset).toArray = ls at hl ⊢
  have hl : lv_has ls 4 [(0, .ref (G.2.2.1 0)), (1, .int p1), (2, .int p2), (3, .int p3)] := hl
  obtain ⟨Q, hQ⟩ : ∃ Q, Q = MQ below (g_Qv ZC G m0) ([.ref (G.2.2.1 0), .int p1, .int p2, .int p3] : List Value).toArray s 0 0 (g_A ZC G) := ⟨_, rfl⟩
  refine g_goQ hQ ?_
  unfold f_X9_link at hf
  refine g_start hW (fun H locs hW => ?_)
  refine lv_iload_n hx hb dX9_link_0 rfl (lv_at hl 1 rfl) ?_
  refine lv_aload_n hx hb dX9_link_1 rfl (lv_at hl 0 rfl) ?_
  refine g_getr hC hW (o := 0) (ci := 9) (k := 3) zc_k0 zc_b0 rfl hi9 (by decide) rfl (t := 13) zc_r0_3 (by decide +kernel) dX9_link_2 ?_
  refine g_geti hC hW (o := 13) (ci := 2) (k := 8) zc_k13 zc_b13 rfl hi2 (by decide) rfl (by decide +kernel) dX9_link_5 ?_
  obtain ⟨⟨⟩, hg, hf⟩ := ox_invR hf
  refine g_cSv hC hW (As := [.int p1, .int (me 13 8)]) (rest := []) (c0_X9_checkIndex l G  hg) (va_cwS 2 hts gX9_link_X9_checkIndex rfl rfl rfl (by decide +kernel) ⟨Nat.le_of_ble_eq_true rfl, Nat.le_of_ble_eq_true rfl⟩) rfl hl.1 rfl (Nat.le_of_ble_eq_true rfl) dX9_link_8 ⟨Nat.le_of_ble_eq_true rfl, Nat.le_of_ble_eq_true rfl⟩ (fun H locs hW => ?_)
  refine lv_iload_n hx hb dX9_link_11 rfl (lv_at hl 2 rfl) ?_
  refine lv_iconst (v := (-1)) hx hb dX9_link_12 (by decide) ?_
  refine lv_iload_n hx hb dX9_link_13 rfl (lv_at hl 1 rfl) ?_
  refine lv_iconst (v := 1) hx hb dX9_link_14 (by decide) ?_
  refine lv_isub hx hb dX9_link_15 ?_
  obtain ⟨⟨⟩, hg, hf⟩ := ox_invR hf
  refine g_cSv hC hW (As := [.int p2, .int (-1), .int (p1 - 1)]) (rest := []) (c0_X9_checkRange l G  hg) (va_cwS 3 hts gX9_link_X9_checkRange rfl rfl rfl (by decide +kernel) ⟨Nat.le_of_ble_eq_true rfl, Nat.le_of_ble_eq_true rfl⟩) rfl hl.1 rfl (Nat.le_of_ble_eq_true rfl) dX9_link_16 ⟨Nat.le_of_ble_eq_true rfl, Nat.le_of_ble_eq_true rfl⟩ (fun H locs hW => ?_)
  refine lv_iload_n hx hb dX9_link_19 rfl (lv_at hl 3 rfl) ?_
  refine lv_iconst (v := (-1)) hx hb dX9_link_20 (by decide) ?_
  refine lv_iconst (v := 2) hx hb dX9_link_21 (by decide) ?_
  obtain ⟨⟨⟩, hg, hf⟩ := ox_invR hf
  refine g_cSv hC hW (As := [.int p3, .int (-1), .int 2]) (rest := []) (c0_X9_checkRange l G  hg) (va_cwS 3 hts gX9_link_X9_checkRange rfl rfl rfl (by decide +kernel) ⟨Nat.le_of_ble_eq_true rfl, Nat.le_of_ble_eq_true rfl⟩) rfl hl.1 rfl (Nat.le_of_ble_eq_true rfl) dX9_link_22 ⟨Nat.le_of_ble_eq_true rfl, Nat.le_of_ble_eq_true rfl⟩ (fun H locs hW => ?_)
  refine lv_aload_n hx hb dX9_link_25 rfl (lv_at hl 0 rfl) ?_
  refine g_geti hC hW (o := 0) (ci := 9) (k := 9) zc_k0 zc_b0 rfl hi9 (by decide) rfl (by decide +kernel) dX9_link_26 ?_
  obtain ⟨z2, hg, hf⟩ := ob_inv hf
  have hJ37 : ∀ (H : Heap) (locs : List Loc) (ls : Array Slot), g_H ZC G s H locs me → lv_has ls 4 [(0, .ref (G.2.2.1 0)), (1, .int p1), (2, .int p2), (3, .int p3)] → W p l e (headSpec wsX9_link rm0X9_link).room s m ([.ref (G.2.2.1 0), .int p1, .int p2, .int p3] : List Value).toArray below meth c H locs 0 0 Q (F0 m 37 ls [.int z2]) := by
    intro H locs ls hW hl
    obtain ⟨⟨⟩, hg, hf⟩ := ox_invR hf
    refine g_cSv hC hW (As := [.int z2]) (rest := []) (c0_X9_checkState l G  hg) (va_cwS 1 hts gX9_link_X9_checkState rfl rfl rfl (by decide +kernel) ⟨Nat.le_of_ble_eq_true rfl, Nat.le_of_ble_eq_true rfl⟩) rfl hl.1 rfl (Nat.le_of_ble_eq_true rfl) dX9_link_37 ⟨Nat.le_of_ble_eq_true rfl, Nat.le_of_ble_eq_true rfl⟩ (fun H locs hW => ?_)
    refine lv_aload_n hx hb dX9_link_40 rfl (lv_at hl 0 rfl) ?_
    refine g_getr hC hW (o := 0) (ci := 9) (k := 3) zc_k0 zc_b0 rfl hi9 (by decide) rfl (t := 13) zc_r0_3 (by decide +kernel) dX9_link_41 ?_
    refine g_getr hC hW (o := 13) (ci := 2) (k := 6) zc_k13 zc_b13 rfl hi2 (by decide) rfl (t := 20) zc_r13_6 (by decide +kernel) dX9_link_44 ?_
    refine lv_iload_n hx hb dX9_link_47 rfl (lv_at hl 1 rfl) ?_
    refine lv_iload_n hx hb dX9_link_48 rfl (lv_at hl 2 rfl) ?_
    obtain ⟨m3, h9, hf⟩ := ob_inv hf
    refine g_ist hC hW zc_k20 zc_b20 zc_n20 h9 dX9_link_49 (fun H locs hW => ?_)
    refine lv_aload_n hx hb dX9_link_50 rfl (lv_at hl 0 rfl) ?_
    refine g_getr hC hW (o := 0) (ci := 9) (k := 3) zc_k0 zc_b0 rfl hi9 (by decide) rfl (t := 13) zc_r0_3 (by decide +kernel) dX9_link_51 ?_
    refine g_getr hC hW (o := 13) (ci := 2) (k := 7) zc_k13 zc_b13 rfl hi2 (by decide) rfl (t := 21) zc_r13_7 (by decide +kernel) dX9_link_54 ?_
    refine lv_iload_n hx hb dX9_link_57 rfl (lv_at hl 1 rfl) ?_
    refine lv_iload_n hx hb dX9_link_58 rfl (lv_at hl 3 rfl) ?_
    obtain ⟨m4, h9, hf⟩ := ob_inv hf
    refine g_ist hC hW zc_k21 zc_b21 zc_n21 h9 dX9_link_59 (fun H locs hW => ?_)
    cases hf
    subst hQ
    exact g_vret hC hW hr hlocks rfl dX9_link_60
  replace hf := hg
  refine lv_if_ne (tgt := 36) hx hb dX9_link_29 (by decide) (fun c1 => ?_) (fun c1 => ?_)
  · have hf := a_if_f c1 hf
    refine lv_iconst (v := 0) hx hb dX9_link_36 (by decide) ?_
    cases hf
    exact hJ37 H locs ls hW (lv_sub hl [0, 1, 2, 3] rfl)
  · have hf := a_if_t c1 hf
    refine lv_iconst (v := 1) hx hb dX9_link_32 (by decide) ?_
    refine lv_goto (tgt := 37) hx hb dX9_link_33 (by decide) ?_
    cases hf
    exact hJ37 H locs ls hW (lv_sub hl [0, 1, 2, 3] rfl)
abbrev rm0X9_ask : Room := { frames := 7, cells := 0, slots := 0, locals := 112 }
set_option maxHeartbeats 4000000 in
set_option maxRecDepth 100000 in
theorem c0_X9_ask (l : Launch) (G : gG) {p1 : Int32} {p2 : Int32} {p3 : Int32} {p4 : Int32} {p5 : Int32} {me : gM} {r0 : Int32} {m0 : gM}  (hf : f_X9_ask p1 p2 p3 p4 p5 me = some (.inr (r0, m0))) : Met l yX9_ask wsX9_ask rm0X9_ask (va_Pc [.ref (G.2.2.1 0), .int p1, .int p2, .int p3, .int p4, .int p5] (g_W ZC G me)) (g_Qi ZC G r0 m0) 0 0 (g_A ZC G) := by
  refine Met.ofW (cc := cX9_ask) (maxL := 6) (ret := (some .int)) (by decide) rfl ?_
  intro p e s m args below meth c s₁ B hml hv
  obtain ⟨rfl, hW0⟩ := hv
  have hC : CallFix p m c cX9_ask 6 s ([.ref (G.2.2.1 0), .int p1, .int p2, .int p3, .int p4, .int p5] : List Value).toArray wsX9_ask RX9 := ⟨B.exec, B.bytes, hml, findClass_of_methodNamed B.named, atoms_spec (ws := wsX9_ask) B.pre⟩
  have hx := hC.1
  have hb := hC.2.1
  have hown := hC.2.2.2.1
  have hts := hC.2.2.2.2
  have hr := B.returns
  have hlocks := B.notSynchronized
  have hW := g_H_enter hW0
  have hi0 : ∀ w ∈ wsX00, w ∈ wsX9_ask := by decide +kernel
  have hi1 : ∀ w ∈ wsX10, w ∈ wsX9_ask := by decide +kernel
  have hi9 : ∀ w ∈ wsX90, w ∈ wsX9_ask := by decide +kernel
  have hl := lv_entry ([.ref (G.2.2.1 0), .int p1, .int p2, .int p3, .int p4, .int p5]) (n := 6) (Nat.le_of_ble_eq_true rfl)
  rw [lg_entry_eq]
  generalize (lg_sl ([.ref (G.2.2.1 0), .int p1, .int p2, .int p3, .int p4, .int p5]) ++ List.replicate (6 - (lg_sl ([.ref (G.2.2.1 0), .int p1, .int p2, .int p3, .int p4, .int p5])).length) Slot.unset).toArray = ls at hl ⊢
  have hl : lv_has ls 6 [(0, .ref (G.2.2.1 0)), (1, .int p1), (2, .int p2), (3, .int p3), (4, .int p4), (5, .int p5)] := hl
  obtain ⟨Q, hQ⟩ : ∃ Q, Q = MQ below (g_Qi ZC G r0 m0) ([.ref (G.2.2.1 0), .int p1, .int p2, .int p3, .int p4, .int p5] : List Value).toArray s 0 0 (g_A ZC G) := ⟨_, rfl⟩
  refine g_goQ hQ ?_
  unfold f_X9_ask at hf
  refine g_start hW (fun H locs hW => ?_)
  refine lv_iload_n hx hb dX9_ask_0 rfl (lv_at hl 1 rfl) ?_
  refine lv_bipush (v := 6) hx hb dX9_ask_1 (by decide) ?_
  obtain ⟨⟨⟩, hg, hf⟩ := ox_invR hf
  refine g_cSv hC hW (As := [.int p1, .int 6]) (rest := []) (c0_X9_checkIndex l G  hg) (va_cwS 2 hts gX9_ask_X9_checkIndex rfl rfl rfl (by decide +kernel) ⟨Nat.le_of_ble_eq_true rfl, Nat.le_of_ble_eq_true rfl⟩) rfl hl.1 rfl (Nat.le_of_ble_eq_true rfl) dX9_ask_3 ⟨Nat.le_of_ble_eq_true rfl, Nat.le_of_ble_eq_true rfl⟩ (fun H locs hW => ?_)
  refine lv_iload_n hx hb dX9_ask_6 rfl (lv_at hl 2 rfl) ?_
  refine lv_iconst (v := 3) hx hb dX9_ask_7 (by decide) ?_
  obtain ⟨⟨⟩, hg, hf⟩ := ox_invR hf
  refine g_cSv hC hW (As := [.int p2, .int 3]) (rest := []) (c0_X9_checkIndex l G  hg) (va_cwS 2 hts gX9_ask_X9_checkIndex rfl rfl rfl (by decide +kernel) ⟨Nat.le_of_ble_eq_true rfl, Nat.le_of_ble_eq_true rfl⟩) rfl hl.1 rfl (Nat.le_of_ble_eq_true rfl) dX9_ask_8 ⟨Nat.le_of_ble_eq_true rfl, Nat.le_of_ble_eq_true rfl⟩ (fun H locs hW => ?_)
  refine lv_iload_n hx hb dX9_ask_11 rfl (lv_at hl 3 rfl) ?_
  refine lv_iconst (v := 3) hx hb dX9_ask_12 (by decide) ?_
  obtain ⟨⟨⟩, hg, hf⟩ := ox_invR hf
  refine g_cSv hC hW (As := [.int p3, .int 3]) (rest := []) (c0_X9_checkIndex l G  hg) (va_cwS 2 hts gX9_ask_X9_checkIndex rfl rfl rfl (by decide +kernel) ⟨Nat.le_of_ble_eq_true rfl, Nat.le_of_ble_eq_true rfl⟩) rfl hl.1 rfl (Nat.le_of_ble_eq_true rfl) dX9_ask_13 ⟨Nat.le_of_ble_eq_true rfl, Nat.le_of_ble_eq_true rfl⟩ (fun H locs hW => ?_)
  refine lv_iload_n hx hb dX9_ask_16 rfl (lv_at hl 2 rfl) ?_
  refine lv_iload_n hx hb dX9_ask_17 rfl (lv_at hl 3 rfl) ?_
  refine lv_icmp_ne (tgt := 31) hx hb dX9_ask_18 (by decide) (fun c1 => ?_) (fun c1 => ?_)
  · have hf := a_if_f c1 hf
    refine lv_iload hx hb dX9_ask_31 (lv_at hl 4 rfl) ?_
    refine lv_iconst (v := 1) hx hb dX9_ask_33 (by decide) ?_
    refine lv_bipush (v := 10) hx hb dX9_ask_34 (by decide) ?_
    obtain ⟨⟨⟩, hg, hf⟩ := ox_invR hf
    refine g_cSv hC hW (As := [.int p4, .int 1, .int 10]) (rest := []) (c0_X9_checkRange l G  hg) (va_cwS 3 hts gX9_ask_X9_checkRange rfl rfl rfl (by decide +kernel) ⟨Nat.le_of_ble_eq_true rfl, Nat.le_of_ble_eq_true rfl⟩) rfl hl.1 rfl (Nat.le_of_ble_eq_true rfl) dX9_ask_36 ⟨Nat.le_of_ble_eq_true rfl, Nat.le_of_ble_eq_true rfl⟩ (fun H locs hW => ?_)
    refine lv_iload hx hb dX9_ask_39 (lv_at hl 5 rfl) ?_
    refine lv_iconst (v := 0) hx hb dX9_ask_41 (by decide) ?_
    refine lv_sipush (v := 500) hx hb dX9_ask_42 (by decide) ?_
    obtain ⟨⟨⟩, hg, hf⟩ := ox_invR hf
    refine g_cSv hC hW (As := [.int p5, .int 0, .int 500]) (rest := []) (c0_X9_checkRange l G  hg) (va_cwS 3 hts gX9_ask_X9_checkRange rfl rfl rfl (by decide +kernel) ⟨Nat.le_of_ble_eq_true rfl, Nat.le_of_ble_eq_true rfl⟩) rfl hl.1 rfl (Nat.le_of_ble_eq_true rfl) dX9_ask_45 ⟨Nat.le_of_ble_eq_true rfl, Nat.le_of_ble_eq_true rfl⟩ (fun H locs hW => ?_)
    refine lv_aload_n hx hb dX9_ask_48 rfl (lv_at hl 0 rfl) ?_
    refine g_getr hC hW (o := 0) (ci := 9) (k := 7) zc_k0 zc_b0 rfl hi9 (by decide) rfl (t := 65) zc_r0_7 (by decide +kernel) dX9_ask_49 ?_
    refine g_getr hC hW (o := 65) (ci := 0) (k := 2) zc_k65 zc_b65 rfl hi0 (by decide) rfl (t := 68) zc_r65_2 (by decide +kernel) dX9_ask_52 ?_
    refine lv_iload_n hx hb dX9_ask_55 rfl (lv_at hl 1 rfl) ?_
    obtain ⟨v2, h9, hf⟩ := ob_inv hf
    refine g_zld hC hW zc_k68 zc_b68 zc_n68 h9 dX9_ask_56 ?_
    obtain ⟨z4, hg, hf⟩ := ob_inv hf
    have hJ85 : ∀ (H : Heap) (locs : List Loc) (ls : Array Slot), g_H ZC G s H locs me → lv_has ls 6 [(0, .ref (G.2.2.1 0)), (1, .int p1), (2, .int p2), (3, .int p3), (4, .int p4), (5, .int p5)] → W p l e (headSpec wsX9_ask rm0X9_ask).room s m ([.ref (G.2.2.1 0), .int p1, .int p2, .int p3, .int p4, .int p5] : List Value).toArray below meth c H locs 0 0 Q (F0 m 85 ls [.int z4]) := by
      intro H locs ls hW hl
      obtain ⟨⟨⟩, hg, hf⟩ := ox_invR hf
      refine g_cSv hC hW (As := [.int z4]) (rest := []) (c0_X9_checkState l G  hg) (va_cwS 1 hts gX9_ask_X9_checkState rfl rfl rfl (by decide +kernel) ⟨Nat.le_of_ble_eq_true rfl, Nat.le_of_ble_eq_true rfl⟩) rfl hl.1 rfl (Nat.le_of_ble_eq_true rfl) dX9_ask_85 ⟨Nat.le_of_ble_eq_true rfl, Nat.le_of_ble_eq_true rfl⟩ (fun H locs hW => ?_)
      refine lv_aload_n hx hb dX9_ask_88 rfl (lv_at hl 0 rfl) ?_
      refine g_getr hC hW (o := 0) (ci := 9) (k := 4) zc_k0 zc_b0 rfl hi9 (by decide) rfl (t := 44) zc_r0_4 (by decide +kernel) dX9_ask_89 ?_
      refine lv_iload_n hx hb dX9_ask_92 rfl (lv_at hl 1 rfl) ?_
      refine lv_iload_n hx hb dX9_ask_93 rfl (lv_at hl 2 rfl) ?_
      refine lv_iload_n hx hb dX9_ask_94 rfl (lv_at hl 3 rfl) ?_
      refine lv_iload hx hb dX9_ask_95 (lv_at hl 4 rfl) ?_
      refine lv_iload hx hb dX9_ask_97 (lv_at hl 5 rfl) ?_
      obtain ⟨⟨r8, m9⟩, hg, hf⟩ := ob_inv hf
      have hf := ob_inv2 hf
      refine g_cVi hC hW (o := 44) (ci := 1) (As := [.int p1, .int p2, .int p3, .int p4, .int p5]) (rest := []) zc_k44 zc_b44 rfl (c_X1_add l G  hg) (cwV 5 hts gX9_ask_X1_add rfl rfl rfl (by decide +kernel) ⟨Nat.le_of_ble_eq_true rfl, Nat.le_of_ble_eq_true rfl⟩) rfl hl.1 rfl (Nat.le_of_ble_eq_true rfl) dX9_ask_99 ⟨Nat.le_of_ble_eq_true rfl, Nat.le_of_ble_eq_true rfl⟩ (fun H locs hW => ?_)
      cases hf
      subst hQ
      exact g_iret hC hW hr hlocks rfl rfl dX9_ask_102
    replace hf := hg
    refine lv_if_ne (tgt := 84) hx hb dX9_ask_57 (by decide) (fun c3 => ?_) (fun c3 => ?_)
    · have hf := a_if_f c3 hf
      refine lv_iconst (v := 0) hx hb dX9_ask_84 (by decide) ?_
      cases hf
      exact hJ85 H locs ls hW (lv_sub hl [0, 1, 2, 3, 4, 5] rfl)
    · have hf := a_if_t c3 hf
      refine lv_aload_n hx hb dX9_ask_60 rfl (lv_at hl 0 rfl) ?_
      refine g_geti hC hW (o := 0) (ci := 9) (k := 9) zc_k0 zc_b0 rfl hi9 (by decide) rfl (by decide +kernel) dX9_ask_61 ?_
      refine lv_if_ne (tgt := 84) hx hb dX9_ask_64 (by decide) (fun c5 => ?_) (fun c5 => ?_)
      · have hf := a_if_f c5 hf
        refine lv_iconst (v := 0) hx hb dX9_ask_84 (by decide) ?_
        cases hf
        exact hJ85 H locs ls hW (lv_sub hl [0, 1, 2, 3, 4, 5] rfl)
      · have hf := a_if_t c5 hf
        refine lv_aload_n hx hb dX9_ask_67 rfl (lv_at hl 0 rfl) ?_
        refine g_getr hC hW (o := 0) (ci := 9) (k := 4) zc_k0 zc_b0 rfl hi9 (by decide) rfl (t := 44) zc_r0_4 (by decide +kernel) dX9_ask_68 ?_
        refine g_getr hC hW (o := 44) (ci := 1) (k := 0) zc_k44 zc_b44 rfl hi1 (by decide) rfl (t := 45) zc_r44_0 (by decide +kernel) dX9_ask_71 ?_
        obtain ⟨r6, hg, hf⟩ := ob_inv hf
        refine g_cVi hC hW (o := 45) (ci := 8) (As := []) (rest := []) zc_k45 zc_b45 rfl (c_X8_hasRoom l G zc_k45 hg) (cwV 0 hts gX9_ask_X8_hasRoom rfl rfl rfl (by decide +kernel) ⟨Nat.le_of_ble_eq_true rfl, Nat.le_of_ble_eq_true rfl⟩) rfl hl.1 rfl (Nat.le_of_ble_eq_true rfl) dX9_ask_74 ⟨Nat.le_of_ble_eq_true rfl, Nat.le_of_ble_eq_true rfl⟩ (fun H locs hW => ?_)
        refine lv_if_eq (tgt := 84) hx hb dX9_ask_77 (by decide) (fun c7 => ?_) (fun c7 => ?_)
        · have hf := a_if_t c7 hf
          refine lv_iconst (v := 0) hx hb dX9_ask_84 (by decide) ?_
          cases hf
          exact hJ85 H locs ls hW (lv_sub hl [0, 1, 2, 3, 4, 5] rfl)
        · have hf := a_if_f c7 hf
          refine lv_iconst (v := 1) hx hb dX9_ask_80 (by decide) ?_
          refine lv_goto (tgt := 85) hx hb dX9_ask_81 (by decide) ?_
          cases hf
          exact hJ85 H locs ls hW (lv_sub hl [0, 1, 2, 3, 4, 5] rfl)
  · have hf := a_if_t c1 hf
    cases hf
abbrev rm0X9_clear : Room := { frames := 7, cells := 0, slots := 0, locals := 139 }
set_option maxHeartbeats 4000000 in
set_option maxRecDepth 100000 in
theorem c0_X9_clear (l : Launch) (G : gG)  {me : gM} {r0 : Int32} {m0 : gM}  (hf : f_X9_clear me = some (.inr (r0, m0))) : Met l yX9_clear wsX9_clear rm0X9_clear (va_Pc [.ref (G.2.2.1 0)] (g_W ZC G me)) (g_Qi ZC G r0 m0) 0 0 (g_A ZC G) := by
  refine Met.ofW (cc := cX9_clear) (maxL := 2) (ret := (some .int)) (by decide) rfl ?_
  intro p e s m args below meth c s₁ B hml hv
  obtain ⟨rfl, hW0⟩ := hv
  have hC : CallFix p m c cX9_clear 2 s ([.ref (G.2.2.1 0)] : List Value).toArray wsX9_clear RX9 := ⟨B.exec, B.bytes, hml, findClass_of_methodNamed B.named, atoms_spec (ws := wsX9_clear) B.pre⟩
  have hx := hC.1
  have hb := hC.2.1
  have hown := hC.2.2.2.1
  have hts := hC.2.2.2.2
  have hr := B.returns
  have hlocks := B.notSynchronized
  have hW := g_H_enter hW0
  have hi9 : ∀ w ∈ wsX90, w ∈ wsX9_clear := by decide +kernel
  have hl := lv_entry ([.ref (G.2.2.1 0)]) (n := 2) (Nat.le_of_ble_eq_true rfl)
  rw [lg_entry_eq]
  generalize (lg_sl ([.ref (G.2.2.1 0)]) ++ List.replicate (2 - (lg_sl ([.ref (G.2.2.1 0)])).length) Slot.unset).toArray = ls at hl ⊢
  have hl : lv_has ls 2 [(0, .ref (G.2.2.1 0))] := hl
  obtain ⟨Q, hQ⟩ : ∃ Q, Q = MQ below (g_Qi ZC G r0 m0) ([.ref (G.2.2.1 0)] : List Value).toArray s 0 0 (g_A ZC G) := ⟨_, rfl⟩
  refine g_goQ hQ ?_
  unfold f_X9_clear at hf
  refine g_start hW (fun H locs hW => ?_)
  refine lv_aload_n hx hb dX9_clear_0 rfl (lv_at hl 0 rfl) ?_
  refine g_geti hC hW (o := 0) (ci := 9) (k := 9) zc_k0 zc_b0 rfl hi9 (by decide) rfl (by decide +kernel) dX9_clear_1 ?_
  obtain ⟨z2, hg, hf⟩ := ob_inv hf
  have hJ12 : ∀ (H : Heap) (locs : List Loc) (ls : Array Slot), g_H ZC G s H locs me → lv_has ls 2 [(0, .ref (G.2.2.1 0))] → W p l e (headSpec wsX9_clear rm0X9_clear).room s m ([.ref (G.2.2.1 0)] : List Value).toArray below meth c H locs 0 0 Q (F0 m 12 ls [.int z2]) := by
    intro H locs ls hW hl
    obtain ⟨⟨⟩, hg, hf⟩ := ox_invR hf
    refine g_cSv hC hW (As := [.int z2]) (rest := []) (c0_X9_checkState l G  hg) (va_cwS 1 hts gX9_clear_X9_checkState rfl rfl rfl (by decide +kernel) ⟨Nat.le_of_ble_eq_true rfl, Nat.le_of_ble_eq_true rfl⟩) rfl hl.1 rfl (Nat.le_of_ble_eq_true rfl) dX9_clear_12 ⟨Nat.le_of_ble_eq_true rfl, Nat.le_of_ble_eq_true rfl⟩ (fun H locs hW => ?_)
    refine lv_aload_n hx hb dX9_clear_15 rfl (lv_at hl 0 rfl) ?_
    refine g_getr hC hW (o := 0) (ci := 9) (k := 6) zc_k0 zc_b0 rfl hi9 (by decide) rfl (t := 64) zc_r0_6 (by decide +kernel) dX9_clear_16 ?_
    refine lv_aload_n hx hb dX9_clear_19 rfl (lv_at hl 0 rfl) ?_
    refine g_geti hC hW (o := 0) (ci := 9) (k := 8) zc_k0 zc_b0 rfl hi9 (by decide) rfl (by decide +kernel) dX9_clear_20 ?_
    obtain ⟨d3, h9, hf⟩ := ob_inv hf
    have hd3 := zc_rk5 h9
    refine g_rldD hC hW zc_k64 zc_b64 zc_n64 zc_rr5 h9 dX9_clear_23 ?_
    refine lv_astore_n (lv' := [(1, .ref (G.2.2.1 d3)), (0, .ref (G.2.2.1 0))]) hx hb dX9_clear_24 rfl hl (by decide) rfl (fun ls hl => ?_)
    refine lv_aload_n hx hb dX9_clear_25 rfl (lv_at hl 1 rfl) ?_
    refine g_getr hC hW (o := 0) (ci := 9) (k := 0) zc_k0 zc_b0 rfl hi9 (by decide) rfl (t := 1) zc_r0_0 (by decide +kernel) dX9_clear_26 ?_
    refine lv_aload_n hx hb dX9_clear_29 rfl (lv_at hl 0 rfl) ?_
    obtain ⟨m4, hg, hf⟩ := ob_inv hf
    refine g_cVv hC hW (o := 1) (ci := 3) (As := [.ref (G.2.2.1 d3)]) (rest := []) zc_k1 zc_b1 rfl (c_X3_clearDay l G hd3 hg) (cwV 1 hts gX9_clear_X3_clearDay rfl rfl rfl (by decide +kernel) ⟨Nat.le_of_ble_eq_true rfl, Nat.le_of_ble_eq_true rfl⟩) rfl hl.1 rfl (Nat.le_of_ble_eq_true rfl) dX9_clear_30 ⟨Nat.le_of_ble_eq_true rfl, Nat.le_of_ble_eq_true rfl⟩ (fun H locs hW => ?_)
    refine lv_aload_n hx hb dX9_clear_33 rfl (lv_at hl 1 rfl) ?_
    refine lv_aload_n hx hb dX9_clear_34 rfl (lv_at hl 0 rfl) ?_
    obtain ⟨m5, hg, hf⟩ := ob_inv hf
    refine g_cVv hC hW (o := 0) (ci := 9) (As := [.ref (G.2.2.1 d3)]) (rest := []) zc_k0 zc_b0 rfl (c_X9_takeBids l G hd3 hg) (cwV 1 hts gX9_clear_X9_takeBids rfl rfl rfl (by decide +kernel) ⟨Nat.le_of_ble_eq_true rfl, Nat.le_of_ble_eq_true rfl⟩) rfl hl.1 rfl (Nat.le_of_ble_eq_true rfl) dX9_clear_35 ⟨Nat.le_of_ble_eq_true rfl, Nat.le_of_ble_eq_true rfl⟩ (fun H locs hW => ?_)
    refine lv_aload_n hx hb dX9_clear_38 rfl (lv_at hl 1 rfl) ?_
    refine lv_aload_n hx hb dX9_clear_39 rfl (lv_at hl 0 rfl) ?_
    obtain ⟨m6, hg, hf⟩ := ob_inv hf
    refine g_cVv hC hW (o := 0) (ci := 9) (As := [.ref (G.2.2.1 d3)]) (rest := []) zc_k0 zc_b0 rfl (c_X9_takeBlocks l G hd3 hg) (cwV 1 hts gX9_clear_X9_takeBlocks rfl rfl rfl (by decide +kernel) ⟨Nat.le_of_ble_eq_true rfl, Nat.le_of_ble_eq_true rfl⟩) rfl hl.1 rfl (Nat.le_of_ble_eq_true rfl) dX9_clear_40 ⟨Nat.le_of_ble_eq_true rfl, Nat.le_of_ble_eq_true rfl⟩ (fun H locs hW => ?_)
    refine lv_aload_n hx hb dX9_clear_43 rfl (lv_at hl 1 rfl) ?_
    refine lv_aload_n hx hb dX9_clear_44 rfl (lv_at hl 0 rfl) ?_
    obtain ⟨m7, hg, hf⟩ := ob_inv hf
    refine g_cVv hC hW (o := 0) (ci := 9) (As := [.ref (G.2.2.1 d3)]) (rest := []) zc_k0 zc_b0 rfl (c_X9_giveRights l G hd3 hg) (cwV 1 hts gX9_clear_X9_giveRights rfl rfl rfl (by decide +kernel) ⟨Nat.le_of_ble_eq_true rfl, Nat.le_of_ble_eq_true rfl⟩) rfl hl.1 rfl (Nat.le_of_ble_eq_true rfl) dX9_clear_45 ⟨Nat.le_of_ble_eq_true rfl, Nat.le_of_ble_eq_true rfl⟩ (fun H locs hW => ?_)
    refine lv_aload_n hx hb dX9_clear_48 rfl (lv_at hl 1 rfl) ?_
    refine lv_iconst (v := 1) hx hb dX9_clear_49 (by decide) ?_
    obtain ⟨m8, h9, hf⟩ := ob_inv hf
    refine g_puti hC hW (o := 0) (ci := 9) (k := 9) zc_k0 zc_b0 rfl hi9 tyX9_ok nmX9 (by decide) rfl rfl rfl (by decide +kernel) dX9_clear_50 (fun H locs hW => ?_)
    rw [Option.some.inj h9] at hW
    refine lv_aload_n hx hb dX9_clear_53 rfl (lv_at hl 1 rfl) ?_
    obtain ⟨r9, hg, hf⟩ := ob_inv hf
    refine g_cVi hC hW (o := 0) (ci := 9) (As := []) (rest := []) zc_k0 zc_b0 rfl (c_X9_worthTaken l G  hg) (cwV 0 hts gX9_clear_X9_worthTaken rfl rfl rfl (by decide +kernel) ⟨Nat.le_of_ble_eq_true rfl, Nat.le_of_ble_eq_true rfl⟩) rfl hl.1 rfl (Nat.le_of_ble_eq_true rfl) dX9_clear_54 ⟨Nat.le_of_ble_eq_true rfl, Nat.le_of_ble_eq_true rfl⟩ (fun H locs hW => ?_)
    cases hf
    subst hQ
    exact g_iret hC hW hr hlocks rfl rfl dX9_clear_57
  replace hf := hg
  refine lv_if_ne (tgt := 11) hx hb dX9_clear_4 (by decide) (fun c1 => ?_) (fun c1 => ?_)
  · have hf := a_if_f c1 hf
    refine lv_iconst (v := 0) hx hb dX9_clear_11 (by decide) ?_
    cases hf
    exact hJ12 H locs ls hW (lv_sub hl [0] rfl)
  · have hf := a_if_t c1 hf
    refine lv_iconst (v := 1) hx hb dX9_clear_7 (by decide) ?_
    refine lv_goto (tgt := 12) hx hb dX9_clear_8 (by decide) ?_
    cases hf
    exact hJ12 H locs ls hW (lv_sub hl [0] rfl)
abbrev rm0X9_offer : Room := { frames := 7, cells := 0, slots := 0, locals := 121 }
set_option maxHeartbeats 4000000 in
set_option maxRecDepth 100000 in
theorem c0_X9_offer (l : Launch) (G : gG) {p1 : Int32} {p2 : Int32} {p3 : Int32} {p4 : Int32} {p5 : Int32} {p6 : Int32} {me : gM} {r0 : Int32} {m0 : gM}  (hf : f_X9_offer p1 p2 p3 p4 p5 p6 me = some (.inr (r0, m0))) : Met l yX9_offer wsX9_offer rm0X9_offer (va_Pc [.ref (G.2.2.1 0), .int p1, .int p2, .int p3, .int p4, .int p5, .int p6] (g_W ZC G me)) (g_Qi ZC G r0 m0) 0 0 (g_A ZC G) := by
  refine Met.ofW (cc := cX9_offer) (maxL := 8) (ret := (some .int)) (by decide) rfl ?_
  intro p e s m args below meth c s₁ B hml hv
  obtain ⟨rfl, hW0⟩ := hv
  have hC : CallFix p m c cX9_offer 8 s ([.ref (G.2.2.1 0), .int p1, .int p2, .int p3, .int p4, .int p5, .int p6] : List Value).toArray wsX9_offer RX9 := ⟨B.exec, B.bytes, hml, findClass_of_methodNamed B.named, atoms_spec (ws := wsX9_offer) B.pre⟩
  have hx := hC.1
  have hb := hC.2.1
  have hown := hC.2.2.2.1
  have hts := hC.2.2.2.2
  have hr := B.returns
  have hlocks := B.notSynchronized
  have hW := g_H_enter hW0
  have hi0 : ∀ w ∈ wsX00, w ∈ wsX9_offer := by decide +kernel
  have hi9 : ∀ w ∈ wsX90, w ∈ wsX9_offer := by decide +kernel
  have hl := lv_entry ([.ref (G.2.2.1 0), .int p1, .int p2, .int p3, .int p4, .int p5, .int p6]) (n := 8) (Nat.le_of_ble_eq_true rfl)
  rw [lg_entry_eq]
  generalize (lg_sl ([.ref (G.2.2.1 0), .int p1, .int p2, .int p3, .int p4, .int p5, .int p6]) ++ List.replicate (8 - (lg_sl ([.ref (G.2.2.1 0), .int p1, .int p2, .int p3, .int p4, .int p5, .int p6])).length) Slot.unset).toArray = ls at hl ⊢
  have hl : lv_has ls 8 [(0, .ref (G.2.2.1 0)), (1, .int p1), (2, .int p2), (3, .int p3), (4, .int p4), (5, .int p5), (6, .int p6)] := hl
  obtain ⟨Q, hQ⟩ : ∃ Q, Q = MQ below (g_Qi ZC G r0 m0) ([.ref (G.2.2.1 0), .int p1, .int p2, .int p3, .int p4, .int p5, .int p6] : List Value).toArray s 0 0 (g_A ZC G) := ⟨_, rfl⟩
  refine g_goQ hQ ?_
  unfold f_X9_offer at hf
  refine g_start hW (fun H locs hW => ?_)
  refine lv_iload_n hx hb dX9_offer_0 rfl (lv_at hl 1 rfl) ?_
  refine lv_bipush (v := 6) hx hb dX9_offer_1 (by decide) ?_
  obtain ⟨⟨⟩, hg, hf⟩ := ox_invR hf
  refine g_cSv hC hW (As := [.int p1, .int 6]) (rest := []) (c0_X9_checkIndex l G  hg) (va_cwS 2 hts gX9_offer_X9_checkIndex rfl rfl rfl (by decide +kernel) ⟨Nat.le_of_ble_eq_true rfl, Nat.le_of_ble_eq_true rfl⟩) rfl hl.1 rfl (Nat.le_of_ble_eq_true rfl) dX9_offer_3 ⟨Nat.le_of_ble_eq_true rfl, Nat.le_of_ble_eq_true rfl⟩ (fun H locs hW => ?_)
  refine lv_iload_n hx hb dX9_offer_6 rfl (lv_at hl 2 rfl) ?_
  refine lv_iconst (v := 3) hx hb dX9_offer_7 (by decide) ?_
  obtain ⟨⟨⟩, hg, hf⟩ := ox_invR hf
  refine g_cSv hC hW (As := [.int p2, .int 3]) (rest := []) (c0_X9_checkIndex l G  hg) (va_cwS 2 hts gX9_offer_X9_checkIndex rfl rfl rfl (by decide +kernel) ⟨Nat.le_of_ble_eq_true rfl, Nat.le_of_ble_eq_true rfl⟩) rfl hl.1 rfl (Nat.le_of_ble_eq_true rfl) dX9_offer_8 ⟨Nat.le_of_ble_eq_true rfl, Nat.le_of_ble_eq_true rfl⟩ (fun H locs hW => ?_)
  refine lv_iload_n hx hb dX9_offer_11 rfl (lv_at hl 3 rfl) ?_
  refine lv_iconst (v := 4) hx hb dX9_offer_12 (by decide) ?_
  obtain ⟨⟨⟩, hg, hf⟩ := ox_invR hf
  refine g_cSv hC hW (As := [.int p3, .int 4]) (rest := []) (c0_X9_checkIndex l G  hg) (va_cwS 2 hts gX9_offer_X9_checkIndex rfl rfl rfl (by decide +kernel) ⟨Nat.le_of_ble_eq_true rfl, Nat.le_of_ble_eq_true rfl⟩) rfl hl.1 rfl (Nat.le_of_ble_eq_true rfl) dX9_offer_13 ⟨Nat.le_of_ble_eq_true rfl, Nat.le_of_ble_eq_true rfl⟩ (fun H locs hW => ?_)
  refine lv_iload hx hb dX9_offer_16 (lv_at hl 5 rfl) ?_
  refine lv_iconst (v := 0) hx hb dX9_offer_18 (by decide) ?_
  refine lv_sipush (v := 300) hx hb dX9_offer_19 (by decide) ?_
  obtain ⟨⟨⟩, hg, hf⟩ := ox_invR hf
  refine g_cSv hC hW (As := [.int p5, .int 0, .int 300]) (rest := []) (c0_X9_checkRange l G  hg) (va_cwS 3 hts gX9_offer_X9_checkRange rfl rfl rfl (by decide +kernel) ⟨Nat.le_of_ble_eq_true rfl, Nat.le_of_ble_eq_true rfl⟩) rfl hl.1 rfl (Nat.le_of_ble_eq_true rfl) dX9_offer_22 ⟨Nat.le_of_ble_eq_true rfl, Nat.le_of_ble_eq_true rfl⟩ (fun H locs hW => ?_)
  refine lv_iload hx hb dX9_offer_25 (lv_at hl 6 rfl) ?_
  refine lv_iconst (v := 1) hx hb dX9_offer_27 (by decide) ?_
  refine lv_bipush (v := 10) hx hb dX9_offer_28 (by decide) ?_
  obtain ⟨⟨⟩, hg, hf⟩ := ox_invR hf
  refine g_cSv hC hW (As := [.int p6, .int 1, .int 10]) (rest := []) (c0_X9_checkRange l G  hg) (va_cwS 3 hts gX9_offer_X9_checkRange rfl rfl rfl (by decide +kernel) ⟨Nat.le_of_ble_eq_true rfl, Nat.le_of_ble_eq_true rfl⟩) rfl hl.1 rfl (Nat.le_of_ble_eq_true rfl) dX9_offer_30 ⟨Nat.le_of_ble_eq_true rfl, Nat.le_of_ble_eq_true rfl⟩ (fun H locs hW => ?_)
  refine lv_aload_n hx hb dX9_offer_33 rfl (lv_at hl 0 rfl) ?_
  refine g_getr hC hW (o := 0) (ci := 9) (k := 7) zc_k0 zc_b0 rfl hi9 (by decide) rfl (t := 65) zc_r0_7 (by decide +kernel) dX9_offer_34 ?_
  refine g_getr hC hW (o := 65) (ci := 0) (k := 2) zc_k65 zc_b65 rfl hi0 (by decide) rfl (t := 68) zc_r65_2 (by decide +kernel) dX9_offer_37 ?_
  refine lv_iload_n hx hb dX9_offer_40 rfl (lv_at hl 1 rfl) ?_
  obtain ⟨v1, h9, hf⟩ := ob_inv hf
  refine g_zld hC hW zc_k68 zc_b68 zc_n68 h9 dX9_offer_41 ?_
  obtain ⟨z3, hg, hf⟩ := ob_inv hf
  have hJ68 : ∀ (H : Heap) (locs : List Loc) (ls : Array Slot), g_H ZC G s H locs me → lv_has ls 8 [(0, .ref (G.2.2.1 0)), (1, .int p1), (2, .int p2), (3, .int p3), (4, .int p4), (5, .int p5), (6, .int p6)] → W p l e (headSpec wsX9_offer rm0X9_offer).room s m ([.ref (G.2.2.1 0), .int p1, .int p2, .int p3, .int p4, .int p5, .int p6] : List Value).toArray below meth c H locs 0 0 Q (F0 m 68 ls [.int z3]) := by
    intro H locs ls hW hl
    obtain ⟨⟨⟩, hg, hf⟩ := ox_invR hf
    refine g_cSv hC hW (As := [.int z3]) (rest := []) (c0_X9_checkState l G  hg) (va_cwS 1 hts gX9_offer_X9_checkState rfl rfl rfl (by decide +kernel) ⟨Nat.le_of_ble_eq_true rfl, Nat.le_of_ble_eq_true rfl⟩) rfl hl.1 rfl (Nat.le_of_ble_eq_true rfl) dX9_offer_68 ⟨Nat.le_of_ble_eq_true rfl, Nat.le_of_ble_eq_true rfl⟩ (fun H locs hW => ?_)
    refine lv_aload_n hx hb dX9_offer_71 rfl (lv_at hl 0 rfl) ?_
    refine g_getr hC hW (o := 0) (ci := 9) (k := 5) zc_k0 zc_b0 rfl hi9 (by decide) rfl (t := 55) zc_r0_5 (by decide +kernel) dX9_offer_72 ?_
    refine lv_iload_n hx hb dX9_offer_75 rfl (lv_at hl 1 rfl) ?_
    refine lv_iload_n hx hb dX9_offer_76 rfl (lv_at hl 2 rfl) ?_
    refine lv_iload_n hx hb dX9_offer_77 rfl (lv_at hl 3 rfl) ?_
    refine lv_iload hx hb dX9_offer_78 (lv_at hl 4 rfl) ?_
    refine lv_iload hx hb dX9_offer_80 (lv_at hl 5 rfl) ?_
    refine lv_iload hx hb dX9_offer_82 (lv_at hl 6 rfl) ?_
    obtain ⟨⟨r7, m8⟩, hg, hf⟩ := ob_inv hf
    have hf := ob_inv2 hf
    refine g_cVi hC hW (o := 55) (ci := 8) (As := [.int p1, .int p2, .int p3, .int p4, .int p5, .int p6]) (rest := []) zc_k55 zc_b55 rfl (c_X8_add l G zc_k55 hg) (cwV 6 hts gX9_offer_X8_add rfl rfl rfl (by decide +kernel) ⟨Nat.le_of_ble_eq_true rfl, Nat.le_of_ble_eq_true rfl⟩) rfl hl.1 rfl (Nat.le_of_ble_eq_true rfl) dX9_offer_84 ⟨Nat.le_of_ble_eq_true rfl, Nat.le_of_ble_eq_true rfl⟩ (fun H locs hW => ?_)
    refine lv_istore (lv' := [(7, .int r7), (0, .ref (G.2.2.1 0)), (1, .int p1), (2, .int p2), (3, .int p3), (4, .int p4), (5, .int p5), (6, .int p6)]) hx hb dX9_offer_87 hl (by decide) rfl (fun ls hl => ?_)
    refine lv_aload_n hx hb dX9_offer_89 rfl (lv_at hl 1 rfl) ?_
    refine lv_iload hx hb dX9_offer_90 (lv_at hl 0 rfl) ?_
    obtain ⟨m10, hg, hf⟩ := ob_inv hf
    refine g_cVv hC hW (o := 0) (ci := 9) (As := [.int r7]) (rest := []) zc_k0 zc_b0 rfl (c_X9_tradeAll l G  hg) (cwV 1 hts gX9_offer_X9_tradeAll rfl rfl rfl (by decide +kernel) ⟨Nat.le_of_ble_eq_true rfl, Nat.le_of_ble_eq_true rfl⟩) rfl hl.1 rfl (Nat.le_of_ble_eq_true rfl) dX9_offer_92 ⟨Nat.le_of_ble_eq_true rfl, Nat.le_of_ble_eq_true rfl⟩ (fun H locs hW => ?_)
    refine lv_iload hx hb dX9_offer_95 (lv_at hl 0 rfl) ?_
    cases hf
    subst hQ
    exact g_iret hC hW hr hlocks rfl rfl dX9_offer_97
  replace hf := hg
  refine lv_if_ne (tgt := 67) hx hb dX9_offer_42 (by decide) (fun c2 => ?_) (fun c2 => ?_)
  · have hf := a_if_f c2 hf
    refine lv_iconst (v := 0) hx hb dX9_offer_67 (by decide) ?_
    cases hf
    exact hJ68 H locs ls hW (lv_sub hl [0, 1, 2, 3, 4, 5, 6] rfl)
  · have hf := a_if_t c2 hf
    refine lv_aload_n hx hb dX9_offer_45 rfl (lv_at hl 0 rfl) ?_
    refine g_geti hC hW (o := 0) (ci := 9) (k := 9) zc_k0 zc_b0 rfl hi9 (by decide) rfl (by decide +kernel) dX9_offer_46 ?_
    refine lv_iconst (v := 1) hx hb dX9_offer_49 (by decide) ?_
    refine lv_icmp_ne (tgt := 67) hx hb dX9_offer_50 (by decide) (fun c4 => ?_) (fun c4 => ?_)
    · have hf := a_if_f c4 hf
      refine lv_iconst (v := 0) hx hb dX9_offer_67 (by decide) ?_
      cases hf
      exact hJ68 H locs ls hW (lv_sub hl [0, 1, 2, 3, 4, 5, 6] rfl)
    · have hf := a_if_t c4 hf
      refine lv_aload_n hx hb dX9_offer_53 rfl (lv_at hl 0 rfl) ?_
      refine g_getr hC hW (o := 0) (ci := 9) (k := 5) zc_k0 zc_b0 rfl hi9 (by decide) rfl (t := 55) zc_r0_5 (by decide +kernel) dX9_offer_54 ?_
      obtain ⟨r5, hg, hf⟩ := ob_inv hf
      refine g_cVi hC hW (o := 55) (ci := 8) (As := []) (rest := []) zc_k55 zc_b55 rfl (c_X8_hasRoom l G zc_k55 hg) (cwV 0 hts gX9_offer_X8_hasRoom rfl rfl rfl (by decide +kernel) ⟨Nat.le_of_ble_eq_true rfl, Nat.le_of_ble_eq_true rfl⟩) rfl hl.1 rfl (Nat.le_of_ble_eq_true rfl) dX9_offer_57 ⟨Nat.le_of_ble_eq_true rfl, Nat.le_of_ble_eq_true rfl⟩ (fun H locs hW => ?_)
      refine lv_if_eq (tgt := 67) hx hb dX9_offer_60 (by decide) (fun c6 => ?_) (fun c6 => ?_)
      · have hf := a_if_t c6 hf
        refine lv_iconst (v := 0) hx hb dX9_offer_67 (by decide) ?_
        cases hf
        exact hJ68 H locs ls hW (lv_sub hl [0, 1, 2, 3, 4, 5, 6] rfl)
      · have hf := a_if_f c6 hf
        refine lv_iconst (v := 1) hx hb dX9_offer_63 (by decide) ?_
        refine lv_goto (tgt := 68) hx hb dX9_offer_64 (by decide) ?_
        cases hf
        exact hJ68 H locs ls hW (lv_sub hl [0, 1, 2, 3, 4, 5, 6] rfl)
abbrev rm0X9_aid : Room := { frames := 7, cells := 0, slots := 0, locals := 112 }
set_option maxHeartbeats 4000000 in
set_option maxRecDepth 100000 in
theorem c0_X9_aid (l : Launch) (G : gG) {p1 : Int32} {p2 : Int32} {p3 : Int32} {p4 : Int32} {p5 : Int32} {me : gM} {r0 : Int32} {m0 : gM}  (hf : f_X9_aid p1 p2 p3 p4 p5 me = some (.inr (r0, m0))) : Met l yX9_aid wsX9_aid rm0X9_aid (va_Pc [.ref (G.2.2.1 0), .int p1, .int p2, .int p3, .int p4, .int p5] (g_W ZC G me)) (g_Qi ZC G r0 m0) 0 0 (g_A ZC G) := by
  refine Met.ofW (cc := cX9_aid) (maxL := 7) (ret := (some .int)) (by decide) rfl ?_
  intro p e s m args below meth c s₁ B hml hv
  obtain ⟨rfl, hW0⟩ := hv
  have hC : CallFix p m c cX9_aid 7 s ([.ref (G.2.2.1 0), .int p1, .int p2, .int p3, .int p4, .int p5] : List Value).toArray wsX9_aid RX9 := ⟨B.exec, B.bytes, hml, findClass_of_methodNamed B.named, atoms_spec (ws := wsX9_aid) B.pre⟩
  have hx := hC.1
  have hb := hC.2.1
  have hown := hC.2.2.2.1
  have hts := hC.2.2.2.2
  have hr := B.returns
  have hlocks := B.notSynchronized
  have hW := g_H_enter hW0
  have hi0 : ∀ w ∈ wsX00, w ∈ wsX9_aid := by decide +kernel
  have hi5 : ∀ w ∈ wsX50, w ∈ wsX9_aid := by decide +kernel
  have hi9 : ∀ w ∈ wsX90, w ∈ wsX9_aid := by decide +kernel
  have hl := lv_entry ([.ref (G.2.2.1 0), .int p1, .int p2, .int p3, .int p4, .int p5]) (n := 7) (Nat.le_of_ble_eq_true rfl)
  rw [lg_entry_eq]
  generalize (lg_sl ([.ref (G.2.2.1 0), .int p1, .int p2, .int p3, .int p4, .int p5]) ++ List.replicate (7 - (lg_sl ([.ref (G.2.2.1 0), .int p1, .int p2, .int p3, .int p4, .int p5])).length) Slot.unset).toArray = ls at hl ⊢
  have hl : lv_has ls 7 [(0, .ref (G.2.2.1 0)), (1, .int p1), (2, .int p2), (3, .int p3), (4, .int p4), (5, .int p5)] := hl
  obtain ⟨Q, hQ⟩ : ∃ Q, Q = MQ below (g_Qi ZC G r0 m0) ([.ref (G.2.2.1 0), .int p1, .int p2, .int p3, .int p4, .int p5] : List Value).toArray s 0 0 (g_A ZC G) := ⟨_, rfl⟩
  refine g_goQ hQ ?_
  unfold f_X9_aid at hf
  refine g_start hW (fun H locs hW => ?_)
  refine lv_iload_n hx hb dX9_aid_0 rfl (lv_at hl 1 rfl) ?_
  refine lv_bipush (v := 6) hx hb dX9_aid_1 (by decide) ?_
  obtain ⟨⟨⟩, hg, hf⟩ := ox_invR hf
  refine g_cSv hC hW (As := [.int p1, .int 6]) (rest := []) (c0_X9_checkIndex l G  hg) (va_cwS 2 hts gX9_aid_X9_checkIndex rfl rfl rfl (by decide +kernel) ⟨Nat.le_of_ble_eq_true rfl, Nat.le_of_ble_eq_true rfl⟩) rfl hl.1 rfl (Nat.le_of_ble_eq_true rfl) dX9_aid_3 ⟨Nat.le_of_ble_eq_true rfl, Nat.le_of_ble_eq_true rfl⟩ (fun H locs hW => ?_)
  refine lv_iload_n hx hb dX9_aid_6 rfl (lv_at hl 2 rfl) ?_
  refine lv_iconst (v := 4) hx hb dX9_aid_7 (by decide) ?_
  obtain ⟨⟨⟩, hg, hf⟩ := ox_invR hf
  refine g_cSv hC hW (As := [.int p2, .int 4]) (rest := []) (c0_X9_checkIndex l G  hg) (va_cwS 2 hts gX9_aid_X9_checkIndex rfl rfl rfl (by decide +kernel) ⟨Nat.le_of_ble_eq_true rfl, Nat.le_of_ble_eq_true rfl⟩) rfl hl.1 rfl (Nat.le_of_ble_eq_true rfl) dX9_aid_8 ⟨Nat.le_of_ble_eq_true rfl, Nat.le_of_ble_eq_true rfl⟩ (fun H locs hW => ?_)
  refine lv_iload hx hb dX9_aid_11 (lv_at hl 4 rfl) ?_
  refine lv_iconst (v := 0) hx hb dX9_aid_13 (by decide) ?_
  refine lv_sipush (v := 300) hx hb dX9_aid_14 (by decide) ?_
  obtain ⟨⟨⟩, hg, hf⟩ := ox_invR hf
  refine g_cSv hC hW (As := [.int p4, .int 0, .int 300]) (rest := []) (c0_X9_checkRange l G  hg) (va_cwS 3 hts gX9_aid_X9_checkRange rfl rfl rfl (by decide +kernel) ⟨Nat.le_of_ble_eq_true rfl, Nat.le_of_ble_eq_true rfl⟩) rfl hl.1 rfl (Nat.le_of_ble_eq_true rfl) dX9_aid_17 ⟨Nat.le_of_ble_eq_true rfl, Nat.le_of_ble_eq_true rfl⟩ (fun H locs hW => ?_)
  refine lv_iload hx hb dX9_aid_20 (lv_at hl 5 rfl) ?_
  refine lv_iconst (v := 1) hx hb dX9_aid_22 (by decide) ?_
  refine lv_bipush (v := 10) hx hb dX9_aid_23 (by decide) ?_
  obtain ⟨⟨⟩, hg, hf⟩ := ox_invR hf
  refine g_cSv hC hW (As := [.int p5, .int 1, .int 10]) (rest := []) (c0_X9_checkRange l G  hg) (va_cwS 3 hts gX9_aid_X9_checkRange rfl rfl rfl (by decide +kernel) ⟨Nat.le_of_ble_eq_true rfl, Nat.le_of_ble_eq_true rfl⟩) rfl hl.1 rfl (Nat.le_of_ble_eq_true rfl) dX9_aid_25 ⟨Nat.le_of_ble_eq_true rfl, Nat.le_of_ble_eq_true rfl⟩ (fun H locs hW => ?_)
  refine lv_aload_n hx hb dX9_aid_28 rfl (lv_at hl 0 rfl) ?_
  refine g_getr hC hW (o := 0) (ci := 9) (k := 6) zc_k0 zc_b0 rfl hi9 (by decide) rfl (t := 64) zc_r0_6 (by decide +kernel) dX9_aid_29 ?_
  refine lv_aload_n hx hb dX9_aid_32 rfl (lv_at hl 0 rfl) ?_
  refine g_geti hC hW (o := 0) (ci := 9) (k := 8) zc_k0 zc_b0 rfl hi9 (by decide) rfl (by decide +kernel) dX9_aid_33 ?_
  obtain ⟨d1, h9, hf⟩ := ob_inv hf
  have hd1 := zc_rk5 h9
  refine g_rldD hC hW zc_k64 zc_b64 zc_n64 zc_rr5 h9 dX9_aid_36 ?_
  refine g_getr hC hW (o := d1) (ci := 5) (k := 6) hd1 (zc_lt hd1) rfl hi5 (by decide) rfl (t := (d1 + 7)) (zc_o5_6 hd1).1 (by decide +kernel) dX9_aid_37 ?_
  refine lv_astore (lv' := [(6, .ref (G.2.2.1 (d1 + 7))), (0, .ref (G.2.2.1 0)), (1, .int p1), (2, .int p2), (3, .int p3), (4, .int p4), (5, .int p5)]) hx hb dX9_aid_40 hl (by decide) rfl (fun ls hl => ?_)
  refine lv_aload_n hx hb dX9_aid_42 rfl (lv_at hl 1 rfl) ?_
  refine g_getr hC hW (o := 0) (ci := 9) (k := 7) zc_k0 zc_b0 rfl hi9 (by decide) rfl (t := 65) zc_r0_7 (by decide +kernel) dX9_aid_43 ?_
  refine g_getr hC hW (o := 65) (ci := 0) (k := 2) zc_k65 zc_b65 rfl hi0 (by decide) rfl (t := 68) zc_r65_2 (by decide +kernel) dX9_aid_46 ?_
  refine lv_iload_n hx hb dX9_aid_49 rfl (lv_at hl 2 rfl) ?_
  obtain ⟨v2, h9, hf⟩ := ob_inv hf
  refine g_zld hC hW zc_k68 zc_b68 zc_n68 h9 dX9_aid_50 ?_
  obtain ⟨z4, hg, hf⟩ := ob_inv hf
  have hJ67 : ∀ (H : Heap) (locs : List Loc) (ls : Array Slot), g_H ZC G s H locs me → lv_has ls 7 [(1, .int p1), (2, .int p2), (3, .int p3), (4, .int p4), (5, .int p5), (6, .ref (G.2.2.1 (d1 + 7)))] → W p l e (headSpec wsX9_aid rm0X9_aid).room s m ([.ref (G.2.2.1 0), .int p1, .int p2, .int p3, .int p4, .int p5] : List Value).toArray below meth c H locs 0 0 Q (F0 m 67 ls [.int z4]) := by
    intro H locs ls hW hl
    obtain ⟨⟨⟩, hg, hf⟩ := ox_invR hf
    refine g_cSv hC hW (As := [.int z4]) (rest := []) (c0_X9_checkState l G  hg) (va_cwS 1 hts gX9_aid_X9_checkState rfl rfl rfl (by decide +kernel) ⟨Nat.le_of_ble_eq_true rfl, Nat.le_of_ble_eq_true rfl⟩) rfl hl.1 rfl (Nat.le_of_ble_eq_true rfl) dX9_aid_67 ⟨Nat.le_of_ble_eq_true rfl, Nat.le_of_ble_eq_true rfl⟩ (fun H locs hW => ?_)
    refine lv_aload hx hb dX9_aid_70 (lv_at hl 5 rfl) ?_
    refine lv_iload_n hx hb dX9_aid_72 rfl (lv_at hl 0 rfl) ?_
    refine lv_iconst (v := 0) hx hb dX9_aid_73 (by decide) ?_
    refine lv_iload_n hx hb dX9_aid_74 rfl (lv_at hl 1 rfl) ?_
    refine lv_iload_n hx hb dX9_aid_75 rfl (lv_at hl 2 rfl) ?_
    obtain ⟨z8, hg, hf⟩ := ob_inv hf
    have hJ84 : ∀ (H : Heap) (locs : List Loc) (ls : Array Slot), g_H ZC G s H locs me → lv_has ls 7 [(4, .int p4), (5, .int p5)] → W p l e (headSpec wsX9_aid rm0X9_aid).room s m ([.ref (G.2.2.1 0), .int p1, .int p2, .int p3, .int p4, .int p5] : List Value).toArray below meth c H locs 0 0 Q (F0 m 84 ls [.int z8, .int p2, .int 0, .int p1, .ref (G.2.2.1 (d1 + 7))]) := by
      intro H locs ls hW hl
      refine lv_iload hx hb dX9_aid_84 (lv_at hl 0 rfl) ?_
      refine lv_iload hx hb dX9_aid_86 (lv_at hl 1 rfl) ?_
      obtain ⟨⟨r9, m10⟩, hg, hf⟩ := ob_inv hf
      have hf := ob_inv2 hf
      refine g_cVi hC hW (o := (d1 + 7)) (ci := 8) (As := [.int p1, .int 0, .int p2, .int z8, .int p4, .int p5]) (rest := []) (zc_o5_6 hd1).2.1 (zc_o5_6 hd1).2.2 rfl (c_X8_add l G ((zc_o5_6 hd1).2.1) hg) (cwV 6 hts gX9_aid_X8_add rfl rfl rfl (by decide +kernel) ⟨Nat.le_of_ble_eq_true rfl, Nat.le_of_ble_eq_true rfl⟩) rfl hl.1 rfl (Nat.le_of_ble_eq_true rfl) dX9_aid_88 ⟨Nat.le_of_ble_eq_true rfl, Nat.le_of_ble_eq_true rfl⟩ (fun H locs hW => ?_)
      cases hf
      subst hQ
      exact g_iret hC hW hr hlocks rfl rfl dX9_aid_91
    replace hf := hg
    refine lv_if_ne (tgt := 83) hx hb dX9_aid_76 (by decide) (fun c7 => ?_) (fun c7 => ?_)
    · have hf := a_if_f c7 hf
      refine lv_iconst (v := 0) hx hb dX9_aid_83 (by decide) ?_
      cases hf
      exact hJ84 H locs ls hW (lv_sub hl [3, 4] rfl)
    · have hf := a_if_t c7 hf
      refine lv_iconst (v := 1) hx hb dX9_aid_79 (by decide) ?_
      refine lv_goto (tgt := 84) hx hb dX9_aid_80 (by decide) ?_
      cases hf
      exact hJ84 H locs ls hW (lv_sub hl [3, 4] rfl)
  replace hf := hg
  refine lv_if_ne (tgt := 66) hx hb dX9_aid_51 (by decide) (fun c3 => ?_) (fun c3 => ?_)
  · have hf := a_if_f c3 hf
    refine lv_iconst (v := 0) hx hb dX9_aid_66 (by decide) ?_
    cases hf
    exact hJ67 H locs ls hW (lv_sub hl [2, 3, 4, 5, 6, 0] rfl)
  · have hf := a_if_t c3 hf
    refine lv_aload hx hb dX9_aid_54 (lv_at hl 0 rfl) ?_
    obtain ⟨r5, hg, hf⟩ := ob_inv hf
    refine g_cVi hC hW (o := (d1 + 7)) (ci := 8) (As := []) (rest := []) (zc_o5_6 hd1).2.1 (zc_o5_6 hd1).2.2 rfl (c_X8_hasRoom l G ((zc_o5_6 hd1).2.1) hg) (cwV 0 hts gX9_aid_X8_hasRoom rfl rfl rfl (by decide +kernel) ⟨Nat.le_of_ble_eq_true rfl, Nat.le_of_ble_eq_true rfl⟩) rfl hl.1 rfl (Nat.le_of_ble_eq_true rfl) dX9_aid_56 ⟨Nat.le_of_ble_eq_true rfl, Nat.le_of_ble_eq_true rfl⟩ (fun H locs hW => ?_)
    refine lv_if_eq (tgt := 66) hx hb dX9_aid_59 (by decide) (fun c6 => ?_) (fun c6 => ?_)
    · have hf := a_if_t c6 hf
      refine lv_iconst (v := 0) hx hb dX9_aid_66 (by decide) ?_
      cases hf
      exact hJ67 H locs ls hW (lv_sub hl [2, 3, 4, 5, 6, 0] rfl)
    · have hf := a_if_f c6 hf
      refine lv_iconst (v := 1) hx hb dX9_aid_62 (by decide) ?_
      refine lv_goto (tgt := 67) hx hb dX9_aid_63 (by decide) ?_
      cases hf
      exact hJ67 H locs ls hW (lv_sub hl [2, 3, 4, 5, 6, 0] rfl)
abbrev rm0X9_close : Room := { frames := 7, cells := 0, slots := 0, locals := 110 }
set_option maxHeartbeats 4000000 in
set_option maxRecDepth 100000 in
theorem c0_X9_close (l : Launch) (G : gG)  {me : gM} {r0 : Int32} {m0 : gM}  (hf : f_X9_close me = some (.inr (r0, m0))) : Met l yX9_close wsX9_close rm0X9_close (va_Pc [.ref (G.2.2.1 0)] (g_W ZC G me)) (g_Qi ZC G r0 m0) 0 0 (g_A ZC G) := by
  refine Met.ofW (cc := cX9_close) (maxL := 1) (ret := (some .int)) (by decide) rfl ?_
  intro p e s m args below meth c s₁ B hml hv
  obtain ⟨rfl, hW0⟩ := hv
  have hC : CallFix p m c cX9_close 1 s ([.ref (G.2.2.1 0)] : List Value).toArray wsX9_close RX9 := ⟨B.exec, B.bytes, hml, findClass_of_methodNamed B.named, atoms_spec (ws := wsX9_close) B.pre⟩
  have hx := hC.1
  have hb := hC.2.1
  have hown := hC.2.2.2.1
  have hts := hC.2.2.2.2
  have hr := B.returns
  have hlocks := B.notSynchronized
  have hW := g_H_enter hW0
  have hi1 : ∀ w ∈ wsX10, w ∈ wsX9_close := by decide +kernel
  have hi2 : ∀ w ∈ wsX20, w ∈ wsX9_close := by decide +kernel
  have hi8 : ∀ w ∈ wsX80, w ∈ wsX9_close := by decide +kernel
  have hi9 : ∀ w ∈ wsX90, w ∈ wsX9_close := by decide +kernel
  have hl := lv_entry ([.ref (G.2.2.1 0)]) (n := 1) (Nat.le_of_ble_eq_true rfl)
  rw [lg_entry_eq]
  generalize (lg_sl ([.ref (G.2.2.1 0)]) ++ List.replicate (1 - (lg_sl ([.ref (G.2.2.1 0)])).length) Slot.unset).toArray = ls at hl ⊢
  have hl : lv_has ls 1 [(0, .ref (G.2.2.1 0))] := hl
  obtain ⟨Q, hQ⟩ : ∃ Q, Q = MQ below (g_Qi ZC G r0 m0) ([.ref (G.2.2.1 0)] : List Value).toArray s 0 0 (g_A ZC G) := ⟨_, rfl⟩
  refine g_goQ hQ ?_
  unfold f_X9_close at hf
  refine g_start hW (fun H locs hW => ?_)
  refine lv_aload_n hx hb dX9_close_0 rfl (lv_at hl 0 rfl) ?_
  refine g_geti hC hW (o := 0) (ci := 9) (k := 9) zc_k0 zc_b0 rfl hi9 (by decide) rfl (by decide +kernel) dX9_close_1 ?_
  refine lv_iconst (v := 1) hx hb dX9_close_4 (by decide) ?_
  obtain ⟨z2, hg, hf⟩ := ob_inv hf
  have hJ22 : ∀ (H : Heap) (locs : List Loc) (ls : Array Slot), g_H ZC G s H locs me → lv_has ls 1 [(0, .ref (G.2.2.1 0))] → W p l e (headSpec wsX9_close rm0X9_close).room s m ([.ref (G.2.2.1 0)] : List Value).toArray below meth c H locs 0 0 Q (F0 m 22 ls [.int z2]) := by
    intro H locs ls hW hl
    obtain ⟨⟨⟩, hg, hf⟩ := ox_invR hf
    refine g_cSv hC hW (As := [.int z2]) (rest := []) (c0_X9_checkState l G  hg) (va_cwS 1 hts gX9_close_X9_checkState rfl rfl rfl (by decide +kernel) ⟨Nat.le_of_ble_eq_true rfl, Nat.le_of_ble_eq_true rfl⟩) rfl hl.1 rfl (Nat.le_of_ble_eq_true rfl) dX9_close_22 ⟨Nat.le_of_ble_eq_true rfl, Nat.le_of_ble_eq_true rfl⟩ (fun H locs hW => ?_)
    refine lv_aload_n hx hb dX9_close_25 rfl (lv_at hl 0 rfl) ?_
    refine g_getr hC hW (o := 0) (ci := 9) (k := 2) zc_k0 zc_b0 rfl hi9 (by decide) rfl (t := 4) zc_r0_2 (by decide +kernel) dX9_close_26 ?_
    refine lv_iconst (v := 0) hx hb dX9_close_29 (by decide) ?_
    obtain ⟨m4, h9, hf⟩ := ob_inv hf
    refine g_puti hC hW (o := 4) (ci := 8) (k := 8) zc_k4 zc_b4 rfl hi8 tyX8_ok nmX8 (by decide) rfl rfl rfl (by decide +kernel) dX9_close_30 (fun H locs hW => ?_)
    rw [Option.some.inj h9] at hW
    refine lv_aload_n hx hb dX9_close_33 rfl (lv_at hl 0 rfl) ?_
    refine g_getr hC hW (o := 0) (ci := 9) (k := 3) zc_k0 zc_b0 rfl hi9 (by decide) rfl (t := 13) zc_r0_3 (by decide +kernel) dX9_close_34 ?_
    refine lv_iconst (v := 0) hx hb dX9_close_37 (by decide) ?_
    obtain ⟨m5, h9, hf⟩ := ob_inv hf
    refine g_puti hC hW (o := 13) (ci := 2) (k := 8) zc_k13 zc_b13 rfl hi2 tyX2_ok nmX2 (by decide) rfl rfl rfl (by decide +kernel) dX9_close_38 (fun H locs hW => ?_)
    rw [Option.some.inj h9] at hW
    refine lv_aload_n hx hb dX9_close_41 rfl (lv_at hl 0 rfl) ?_
    refine g_getr hC hW (o := 0) (ci := 9) (k := 4) zc_k0 zc_b0 rfl hi9 (by decide) rfl (t := 44) zc_r0_4 (by decide +kernel) dX9_close_42 ?_
    refine g_getr hC hW (o := 44) (ci := 1) (k := 0) zc_k44 zc_b44 rfl hi1 (by decide) rfl (t := 45) zc_r44_0 (by decide +kernel) dX9_close_45 ?_
    refine lv_iconst (v := 0) hx hb dX9_close_48 (by decide) ?_
    obtain ⟨m6, h9, hf⟩ := ob_inv hf
    refine g_puti hC hW (o := 45) (ci := 8) (k := 8) zc_k45 zc_b45 rfl hi8 tyX8_ok nmX8 (by decide) rfl rfl rfl (by decide +kernel) dX9_close_49 (fun H locs hW => ?_)
    rw [Option.some.inj h9] at hW
    refine lv_aload_n hx hb dX9_close_52 rfl (lv_at hl 0 rfl) ?_
    refine g_getr hC hW (o := 0) (ci := 9) (k := 5) zc_k0 zc_b0 rfl hi9 (by decide) rfl (t := 55) zc_r0_5 (by decide +kernel) dX9_close_53 ?_
    refine lv_iconst (v := 0) hx hb dX9_close_56 (by decide) ?_
    obtain ⟨m7, h9, hf⟩ := ob_inv hf
    refine g_puti hC hW (o := 55) (ci := 8) (k := 8) zc_k55 zc_b55 rfl hi8 tyX8_ok nmX8 (by decide) rfl rfl rfl (by decide +kernel) dX9_close_57 (fun H locs hW => ?_)
    rw [Option.some.inj h9] at hW
    refine lv_aload_n hx hb dX9_close_60 rfl (lv_at hl 0 rfl) ?_
    refine lv_dup hx hb dX9_close_61 rfl ?_
    refine g_geti hC hW (o := 0) (ci := 9) (k := 8) zc_k0 zc_b0 rfl hi9 (by decide) rfl (by decide +kernel) dX9_close_62 ?_
    refine lv_iconst (v := 1) hx hb dX9_close_65 (by decide) ?_
    refine lv_iadd hx hb dX9_close_66 ?_
    obtain ⟨m8, h9, hf⟩ := ob_inv hf
    refine g_puti hC hW (o := 0) (ci := 9) (k := 8) zc_k0 zc_b0 rfl hi9 tyX9_ok nmX9 (by decide) rfl rfl rfl (by decide +kernel) dX9_close_67 (fun H locs hW => ?_)
    rw [Option.some.inj h9] at hW
    refine lv_aload_n hx hb dX9_close_70 rfl (lv_at hl 0 rfl) ?_
    refine lv_iconst (v := 0) hx hb dX9_close_71 (by decide) ?_
    obtain ⟨m9, h9, hf⟩ := ob_inv hf
    refine g_puti hC hW (o := 0) (ci := 9) (k := 9) zc_k0 zc_b0 rfl hi9 tyX9_ok nmX9 (by decide) rfl rfl rfl (by decide +kernel) dX9_close_72 (fun H locs hW => ?_)
    rw [Option.some.inj h9] at hW
    refine lv_aload_n hx hb dX9_close_75 rfl (lv_at hl 0 rfl) ?_
    refine g_geti hC hW (o := 0) (ci := 9) (k := 8) zc_k0 zc_b0 rfl hi9 (by decide) rfl (by decide +kernel) dX9_close_76 ?_
    cases hf
    subst hQ
    exact g_iret hC hW hr hlocks rfl rfl dX9_close_79
  replace hf := hg
  refine lv_icmp_ne (tgt := 21) hx hb dX9_close_5 (by decide) (fun c1 => ?_) (fun c1 => ?_)
  · have hf := a_if_f c1 hf
    refine lv_iconst (v := 0) hx hb dX9_close_21 (by decide) ?_
    cases hf
    exact hJ22 H locs ls hW (lv_sub hl [0] rfl)
  · have hf := a_if_t c1 hf
    refine lv_aload_n hx hb dX9_close_8 rfl (lv_at hl 0 rfl) ?_
    refine g_geti hC hW (o := 0) (ci := 9) (k := 8) zc_k0 zc_b0 rfl hi9 (by decide) rfl (by decide +kernel) dX9_close_9 ?_
    refine lv_bipush (v := 9) hx hb dX9_close_12 (by decide) ?_
    refine lv_icmp_ge (tgt := 21) hx hb dX9_close_14 (by decide) (fun c3 => ?_) (fun c3 => ?_)
    · have hf := a_if_t c3 hf
      refine lv_iconst (v := 0) hx hb dX9_close_21 (by decide) ?_
      cases hf
      exact hJ22 H locs ls hW (lv_sub hl [0] rfl)
    · have hf := a_if_f c3 hf
      refine lv_iconst (v := 1) hx hb dX9_close_17 (by decide) ?_
      refine lv_goto (tgt := 22) hx hb dX9_close_18 (by decide) ?_
      cases hf
      exact hJ22 H locs ls hW (lv_sub hl [0] rfl)
abbrev rm0X9_read : Room := { frames := 7, cells := 0, slots := 0, locals := 112 }
set_option maxHeartbeats 4000000 in
set_option maxRecDepth 100000 in
theorem c0_X9_read (l : Launch) (G : gG) {p1 : Int32} {p2 : Int32} {p3 : Int32} {p4 : Int32} {p5 : Int32} {me : gM} {r0 : Int32} {m0 : gM}  (hf : f_X9_read p1 p2 p3 p4 p5 me = some (.inr (r0, m0))) : Met l yX9_read wsX9_read rm0X9_read (va_Pc [.ref (G.2.2.1 0), .int p1, .int p2, .int p3, .int p4, .int p5] (g_W ZC G me)) (g_Qi ZC G r0 m0) 0 0 (g_A ZC G) := by
  refine Met.ofW (cc := cX9_read) (maxL := 8) (ret := (some .int)) (by decide) rfl ?_
  intro p e s m args below meth c s₁ B hml hv
  obtain ⟨rfl, hW0⟩ := hv
  have hC : CallFix p m c cX9_read 8 s ([.ref (G.2.2.1 0), .int p1, .int p2, .int p3, .int p4, .int p5] : List Value).toArray wsX9_read RX9 := ⟨B.exec, B.bytes, hml, findClass_of_methodNamed B.named, atoms_spec (ws := wsX9_read) B.pre⟩
  have hx := hC.1
  have hb := hC.2.1
  have hown := hC.2.2.2.1
  have hts := hC.2.2.2.2
  have hr := B.returns
  have hlocks := B.notSynchronized
  have hW := g_H_enter hW0
  have hi5 : ∀ w ∈ wsX50, w ∈ wsX9_read := by decide +kernel
  have hi9 : ∀ w ∈ wsX90, w ∈ wsX9_read := by decide +kernel
  have hl := lv_entry ([.ref (G.2.2.1 0), .int p1, .int p2, .int p3, .int p4, .int p5]) (n := 8) (Nat.le_of_ble_eq_true rfl)
  rw [lg_entry_eq]
  generalize (lg_sl ([.ref (G.2.2.1 0), .int p1, .int p2, .int p3, .int p4, .int p5]) ++ List.replicate (8 - (lg_sl ([.ref (G.2.2.1 0), .int p1, .int p2, .int p3, .int p4, .int p5])).length) Slot.unset).toArray = ls at hl ⊢
  have hl : lv_has ls 8 [(0, .ref (G.2.2.1 0)), (1, .int p1), (2, .int p2), (3, .int p3), (4, .int p4), (5, .int p5)] := hl
  obtain ⟨Q, hQ⟩ : ∃ Q, Q = MQ below (g_Qi ZC G r0 m0) ([.ref (G.2.2.1 0), .int p1, .int p2, .int p3, .int p4, .int p5] : List Value).toArray s 0 0 (g_A ZC G) := ⟨_, rfl⟩
  refine g_goQ hQ ?_
  unfold f_X9_read at hf
  refine g_start hW (fun H locs hW => ?_)
  refine lv_iload_n hx hb dX9_read_0 rfl (lv_at hl 1 rfl) ?_
  refine lv_aload_n hx hb dX9_read_1 rfl (lv_at hl 0 rfl) ?_
  refine g_geti hC hW (o := 0) (ci := 9) (k := 8) zc_k0 zc_b0 rfl hi9 (by decide) rfl (by decide +kernel) dX9_read_2 ?_
  obtain ⟨⟨⟩, hg, hf⟩ := ox_invR hf
  refine g_cSv hC hW (As := [.int p1, .int (me 0 8)]) (rest := []) (c0_X9_checkIndex l G  hg) (va_cwS 2 hts gX9_read_X9_checkIndex rfl rfl rfl (by decide +kernel) ⟨Nat.le_of_ble_eq_true rfl, Nat.le_of_ble_eq_true rfl⟩) rfl hl.1 rfl (Nat.le_of_ble_eq_true rfl) dX9_read_5 ⟨Nat.le_of_ble_eq_true rfl, Nat.le_of_ble_eq_true rfl⟩ (fun H locs hW => ?_)
  refine lv_iload_n hx hb dX9_read_8 rfl (lv_at hl 2 rfl) ?_
  refine lv_bipush (v := 6) hx hb dX9_read_9 (by decide) ?_
  obtain ⟨⟨⟩, hg, hf⟩ := ox_invR hf
  refine g_cSv hC hW (As := [.int p2, .int 6]) (rest := []) (c0_X9_checkIndex l G  hg) (va_cwS 2 hts gX9_read_X9_checkIndex rfl rfl rfl (by decide +kernel) ⟨Nat.le_of_ble_eq_true rfl, Nat.le_of_ble_eq_true rfl⟩) rfl hl.1 rfl (Nat.le_of_ble_eq_true rfl) dX9_read_11 ⟨Nat.le_of_ble_eq_true rfl, Nat.le_of_ble_eq_true rfl⟩ (fun H locs hW => ?_)
  refine lv_iload_n hx hb dX9_read_14 rfl (lv_at hl 3 rfl) ?_
  refine lv_iconst (v := 3) hx hb dX9_read_15 (by decide) ?_
  obtain ⟨⟨⟩, hg, hf⟩ := ox_invR hf
  refine g_cSv hC hW (As := [.int p3, .int 3]) (rest := []) (c0_X9_checkIndex l G  hg) (va_cwS 2 hts gX9_read_X9_checkIndex rfl rfl rfl (by decide +kernel) ⟨Nat.le_of_ble_eq_true rfl, Nat.le_of_ble_eq_true rfl⟩) rfl hl.1 rfl (Nat.le_of_ble_eq_true rfl) dX9_read_16 ⟨Nat.le_of_ble_eq_true rfl, Nat.le_of_ble_eq_true rfl⟩ (fun H locs hW => ?_)
  refine lv_iload hx hb dX9_read_19 (lv_at hl 4 rfl) ?_
  refine lv_iconst (v := 4) hx hb dX9_read_21 (by decide) ?_
  obtain ⟨⟨⟩, hg, hf⟩ := ox_invR hf
  refine g_cSv hC hW (As := [.int p4, .int 4]) (rest := []) (c0_X9_checkIndex l G  hg) (va_cwS 2 hts gX9_read_X9_checkIndex rfl rfl rfl (by decide +kernel) ⟨Nat.le_of_ble_eq_true rfl, Nat.le_of_ble_eq_true rfl⟩) rfl hl.1 rfl (Nat.le_of_ble_eq_true rfl) dX9_read_22 ⟨Nat.le_of_ble_eq_true rfl, Nat.le_of_ble_eq_true rfl⟩ (fun H locs hW => ?_)
  refine lv_iload hx hb dX9_read_25 (lv_at hl 5 rfl) ?_
  refine lv_sipush (v := (-200)) hx hb dX9_read_27 (by decide) ?_
  refine lv_sipush (v := 200) hx hb dX9_read_30 (by decide) ?_
  obtain ⟨⟨⟩, hg, hf⟩ := ox_invR hf
  refine g_cSv hC hW (As := [.int p5, .int (-200), .int 200]) (rest := []) (c0_X9_checkRange l G  hg) (va_cwS 3 hts gX9_read_X9_checkRange rfl rfl rfl (by decide +kernel) ⟨Nat.le_of_ble_eq_true rfl, Nat.le_of_ble_eq_true rfl⟩) rfl hl.1 rfl (Nat.le_of_ble_eq_true rfl) dX9_read_33 ⟨Nat.le_of_ble_eq_true rfl, Nat.le_of_ble_eq_true rfl⟩ (fun H locs hW => ?_)
  refine lv_aload_n hx hb dX9_read_36 rfl (lv_at hl 0 rfl) ?_
  refine g_getr hC hW (o := 0) (ci := 9) (k := 6) zc_k0 zc_b0 rfl hi9 (by decide) rfl (t := 64) zc_r0_6 (by decide +kernel) dX9_read_37 ?_
  refine lv_iload_n hx hb dX9_read_40 rfl (lv_at hl 1 rfl) ?_
  obtain ⟨d1, h9, hf⟩ := ob_inv hf
  have hd1 := zc_rk5 h9
  refine g_rldD hC hW zc_k64 zc_b64 zc_n64 zc_rr5 h9 dX9_read_41 ?_
  refine lv_astore (lv' := [(6, .ref (G.2.2.1 d1)), (0, .ref (G.2.2.1 0)), (1, .int p1), (2, .int p2), (3, .int p3), (4, .int p4), (5, .int p5)]) hx hb dX9_read_42 hl (by decide) rfl (fun ls hl => ?_)
  refine lv_iload_n hx hb dX9_read_44 rfl (lv_at hl 3 rfl) ?_
  refine lv_iload_n hx hb dX9_read_45 rfl (lv_at hl 4 rfl) ?_
  refine lv_iload hx hb dX9_read_46 (lv_at hl 5 rfl) ?_
  obtain ⟨r2, hg, hf⟩ := ob_inv hf
  refine g_cSi hC hW (As := [.int p2, .int p3, .int p4]) (rest := []) (c_X9_placeOf l G  hg) (va_cwS 3 hts gX9_read_X9_placeOf rfl rfl rfl (by decide +kernel) ⟨Nat.le_of_ble_eq_true rfl, Nat.le_of_ble_eq_true rfl⟩) rfl hl.1 rfl (Nat.le_of_ble_eq_true rfl) dX9_read_48 ⟨Nat.le_of_ble_eq_true rfl, Nat.le_of_ble_eq_true rfl⟩ (fun H locs hW => ?_)
  refine lv_istore (lv' := [(7, .int r2), (6, .ref (G.2.2.1 d1)), (0, .ref (G.2.2.1 0)), (1, .int p1), (2, .int p2), (3, .int p3), (4, .int p4), (5, .int p5)]) hx hb dX9_read_51 hl (by decide) rfl (fun ls hl => ?_)
  refine lv_aload hx hb dX9_read_53 (lv_at hl 1 rfl) ?_
  refine g_getr hC hW (o := d1) (ci := 5) (k := 3) hd1 (zc_lt hd1) rfl hi5 (by decide) rfl (t := (d1 + 4)) (zc_o5_3 hd1).1 (by decide +kernel) dX9_read_55 ?_
  refine lv_iload hx hb dX9_read_58 (lv_at hl 0 rfl) ?_
  refine lv_iload hx hb dX9_read_60 (lv_at hl 7 rfl) ?_
  refine lv_aload hx hb dX9_read_62 (lv_at hl 1 rfl) ?_
  refine g_getr hC hW (o := d1) (ci := 5) (k := 2) hd1 (zc_lt hd1) rfl hi5 (by decide) rfl (t := (d1 + 3)) (zc_o5_2 hd1).1 (by decide +kernel) dX9_read_64 ?_
  refine lv_iload hx hb dX9_read_67 (lv_at hl 0 rfl) ?_
  obtain ⟨v3, h9, hf⟩ := ob_inv hf
  refine g_ild hC hW (zc_o5_2 hd1).2.1 (zc_o5_2 hd1).2.2.1 (zc_o5_2 hd1).2.2.2 h9 dX9_read_69 ?_
  refine lv_isub hx hb dX9_read_70 ?_
  obtain ⟨m4, h9, hf⟩ := ob_inv hf
  refine g_ist hC hW (zc_o5_3 hd1).2.1 (zc_o5_3 hd1).2.2.1 (zc_o5_3 hd1).2.2.2 h9 dX9_read_71 (fun H locs hW => ?_)
  refine lv_aload hx hb dX9_read_72 (lv_at hl 1 rfl) ?_
  refine g_getr hC hW (o := d1) (ci := 5) (k := 3) hd1 (zc_lt hd1) rfl hi5 (by decide) rfl (t := (d1 + 4)) (zc_o5_3 hd1).1 (by decide +kernel) dX9_read_74 ?_
  refine lv_iload hx hb dX9_read_77 (lv_at hl 0 rfl) ?_
  obtain ⟨v5, h9, hf⟩ := ob_inv hf
  refine g_ild hC hW (zc_o5_3 hd1).2.1 (zc_o5_3 hd1).2.2.1 (zc_o5_3 hd1).2.2.2 h9 dX9_read_79 ?_
  cases hf
  subst hQ
  exact g_iret hC hW hr hlocks rfl rfl dX9_read_80
abbrev rm0X9_run : Room := { frames := 7, cells := 0, slots := 0, locals := 118 }
set_option maxHeartbeats 4000000 in
set_option maxRecDepth 100000 in
theorem c0_X9_run (l : Launch) (G : gG) {p1 : Int32} {me : gM} {r0 : Int32} {m0 : gM}  (hf : f_X9_run p1 me = some (.inr (r0, m0))) : Met l yX9_run wsX9_run rm0X9_run (va_Pc [.ref (G.2.2.1 0), .int p1] (g_W ZC G me)) (g_Qi ZC G r0 m0) 0 0 (g_A ZC G) := by
  refine Met.ofW (cc := cX9_run) (maxL := 5) (ret := (some .int)) (by decide) rfl ?_
  intro p e s m args below meth c s₁ B hml hv
  obtain ⟨rfl, hW0⟩ := hv
  have hC : CallFix p m c cX9_run 5 s ([.ref (G.2.2.1 0), .int p1] : List Value).toArray wsX9_run RX9 := ⟨B.exec, B.bytes, hml, findClass_of_methodNamed B.named, atoms_spec (ws := wsX9_run) B.pre⟩
  have hx := hC.1
  have hb := hC.2.1
  have hown := hC.2.2.2.1
  have hts := hC.2.2.2.2
  have hr := B.returns
  have hlocks := B.notSynchronized
  have hW := g_H_enter hW0
  have hi0 : ∀ w ∈ wsX00, w ∈ wsX9_run := by decide +kernel
  have hi5 : ∀ w ∈ wsX50, w ∈ wsX9_run := by decide +kernel
  have hi9 : ∀ w ∈ wsX90, w ∈ wsX9_run := by decide +kernel
  have hl := lv_entry ([.ref (G.2.2.1 0), .int p1]) (n := 5) (Nat.le_of_ble_eq_true rfl)
  rw [lg_entry_eq]
  generalize (lg_sl ([.ref (G.2.2.1 0), .int p1]) ++ List.replicate (5 - (lg_sl ([.ref (G.2.2.1 0), .int p1])).length) Slot.unset).toArray = ls at hl ⊢
  have hl : lv_has ls 5 [(0, .ref (G.2.2.1 0)), (1, .int p1)] := hl
  obtain ⟨Q, hQ⟩ : ∃ Q, Q = MQ below (g_Qi ZC G r0 m0) ([.ref (G.2.2.1 0), .int p1] : List Value).toArray s 0 0 (g_A ZC G) := ⟨_, rfl⟩
  refine g_goQ hQ ?_
  unfold f_X9_run at hf
  refine g_start hW (fun H locs hW => ?_)
  refine lv_iload_n hx hb dX9_run_0 rfl (lv_at hl 1 rfl) ?_
  refine lv_aload_n hx hb dX9_run_1 rfl (lv_at hl 0 rfl) ?_
  refine g_geti hC hW (o := 0) (ci := 9) (k := 8) zc_k0 zc_b0 rfl hi9 (by decide) rfl (by decide +kernel) dX9_run_2 ?_
  obtain ⟨⟨⟩, hg, hf⟩ := ox_invR hf
  refine g_cSv hC hW (As := [.int p1, .int (me 0 8)]) (rest := []) (c0_X9_checkIndex l G  hg) (va_cwS 2 hts gX9_run_X9_checkIndex rfl rfl rfl (by decide +kernel) ⟨Nat.le_of_ble_eq_true rfl, Nat.le_of_ble_eq_true rfl⟩) rfl hl.1 rfl (Nat.le_of_ble_eq_true rfl) dX9_run_5 ⟨Nat.le_of_ble_eq_true rfl, Nat.le_of_ble_eq_true rfl⟩ (fun H locs hW => ?_)
  refine lv_aload_n hx hb dX9_run_8 rfl (lv_at hl 0 rfl) ?_
  refine g_getr hC hW (o := 0) (ci := 9) (k := 6) zc_k0 zc_b0 rfl hi9 (by decide) rfl (t := 64) zc_r0_6 (by decide +kernel) dX9_run_9 ?_
  refine lv_iload_n hx hb dX9_run_12 rfl (lv_at hl 1 rfl) ?_
  obtain ⟨d1, h9, hf⟩ := ob_inv hf
  have hd1 := zc_rk5 h9
  refine g_rldD hC hW zc_k64 zc_b64 zc_n64 zc_rr5 h9 dX9_run_13 ?_
  refine lv_astore_n (lv' := [(2, .ref (G.2.2.1 d1)), (0, .ref (G.2.2.1 0)), (1, .int p1)]) hx hb dX9_run_14 rfl hl (by decide) rfl (fun ls hl => ?_)
  refine lv_aload_n hx hb dX9_run_15 rfl (lv_at hl 0 rfl) ?_
  refine g_geti hC hW (o := d1) (ci := 5) (k := 7) hd1 (zc_lt hd1) rfl hi5 (by decide) rfl (by decide +kernel) dX9_run_16 ?_
  refine lv_iconst (v := 3) hx hb dX9_run_19 (by decide) ?_
  obtain ⟨z3, hg, hf⟩ := ob_inv hf
  have hJ28 : ∀ (H : Heap) (locs : List Loc) (ls : Array Slot), g_H ZC G s H locs me → lv_has ls 5 [(0, .ref (G.2.2.1 0)), (2, .ref (G.2.2.1 d1))] → W p l e (headSpec wsX9_run rm0X9_run).room s m ([.ref (G.2.2.1 0), .int p1] : List Value).toArray below meth c H locs 0 0 Q (F0 m 28 ls [.int z3]) := by
    intro H locs ls hW hl
    obtain ⟨⟨⟩, hg, hf⟩ := ox_invR hf
    refine g_cSv hC hW (As := [.int z3]) (rest := []) (c0_X9_checkState l G  hg) (va_cwS 1 hts gX9_run_X9_checkState rfl rfl rfl (by decide +kernel) ⟨Nat.le_of_ble_eq_true rfl, Nat.le_of_ble_eq_true rfl⟩) rfl hl.1 rfl (Nat.le_of_ble_eq_true rfl) dX9_run_28 ⟨Nat.le_of_ble_eq_true rfl, Nat.le_of_ble_eq_true rfl⟩ (fun H locs hW => ?_)
    refine lv_aload_n hx hb dX9_run_31 rfl (lv_at hl 1 rfl) ?_
    refine lv_dup hx hb dX9_run_32 rfl ?_
    refine g_geti hC hW (o := d1) (ci := 5) (k := 7) hd1 (zc_lt hd1) rfl hi5 (by decide) rfl (by decide +kernel) dX9_run_33 ?_
    refine lv_iconst (v := 1) hx hb dX9_run_36 (by decide) ?_
    refine lv_iadd hx hb dX9_run_37 ?_
    obtain ⟨m4, h9, hf⟩ := ob_inv hf
    refine g_puti hC hW (o := d1) (ci := 5) (k := 7) hd1 (zc_lt hd1) rfl hi5 tyX5_ok nmX5 (by decide) rfl rfl rfl (by decide +kernel) dX9_run_38 (fun H locs hW => ?_)
    rw [Option.some.inj h9] at hW
    refine lv_iconst (v := 0) hx hb dX9_run_41 (by decide) ?_
    refine lv_istore_n (lv' := [(3, .int 0), (0, .ref (G.2.2.1 0)), (2, .ref (G.2.2.1 d1))]) hx hb dX9_run_42 rfl hl (by decide) rfl (fun ls hl => ?_)
    have hL43 : ∀ (n : Nat) (x5 : Int32) (m6 : gM) (y7 : Int32) (m8 : gM) (H : Heap) (locs : List Loc) (ls : Array Slot), f_X9_run_L43 d1 n x5 m6 = some (y7, m8) → g_H ZC G s H locs m6 → lv_has ls 5 [(0, .ref (G.2.2.1 0)), (2, .ref (G.2.2.1 d1)), (3, .int x5)] → (∀ (H : Heap) (locs : List Loc) (ls : Array Slot), g_H ZC G s H locs m8 → lv_has ls 5 [(0, .ref (G.2.2.1 0))] → W p l e (headSpec wsX9_run rm0X9_run).room s m ([.ref (G.2.2.1 0), .int p1] : List Value).toArray below meth c H locs 0 0 Q (F0 m 102 ls [])) → W p l e (headSpec wsX9_run rm0X9_run).room s m ([.ref (G.2.2.1 0), .int p1] : List Value).toArray below meth c H locs 0 0 Q (F0 m 43 ls []) := by
      intro n
      induction n with
      | zero =>
        intro x5 m6 y7 m8 H locs ls hf hW hl hE
        cases hf
      | succ n ih =>
        intro x5 m6 y7 m8 H locs ls hf hW hl hE
        rw [f_X9_run_L43] at hf
        refine lv_iload_n hx hb dX9_run_43 rfl (lv_at hl 2 rfl) ?_
        refine lv_bipush (v := 6) hx hb dX9_run_44 (by decide) ?_
        refine lv_icmp_ge (tgt := 102) hx hb dX9_run_46 (by decide) (fun c9 => ?_) (fun c9 => ?_)
        · have hf := a_if_t c9 hf
          cases hf
          exact hE H locs ls hW (lv_sub hl [0] rfl)
        · have hf := a_if_f c9 hf
          refine lv_aload_n hx hb dX9_run_49 rfl (lv_at hl 0 rfl) ?_
          refine g_getr hC hW (o := 0) (ci := 9) (k := 7) zc_k0 zc_b0 rfl hi9 (by decide) rfl (t := 65) zc_r0_7 (by decide +kernel) dX9_run_50 ?_
          refine g_getr hC hW (o := 65) (ci := 0) (k := 2) zc_k65 zc_b65 rfl hi0 (by decide) rfl (t := 68) zc_r65_2 (by decide +kernel) dX9_run_53 ?_
          refine lv_iload_n hx hb dX9_run_56 rfl (lv_at hl 2 rfl) ?_
          obtain ⟨v10, h9, hf⟩ := ob_inv hf
          refine g_zld hC hW zc_k68 zc_b68 zc_n68 h9 dX9_run_57 ?_
          obtain ⟨m12, hg, hf⟩ := ob_inv hf
          have hJ96 : ∀ (H : Heap) (locs : List Loc) (ls : Array Slot), g_H ZC G s H locs m12 → lv_has ls 5 [(0, .ref (G.2.2.1 0)), (2, .ref (G.2.2.1 d1)), (3, .int x5)] → W p l e (headSpec wsX9_run rm0X9_run).room s m ([.ref (G.2.2.1 0), .int p1] : List Value).toArray below meth c H locs 0 0 Q (F0 m 96 ls []) := by
            intro H locs ls hW hl
            refine lv_iinc (v := (x5 + 1)) (lv' := [(3, .int (x5 + 1)), (0, .ref (G.2.2.1 0)), (2, .ref (G.2.2.1 d1))]) hx hb dX9_run_96 hl (k := 2) rfl (congrArg (fun z => x5 + z) (by decide)) (by decide) rfl (fun ls hl => ?_)
            refine lv_goto (tgt := 43) hx hb dX9_run_99 (by decide) ?_
            exact ih _ _ _ _ _ _ _ hf hW (lv_sub hl [1, 2, 0] rfl) hE
          replace hf := hg
          refine lv_if_ne (tgt := 96) hx hb dX9_run_58 (by decide) (fun c11 => ?_) (fun c11 => ?_)
          · have hf := a_if_f c11 hf
            cases hf
            exact hJ96 H locs ls hW (lv_sub hl [0, 1, 2] rfl)
          · have hf := a_if_t c11 hf
            refine lv_aload_n hx hb dX9_run_61 rfl (lv_at hl 1 rfl) ?_
            refine lv_iload_n hx hb dX9_run_62 rfl (lv_at hl 2 rfl) ?_
            obtain ⟨r13, hg, hf⟩ := ob_inv hf
            refine g_cVi hC hW (o := d1) (ci := 5) (As := [.int x5]) (rest := []) hd1 (zc_lt hd1) rfl (c_X5_billOf l G hd1 hg) (cwV 1 hts gX9_run_X5_billOf rfl rfl rfl (by decide +kernel) ⟨Nat.le_of_ble_eq_true rfl, Nat.le_of_ble_eq_true rfl⟩) rfl hl.1 rfl (Nat.le_of_ble_eq_true rfl) dX9_run_63 ⟨Nat.le_of_ble_eq_true rfl, Nat.le_of_ble_eq_true rfl⟩ (fun H locs hW => ?_)
            refine lv_aload_n hx hb dX9_run_66 rfl (lv_at hl 1 rfl) ?_
            refine g_getr hC hW (o := d1) (ci := 5) (k := 5) hd1 (zc_lt hd1) rfl hi5 (by decide) rfl (t := (d1 + 6)) (zc_o5_5 hd1).1 (by decide +kernel) dX9_run_67 ?_
            refine lv_iload_n hx hb dX9_run_70 rfl (lv_at hl 2 rfl) ?_
            obtain ⟨v14, h9, hf⟩ := ob_inv hf
            refine g_ild hC hW (zc_o5_5 hd1).2.1 (zc_o5_5 hd1).2.2.1 (zc_o5_5 hd1).2.2.2 h9 dX9_run_71 ?_
            refine lv_isub hx hb dX9_run_72 ?_
            obtain ⟨x15, h9, hf⟩ := ob_inv hf
            refine g_nmi (Option.some.inj h9) ?_
            refine lv_istore (lv' := [(4, .int x15), (0, .ref (G.2.2.1 0)), (2, .ref (G.2.2.1 d1)), (3, .int x5)]) hx hb dX9_run_73 hl (by decide) rfl (fun ls hl => ?_)
            refine lv_aload_n hx hb dX9_run_75 rfl (lv_at hl 2 rfl) ?_
            refine g_getr hC hW (o := d1) (ci := 5) (k := 5) hd1 (zc_lt hd1) rfl hi5 (by decide) rfl (t := (d1 + 6)) (zc_o5_5 hd1).1 (by decide +kernel) dX9_run_76 ?_
            refine lv_iload_n hx hb dX9_run_79 rfl (lv_at hl 3 rfl) ?_
            refine lv_dup2_11 hx hb dX9_run_80 rfl rfl ?_
            obtain ⟨v16, h9, hf⟩ := ob_inv hf
            refine g_ild hC hW (zc_o5_5 hd1).2.1 (zc_o5_5 hd1).2.2.1 (zc_o5_5 hd1).2.2.2 h9 dX9_run_81 ?_
            refine lv_iload hx hb dX9_run_82 (lv_at hl 0 rfl) ?_
            refine lv_iadd hx hb dX9_run_84 ?_
            obtain ⟨m17, h9, hf⟩ := ob_inv hf
            refine g_ist hC hW (zc_o5_5 hd1).2.1 (zc_o5_5 hd1).2.2.1 (zc_o5_5 hd1).2.2.2 h9 dX9_run_85 (fun H locs hW => ?_)
            refine lv_aload_n hx hb dX9_run_86 rfl (lv_at hl 1 rfl) ?_
            refine g_getr hC hW (o := 0) (ci := 9) (k := 7) zc_k0 zc_b0 rfl hi9 (by decide) rfl (t := 65) zc_r0_7 (by decide +kernel) dX9_run_87 ?_
            refine lv_iload_n hx hb dX9_run_90 rfl (lv_at hl 3 rfl) ?_
            refine lv_iload hx hb dX9_run_91 (lv_at hl 0 rfl) ?_
            obtain ⟨m18, hg, hf⟩ := ob_inv hf
            refine g_cVv hC hW (o := 65) (ci := 0) (As := [.int x5, .int x15]) (rest := []) zc_k65 zc_b65 rfl (c_X0_payFromHouse l G  hg) (cwV 2 hts gX9_run_X0_payFromHouse rfl rfl rfl (by decide +kernel) ⟨Nat.le_of_ble_eq_true rfl, Nat.le_of_ble_eq_true rfl⟩) rfl hl.1 rfl (Nat.le_of_ble_eq_true rfl) dX9_run_93 ⟨Nat.le_of_ble_eq_true rfl, Nat.le_of_ble_eq_true rfl⟩ (fun H locs hW => ?_)
            cases hf
            exact hJ96 H locs ls hW (lv_sub hl [1, 2, 3] rfl)
    obtain ⟨⟨y7, m8⟩, hg, hf⟩ := ob_inv hf
    have hf := ob_inv2 hf
    refine hL43 _ _ _ _ _ _ _ _ hg hW (lv_sub hl [1, 2, 0] rfl) (fun H locs ls hW hl => ?_)
    refine lv_aload_n hx hb dX9_run_102 rfl (lv_at hl 0 rfl) ?_
    refine g_getr hC hW (o := 0) (ci := 9) (k := 7) zc_k0 zc_b0 rfl hi9 (by decide) rfl (t := 65) zc_r0_7 (by decide +kernel) dX9_run_103 ?_
    obtain ⟨⟨r19, m20⟩, hg, hf⟩ := ob_inv hf
    have hf := ob_inv2 hf
    refine g_cVi hC hW (o := 65) (ci := 0) (As := []) (rest := []) zc_k65 zc_b65 rfl (c_X0_failAll l G  hg) (cwV 0 hts gX9_run_X0_failAll rfl rfl rfl (by decide +kernel) ⟨Nat.le_of_ble_eq_true rfl, Nat.le_of_ble_eq_true rfl⟩) rfl hl.1 rfl (Nat.le_of_ble_eq_true rfl) dX9_run_106 ⟨Nat.le_of_ble_eq_true rfl, Nat.le_of_ble_eq_true rfl⟩ (fun H locs hW => ?_)
    cases hf
    subst hQ
    exact g_iret hC hW hr hlocks rfl rfl dX9_run_109
  replace hf := hg
  refine lv_icmp_ge (tgt := 27) hx hb dX9_run_20 (by decide) (fun c2 => ?_) (fun c2 => ?_)
  · have hf := a_if_t c2 hf
    refine lv_iconst (v := 0) hx hb dX9_run_27 (by decide) ?_
    cases hf
    exact hJ28 H locs ls hW (lv_sub hl [1, 0] rfl)
  · have hf := a_if_f c2 hf
    refine lv_iconst (v := 1) hx hb dX9_run_23 (by decide) ?_
    refine lv_goto (tgt := 28) hx hb dX9_run_24 (by decide) ?_
    cases hf
    exact hJ28 H locs ls hW (lv_sub hl [1, 0] rfl)
abbrev rm0X9_price : Room := { frames := 7, cells := 0, slots := 0, locals := 111 }
set_option maxHeartbeats 4000000 in
set_option maxRecDepth 100000 in
theorem c0_X9_price (l : Launch) (G : gG) {p1 : Int32} {p2 : Int32} {me : gM} {r0 : Int32}  (hf : f_X9_price p1 p2 me = some (.inr r0)) : Met l yX9_price wsX9_price rm0X9_price (va_Pc [.ref (G.2.2.1 0), .int p1, .int p2] (g_W ZC G me)) (g_Qi ZC G r0 me) 0 0 (g_A ZC G) := by
  refine Met.ofW (cc := cX9_price) (maxL := 3) (ret := (some .int)) (by decide) rfl ?_
  intro p e s m args below meth c s₁ B hml hv
  obtain ⟨rfl, hW0⟩ := hv
  have hC : CallFix p m c cX9_price 3 s ([.ref (G.2.2.1 0), .int p1, .int p2] : List Value).toArray wsX9_price RX9 := ⟨B.exec, B.bytes, hml, findClass_of_methodNamed B.named, atoms_spec (ws := wsX9_price) B.pre⟩
  have hx := hC.1
  have hb := hC.2.1
  have hown := hC.2.2.2.1
  have hts := hC.2.2.2.2
  have hr := B.returns
  have hlocks := B.notSynchronized
  have hW := g_H_enter hW0
  have hi5 : ∀ w ∈ wsX50, w ∈ wsX9_price := by decide +kernel
  have hi9 : ∀ w ∈ wsX90, w ∈ wsX9_price := by decide +kernel
  have hl := lv_entry ([.ref (G.2.2.1 0), .int p1, .int p2]) (n := 3) (Nat.le_of_ble_eq_true rfl)
  rw [lg_entry_eq]
  generalize (lg_sl ([.ref (G.2.2.1 0), .int p1, .int p2]) ++ List.replicate (3 - (lg_sl ([.ref (G.2.2.1 0), .int p1, .int p2])).length) Slot.unset).toArray = ls at hl ⊢
  have hl : lv_has ls 3 [(0, .ref (G.2.2.1 0)), (1, .int p1), (2, .int p2)] := hl
  obtain ⟨Q, hQ⟩ : ∃ Q, Q = MQ below (g_Qi ZC G r0 me) ([.ref (G.2.2.1 0), .int p1, .int p2] : List Value).toArray s 0 0 (g_A ZC G) := ⟨_, rfl⟩
  refine g_goQ hQ ?_
  unfold f_X9_price at hf
  refine g_start hW (fun H locs hW => ?_)
  refine lv_iload_n hx hb dX9_price_0 rfl (lv_at hl 1 rfl) ?_
  refine lv_iconst (v := 3) hx hb dX9_price_1 (by decide) ?_
  obtain ⟨⟨⟩, hg, hf⟩ := ox_invR hf
  refine g_cSv hC hW (As := [.int p1, .int 3]) (rest := []) (c0_X9_checkIndex l G  hg) (va_cwS 2 hts gX9_price_X9_checkIndex rfl rfl rfl (by decide +kernel) ⟨Nat.le_of_ble_eq_true rfl, Nat.le_of_ble_eq_true rfl⟩) rfl hl.1 rfl (Nat.le_of_ble_eq_true rfl) dX9_price_2 ⟨Nat.le_of_ble_eq_true rfl, Nat.le_of_ble_eq_true rfl⟩ (fun H locs hW => ?_)
  refine lv_iload_n hx hb dX9_price_5 rfl (lv_at hl 2 rfl) ?_
  refine lv_iconst (v := 4) hx hb dX9_price_6 (by decide) ?_
  obtain ⟨⟨⟩, hg, hf⟩ := ox_invR hf
  refine g_cSv hC hW (As := [.int p2, .int 4]) (rest := []) (c0_X9_checkIndex l G  hg) (va_cwS 2 hts gX9_price_X9_checkIndex rfl rfl rfl (by decide +kernel) ⟨Nat.le_of_ble_eq_true rfl, Nat.le_of_ble_eq_true rfl⟩) rfl hl.1 rfl (Nat.le_of_ble_eq_true rfl) dX9_price_7 ⟨Nat.le_of_ble_eq_true rfl, Nat.le_of_ble_eq_true rfl⟩ (fun H locs hW => ?_)
  refine lv_aload_n hx hb dX9_price_10 rfl (lv_at hl 0 rfl) ?_
  refine g_geti hC hW (o := 0) (ci := 9) (k := 9) zc_k0 zc_b0 rfl hi9 (by decide) rfl (by decide +kernel) dX9_price_11 ?_
  refine lv_iconst (v := 1) hx hb dX9_price_14 (by decide) ?_
  obtain ⟨z2, hg, hf⟩ := ob_inv hf
  have hJ23 : ∀ (H : Heap) (locs : List Loc) (ls : Array Slot), g_H ZC G s H locs me → lv_has ls 3 [(0, .ref (G.2.2.1 0)), (1, .int p1), (2, .int p2)] → W p l e (headSpec wsX9_price rm0X9_price).room s m ([.ref (G.2.2.1 0), .int p1, .int p2] : List Value).toArray below meth c H locs 0 0 Q (F0 m 23 ls [.int z2]) := by
    intro H locs ls hW hl
    obtain ⟨⟨⟩, hg, hf⟩ := ox_invR hf
    refine g_cSv hC hW (As := [.int z2]) (rest := []) (c0_X9_checkState l G  hg) (va_cwS 1 hts gX9_price_X9_checkState rfl rfl rfl (by decide +kernel) ⟨Nat.le_of_ble_eq_true rfl, Nat.le_of_ble_eq_true rfl⟩) rfl hl.1 rfl (Nat.le_of_ble_eq_true rfl) dX9_price_23 ⟨Nat.le_of_ble_eq_true rfl, Nat.le_of_ble_eq_true rfl⟩ (fun H locs hW => ?_)
    refine lv_aload_n hx hb dX9_price_26 rfl (lv_at hl 0 rfl) ?_
    refine g_getr hC hW (o := 0) (ci := 9) (k := 6) zc_k0 zc_b0 rfl hi9 (by decide) rfl (t := 64) zc_r0_6 (by decide +kernel) dX9_price_27 ?_
    refine lv_aload_n hx hb dX9_price_30 rfl (lv_at hl 0 rfl) ?_
    refine g_geti hC hW (o := 0) (ci := 9) (k := 8) zc_k0 zc_b0 rfl hi9 (by decide) rfl (by decide +kernel) dX9_price_31 ?_
    obtain ⟨d3, h9, hf⟩ := ob_inv hf
    have hd3 := zc_rk5 h9
    refine g_rldD hC hW zc_k64 zc_b64 zc_n64 zc_rr5 h9 dX9_price_34 ?_
    refine g_getr hC hW (o := d3) (ci := 5) (k := 0) hd3 (zc_lt hd3) rfl hi5 (by decide) rfl (t := (d3 + 1)) (zc_o5_0 hd3).1 (by decide +kernel) dX9_price_35 ?_
    refine lv_iload_n hx hb dX9_price_38 rfl (lv_at hl 1 rfl) ?_
    refine lv_iload_n hx hb dX9_price_39 rfl (lv_at hl 2 rfl) ?_
    obtain ⟨r4, hg, hf⟩ := ob_inv hf
    refine g_cSi hC hW (As := [.int p1, .int p2]) (rest := [.ref (G.2.2.1 (d3 + 1))]) (c_X9_spotOf l G  hg) (va_cwS 2 hts gX9_price_X9_spotOf rfl rfl rfl (by decide +kernel) ⟨Nat.le_of_ble_eq_true rfl, Nat.le_of_ble_eq_true rfl⟩) rfl hl.1 rfl (Nat.le_of_ble_eq_true rfl) dX9_price_40 ⟨Nat.le_of_ble_eq_true rfl, Nat.le_of_ble_eq_true rfl⟩ (fun H locs hW => ?_)
    obtain ⟨v5, h9, hf⟩ := ob_inv hf
    refine g_ild hC hW (zc_o5_0 hd3).2.1 (zc_o5_0 hd3).2.2.1 (zc_o5_0 hd3).2.2.2 h9 dX9_price_43 ?_
    cases hf
    subst hQ
    exact g_iret hC hW hr hlocks rfl rfl dX9_price_44
  replace hf := hg
  refine lv_icmp_ne (tgt := 22) hx hb dX9_price_15 (by decide) (fun c1 => ?_) (fun c1 => ?_)
  · have hf := a_if_f c1 hf
    refine lv_iconst (v := 0) hx hb dX9_price_22 (by decide) ?_
    cases hf
    exact hJ23 H locs ls hW (lv_sub hl [0, 1, 2] rfl)
  · have hf := a_if_t c1 hf
    refine lv_iconst (v := 1) hx hb dX9_price_18 (by decide) ?_
    refine lv_goto (tgt := 23) hx hb dX9_price_19 (by decide) ?_
    cases hf
    exact hJ23 H locs ls hW (lv_sub hl [0, 1, 2] rfl)
abbrev rm0X9_net : Room := { frames := 7, cells := 0, slots := 0, locals := 111 }
set_option maxHeartbeats 4000000 in
set_option maxRecDepth 100000 in
theorem c0_X9_net (l : Launch) (G : gG) {p1 : Int32} {p2 : Int32} {me : gM} {r0 : Int32}  (hf : f_X9_net p1 p2 me = some (.inr r0)) : Met l yX9_net wsX9_net rm0X9_net (va_Pc [.ref (G.2.2.1 0), .int p1, .int p2] (g_W ZC G me)) (g_Qi ZC G r0 me) 0 0 (g_A ZC G) := by
  refine Met.ofW (cc := cX9_net) (maxL := 3) (ret := (some .int)) (by decide) rfl ?_
  intro p e s m args below meth c s₁ B hml hv
  obtain ⟨rfl, hW0⟩ := hv
  have hC : CallFix p m c cX9_net 3 s ([.ref (G.2.2.1 0), .int p1, .int p2] : List Value).toArray wsX9_net RX9 := ⟨B.exec, B.bytes, hml, findClass_of_methodNamed B.named, atoms_spec (ws := wsX9_net) B.pre⟩
  have hx := hC.1
  have hb := hC.2.1
  have hown := hC.2.2.2.1
  have hts := hC.2.2.2.2
  have hr := B.returns
  have hlocks := B.notSynchronized
  have hW := g_H_enter hW0
  have hi5 : ∀ w ∈ wsX50, w ∈ wsX9_net := by decide +kernel
  have hi9 : ∀ w ∈ wsX90, w ∈ wsX9_net := by decide +kernel
  have hl := lv_entry ([.ref (G.2.2.1 0), .int p1, .int p2]) (n := 3) (Nat.le_of_ble_eq_true rfl)
  rw [lg_entry_eq]
  generalize (lg_sl ([.ref (G.2.2.1 0), .int p1, .int p2]) ++ List.replicate (3 - (lg_sl ([.ref (G.2.2.1 0), .int p1, .int p2])).length) Slot.unset).toArray = ls at hl ⊢
  have hl : lv_has ls 3 [(0, .ref (G.2.2.1 0)), (1, .int p1), (2, .int p2)] := hl
  obtain ⟨Q, hQ⟩ : ∃ Q, Q = MQ below (g_Qi ZC G r0 me) ([.ref (G.2.2.1 0), .int p1, .int p2] : List Value).toArray s 0 0 (g_A ZC G) := ⟨_, rfl⟩
  refine g_goQ hQ ?_
  unfold f_X9_net at hf
  refine g_start hW (fun H locs hW => ?_)
  refine lv_iload_n hx hb dX9_net_0 rfl (lv_at hl 1 rfl) ?_
  refine lv_iconst (v := 3) hx hb dX9_net_1 (by decide) ?_
  obtain ⟨⟨⟩, hg, hf⟩ := ox_invR hf
  refine g_cSv hC hW (As := [.int p1, .int 3]) (rest := []) (c0_X9_checkIndex l G  hg) (va_cwS 2 hts gX9_net_X9_checkIndex rfl rfl rfl (by decide +kernel) ⟨Nat.le_of_ble_eq_true rfl, Nat.le_of_ble_eq_true rfl⟩) rfl hl.1 rfl (Nat.le_of_ble_eq_true rfl) dX9_net_2 ⟨Nat.le_of_ble_eq_true rfl, Nat.le_of_ble_eq_true rfl⟩ (fun H locs hW => ?_)
  refine lv_iload_n hx hb dX9_net_5 rfl (lv_at hl 2 rfl) ?_
  refine lv_iconst (v := 4) hx hb dX9_net_6 (by decide) ?_
  obtain ⟨⟨⟩, hg, hf⟩ := ox_invR hf
  refine g_cSv hC hW (As := [.int p2, .int 4]) (rest := []) (c0_X9_checkIndex l G  hg) (va_cwS 2 hts gX9_net_X9_checkIndex rfl rfl rfl (by decide +kernel) ⟨Nat.le_of_ble_eq_true rfl, Nat.le_of_ble_eq_true rfl⟩) rfl hl.1 rfl (Nat.le_of_ble_eq_true rfl) dX9_net_7 ⟨Nat.le_of_ble_eq_true rfl, Nat.le_of_ble_eq_true rfl⟩ (fun H locs hW => ?_)
  refine lv_aload_n hx hb dX9_net_10 rfl (lv_at hl 0 rfl) ?_
  refine g_geti hC hW (o := 0) (ci := 9) (k := 9) zc_k0 zc_b0 rfl hi9 (by decide) rfl (by decide +kernel) dX9_net_11 ?_
  refine lv_iconst (v := 1) hx hb dX9_net_14 (by decide) ?_
  obtain ⟨z2, hg, hf⟩ := ob_inv hf
  have hJ23 : ∀ (H : Heap) (locs : List Loc) (ls : Array Slot), g_H ZC G s H locs me → lv_has ls 3 [(0, .ref (G.2.2.1 0)), (1, .int p1), (2, .int p2)] → W p l e (headSpec wsX9_net rm0X9_net).room s m ([.ref (G.2.2.1 0), .int p1, .int p2] : List Value).toArray below meth c H locs 0 0 Q (F0 m 23 ls [.int z2]) := by
    intro H locs ls hW hl
    obtain ⟨⟨⟩, hg, hf⟩ := ox_invR hf
    refine g_cSv hC hW (As := [.int z2]) (rest := []) (c0_X9_checkState l G  hg) (va_cwS 1 hts gX9_net_X9_checkState rfl rfl rfl (by decide +kernel) ⟨Nat.le_of_ble_eq_true rfl, Nat.le_of_ble_eq_true rfl⟩) rfl hl.1 rfl (Nat.le_of_ble_eq_true rfl) dX9_net_23 ⟨Nat.le_of_ble_eq_true rfl, Nat.le_of_ble_eq_true rfl⟩ (fun H locs hW => ?_)
    refine lv_aload_n hx hb dX9_net_26 rfl (lv_at hl 0 rfl) ?_
    refine g_getr hC hW (o := 0) (ci := 9) (k := 6) zc_k0 zc_b0 rfl hi9 (by decide) rfl (t := 64) zc_r0_6 (by decide +kernel) dX9_net_27 ?_
    refine lv_aload_n hx hb dX9_net_30 rfl (lv_at hl 0 rfl) ?_
    refine g_geti hC hW (o := 0) (ci := 9) (k := 8) zc_k0 zc_b0 rfl hi9 (by decide) rfl (by decide +kernel) dX9_net_31 ?_
    obtain ⟨d3, h9, hf⟩ := ob_inv hf
    have hd3 := zc_rk5 h9
    refine g_rldD hC hW zc_k64 zc_b64 zc_n64 zc_rr5 h9 dX9_net_34 ?_
    refine g_getr hC hW (o := d3) (ci := 5) (k := 1) hd3 (zc_lt hd3) rfl hi5 (by decide) rfl (t := (d3 + 2)) (zc_o5_1 hd3).1 (by decide +kernel) dX9_net_35 ?_
    refine lv_iload_n hx hb dX9_net_38 rfl (lv_at hl 1 rfl) ?_
    refine lv_iload_n hx hb dX9_net_39 rfl (lv_at hl 2 rfl) ?_
    obtain ⟨r4, hg, hf⟩ := ob_inv hf
    refine g_cSi hC hW (As := [.int p1, .int p2]) (rest := [.ref (G.2.2.1 (d3 + 2))]) (c_X9_spotOf l G  hg) (va_cwS 2 hts gX9_net_X9_spotOf rfl rfl rfl (by decide +kernel) ⟨Nat.le_of_ble_eq_true rfl, Nat.le_of_ble_eq_true rfl⟩) rfl hl.1 rfl (Nat.le_of_ble_eq_true rfl) dX9_net_40 ⟨Nat.le_of_ble_eq_true rfl, Nat.le_of_ble_eq_true rfl⟩ (fun H locs hW => ?_)
    obtain ⟨v5, h9, hf⟩ := ob_inv hf
    refine g_ild hC hW (zc_o5_1 hd3).2.1 (zc_o5_1 hd3).2.2.1 (zc_o5_1 hd3).2.2.2 h9 dX9_net_43 ?_
    cases hf
    subst hQ
    exact g_iret hC hW hr hlocks rfl rfl dX9_net_44
  replace hf := hg
  refine lv_icmp_ne (tgt := 22) hx hb dX9_net_15 (by decide) (fun c1 => ?_) (fun c1 => ?_)
  · have hf := a_if_f c1 hf
    refine lv_iconst (v := 0) hx hb dX9_net_22 (by decide) ?_
    cases hf
    exact hJ23 H locs ls hW (lv_sub hl [0, 1, 2] rfl)
  · have hf := a_if_t c1 hf
    refine lv_iconst (v := 1) hx hb dX9_net_18 (by decide) ?_
    refine lv_goto (tgt := 23) hx hb dX9_net_19 (by decide) ?_
    cases hf
    exact hJ23 H locs ls hW (lv_sub hl [0, 1, 2] rfl)
abbrev rm0X9_flow : Room := { frames := 7, cells := 0, slots := 0, locals := 111 }
set_option maxHeartbeats 4000000 in
set_option maxRecDepth 100000 in
theorem c0_X9_flow (l : Launch) (G : gG) {p1 : Int32} {p2 : Int32} {me : gM} {r0 : Int32}  (hf : f_X9_flow p1 p2 me = some (.inr r0)) : Met l yX9_flow wsX9_flow rm0X9_flow (va_Pc [.ref (G.2.2.1 0), .int p1, .int p2] (g_W ZC G me)) (g_Qi ZC G r0 me) 0 0 (g_A ZC G) := by
  refine Met.ofW (cc := cX9_flow) (maxL := 4) (ret := (some .int)) (by decide) rfl ?_
  intro p e s m args below meth c s₁ B hml hv
  obtain ⟨rfl, hW0⟩ := hv
  have hC : CallFix p m c cX9_flow 4 s ([.ref (G.2.2.1 0), .int p1, .int p2] : List Value).toArray wsX9_flow RX9 := ⟨B.exec, B.bytes, hml, findClass_of_methodNamed B.named, atoms_spec (ws := wsX9_flow) B.pre⟩
  have hx := hC.1
  have hb := hC.2.1
  have hown := hC.2.2.2.1
  have hts := hC.2.2.2.2
  have hr := B.returns
  have hlocks := B.notSynchronized
  have hW := g_H_enter hW0
  have hi5 : ∀ w ∈ wsX50, w ∈ wsX9_flow := by decide +kernel
  have hi9 : ∀ w ∈ wsX90, w ∈ wsX9_flow := by decide +kernel
  have hl := lv_entry ([.ref (G.2.2.1 0), .int p1, .int p2]) (n := 4) (Nat.le_of_ble_eq_true rfl)
  rw [lg_entry_eq]
  generalize (lg_sl ([.ref (G.2.2.1 0), .int p1, .int p2]) ++ List.replicate (4 - (lg_sl ([.ref (G.2.2.1 0), .int p1, .int p2])).length) Slot.unset).toArray = ls at hl ⊢
  have hl : lv_has ls 4 [(0, .ref (G.2.2.1 0)), (1, .int p1), (2, .int p2)] := hl
  obtain ⟨Q, hQ⟩ : ∃ Q, Q = MQ below (g_Qi ZC G r0 me) ([.ref (G.2.2.1 0), .int p1, .int p2] : List Value).toArray s 0 0 (g_A ZC G) := ⟨_, rfl⟩
  refine g_goQ hQ ?_
  unfold f_X9_flow at hf
  refine g_start hW (fun H locs hW => ?_)
  refine lv_iload_n hx hb dX9_flow_0 rfl (lv_at hl 1 rfl) ?_
  refine lv_iconst (v := 3) hx hb dX9_flow_1 (by decide) ?_
  obtain ⟨⟨⟩, hg, hf⟩ := ox_invR hf
  refine g_cSv hC hW (As := [.int p1, .int 3]) (rest := []) (c0_X9_checkIndex l G  hg) (va_cwS 2 hts gX9_flow_X9_checkIndex rfl rfl rfl (by decide +kernel) ⟨Nat.le_of_ble_eq_true rfl, Nat.le_of_ble_eq_true rfl⟩) rfl hl.1 rfl (Nat.le_of_ble_eq_true rfl) dX9_flow_2 ⟨Nat.le_of_ble_eq_true rfl, Nat.le_of_ble_eq_true rfl⟩ (fun H locs hW => ?_)
  refine lv_iload_n hx hb dX9_flow_5 rfl (lv_at hl 2 rfl) ?_
  refine lv_iconst (v := 4) hx hb dX9_flow_6 (by decide) ?_
  obtain ⟨⟨⟩, hg, hf⟩ := ox_invR hf
  refine g_cSv hC hW (As := [.int p2, .int 4]) (rest := []) (c0_X9_checkIndex l G  hg) (va_cwS 2 hts gX9_flow_X9_checkIndex rfl rfl rfl (by decide +kernel) ⟨Nat.le_of_ble_eq_true rfl, Nat.le_of_ble_eq_true rfl⟩) rfl hl.1 rfl (Nat.le_of_ble_eq_true rfl) dX9_flow_7 ⟨Nat.le_of_ble_eq_true rfl, Nat.le_of_ble_eq_true rfl⟩ (fun H locs hW => ?_)
  refine lv_aload_n hx hb dX9_flow_10 rfl (lv_at hl 0 rfl) ?_
  refine g_geti hC hW (o := 0) (ci := 9) (k := 9) zc_k0 zc_b0 rfl hi9 (by decide) rfl (by decide +kernel) dX9_flow_11 ?_
  refine lv_iconst (v := 1) hx hb dX9_flow_14 (by decide) ?_
  obtain ⟨z2, hg, hf⟩ := ob_inv hf
  have hJ23 : ∀ (H : Heap) (locs : List Loc) (ls : Array Slot), g_H ZC G s H locs me → lv_has ls 4 [(0, .ref (G.2.2.1 0)), (1, .int p1), (2, .int p2)] → W p l e (headSpec wsX9_flow rm0X9_flow).room s m ([.ref (G.2.2.1 0), .int p1, .int p2] : List Value).toArray below meth c H locs 0 0 Q (F0 m 23 ls [.int z2]) := by
    intro H locs ls hW hl
    obtain ⟨⟨⟩, hg, hf⟩ := ox_invR hf
    refine g_cSv hC hW (As := [.int z2]) (rest := []) (c0_X9_checkState l G  hg) (va_cwS 1 hts gX9_flow_X9_checkState rfl rfl rfl (by decide +kernel) ⟨Nat.le_of_ble_eq_true rfl, Nat.le_of_ble_eq_true rfl⟩) rfl hl.1 rfl (Nat.le_of_ble_eq_true rfl) dX9_flow_23 ⟨Nat.le_of_ble_eq_true rfl, Nat.le_of_ble_eq_true rfl⟩ (fun H locs hW => ?_)
    refine lv_aload_n hx hb dX9_flow_26 rfl (lv_at hl 0 rfl) ?_
    refine g_getr hC hW (o := 0) (ci := 9) (k := 6) zc_k0 zc_b0 rfl hi9 (by decide) rfl (t := 64) zc_r0_6 (by decide +kernel) dX9_flow_27 ?_
    refine lv_aload_n hx hb dX9_flow_30 rfl (lv_at hl 0 rfl) ?_
    refine g_geti hC hW (o := 0) (ci := 9) (k := 8) zc_k0 zc_b0 rfl hi9 (by decide) rfl (by decide +kernel) dX9_flow_31 ?_
    obtain ⟨d3, h9, hf⟩ := ob_inv hf
    have hd3 := zc_rk5 h9
    refine g_rldD hC hW zc_k64 zc_b64 zc_n64 zc_rr5 h9 dX9_flow_34 ?_
    refine g_getr hC hW (o := d3) (ci := 5) (k := 1) hd3 (zc_lt hd3) rfl hi5 (by decide) rfl (t := (d3 + 2)) (zc_o5_1 hd3).1 (by decide +kernel) dX9_flow_35 ?_
    refine lv_astore_n (lv' := [(3, .ref (G.2.2.1 (d3 + 2))), (0, .ref (G.2.2.1 0)), (1, .int p1), (2, .int p2)]) hx hb dX9_flow_38 rfl hl (by decide) rfl (fun ls hl => ?_)
    refine lv_aload_n hx hb dX9_flow_39 rfl (lv_at hl 0 rfl) ?_
    refine lv_iload_n hx hb dX9_flow_40 rfl (lv_at hl 2 rfl) ?_
    obtain ⟨r4, hg, hf⟩ := ob_inv hf
    refine g_cSi hC hW (As := [.int p1]) (rest := [.ref (G.2.2.1 (d3 + 2))]) (c_X9_lineBegin l G  hg) (va_cwS 1 hts gX9_flow_X9_lineBegin rfl rfl rfl (by decide +kernel) ⟨Nat.le_of_ble_eq_true rfl, Nat.le_of_ble_eq_true rfl⟩) rfl hl.1 rfl (Nat.le_of_ble_eq_true rfl) dX9_flow_41 ⟨Nat.le_of_ble_eq_true rfl, Nat.le_of_ble_eq_true rfl⟩ (fun H locs hW => ?_)
    refine lv_iload_n hx hb dX9_flow_44 rfl (lv_at hl 3 rfl) ?_
    obtain ⟨r5, hg, hf⟩ := ob_inv hf
    refine g_cSi hC hW (As := [.int r4, .int p2]) (rest := [.ref (G.2.2.1 (d3 + 2))]) (c_X9_spotOf l G  hg) (va_cwS 2 hts gX9_flow_X9_spotOf rfl rfl rfl (by decide +kernel) ⟨Nat.le_of_ble_eq_true rfl, Nat.le_of_ble_eq_true rfl⟩) rfl hl.1 rfl (Nat.le_of_ble_eq_true rfl) dX9_flow_45 ⟨Nat.le_of_ble_eq_true rfl, Nat.le_of_ble_eq_true rfl⟩ (fun H locs hW => ?_)
    obtain ⟨v6, h9, hf⟩ := ob_inv hf
    refine g_ild hC hW (zc_o5_1 hd3).2.1 (zc_o5_1 hd3).2.2.1 (zc_o5_1 hd3).2.2.2 h9 dX9_flow_48 ?_
    refine lv_aload_n hx hb dX9_flow_49 rfl (lv_at hl 0 rfl) ?_
    refine lv_iload_n hx hb dX9_flow_50 rfl (lv_at hl 2 rfl) ?_
    obtain ⟨r7, hg, hf⟩ := ob_inv hf
    refine g_cSi hC hW (As := [.int p1]) (rest := [.ref (G.2.2.1 (d3 + 2)), .int v6]) (c_X9_lineEnd l G  hg) (va_cwS 1 hts gX9_flow_X9_lineEnd rfl rfl rfl (by decide +kernel) ⟨Nat.le_of_ble_eq_true rfl, Nat.le_of_ble_eq_true rfl⟩) rfl hl.1 rfl (Nat.le_of_ble_eq_true rfl) dX9_flow_51 ⟨Nat.le_of_ble_eq_true rfl, Nat.le_of_ble_eq_true rfl⟩ (fun H locs hW => ?_)
    refine lv_iload_n hx hb dX9_flow_54 rfl (lv_at hl 3 rfl) ?_
    obtain ⟨r8, hg, hf⟩ := ob_inv hf
    refine g_cSi hC hW (As := [.int r7, .int p2]) (rest := [.ref (G.2.2.1 (d3 + 2)), .int v6]) (c_X9_spotOf l G  hg) (va_cwS 2 hts gX9_flow_X9_spotOf rfl rfl rfl (by decide +kernel) ⟨Nat.le_of_ble_eq_true rfl, Nat.le_of_ble_eq_true rfl⟩) rfl hl.1 rfl (Nat.le_of_ble_eq_true rfl) dX9_flow_55 ⟨Nat.le_of_ble_eq_true rfl, Nat.le_of_ble_eq_true rfl⟩ (fun H locs hW => ?_)
    obtain ⟨v9, h9, hf⟩ := ob_inv hf
    refine g_ild hC hW (zc_o5_1 hd3).2.1 (zc_o5_1 hd3).2.2.1 (zc_o5_1 hd3).2.2.2 h9 dX9_flow_58 ?_
    refine lv_isub hx hb dX9_flow_59 ?_
    cases hf
    subst hQ
    exact g_iret hC hW hr hlocks rfl rfl dX9_flow_60
  replace hf := hg
  refine lv_icmp_ne (tgt := 22) hx hb dX9_flow_15 (by decide) (fun c1 => ?_) (fun c1 => ?_)
  · have hf := a_if_f c1 hf
    refine lv_iconst (v := 0) hx hb dX9_flow_22 (by decide) ?_
    cases hf
    exact hJ23 H locs ls hW (lv_sub hl [0, 1, 2] rfl)
  · have hf := a_if_t c1 hf
    refine lv_iconst (v := 1) hx hb dX9_flow_18 (by decide) ?_
    refine lv_goto (tgt := 23) hx hb dX9_flow_19 (by decide) ?_
    cases hf
    exact hJ23 H locs ls hW (lv_sub hl [0, 1, 2] rfl)
abbrev rm0X9_isTaken : Room := { frames := 7, cells := 0, slots := 0, locals := 111 }
set_option maxHeartbeats 4000000 in
set_option maxRecDepth 100000 in
theorem c0_X9_isTaken (l : Launch) (G : gG) {p1 : Int32} {me : gM} {r0 : Int32}  (hf : f_X9_isTaken p1 me = some (.inr r0)) : Met l yX9_isTaken wsX9_isTaken rm0X9_isTaken (va_Pc [.ref (G.2.2.1 0), .int p1] (g_W ZC G me)) (g_Qi ZC G r0 me) 0 0 (g_A ZC G) := by
  refine Met.ofW (cc := cX9_isTaken) (maxL := 2) (ret := (some .boolean)) (by decide) rfl ?_
  intro p e s m args below meth c s₁ B hml hv
  obtain ⟨rfl, hW0⟩ := hv
  have hC : CallFix p m c cX9_isTaken 2 s ([.ref (G.2.2.1 0), .int p1] : List Value).toArray wsX9_isTaken RX9 := ⟨B.exec, B.bytes, hml, findClass_of_methodNamed B.named, atoms_spec (ws := wsX9_isTaken) B.pre⟩
  have hx := hC.1
  have hb := hC.2.1
  have hown := hC.2.2.2.1
  have hts := hC.2.2.2.2
  have hr := B.returns
  have hlocks := B.notSynchronized
  have hW := g_H_enter hW0
  have hi2 : ∀ w ∈ wsX20, w ∈ wsX9_isTaken := by decide +kernel
  have hi9 : ∀ w ∈ wsX90, w ∈ wsX9_isTaken := by decide +kernel
  have hl := lv_entry ([.ref (G.2.2.1 0), .int p1]) (n := 2) (Nat.le_of_ble_eq_true rfl)
  rw [lg_entry_eq]
  generalize (lg_sl ([.ref (G.2.2.1 0), .int p1]) ++ List.replicate (2 - (lg_sl ([.ref (G.2.2.1 0), .int p1])).length) Slot.unset).toArray = ls at hl ⊢
  have hl : lv_has ls 2 [(0, .ref (G.2.2.1 0)), (1, .int p1)] := hl
  obtain ⟨Q, hQ⟩ : ∃ Q, Q = MQ below (g_Qi ZC G r0 me) ([.ref (G.2.2.1 0), .int p1] : List Value).toArray s 0 0 (g_A ZC G) := ⟨_, rfl⟩
  refine g_goQ hQ ?_
  unfold f_X9_isTaken at hf
  refine g_start hW (fun H locs hW => ?_)
  refine lv_iload_n hx hb dX9_isTaken_0 rfl (lv_at hl 1 rfl) ?_
  refine lv_aload_n hx hb dX9_isTaken_1 rfl (lv_at hl 0 rfl) ?_
  refine g_getr hC hW (o := 0) (ci := 9) (k := 3) zc_k0 zc_b0 rfl hi9 (by decide) rfl (t := 13) zc_r0_3 (by decide +kernel) dX9_isTaken_2 ?_
  refine g_geti hC hW (o := 13) (ci := 2) (k := 8) zc_k13 zc_b13 rfl hi2 (by decide) rfl (by decide +kernel) dX9_isTaken_5 ?_
  obtain ⟨⟨⟩, hg, hf⟩ := ox_invR hf
  refine g_cSv hC hW (As := [.int p1, .int (me 13 8)]) (rest := []) (c0_X9_checkIndex l G  hg) (va_cwS 2 hts gX9_isTaken_X9_checkIndex rfl rfl rfl (by decide +kernel) ⟨Nat.le_of_ble_eq_true rfl, Nat.le_of_ble_eq_true rfl⟩) rfl hl.1 rfl (Nat.le_of_ble_eq_true rfl) dX9_isTaken_8 ⟨Nat.le_of_ble_eq_true rfl, Nat.le_of_ble_eq_true rfl⟩ (fun H locs hW => ?_)
  refine lv_aload_n hx hb dX9_isTaken_11 rfl (lv_at hl 0 rfl) ?_
  refine g_geti hC hW (o := 0) (ci := 9) (k := 9) zc_k0 zc_b0 rfl hi9 (by decide) rfl (by decide +kernel) dX9_isTaken_12 ?_
  refine lv_iconst (v := 1) hx hb dX9_isTaken_15 (by decide) ?_
  obtain ⟨z2, hg, hf⟩ := ob_inv hf
  have hJ24 : ∀ (H : Heap) (locs : List Loc) (ls : Array Slot), g_H ZC G s H locs me → lv_has ls 2 [(0, .ref (G.2.2.1 0)), (1, .int p1)] → W p l e (headSpec wsX9_isTaken rm0X9_isTaken).room s m ([.ref (G.2.2.1 0), .int p1] : List Value).toArray below meth c H locs 0 0 Q (F0 m 24 ls [.int z2]) := by
    intro H locs ls hW hl
    obtain ⟨⟨⟩, hg, hf⟩ := ox_invR hf
    refine g_cSv hC hW (As := [.int z2]) (rest := []) (c0_X9_checkState l G  hg) (va_cwS 1 hts gX9_isTaken_X9_checkState rfl rfl rfl (by decide +kernel) ⟨Nat.le_of_ble_eq_true rfl, Nat.le_of_ble_eq_true rfl⟩) rfl hl.1 rfl (Nat.le_of_ble_eq_true rfl) dX9_isTaken_24 ⟨Nat.le_of_ble_eq_true rfl, Nat.le_of_ble_eq_true rfl⟩ (fun H locs hW => ?_)
    refine lv_aload_n hx hb dX9_isTaken_27 rfl (lv_at hl 0 rfl) ?_
    refine g_getr hC hW (o := 0) (ci := 9) (k := 3) zc_k0 zc_b0 rfl hi9 (by decide) rfl (t := 13) zc_r0_3 (by decide +kernel) dX9_isTaken_28 ?_
    refine g_geti hC hW (o := 13) (ci := 2) (k := 9) zc_k13 zc_b13 rfl hi2 (by decide) rfl (by decide +kernel) dX9_isTaken_31 ?_
    refine lv_iload_n hx hb dX9_isTaken_34 rfl (lv_at hl 1 rfl) ?_
    obtain ⟨r3, hg, hf⟩ := ob_inv hf
    refine g_cSi hC hW (As := [.int (me 13 9), .int p1]) (rest := []) (c_X9_isMember l G  hg) (va_cwS 2 hts gX9_isTaken_X9_isMember rfl rfl rfl (by decide +kernel) ⟨Nat.le_of_ble_eq_true rfl, Nat.le_of_ble_eq_true rfl⟩) rfl hl.1 rfl (Nat.le_of_ble_eq_true rfl) dX9_isTaken_35 ⟨Nat.le_of_ble_eq_true rfl, Nat.le_of_ble_eq_true rfl⟩ (fun H locs hW => ?_)
    obtain ⟨b4, h9, hf⟩ := ob_inv hf
    obtain ⟨h9, hn9⟩ := a_zc_inv h9
    refine g_nmi h9 ?_
    cases hf
    subst hQ
    exact g_zret hC hW hr hlocks hn9 rfl rfl dX9_isTaken_38
  replace hf := hg
  refine lv_icmp_ne (tgt := 23) hx hb dX9_isTaken_16 (by decide) (fun c1 => ?_) (fun c1 => ?_)
  · have hf := a_if_f c1 hf
    refine lv_iconst (v := 0) hx hb dX9_isTaken_23 (by decide) ?_
    cases hf
    exact hJ24 H locs ls hW (lv_sub hl [0, 1] rfl)
  · have hf := a_if_t c1 hf
    refine lv_iconst (v := 1) hx hb dX9_isTaken_19 (by decide) ?_
    refine lv_goto (tgt := 24) hx hb dX9_isTaken_20 (by decide) ?_
    cases hf
    exact hJ24 H locs ls hW (lv_sub hl [0, 1] rfl)
abbrev rm0X9_gain : Room := { frames := 7, cells := 0, slots := 0, locals := 111 }
set_option maxHeartbeats 4000000 in
set_option maxRecDepth 100000 in
theorem c0_X9_gain (l : Launch) (G : gG) {p1 : Int32} {me : gM} {r0 : Int32}  (hf : f_X9_gain p1 me = some (.inr r0)) : Met l yX9_gain wsX9_gain rm0X9_gain (va_Pc [.ref (G.2.2.1 0), .int p1] (g_W ZC G me)) (g_Qi ZC G r0 me) 0 0 (g_A ZC G) := by
  refine Met.ofW (cc := cX9_gain) (maxL := 2) (ret := (some .int)) (by decide) rfl ?_
  intro p e s m args below meth c s₁ B hml hv
  obtain ⟨rfl, hW0⟩ := hv
  have hC : CallFix p m c cX9_gain 2 s ([.ref (G.2.2.1 0), .int p1] : List Value).toArray wsX9_gain RX9 := ⟨B.exec, B.bytes, hml, findClass_of_methodNamed B.named, atoms_spec (ws := wsX9_gain) B.pre⟩
  have hx := hC.1
  have hb := hC.2.1
  have hown := hC.2.2.2.1
  have hts := hC.2.2.2.2
  have hr := B.returns
  have hlocks := B.notSynchronized
  have hW := g_H_enter hW0
  have hi2 : ∀ w ∈ wsX20, w ∈ wsX9_gain := by decide +kernel
  have hi5 : ∀ w ∈ wsX50, w ∈ wsX9_gain := by decide +kernel
  have hi9 : ∀ w ∈ wsX90, w ∈ wsX9_gain := by decide +kernel
  have hl := lv_entry ([.ref (G.2.2.1 0), .int p1]) (n := 2) (Nat.le_of_ble_eq_true rfl)
  rw [lg_entry_eq]
  generalize (lg_sl ([.ref (G.2.2.1 0), .int p1]) ++ List.replicate (2 - (lg_sl ([.ref (G.2.2.1 0), .int p1])).length) Slot.unset).toArray = ls at hl ⊢
  have hl : lv_has ls 2 [(0, .ref (G.2.2.1 0)), (1, .int p1)] := hl
  obtain ⟨Q, hQ⟩ : ∃ Q, Q = MQ below (g_Qi ZC G r0 me) ([.ref (G.2.2.1 0), .int p1] : List Value).toArray s 0 0 (g_A ZC G) := ⟨_, rfl⟩
  refine g_goQ hQ ?_
  unfold f_X9_gain at hf
  refine g_start hW (fun H locs hW => ?_)
  refine lv_iload_n hx hb dX9_gain_0 rfl (lv_at hl 1 rfl) ?_
  refine lv_aload_n hx hb dX9_gain_1 rfl (lv_at hl 0 rfl) ?_
  refine g_getr hC hW (o := 0) (ci := 9) (k := 3) zc_k0 zc_b0 rfl hi9 (by decide) rfl (t := 13) zc_r0_3 (by decide +kernel) dX9_gain_2 ?_
  refine g_geti hC hW (o := 13) (ci := 2) (k := 8) zc_k13 zc_b13 rfl hi2 (by decide) rfl (by decide +kernel) dX9_gain_5 ?_
  obtain ⟨⟨⟩, hg, hf⟩ := ox_invR hf
  refine g_cSv hC hW (As := [.int p1, .int (me 13 8)]) (rest := []) (c0_X9_checkIndex l G  hg) (va_cwS 2 hts gX9_gain_X9_checkIndex rfl rfl rfl (by decide +kernel) ⟨Nat.le_of_ble_eq_true rfl, Nat.le_of_ble_eq_true rfl⟩) rfl hl.1 rfl (Nat.le_of_ble_eq_true rfl) dX9_gain_8 ⟨Nat.le_of_ble_eq_true rfl, Nat.le_of_ble_eq_true rfl⟩ (fun H locs hW => ?_)
  refine lv_aload_n hx hb dX9_gain_11 rfl (lv_at hl 0 rfl) ?_
  refine g_geti hC hW (o := 0) (ci := 9) (k := 9) zc_k0 zc_b0 rfl hi9 (by decide) rfl (by decide +kernel) dX9_gain_12 ?_
  refine lv_iconst (v := 1) hx hb dX9_gain_15 (by decide) ?_
  obtain ⟨z2, hg, hf⟩ := ob_inv hf
  have hJ24 : ∀ (H : Heap) (locs : List Loc) (ls : Array Slot), g_H ZC G s H locs me → lv_has ls 2 [(0, .ref (G.2.2.1 0)), (1, .int p1)] → W p l e (headSpec wsX9_gain rm0X9_gain).room s m ([.ref (G.2.2.1 0), .int p1] : List Value).toArray below meth c H locs 0 0 Q (F0 m 24 ls [.int z2]) := by
    intro H locs ls hW hl
    obtain ⟨⟨⟩, hg, hf⟩ := ox_invR hf
    refine g_cSv hC hW (As := [.int z2]) (rest := []) (c0_X9_checkState l G  hg) (va_cwS 1 hts gX9_gain_X9_checkState rfl rfl rfl (by decide +kernel) ⟨Nat.le_of_ble_eq_true rfl, Nat.le_of_ble_eq_true rfl⟩) rfl hl.1 rfl (Nat.le_of_ble_eq_true rfl) dX9_gain_24 ⟨Nat.le_of_ble_eq_true rfl, Nat.le_of_ble_eq_true rfl⟩ (fun H locs hW => ?_)
    refine lv_aload_n hx hb dX9_gain_27 rfl (lv_at hl 0 rfl) ?_
    refine g_getr hC hW (o := 0) (ci := 9) (k := 3) zc_k0 zc_b0 rfl hi9 (by decide) rfl (t := 13) zc_r0_3 (by decide +kernel) dX9_gain_28 ?_
    refine lv_iload_n hx hb dX9_gain_31 rfl (lv_at hl 1 rfl) ?_
    refine lv_aload_n hx hb dX9_gain_32 rfl (lv_at hl 0 rfl) ?_
    refine g_getr hC hW (o := 0) (ci := 9) (k := 6) zc_k0 zc_b0 rfl hi9 (by decide) rfl (t := 64) zc_r0_6 (by decide +kernel) dX9_gain_33 ?_
    refine lv_aload_n hx hb dX9_gain_36 rfl (lv_at hl 0 rfl) ?_
    refine g_geti hC hW (o := 0) (ci := 9) (k := 8) zc_k0 zc_b0 rfl hi9 (by decide) rfl (by decide +kernel) dX9_gain_37 ?_
    obtain ⟨d3, h9, hf⟩ := ob_inv hf
    have hd3 := zc_rk5 h9
    refine g_rldD hC hW zc_k64 zc_b64 zc_n64 zc_rr5 h9 dX9_gain_40 ?_
    refine g_getr hC hW (o := d3) (ci := 5) (k := 0) hd3 (zc_lt hd3) rfl hi5 (by decide) rfl (t := (d3 + 1)) (zc_o5_0 hd3).1 (by decide +kernel) dX9_gain_41 ?_
    obtain ⟨r4, hg, hf⟩ := ob_inv hf
    refine g_cVi hC hW (o := 13) (ci := 2) (As := [.int p1, .ref (G.2.2.1 (d3 + 1))]) (rest := []) zc_k13 zc_b13 rfl (c_X2_gainBy l G ((zc_o5_0 hd3).2.1) ((zc_o5_0 hd3).2.2.2) hg) (cwV 2 hts gX9_gain_X2_gainBy rfl rfl rfl (by decide +kernel) ⟨Nat.le_of_ble_eq_true rfl, Nat.le_of_ble_eq_true rfl⟩) rfl hl.1 rfl (Nat.le_of_ble_eq_true rfl) dX9_gain_44 ⟨Nat.le_of_ble_eq_true rfl, Nat.le_of_ble_eq_true rfl⟩ (fun H locs hW => ?_)
    cases hf
    subst hQ
    exact g_iret hC hW hr hlocks rfl rfl dX9_gain_47
  replace hf := hg
  refine lv_icmp_ne (tgt := 23) hx hb dX9_gain_16 (by decide) (fun c1 => ?_) (fun c1 => ?_)
  · have hf := a_if_f c1 hf
    refine lv_iconst (v := 0) hx hb dX9_gain_23 (by decide) ?_
    cases hf
    exact hJ24 H locs ls hW (lv_sub hl [0, 1] rfl)
  · have hf := a_if_t c1 hf
    refine lv_iconst (v := 1) hx hb dX9_gain_19 (by decide) ?_
    refine lv_goto (tgt := 24) hx hb dX9_gain_20 (by decide) ?_
    cases hf
    exact hJ24 H locs ls hW (lv_sub hl [0, 1] rfl)
abbrev rm0X9_worthAnew : Room := { frames := 7, cells := 0, slots := 0, locals := 110 }
set_option maxHeartbeats 4000000 in
set_option maxRecDepth 100000 in
theorem c0_X9_worthAnew (l : Launch) (G : gG)  {me : gM} {r0 : Int32}  (hf : f_X9_worthAnew me = some (.inr r0)) : Met l yX9_worthAnew wsX9_worthAnew rm0X9_worthAnew (va_Pc [.ref (G.2.2.1 0)] (g_W ZC G me)) (g_Qi ZC G r0 me) 0 0 (g_A ZC G) := by
  refine Met.ofW (cc := cX9_worthAnew) (maxL := 1) (ret := (some .int)) (by decide) rfl ?_
  intro p e s m args below meth c s₁ B hml hv
  obtain ⟨rfl, hW0⟩ := hv
  have hC : CallFix p m c cX9_worthAnew 1 s ([.ref (G.2.2.1 0)] : List Value).toArray wsX9_worthAnew RX9 := ⟨B.exec, B.bytes, hml, findClass_of_methodNamed B.named, atoms_spec (ws := wsX9_worthAnew) B.pre⟩
  have hx := hC.1
  have hb := hC.2.1
  have hown := hC.2.2.2.1
  have hts := hC.2.2.2.2
  have hr := B.returns
  have hlocks := B.notSynchronized
  have hW := g_H_enter hW0
  have hi9 : ∀ w ∈ wsX90, w ∈ wsX9_worthAnew := by decide +kernel
  have hl := lv_entry ([.ref (G.2.2.1 0)]) (n := 1) (Nat.le_of_ble_eq_true rfl)
  rw [lg_entry_eq]
  generalize (lg_sl ([.ref (G.2.2.1 0)]) ++ List.replicate (1 - (lg_sl ([.ref (G.2.2.1 0)])).length) Slot.unset).toArray = ls at hl ⊢
  have hl : lv_has ls 1 [(0, .ref (G.2.2.1 0))] := hl
  obtain ⟨Q, hQ⟩ : ∃ Q, Q = MQ below (g_Qi ZC G r0 me) ([.ref (G.2.2.1 0)] : List Value).toArray s 0 0 (g_A ZC G) := ⟨_, rfl⟩
  refine g_goQ hQ ?_
  unfold f_X9_worthAnew at hf
  refine g_start hW (fun H locs hW => ?_)
  refine lv_aload_n hx hb dX9_worthAnew_0 rfl (lv_at hl 0 rfl) ?_
  refine g_geti hC hW (o := 0) (ci := 9) (k := 9) zc_k0 zc_b0 rfl hi9 (by decide) rfl (by decide +kernel) dX9_worthAnew_1 ?_
  refine lv_iconst (v := 1) hx hb dX9_worthAnew_4 (by decide) ?_
  obtain ⟨z2, hg, hf⟩ := ob_inv hf
  have hJ13 : ∀ (H : Heap) (locs : List Loc) (ls : Array Slot), g_H ZC G s H locs me → lv_has ls 1 [(0, .ref (G.2.2.1 0))] → W p l e (headSpec wsX9_worthAnew rm0X9_worthAnew).room s m ([.ref (G.2.2.1 0)] : List Value).toArray below meth c H locs 0 0 Q (F0 m 13 ls [.int z2]) := by
    intro H locs ls hW hl
    obtain ⟨⟨⟩, hg, hf⟩ := ox_invR hf
    refine g_cSv hC hW (As := [.int z2]) (rest := []) (c0_X9_checkState l G  hg) (va_cwS 1 hts gX9_worthAnew_X9_checkState rfl rfl rfl (by decide +kernel) ⟨Nat.le_of_ble_eq_true rfl, Nat.le_of_ble_eq_true rfl⟩) rfl hl.1 rfl (Nat.le_of_ble_eq_true rfl) dX9_worthAnew_13 ⟨Nat.le_of_ble_eq_true rfl, Nat.le_of_ble_eq_true rfl⟩ (fun H locs hW => ?_)
    refine lv_aload_n hx hb dX9_worthAnew_16 rfl (lv_at hl 0 rfl) ?_
    obtain ⟨r3, hg, hf⟩ := ob_inv hf
    refine g_cVi hC hW (o := 0) (ci := 9) (As := []) (rest := []) zc_k0 zc_b0 rfl (c_X9_worthTaken l G  hg) (cwV 0 hts gX9_worthAnew_X9_worthTaken rfl rfl rfl (by decide +kernel) ⟨Nat.le_of_ble_eq_true rfl, Nat.le_of_ble_eq_true rfl⟩) rfl hl.1 rfl (Nat.le_of_ble_eq_true rfl) dX9_worthAnew_17 ⟨Nat.le_of_ble_eq_true rfl, Nat.le_of_ble_eq_true rfl⟩ (fun H locs hW => ?_)
    cases hf
    subst hQ
    exact g_iret hC hW hr hlocks rfl rfl dX9_worthAnew_20
  replace hf := hg
  refine lv_icmp_ne (tgt := 12) hx hb dX9_worthAnew_5 (by decide) (fun c1 => ?_) (fun c1 => ?_)
  · have hf := a_if_f c1 hf
    refine lv_iconst (v := 0) hx hb dX9_worthAnew_12 (by decide) ?_
    cases hf
    exact hJ13 H locs ls hW (lv_sub hl [0] rfl)
  · have hf := a_if_t c1 hf
    refine lv_iconst (v := 1) hx hb dX9_worthAnew_8 (by decide) ?_
    refine lv_goto (tgt := 13) hx hb dX9_worthAnew_9 (by decide) ?_
    cases hf
    exact hJ13 H locs ls hW (lv_sub hl [0] rfl)
abbrev rm0X9_given : Room := { frames := 7, cells := 0, slots := 0, locals := 111 }
set_option maxHeartbeats 4000000 in
set_option maxRecDepth 100000 in
theorem c0_X9_given (l : Launch) (G : gG) {p1 : Int32} {me : gM} {r0 : Int32}  (hf : f_X9_given p1 me = some (.inr r0)) : Met l yX9_given wsX9_given rm0X9_given (va_Pc [.ref (G.2.2.1 0), .int p1] (g_W ZC G me)) (g_Qi ZC G r0 me) 0 0 (g_A ZC G) := by
  refine Met.ofW (cc := cX9_given) (maxL := 2) (ret := (some .int)) (by decide) rfl ?_
  intro p e s m args below meth c s₁ B hml hv
  obtain ⟨rfl, hW0⟩ := hv
  have hC : CallFix p m c cX9_given 2 s ([.ref (G.2.2.1 0), .int p1] : List Value).toArray wsX9_given RX9 := ⟨B.exec, B.bytes, hml, findClass_of_methodNamed B.named, atoms_spec (ws := wsX9_given) B.pre⟩
  have hx := hC.1
  have hb := hC.2.1
  have hown := hC.2.2.2.1
  have hts := hC.2.2.2.2
  have hr := B.returns
  have hlocks := B.notSynchronized
  have hW := g_H_enter hW0
  have hi1 : ∀ w ∈ wsX10, w ∈ wsX9_given := by decide +kernel
  have hi8 : ∀ w ∈ wsX80, w ∈ wsX9_given := by decide +kernel
  have hi9 : ∀ w ∈ wsX90, w ∈ wsX9_given := by decide +kernel
  have hl := lv_entry ([.ref (G.2.2.1 0), .int p1]) (n := 2) (Nat.le_of_ble_eq_true rfl)
  rw [lg_entry_eq]
  generalize (lg_sl ([.ref (G.2.2.1 0), .int p1]) ++ List.replicate (2 - (lg_sl ([.ref (G.2.2.1 0), .int p1])).length) Slot.unset).toArray = ls at hl ⊢
  have hl : lv_has ls 2 [(0, .ref (G.2.2.1 0)), (1, .int p1)] := hl
  obtain ⟨Q, hQ⟩ : ∃ Q, Q = MQ below (g_Qi ZC G r0 me) ([.ref (G.2.2.1 0), .int p1] : List Value).toArray s 0 0 (g_A ZC G) := ⟨_, rfl⟩
  refine g_goQ hQ ?_
  unfold f_X9_given at hf
  refine g_start hW (fun H locs hW => ?_)
  refine lv_iload_n hx hb dX9_given_0 rfl (lv_at hl 1 rfl) ?_
  refine lv_aload_n hx hb dX9_given_1 rfl (lv_at hl 0 rfl) ?_
  refine g_getr hC hW (o := 0) (ci := 9) (k := 4) zc_k0 zc_b0 rfl hi9 (by decide) rfl (t := 44) zc_r0_4 (by decide +kernel) dX9_given_2 ?_
  refine g_getr hC hW (o := 44) (ci := 1) (k := 0) zc_k44 zc_b44 rfl hi1 (by decide) rfl (t := 45) zc_r44_0 (by decide +kernel) dX9_given_5 ?_
  refine g_geti hC hW (o := 45) (ci := 8) (k := 8) zc_k45 zc_b45 rfl hi8 (by decide) rfl (by decide +kernel) dX9_given_8 ?_
  obtain ⟨⟨⟩, hg, hf⟩ := ox_invR hf
  refine g_cSv hC hW (As := [.int p1, .int (me 45 8)]) (rest := []) (c0_X9_checkIndex l G  hg) (va_cwS 2 hts gX9_given_X9_checkIndex rfl rfl rfl (by decide +kernel) ⟨Nat.le_of_ble_eq_true rfl, Nat.le_of_ble_eq_true rfl⟩) rfl hl.1 rfl (Nat.le_of_ble_eq_true rfl) dX9_given_11 ⟨Nat.le_of_ble_eq_true rfl, Nat.le_of_ble_eq_true rfl⟩ (fun H locs hW => ?_)
  refine lv_aload_n hx hb dX9_given_14 rfl (lv_at hl 0 rfl) ?_
  refine g_geti hC hW (o := 0) (ci := 9) (k := 9) zc_k0 zc_b0 rfl hi9 (by decide) rfl (by decide +kernel) dX9_given_15 ?_
  refine lv_iconst (v := 1) hx hb dX9_given_18 (by decide) ?_
  obtain ⟨z2, hg, hf⟩ := ob_inv hf
  have hJ27 : ∀ (H : Heap) (locs : List Loc) (ls : Array Slot), g_H ZC G s H locs me → lv_has ls 2 [(0, .ref (G.2.2.1 0)), (1, .int p1)] → W p l e (headSpec wsX9_given rm0X9_given).room s m ([.ref (G.2.2.1 0), .int p1] : List Value).toArray below meth c H locs 0 0 Q (F0 m 27 ls [.int z2]) := by
    intro H locs ls hW hl
    obtain ⟨⟨⟩, hg, hf⟩ := ox_invR hf
    refine g_cSv hC hW (As := [.int z2]) (rest := []) (c0_X9_checkState l G  hg) (va_cwS 1 hts gX9_given_X9_checkState rfl rfl rfl (by decide +kernel) ⟨Nat.le_of_ble_eq_true rfl, Nat.le_of_ble_eq_true rfl⟩) rfl hl.1 rfl (Nat.le_of_ble_eq_true rfl) dX9_given_27 ⟨Nat.le_of_ble_eq_true rfl, Nat.le_of_ble_eq_true rfl⟩ (fun H locs hW => ?_)
    refine lv_aload_n hx hb dX9_given_30 rfl (lv_at hl 0 rfl) ?_
    refine g_getr hC hW (o := 0) (ci := 9) (k := 4) zc_k0 zc_b0 rfl hi9 (by decide) rfl (t := 44) zc_r0_4 (by decide +kernel) dX9_given_31 ?_
    refine g_getr hC hW (o := 44) (ci := 1) (k := 0) zc_k44 zc_b44 rfl hi1 (by decide) rfl (t := 45) zc_r44_0 (by decide +kernel) dX9_given_34 ?_
    refine lv_iload_n hx hb dX9_given_37 rfl (lv_at hl 1 rfl) ?_
    obtain ⟨r3, hg, hf⟩ := ob_inv hf
    refine g_cVi hC hW (o := 45) (ci := 8) (As := [.int p1]) (rest := []) zc_k45 zc_b45 rfl (c_X8_used l G zc_k45 hg) (cwV 1 hts gX9_given_X8_used rfl rfl rfl (by decide +kernel) ⟨Nat.le_of_ble_eq_true rfl, Nat.le_of_ble_eq_true rfl⟩) rfl hl.1 rfl (Nat.le_of_ble_eq_true rfl) dX9_given_38 ⟨Nat.le_of_ble_eq_true rfl, Nat.le_of_ble_eq_true rfl⟩ (fun H locs hW => ?_)
    cases hf
    subst hQ
    exact g_iret hC hW hr hlocks rfl rfl dX9_given_41
  replace hf := hg
  refine lv_icmp_ne (tgt := 26) hx hb dX9_given_19 (by decide) (fun c1 => ?_) (fun c1 => ?_)
  · have hf := a_if_f c1 hf
    refine lv_iconst (v := 0) hx hb dX9_given_26 (by decide) ?_
    cases hf
    exact hJ27 H locs ls hW (lv_sub hl [0, 1] rfl)
  · have hf := a_if_t c1 hf
    refine lv_iconst (v := 1) hx hb dX9_given_22 (by decide) ?_
    refine lv_goto (tgt := 27) hx hb dX9_given_23 (by decide) ?_
    cases hf
    exact hJ27 H locs ls hW (lv_sub hl [0, 1] rfl)
abbrev rm0X9_left : Room := { frames := 7, cells := 0, slots := 0, locals := 111 }
set_option maxHeartbeats 4000000 in
set_option maxRecDepth 100000 in
theorem c0_X9_left (l : Launch) (G : gG) {p1 : Int32} {me : gM} {r0 : Int32}  (hf : f_X9_left p1 me = some (.inr r0)) : Met l yX9_left wsX9_left rm0X9_left (va_Pc [.ref (G.2.2.1 0), .int p1] (g_W ZC G me)) (g_Qi ZC G r0 me) 0 0 (g_A ZC G) := by
  refine Met.ofW (cc := cX9_left) (maxL := 2) (ret := (some .int)) (by decide) rfl ?_
  intro p e s m args below meth c s₁ B hml hv
  obtain ⟨rfl, hW0⟩ := hv
  have hC : CallFix p m c cX9_left 2 s ([.ref (G.2.2.1 0), .int p1] : List Value).toArray wsX9_left RX9 := ⟨B.exec, B.bytes, hml, findClass_of_methodNamed B.named, atoms_spec (ws := wsX9_left) B.pre⟩
  have hx := hC.1
  have hb := hC.2.1
  have hown := hC.2.2.2.1
  have hts := hC.2.2.2.2
  have hr := B.returns
  have hlocks := B.notSynchronized
  have hW := g_H_enter hW0
  have hi8 : ∀ w ∈ wsX80, w ∈ wsX9_left := by decide +kernel
  have hi9 : ∀ w ∈ wsX90, w ∈ wsX9_left := by decide +kernel
  have hl := lv_entry ([.ref (G.2.2.1 0), .int p1]) (n := 2) (Nat.le_of_ble_eq_true rfl)
  rw [lg_entry_eq]
  generalize (lg_sl ([.ref (G.2.2.1 0), .int p1]) ++ List.replicate (2 - (lg_sl ([.ref (G.2.2.1 0), .int p1])).length) Slot.unset).toArray = ls at hl ⊢
  have hl : lv_has ls 2 [(0, .ref (G.2.2.1 0)), (1, .int p1)] := hl
  obtain ⟨Q, hQ⟩ : ∃ Q, Q = MQ below (g_Qi ZC G r0 me) ([.ref (G.2.2.1 0), .int p1] : List Value).toArray s 0 0 (g_A ZC G) := ⟨_, rfl⟩
  refine g_goQ hQ ?_
  unfold f_X9_left at hf
  refine g_start hW (fun H locs hW => ?_)
  refine lv_iload_n hx hb dX9_left_0 rfl (lv_at hl 1 rfl) ?_
  refine lv_aload_n hx hb dX9_left_1 rfl (lv_at hl 0 rfl) ?_
  refine g_getr hC hW (o := 0) (ci := 9) (k := 5) zc_k0 zc_b0 rfl hi9 (by decide) rfl (t := 55) zc_r0_5 (by decide +kernel) dX9_left_2 ?_
  refine g_geti hC hW (o := 55) (ci := 8) (k := 8) zc_k55 zc_b55 rfl hi8 (by decide) rfl (by decide +kernel) dX9_left_5 ?_
  obtain ⟨⟨⟩, hg, hf⟩ := ox_invR hf
  refine g_cSv hC hW (As := [.int p1, .int (me 55 8)]) (rest := []) (c0_X9_checkIndex l G  hg) (va_cwS 2 hts gX9_left_X9_checkIndex rfl rfl rfl (by decide +kernel) ⟨Nat.le_of_ble_eq_true rfl, Nat.le_of_ble_eq_true rfl⟩) rfl hl.1 rfl (Nat.le_of_ble_eq_true rfl) dX9_left_8 ⟨Nat.le_of_ble_eq_true rfl, Nat.le_of_ble_eq_true rfl⟩ (fun H locs hW => ?_)
  refine lv_aload_n hx hb dX9_left_11 rfl (lv_at hl 0 rfl) ?_
  refine g_getr hC hW (o := 0) (ci := 9) (k := 5) zc_k0 zc_b0 rfl hi9 (by decide) rfl (t := 55) zc_r0_5 (by decide +kernel) dX9_left_12 ?_
  refine g_getr hC hW (o := 55) (ci := 8) (k := 6) zc_k55 zc_b55 rfl hi8 (by decide) rfl (t := 62) zc_r55_6 (by decide +kernel) dX9_left_15 ?_
  refine lv_iload_n hx hb dX9_left_18 rfl (lv_at hl 1 rfl) ?_
  obtain ⟨v1, h9, hf⟩ := ob_inv hf
  refine g_ild hC hW zc_k62 zc_b62 zc_n62 h9 dX9_left_19 ?_
  cases hf
  subst hQ
  exact g_iret hC hW hr hlocks rfl rfl dX9_left_20
abbrev rm0X9_plan : Room := { frames := 7, cells := 0, slots := 0, locals := 111 }
set_option maxHeartbeats 4000000 in
set_option maxRecDepth 100000 in
theorem c0_X9_plan (l : Launch) (G : gG) {p1 : Int32} {p2 : Int32} {p3 : Int32} {p4 : Int32} {me : gM} {r0 : Int32}  (hf : f_X9_plan p1 p2 p3 p4 me = some (.inr r0)) : Met l yX9_plan wsX9_plan rm0X9_plan (va_Pc [.ref (G.2.2.1 0), .int p1, .int p2, .int p3, .int p4] (g_W ZC G me)) (g_Qi ZC G r0 me) 0 0 (g_A ZC G) := by
  refine Met.ofW (cc := cX9_plan) (maxL := 5) (ret := (some .int)) (by decide) rfl ?_
  intro p e s m args below meth c s₁ B hml hv
  obtain ⟨rfl, hW0⟩ := hv
  have hC : CallFix p m c cX9_plan 5 s ([.ref (G.2.2.1 0), .int p1, .int p2, .int p3, .int p4] : List Value).toArray wsX9_plan RX9 := ⟨B.exec, B.bytes, hml, findClass_of_methodNamed B.named, atoms_spec (ws := wsX9_plan) B.pre⟩
  have hx := hC.1
  have hb := hC.2.1
  have hown := hC.2.2.2.1
  have hts := hC.2.2.2.2
  have hr := B.returns
  have hlocks := B.notSynchronized
  have hW := g_H_enter hW0
  have hi5 : ∀ w ∈ wsX50, w ∈ wsX9_plan := by decide +kernel
  have hi9 : ∀ w ∈ wsX90, w ∈ wsX9_plan := by decide +kernel
  have hl := lv_entry ([.ref (G.2.2.1 0), .int p1, .int p2, .int p3, .int p4]) (n := 5) (Nat.le_of_ble_eq_true rfl)
  rw [lg_entry_eq]
  generalize (lg_sl ([.ref (G.2.2.1 0), .int p1, .int p2, .int p3, .int p4]) ++ List.replicate (5 - (lg_sl ([.ref (G.2.2.1 0), .int p1, .int p2, .int p3, .int p4])).length) Slot.unset).toArray = ls at hl ⊢
  have hl : lv_has ls 5 [(0, .ref (G.2.2.1 0)), (1, .int p1), (2, .int p2), (3, .int p3), (4, .int p4)] := hl
  obtain ⟨Q, hQ⟩ : ∃ Q, Q = MQ below (g_Qi ZC G r0 me) ([.ref (G.2.2.1 0), .int p1, .int p2, .int p3, .int p4] : List Value).toArray s 0 0 (g_A ZC G) := ⟨_, rfl⟩
  refine g_goQ hQ ?_
  unfold f_X9_plan at hf
  refine g_start hW (fun H locs hW => ?_)
  refine lv_iload_n hx hb dX9_plan_0 rfl (lv_at hl 1 rfl) ?_
  refine lv_aload_n hx hb dX9_plan_1 rfl (lv_at hl 0 rfl) ?_
  refine g_geti hC hW (o := 0) (ci := 9) (k := 8) zc_k0 zc_b0 rfl hi9 (by decide) rfl (by decide +kernel) dX9_plan_2 ?_
  refine lv_iconst (v := 1) hx hb dX9_plan_5 (by decide) ?_
  refine lv_iadd hx hb dX9_plan_6 ?_
  obtain ⟨⟨⟩, hg, hf⟩ := ox_invR hf
  refine g_cSv hC hW (As := [.int p1, .int ((me 0 8) + 1)]) (rest := []) (c0_X9_checkIndex l G  hg) (va_cwS 2 hts gX9_plan_X9_checkIndex rfl rfl rfl (by decide +kernel) ⟨Nat.le_of_ble_eq_true rfl, Nat.le_of_ble_eq_true rfl⟩) rfl hl.1 rfl (Nat.le_of_ble_eq_true rfl) dX9_plan_7 ⟨Nat.le_of_ble_eq_true rfl, Nat.le_of_ble_eq_true rfl⟩ (fun H locs hW => ?_)
  refine lv_iload_n hx hb dX9_plan_10 rfl (lv_at hl 2 rfl) ?_
  refine lv_bipush (v := 6) hx hb dX9_plan_11 (by decide) ?_
  obtain ⟨⟨⟩, hg, hf⟩ := ox_invR hf
  refine g_cSv hC hW (As := [.int p2, .int 6]) (rest := []) (c0_X9_checkIndex l G  hg) (va_cwS 2 hts gX9_plan_X9_checkIndex rfl rfl rfl (by decide +kernel) ⟨Nat.le_of_ble_eq_true rfl, Nat.le_of_ble_eq_true rfl⟩) rfl hl.1 rfl (Nat.le_of_ble_eq_true rfl) dX9_plan_13 ⟨Nat.le_of_ble_eq_true rfl, Nat.le_of_ble_eq_true rfl⟩ (fun H locs hW => ?_)
  refine lv_iload_n hx hb dX9_plan_16 rfl (lv_at hl 3 rfl) ?_
  refine lv_iconst (v := 3) hx hb dX9_plan_17 (by decide) ?_
  obtain ⟨⟨⟩, hg, hf⟩ := ox_invR hf
  refine g_cSv hC hW (As := [.int p3, .int 3]) (rest := []) (c0_X9_checkIndex l G  hg) (va_cwS 2 hts gX9_plan_X9_checkIndex rfl rfl rfl (by decide +kernel) ⟨Nat.le_of_ble_eq_true rfl, Nat.le_of_ble_eq_true rfl⟩) rfl hl.1 rfl (Nat.le_of_ble_eq_true rfl) dX9_plan_18 ⟨Nat.le_of_ble_eq_true rfl, Nat.le_of_ble_eq_true rfl⟩ (fun H locs hW => ?_)
  refine lv_iload hx hb dX9_plan_21 (lv_at hl 4 rfl) ?_
  refine lv_iconst (v := 4) hx hb dX9_plan_23 (by decide) ?_
  obtain ⟨⟨⟩, hg, hf⟩ := ox_invR hf
  refine g_cSv hC hW (As := [.int p4, .int 4]) (rest := []) (c0_X9_checkIndex l G  hg) (va_cwS 2 hts gX9_plan_X9_checkIndex rfl rfl rfl (by decide +kernel) ⟨Nat.le_of_ble_eq_true rfl, Nat.le_of_ble_eq_true rfl⟩) rfl hl.1 rfl (Nat.le_of_ble_eq_true rfl) dX9_plan_24 ⟨Nat.le_of_ble_eq_true rfl, Nat.le_of_ble_eq_true rfl⟩ (fun H locs hW => ?_)
  refine lv_aload_n hx hb dX9_plan_27 rfl (lv_at hl 0 rfl) ?_
  refine g_getr hC hW (o := 0) (ci := 9) (k := 6) zc_k0 zc_b0 rfl hi9 (by decide) rfl (t := 64) zc_r0_6 (by decide +kernel) dX9_plan_28 ?_
  refine lv_iload_n hx hb dX9_plan_31 rfl (lv_at hl 1 rfl) ?_
  obtain ⟨d1, h9, hf⟩ := ob_inv hf
  have hd1 := zc_rk5 h9
  refine g_rldD hC hW zc_k64 zc_b64 zc_n64 zc_rr5 h9 dX9_plan_32 ?_
  refine g_getr hC hW (o := d1) (ci := 5) (k := 2) hd1 (zc_lt hd1) rfl hi5 (by decide) rfl (t := (d1 + 3)) (zc_o5_2 hd1).1 (by decide +kernel) dX9_plan_33 ?_
  refine lv_iload_n hx hb dX9_plan_36 rfl (lv_at hl 2 rfl) ?_
  refine lv_iload_n hx hb dX9_plan_37 rfl (lv_at hl 3 rfl) ?_
  refine lv_iload hx hb dX9_plan_38 (lv_at hl 4 rfl) ?_
  obtain ⟨r2, hg, hf⟩ := ob_inv hf
  refine g_cSi hC hW (As := [.int p2, .int p3, .int p4]) (rest := [.ref (G.2.2.1 (d1 + 3))]) (c_X9_placeOf l G  hg) (va_cwS 3 hts gX9_plan_X9_placeOf rfl rfl rfl (by decide +kernel) ⟨Nat.le_of_ble_eq_true rfl, Nat.le_of_ble_eq_true rfl⟩) rfl hl.1 rfl (Nat.le_of_ble_eq_true rfl) dX9_plan_40 ⟨Nat.le_of_ble_eq_true rfl, Nat.le_of_ble_eq_true rfl⟩ (fun H locs hW => ?_)
  obtain ⟨v3, h9, hf⟩ := ob_inv hf
  refine g_ild hC hW (zc_o5_2 hd1).2.1 (zc_o5_2 hd1).2.2.1 (zc_o5_2 hd1).2.2.2 h9 dX9_plan_43 ?_
  cases hf
  subst hQ
  exact g_iret hC hW hr hlocks rfl rfl dX9_plan_44
abbrev rm0X9_gap : Room := { frames := 7, cells := 0, slots := 0, locals := 111 }
set_option maxHeartbeats 4000000 in
set_option maxRecDepth 100000 in
theorem c0_X9_gap (l : Launch) (G : gG) {p1 : Int32} {p2 : Int32} {me : gM} {r0 : Int32}  (hf : f_X9_gap p1 p2 me = some (.inr r0)) : Met l yX9_gap wsX9_gap rm0X9_gap (va_Pc [.ref (G.2.2.1 0), .int p1, .int p2] (g_W ZC G me)) (g_Qi ZC G r0 me) 0 0 (g_A ZC G) := by
  refine Met.ofW (cc := cX9_gap) (maxL := 3) (ret := (some .int)) (by decide) rfl ?_
  intro p e s m args below meth c s₁ B hml hv
  obtain ⟨rfl, hW0⟩ := hv
  have hC : CallFix p m c cX9_gap 3 s ([.ref (G.2.2.1 0), .int p1, .int p2] : List Value).toArray wsX9_gap RX9 := ⟨B.exec, B.bytes, hml, findClass_of_methodNamed B.named, atoms_spec (ws := wsX9_gap) B.pre⟩
  have hx := hC.1
  have hb := hC.2.1
  have hown := hC.2.2.2.1
  have hts := hC.2.2.2.2
  have hr := B.returns
  have hlocks := B.notSynchronized
  have hW := g_H_enter hW0
  have hi9 : ∀ w ∈ wsX90, w ∈ wsX9_gap := by decide +kernel
  have hl := lv_entry ([.ref (G.2.2.1 0), .int p1, .int p2]) (n := 3) (Nat.le_of_ble_eq_true rfl)
  rw [lg_entry_eq]
  generalize (lg_sl ([.ref (G.2.2.1 0), .int p1, .int p2]) ++ List.replicate (3 - (lg_sl ([.ref (G.2.2.1 0), .int p1, .int p2])).length) Slot.unset).toArray = ls at hl ⊢
  have hl : lv_has ls 3 [(0, .ref (G.2.2.1 0)), (1, .int p1), (2, .int p2)] := hl
  obtain ⟨Q, hQ⟩ : ∃ Q, Q = MQ below (g_Qi ZC G r0 me) ([.ref (G.2.2.1 0), .int p1, .int p2] : List Value).toArray s 0 0 (g_A ZC G) := ⟨_, rfl⟩
  refine g_goQ hQ ?_
  unfold f_X9_gap at hf
  refine g_start hW (fun H locs hW => ?_)
  refine lv_iload_n hx hb dX9_gap_0 rfl (lv_at hl 1 rfl) ?_
  refine lv_aload_n hx hb dX9_gap_1 rfl (lv_at hl 0 rfl) ?_
  refine g_geti hC hW (o := 0) (ci := 9) (k := 8) zc_k0 zc_b0 rfl hi9 (by decide) rfl (by decide +kernel) dX9_gap_2 ?_
  obtain ⟨⟨⟩, hg, hf⟩ := ox_invR hf
  refine g_cSv hC hW (As := [.int p1, .int (me 0 8)]) (rest := []) (c0_X9_checkIndex l G  hg) (va_cwS 2 hts gX9_gap_X9_checkIndex rfl rfl rfl (by decide +kernel) ⟨Nat.le_of_ble_eq_true rfl, Nat.le_of_ble_eq_true rfl⟩) rfl hl.1 rfl (Nat.le_of_ble_eq_true rfl) dX9_gap_5 ⟨Nat.le_of_ble_eq_true rfl, Nat.le_of_ble_eq_true rfl⟩ (fun H locs hW => ?_)
  refine lv_iload_n hx hb dX9_gap_8 rfl (lv_at hl 2 rfl) ?_
  refine lv_iconst (v := 4) hx hb dX9_gap_9 (by decide) ?_
  obtain ⟨⟨⟩, hg, hf⟩ := ox_invR hf
  refine g_cSv hC hW (As := [.int p2, .int 4]) (rest := []) (c0_X9_checkIndex l G  hg) (va_cwS 2 hts gX9_gap_X9_checkIndex rfl rfl rfl (by decide +kernel) ⟨Nat.le_of_ble_eq_true rfl, Nat.le_of_ble_eq_true rfl⟩) rfl hl.1 rfl (Nat.le_of_ble_eq_true rfl) dX9_gap_10 ⟨Nat.le_of_ble_eq_true rfl, Nat.le_of_ble_eq_true rfl⟩ (fun H locs hW => ?_)
  refine lv_aload_n hx hb dX9_gap_13 rfl (lv_at hl 0 rfl) ?_
  refine g_getr hC hW (o := 0) (ci := 9) (k := 6) zc_k0 zc_b0 rfl hi9 (by decide) rfl (t := 64) zc_r0_6 (by decide +kernel) dX9_gap_14 ?_
  refine lv_iload_n hx hb dX9_gap_17 rfl (lv_at hl 1 rfl) ?_
  obtain ⟨d1, h9, hf⟩ := ob_inv hf
  have hd1 := zc_rk5 h9
  refine g_rldD hC hW zc_k64 zc_b64 zc_n64 zc_rr5 h9 dX9_gap_18 ?_
  refine lv_iload_n hx hb dX9_gap_19 rfl (lv_at hl 2 rfl) ?_
  obtain ⟨r2, hg, hf⟩ := ob_inv hf
  refine g_cVi hC hW (o := d1) (ci := 5) (As := [.int p2]) (rest := []) hd1 (zc_lt hd1) rfl (c_X5_gapOf l G hd1 hg) (cwV 1 hts gX9_gap_X5_gapOf rfl rfl rfl (by decide +kernel) ⟨Nat.le_of_ble_eq_true rfl, Nat.le_of_ble_eq_true rfl⟩) rfl hl.1 rfl (Nat.le_of_ble_eq_true rfl) dX9_gap_20 ⟨Nat.le_of_ble_eq_true rfl, Nat.le_of_ble_eq_true rfl⟩ (fun H locs hW => ?_)
  cases hf
  subst hQ
  exact g_iret hC hW hr hlocks rfl rfl dX9_gap_23
abbrev rm0X9_gapPrice : Room := { frames := 7, cells := 0, slots := 0, locals := 111 }
set_option maxHeartbeats 4000000 in
set_option maxRecDepth 100000 in
theorem c0_X9_gapPrice (l : Launch) (G : gG) {p1 : Int32} {p2 : Int32} {me : gM} {r0 : Int32}  (hf : f_X9_gapPrice p1 p2 me = some (.inr r0)) : Met l yX9_gapPrice wsX9_gapPrice rm0X9_gapPrice (va_Pc [.ref (G.2.2.1 0), .int p1, .int p2] (g_W ZC G me)) (g_Qi ZC G r0 me) 0 0 (g_A ZC G) := by
  refine Met.ofW (cc := cX9_gapPrice) (maxL := 5) (ret := (some .int)) (by decide) rfl ?_
  intro p e s m args below meth c s₁ B hml hv
  obtain ⟨rfl, hW0⟩ := hv
  have hC : CallFix p m c cX9_gapPrice 5 s ([.ref (G.2.2.1 0), .int p1, .int p2] : List Value).toArray wsX9_gapPrice RX9 := ⟨B.exec, B.bytes, hml, findClass_of_methodNamed B.named, atoms_spec (ws := wsX9_gapPrice) B.pre⟩
  have hx := hC.1
  have hb := hC.2.1
  have hown := hC.2.2.2.1
  have hts := hC.2.2.2.2
  have hr := B.returns
  have hlocks := B.notSynchronized
  have hW := g_H_enter hW0
  have hi9 : ∀ w ∈ wsX90, w ∈ wsX9_gapPrice := by decide +kernel
  have hl := lv_entry ([.ref (G.2.2.1 0), .int p1, .int p2]) (n := 5) (Nat.le_of_ble_eq_true rfl)
  rw [lg_entry_eq]
  generalize (lg_sl ([.ref (G.2.2.1 0), .int p1, .int p2]) ++ List.replicate (5 - (lg_sl ([.ref (G.2.2.1 0), .int p1, .int p2])).length) Slot.unset).toArray = ls at hl ⊢
  have hl : lv_has ls 5 [(0, .ref (G.2.2.1 0)), (1, .int p1), (2, .int p2)] := hl
  obtain ⟨Q, hQ⟩ : ∃ Q, Q = MQ below (g_Qi ZC G r0 me) ([.ref (G.2.2.1 0), .int p1, .int p2] : List Value).toArray s 0 0 (g_A ZC G) := ⟨_, rfl⟩
  refine g_goQ hQ ?_
  unfold f_X9_gapPrice at hf
  refine g_start hW (fun H locs hW => ?_)
  refine lv_iload_n hx hb dX9_gapPrice_0 rfl (lv_at hl 1 rfl) ?_
  refine lv_aload_n hx hb dX9_gapPrice_1 rfl (lv_at hl 0 rfl) ?_
  refine g_geti hC hW (o := 0) (ci := 9) (k := 8) zc_k0 zc_b0 rfl hi9 (by decide) rfl (by decide +kernel) dX9_gapPrice_2 ?_
  obtain ⟨⟨⟩, hg, hf⟩ := ox_invR hf
  refine g_cSv hC hW (As := [.int p1, .int (me 0 8)]) (rest := []) (c0_X9_checkIndex l G  hg) (va_cwS 2 hts gX9_gapPrice_X9_checkIndex rfl rfl rfl (by decide +kernel) ⟨Nat.le_of_ble_eq_true rfl, Nat.le_of_ble_eq_true rfl⟩) rfl hl.1 rfl (Nat.le_of_ble_eq_true rfl) dX9_gapPrice_5 ⟨Nat.le_of_ble_eq_true rfl, Nat.le_of_ble_eq_true rfl⟩ (fun H locs hW => ?_)
  refine lv_iload_n hx hb dX9_gapPrice_8 rfl (lv_at hl 2 rfl) ?_
  refine lv_iconst (v := 4) hx hb dX9_gapPrice_9 (by decide) ?_
  obtain ⟨⟨⟩, hg, hf⟩ := ox_invR hf
  refine g_cSv hC hW (As := [.int p2, .int 4]) (rest := []) (c0_X9_checkIndex l G  hg) (va_cwS 2 hts gX9_gapPrice_X9_checkIndex rfl rfl rfl (by decide +kernel) ⟨Nat.le_of_ble_eq_true rfl, Nat.le_of_ble_eq_true rfl⟩) rfl hl.1 rfl (Nat.le_of_ble_eq_true rfl) dX9_gapPrice_10 ⟨Nat.le_of_ble_eq_true rfl, Nat.le_of_ble_eq_true rfl⟩ (fun H locs hW => ?_)
  refine lv_aload_n hx hb dX9_gapPrice_13 rfl (lv_at hl 0 rfl) ?_
  refine g_getr hC hW (o := 0) (ci := 9) (k := 6) zc_k0 zc_b0 rfl hi9 (by decide) rfl (t := 64) zc_r0_6 (by decide +kernel) dX9_gapPrice_14 ?_
  refine lv_iload_n hx hb dX9_gapPrice_17 rfl (lv_at hl 1 rfl) ?_
  obtain ⟨d1, h9, hf⟩ := ob_inv hf
  have hd1 := zc_rk5 h9
  refine g_rldD hC hW zc_k64 zc_b64 zc_n64 zc_rr5 h9 dX9_gapPrice_18 ?_
  refine lv_astore_n (lv' := [(3, .ref (G.2.2.1 d1)), (0, .ref (G.2.2.1 0)), (1, .int p1), (2, .int p2)]) hx hb dX9_gapPrice_19 rfl hl (by decide) rfl (fun ls hl => ?_)
  refine lv_aload_n hx hb dX9_gapPrice_20 rfl (lv_at hl 0 rfl) ?_
  refine lv_iload_n hx hb dX9_gapPrice_21 rfl (lv_at hl 3 rfl) ?_
  obtain ⟨r2, hg, hf⟩ := ob_inv hf
  refine g_cVi hC hW (o := d1) (ci := 5) (As := [.int p2]) (rest := []) hd1 (zc_lt hd1) rfl (c_X5_gapOf l G hd1 hg) (cwV 1 hts gX9_gapPrice_X5_gapOf rfl rfl rfl (by decide +kernel) ⟨Nat.le_of_ble_eq_true rfl, Nat.le_of_ble_eq_true rfl⟩) rfl hl.1 rfl (Nat.le_of_ble_eq_true rfl) dX9_gapPrice_22 ⟨Nat.le_of_ble_eq_true rfl, Nat.le_of_ble_eq_true rfl⟩ (fun H locs hW => ?_)
  refine lv_istore (lv' := [(4, .int r2), (3, .ref (G.2.2.1 d1)), (0, .ref (G.2.2.1 0)), (1, .int p1), (2, .int p2)]) hx hb dX9_gapPrice_25 hl (by decide) rfl (fun ls hl => ?_)
  refine lv_iload hx hb dX9_gapPrice_27 (lv_at hl 0 rfl) ?_
  obtain ⟨z4, hg, hf⟩ := ob_inv hf
  have hJ43 : ∀ (H : Heap) (locs : List Loc) (ls : Array Slot), g_H ZC G s H locs me → lv_has ls 5 [] → W p l e (headSpec wsX9_gapPrice rm0X9_gapPrice).room s m ([.ref (G.2.2.1 0), .int p1, .int p2] : List Value).toArray below meth c H locs 0 0 Q (F0 m 43 ls [.int z4]) := by
    intro H locs ls hW hl
    cases hf
    subst hQ
    exact g_iret hC hW hr hlocks rfl rfl dX9_gapPrice_43
  replace hf := hg
  refine lv_if_ne (tgt := 36) hx hb dX9_gapPrice_29 (by decide) (fun c3 => ?_) (fun c3 => ?_)
  · have hf := a_if_f c3 hf
    refine lv_aload_n hx hb dX9_gapPrice_36 rfl (lv_at hl 1 rfl) ?_
    refine lv_iload_n hx hb dX9_gapPrice_37 rfl (lv_at hl 4 rfl) ?_
    refine lv_iload hx hb dX9_gapPrice_38 (lv_at hl 0 rfl) ?_
    obtain ⟨r5, hg, hf⟩ := ob_inv hf
    refine g_cVi hC hW (o := d1) (ci := 5) (As := [.int p2, .int r2]) (rest := []) hd1 (zc_lt hd1) rfl (c_X5_priceOfGap l G hd1 hg) (cwV 2 hts gX9_gapPrice_X5_priceOfGap rfl rfl rfl (by decide +kernel) ⟨Nat.le_of_ble_eq_true rfl, Nat.le_of_ble_eq_true rfl⟩) rfl hl.1 rfl (Nat.le_of_ble_eq_true rfl) dX9_gapPrice_40 ⟨Nat.le_of_ble_eq_true rfl, Nat.le_of_ble_eq_true rfl⟩ (fun H locs hW => ?_)
    cases hf
    exact hJ43 H locs ls hW (lv_sub hl [] rfl)
  · have hf := a_if_t c3 hf
    refine lv_iconst (v := (-1)) hx hb dX9_gapPrice_32 (by decide) ?_
    refine lv_goto (tgt := 43) hx hb dX9_gapPrice_33 (by decide) ?_
    cases hf
    exact hJ43 H locs ls hW (lv_sub hl [] rfl)
abbrev rm0X9_bill : Room := { frames := 7, cells := 0, slots := 0, locals := 118 }
set_option maxHeartbeats 4000000 in
set_option maxRecDepth 100000 in
theorem c0_X9_bill (l : Launch) (G : gG) {p1 : Int32} {p2 : Int32} {me : gM} {r0 : Int32}  (hf : f_X9_bill p1 p2 me = some (.inr r0)) : Met l yX9_bill wsX9_bill rm0X9_bill (va_Pc [.ref (G.2.2.1 0), .int p1, .int p2] (g_W ZC G me)) (g_Qi ZC G r0 me) 0 0 (g_A ZC G) := by
  refine Met.ofW (cc := cX9_bill) (maxL := 3) (ret := (some .int)) (by decide) rfl ?_
  intro p e s m args below meth c s₁ B hml hv
  obtain ⟨rfl, hW0⟩ := hv
  have hC : CallFix p m c cX9_bill 3 s ([.ref (G.2.2.1 0), .int p1, .int p2] : List Value).toArray wsX9_bill RX9 := ⟨B.exec, B.bytes, hml, findClass_of_methodNamed B.named, atoms_spec (ws := wsX9_bill) B.pre⟩
  have hx := hC.1
  have hb := hC.2.1
  have hown := hC.2.2.2.1
  have hts := hC.2.2.2.2
  have hr := B.returns
  have hlocks := B.notSynchronized
  have hW := g_H_enter hW0
  have hi9 : ∀ w ∈ wsX90, w ∈ wsX9_bill := by decide +kernel
  have hl := lv_entry ([.ref (G.2.2.1 0), .int p1, .int p2]) (n := 3) (Nat.le_of_ble_eq_true rfl)
  rw [lg_entry_eq]
  generalize (lg_sl ([.ref (G.2.2.1 0), .int p1, .int p2]) ++ List.replicate (3 - (lg_sl ([.ref (G.2.2.1 0), .int p1, .int p2])).length) Slot.unset).toArray = ls at hl ⊢
  have hl : lv_has ls 3 [(0, .ref (G.2.2.1 0)), (1, .int p1), (2, .int p2)] := hl
  obtain ⟨Q, hQ⟩ : ∃ Q, Q = MQ below (g_Qi ZC G r0 me) ([.ref (G.2.2.1 0), .int p1, .int p2] : List Value).toArray s 0 0 (g_A ZC G) := ⟨_, rfl⟩
  refine g_goQ hQ ?_
  unfold f_X9_bill at hf
  refine g_start hW (fun H locs hW => ?_)
  refine lv_iload_n hx hb dX9_bill_0 rfl (lv_at hl 1 rfl) ?_
  refine lv_aload_n hx hb dX9_bill_1 rfl (lv_at hl 0 rfl) ?_
  refine g_geti hC hW (o := 0) (ci := 9) (k := 8) zc_k0 zc_b0 rfl hi9 (by decide) rfl (by decide +kernel) dX9_bill_2 ?_
  obtain ⟨⟨⟩, hg, hf⟩ := ox_invR hf
  refine g_cSv hC hW (As := [.int p1, .int (me 0 8)]) (rest := []) (c0_X9_checkIndex l G  hg) (va_cwS 2 hts gX9_bill_X9_checkIndex rfl rfl rfl (by decide +kernel) ⟨Nat.le_of_ble_eq_true rfl, Nat.le_of_ble_eq_true rfl⟩) rfl hl.1 rfl (Nat.le_of_ble_eq_true rfl) dX9_bill_5 ⟨Nat.le_of_ble_eq_true rfl, Nat.le_of_ble_eq_true rfl⟩ (fun H locs hW => ?_)
  refine lv_iload_n hx hb dX9_bill_8 rfl (lv_at hl 2 rfl) ?_
  refine lv_bipush (v := 6) hx hb dX9_bill_9 (by decide) ?_
  obtain ⟨⟨⟩, hg, hf⟩ := ox_invR hf
  refine g_cSv hC hW (As := [.int p2, .int 6]) (rest := []) (c0_X9_checkIndex l G  hg) (va_cwS 2 hts gX9_bill_X9_checkIndex rfl rfl rfl (by decide +kernel) ⟨Nat.le_of_ble_eq_true rfl, Nat.le_of_ble_eq_true rfl⟩) rfl hl.1 rfl (Nat.le_of_ble_eq_true rfl) dX9_bill_11 ⟨Nat.le_of_ble_eq_true rfl, Nat.le_of_ble_eq_true rfl⟩ (fun H locs hW => ?_)
  refine lv_aload_n hx hb dX9_bill_14 rfl (lv_at hl 0 rfl) ?_
  refine g_getr hC hW (o := 0) (ci := 9) (k := 6) zc_k0 zc_b0 rfl hi9 (by decide) rfl (t := 64) zc_r0_6 (by decide +kernel) dX9_bill_15 ?_
  refine lv_iload_n hx hb dX9_bill_18 rfl (lv_at hl 1 rfl) ?_
  obtain ⟨d1, h9, hf⟩ := ob_inv hf
  have hd1 := zc_rk5 h9
  refine g_rldD hC hW zc_k64 zc_b64 zc_n64 zc_rr5 h9 dX9_bill_19 ?_
  refine lv_iload_n hx hb dX9_bill_20 rfl (lv_at hl 2 rfl) ?_
  obtain ⟨r2, hg, hf⟩ := ob_inv hf
  refine g_cVi hC hW (o := d1) (ci := 5) (As := [.int p2]) (rest := []) hd1 (zc_lt hd1) rfl (c_X5_billOf l G hd1 hg) (cwV 1 hts gX9_bill_X5_billOf rfl rfl rfl (by decide +kernel) ⟨Nat.le_of_ble_eq_true rfl, Nat.le_of_ble_eq_true rfl⟩) rfl hl.1 rfl (Nat.le_of_ble_eq_true rfl) dX9_bill_21 ⟨Nat.le_of_ble_eq_true rfl, Nat.le_of_ble_eq_true rfl⟩ (fun H locs hW => ?_)
  cases hf
  subst hQ
  exact g_iret hC hW hr hlocks rfl rfl dX9_bill_24
abbrev rm0X9_settled : Room := { frames := 7, cells := 0, slots := 0, locals := 111 }
set_option maxHeartbeats 4000000 in
set_option maxRecDepth 100000 in
theorem c0_X9_settled (l : Launch) (G : gG) {p1 : Int32} {p2 : Int32} {me : gM} {r0 : Int32}  (hf : f_X9_settled p1 p2 me = some (.inr r0)) : Met l yX9_settled wsX9_settled rm0X9_settled (va_Pc [.ref (G.2.2.1 0), .int p1, .int p2] (g_W ZC G me)) (g_Qi ZC G r0 me) 0 0 (g_A ZC G) := by
  refine Met.ofW (cc := cX9_settled) (maxL := 3) (ret := (some .int)) (by decide) rfl ?_
  intro p e s m args below meth c s₁ B hml hv
  obtain ⟨rfl, hW0⟩ := hv
  have hC : CallFix p m c cX9_settled 3 s ([.ref (G.2.2.1 0), .int p1, .int p2] : List Value).toArray wsX9_settled RX9 := ⟨B.exec, B.bytes, hml, findClass_of_methodNamed B.named, atoms_spec (ws := wsX9_settled) B.pre⟩
  have hx := hC.1
  have hb := hC.2.1
  have hown := hC.2.2.2.1
  have hts := hC.2.2.2.2
  have hr := B.returns
  have hlocks := B.notSynchronized
  have hW := g_H_enter hW0
  have hi5 : ∀ w ∈ wsX50, w ∈ wsX9_settled := by decide +kernel
  have hi9 : ∀ w ∈ wsX90, w ∈ wsX9_settled := by decide +kernel
  have hl := lv_entry ([.ref (G.2.2.1 0), .int p1, .int p2]) (n := 3) (Nat.le_of_ble_eq_true rfl)
  rw [lg_entry_eq]
  generalize (lg_sl ([.ref (G.2.2.1 0), .int p1, .int p2]) ++ List.replicate (3 - (lg_sl ([.ref (G.2.2.1 0), .int p1, .int p2])).length) Slot.unset).toArray = ls at hl ⊢
  have hl : lv_has ls 3 [(0, .ref (G.2.2.1 0)), (1, .int p1), (2, .int p2)] := hl
  obtain ⟨Q, hQ⟩ : ∃ Q, Q = MQ below (g_Qi ZC G r0 me) ([.ref (G.2.2.1 0), .int p1, .int p2] : List Value).toArray s 0 0 (g_A ZC G) := ⟨_, rfl⟩
  refine g_goQ hQ ?_
  unfold f_X9_settled at hf
  refine g_start hW (fun H locs hW => ?_)
  refine lv_iload_n hx hb dX9_settled_0 rfl (lv_at hl 1 rfl) ?_
  refine lv_aload_n hx hb dX9_settled_1 rfl (lv_at hl 0 rfl) ?_
  refine g_geti hC hW (o := 0) (ci := 9) (k := 8) zc_k0 zc_b0 rfl hi9 (by decide) rfl (by decide +kernel) dX9_settled_2 ?_
  obtain ⟨⟨⟩, hg, hf⟩ := ox_invR hf
  refine g_cSv hC hW (As := [.int p1, .int (me 0 8)]) (rest := []) (c0_X9_checkIndex l G  hg) (va_cwS 2 hts gX9_settled_X9_checkIndex rfl rfl rfl (by decide +kernel) ⟨Nat.le_of_ble_eq_true rfl, Nat.le_of_ble_eq_true rfl⟩) rfl hl.1 rfl (Nat.le_of_ble_eq_true rfl) dX9_settled_5 ⟨Nat.le_of_ble_eq_true rfl, Nat.le_of_ble_eq_true rfl⟩ (fun H locs hW => ?_)
  refine lv_iload_n hx hb dX9_settled_8 rfl (lv_at hl 2 rfl) ?_
  refine lv_bipush (v := 6) hx hb dX9_settled_9 (by decide) ?_
  obtain ⟨⟨⟩, hg, hf⟩ := ox_invR hf
  refine g_cSv hC hW (As := [.int p2, .int 6]) (rest := []) (c0_X9_checkIndex l G  hg) (va_cwS 2 hts gX9_settled_X9_checkIndex rfl rfl rfl (by decide +kernel) ⟨Nat.le_of_ble_eq_true rfl, Nat.le_of_ble_eq_true rfl⟩) rfl hl.1 rfl (Nat.le_of_ble_eq_true rfl) dX9_settled_11 ⟨Nat.le_of_ble_eq_true rfl, Nat.le_of_ble_eq_true rfl⟩ (fun H locs hW => ?_)
  refine lv_aload_n hx hb dX9_settled_14 rfl (lv_at hl 0 rfl) ?_
  refine g_getr hC hW (o := 0) (ci := 9) (k := 6) zc_k0 zc_b0 rfl hi9 (by decide) rfl (t := 64) zc_r0_6 (by decide +kernel) dX9_settled_15 ?_
  refine lv_iload_n hx hb dX9_settled_18 rfl (lv_at hl 1 rfl) ?_
  obtain ⟨d1, h9, hf⟩ := ob_inv hf
  have hd1 := zc_rk5 h9
  refine g_rldD hC hW zc_k64 zc_b64 zc_n64 zc_rr5 h9 dX9_settled_19 ?_
  refine g_getr hC hW (o := d1) (ci := 5) (k := 5) hd1 (zc_lt hd1) rfl hi5 (by decide) rfl (t := (d1 + 6)) (zc_o5_5 hd1).1 (by decide +kernel) dX9_settled_20 ?_
  refine lv_iload_n hx hb dX9_settled_23 rfl (lv_at hl 2 rfl) ?_
  obtain ⟨v2, h9, hf⟩ := ob_inv hf
  refine g_ild hC hW (zc_o5_5 hd1).2.1 (zc_o5_5 hd1).2.2.1 (zc_o5_5 hd1).2.2.2 h9 dX9_settled_24 ?_
  cases hf
  subst hQ
  exact g_iret hC hW hr hlocks rfl rfl dX9_settled_25
abbrev rm0X9_account : Room := { frames := 7, cells := 0, slots := 0, locals := 111 }
set_option maxHeartbeats 4000000 in
set_option maxRecDepth 100000 in
theorem c0_X9_account (l : Launch) (G : gG) {p1 : Int32} {me : gM} {r0 : Int32}  (hf : f_X9_account p1 me = some (.inr r0)) : Met l yX9_account wsX9_account rm0X9_account (va_Pc [.ref (G.2.2.1 0), .int p1] (g_W ZC G me)) (g_Qi ZC G r0 me) 0 0 (g_A ZC G) := by
  refine Met.ofW (cc := cX9_account) (maxL := 2) (ret := (some .int)) (by decide) rfl ?_
  intro p e s m args below meth c s₁ B hml hv
  obtain ⟨rfl, hW0⟩ := hv
  have hC : CallFix p m c cX9_account 2 s ([.ref (G.2.2.1 0), .int p1] : List Value).toArray wsX9_account RX9 := ⟨B.exec, B.bytes, hml, findClass_of_methodNamed B.named, atoms_spec (ws := wsX9_account) B.pre⟩
  have hx := hC.1
  have hb := hC.2.1
  have hown := hC.2.2.2.1
  have hts := hC.2.2.2.2
  have hr := B.returns
  have hlocks := B.notSynchronized
  have hW := g_H_enter hW0
  have hi0 : ∀ w ∈ wsX00, w ∈ wsX9_account := by decide +kernel
  have hi9 : ∀ w ∈ wsX90, w ∈ wsX9_account := by decide +kernel
  have hl := lv_entry ([.ref (G.2.2.1 0), .int p1]) (n := 2) (Nat.le_of_ble_eq_true rfl)
  rw [lg_entry_eq]
  generalize (lg_sl ([.ref (G.2.2.1 0), .int p1]) ++ List.replicate (2 - (lg_sl ([.ref (G.2.2.1 0), .int p1])).length) Slot.unset).toArray = ls at hl ⊢
  have hl : lv_has ls 2 [(0, .ref (G.2.2.1 0)), (1, .int p1)] := hl
  obtain ⟨Q, hQ⟩ : ∃ Q, Q = MQ below (g_Qi ZC G r0 me) ([.ref (G.2.2.1 0), .int p1] : List Value).toArray s 0 0 (g_A ZC G) := ⟨_, rfl⟩
  refine g_goQ hQ ?_
  unfold f_X9_account at hf
  refine g_start hW (fun H locs hW => ?_)
  refine lv_iload_n hx hb dX9_account_0 rfl (lv_at hl 1 rfl) ?_
  refine lv_bipush (v := 6) hx hb dX9_account_1 (by decide) ?_
  obtain ⟨⟨⟩, hg, hf⟩ := ox_invR hf
  refine g_cSv hC hW (As := [.int p1, .int 6]) (rest := []) (c0_X9_checkIndex l G  hg) (va_cwS 2 hts gX9_account_X9_checkIndex rfl rfl rfl (by decide +kernel) ⟨Nat.le_of_ble_eq_true rfl, Nat.le_of_ble_eq_true rfl⟩) rfl hl.1 rfl (Nat.le_of_ble_eq_true rfl) dX9_account_3 ⟨Nat.le_of_ble_eq_true rfl, Nat.le_of_ble_eq_true rfl⟩ (fun H locs hW => ?_)
  refine lv_aload_n hx hb dX9_account_6 rfl (lv_at hl 0 rfl) ?_
  refine g_getr hC hW (o := 0) (ci := 9) (k := 7) zc_k0 zc_b0 rfl hi9 (by decide) rfl (t := 65) zc_r0_7 (by decide +kernel) dX9_account_7 ?_
  refine g_getr hC hW (o := 65) (ci := 0) (k := 0) zc_k65 zc_b65 rfl hi0 (by decide) rfl (t := 66) zc_r65_0 (by decide +kernel) dX9_account_10 ?_
  refine lv_iload_n hx hb dX9_account_13 rfl (lv_at hl 1 rfl) ?_
  obtain ⟨v1, h9, hf⟩ := ob_inv hf
  refine g_ild hC hW zc_k66 zc_b66 zc_n66 h9 dX9_account_14 ?_
  cases hf
  subst hQ
  exact g_iret hC hW hr hlocks rfl rfl dX9_account_15
abbrev rm0X9_hasFailed : Room := { frames := 7, cells := 0, slots := 0, locals := 111 }
set_option maxHeartbeats 4000000 in
set_option maxRecDepth 100000 in
theorem c0_X9_hasFailed (l : Launch) (G : gG) {p1 : Int32} {me : gM} {r0 : Int32}  (hf : f_X9_hasFailed p1 me = some (.inr r0)) : Met l yX9_hasFailed wsX9_hasFailed rm0X9_hasFailed (va_Pc [.ref (G.2.2.1 0), .int p1] (g_W ZC G me)) (g_Qi ZC G r0 me) 0 0 (g_A ZC G) := by
  refine Met.ofW (cc := cX9_hasFailed) (maxL := 2) (ret := (some .boolean)) (by decide) rfl ?_
  intro p e s m args below meth c s₁ B hml hv
  obtain ⟨rfl, hW0⟩ := hv
  have hC : CallFix p m c cX9_hasFailed 2 s ([.ref (G.2.2.1 0), .int p1] : List Value).toArray wsX9_hasFailed RX9 := ⟨B.exec, B.bytes, hml, findClass_of_methodNamed B.named, atoms_spec (ws := wsX9_hasFailed) B.pre⟩
  have hx := hC.1
  have hb := hC.2.1
  have hown := hC.2.2.2.1
  have hts := hC.2.2.2.2
  have hr := B.returns
  have hlocks := B.notSynchronized
  have hW := g_H_enter hW0
  have hi0 : ∀ w ∈ wsX00, w ∈ wsX9_hasFailed := by decide +kernel
  have hi9 : ∀ w ∈ wsX90, w ∈ wsX9_hasFailed := by decide +kernel
  have hl := lv_entry ([.ref (G.2.2.1 0), .int p1]) (n := 2) (Nat.le_of_ble_eq_true rfl)
  rw [lg_entry_eq]
  generalize (lg_sl ([.ref (G.2.2.1 0), .int p1]) ++ List.replicate (2 - (lg_sl ([.ref (G.2.2.1 0), .int p1])).length) Slot.unset).toArray = ls at hl ⊢
  have hl : lv_has ls 2 [(0, .ref (G.2.2.1 0)), (1, .int p1)] := hl
  obtain ⟨Q, hQ⟩ : ∃ Q, Q = MQ below (g_Qi ZC G r0 me) ([.ref (G.2.2.1 0), .int p1] : List Value).toArray s 0 0 (g_A ZC G) := ⟨_, rfl⟩
  refine g_goQ hQ ?_
  unfold f_X9_hasFailed at hf
  refine g_start hW (fun H locs hW => ?_)
  refine lv_iload_n hx hb dX9_hasFailed_0 rfl (lv_at hl 1 rfl) ?_
  refine lv_bipush (v := 6) hx hb dX9_hasFailed_1 (by decide) ?_
  obtain ⟨⟨⟩, hg, hf⟩ := ox_invR hf
  refine g_cSv hC hW (As := [.int p1, .int 6]) (rest := []) (c0_X9_checkIndex l G  hg) (va_cwS 2 hts gX9_hasFailed_X9_checkIndex rfl rfl rfl (by decide +kernel) ⟨Nat.le_of_ble_eq_true rfl, Nat.le_of_ble_eq_true rfl⟩) rfl hl.1 rfl (Nat.le_of_ble_eq_true rfl) dX9_hasFailed_3 ⟨Nat.le_of_ble_eq_true rfl, Nat.le_of_ble_eq_true rfl⟩ (fun H locs hW => ?_)
  refine lv_aload_n hx hb dX9_hasFailed_6 rfl (lv_at hl 0 rfl) ?_
  refine g_getr hC hW (o := 0) (ci := 9) (k := 7) zc_k0 zc_b0 rfl hi9 (by decide) rfl (t := 65) zc_r0_7 (by decide +kernel) dX9_hasFailed_7 ?_
  refine g_getr hC hW (o := 65) (ci := 0) (k := 2) zc_k65 zc_b65 rfl hi0 (by decide) rfl (t := 68) zc_r65_2 (by decide +kernel) dX9_hasFailed_10 ?_
  refine lv_iload_n hx hb dX9_hasFailed_13 rfl (lv_at hl 1 rfl) ?_
  obtain ⟨v1, h9, hf⟩ := ob_inv hf
  refine g_zld hC hW zc_k68 zc_b68 zc_n68 h9 dX9_hasFailed_14 ?_
  obtain ⟨b2, h9, hf⟩ := ob_inv hf
  obtain ⟨h9, hn9⟩ := a_zc_inv h9
  refine g_nmi h9 ?_
  cases hf
  subst hQ
  exact g_zret hC hW hr hlocks hn9 rfl rfl dX9_hasFailed_15
