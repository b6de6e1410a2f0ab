def f_X0_payFromHouse (p1 : Int32) (p2 : Int32) (me : gM) : Option (gM) :=
  ob (a_ld 6 66 p1 me) fun v1 =>
  ob (a_st 6 66 p1 (v1 + p2) me) fun m2 =>
  ob (some (g_up m2 65 (upd (m2 65) 3 ((m2 65 3) - p2)))) fun m3 =>
  some m3
def f_X0_nextToFail_L2 (me : gM) : Nat → Int32 → Option ((Int32) ⊕ (Int32))
  | 0, _ => none
  | n + 1, x1 =>
    if 6 ≤ x1 then
      some (.inl x1)
    else
      ob (a_ld 6 68 x1 me) fun v4 =>
      if v4 = 0 then
        ob (a_ld 6 66 x1 me) fun v6 =>
        if 0 ≤ v6 then
          f_X0_nextToFail_L2 me n (x1 + 1)
        else
          some (.inr x1)
      else
        f_X0_nextToFail_L2 me n (x1 + 1)
def f_X0_nextToFail (me : gM) : Option (Int32) :=
  oz (f_X0_nextToFail_L2 me f_fuel 0) (fun w9 => some w9) fun y2 =>
  some (-1)
def f_X0_fail_L27 (m4 : gM) : Nat → Int64 → Int32 → Option (Int64 × Int32)
  | 0, _, _ => none
  | n + 1, x5, x6 =>
    if 6 ≤ x6 then
      some (x5, x6)
    else
      ob (a_ld 6 68 x6 m4) fun v10 =>
      ob (if v10 = 0 then
          ob (a_ld 6 67 x6 m4) fun v13 =>
          some ((v13).toInt64)
        else
          some 0) fun (z12 : Int64) =>
      ob (some (x5 + z12)) fun (x14 : Int64) =>
      f_X0_fail_L27 m4 n x14 (x6 + 1)
def f_X0_fail_L71 (x2 : Int32) (y7 : Int64) : Nat → Int32 → Int32 → gM → Option (Int32 × Int32 × gM)
  | 0, _, _, _ => none
  | n + 1, x15, x16, m17 =>
    if 6 ≤ x16 then
      some (x15, x16, m17)
    else
      ob (a_ld 6 68 x16 m17) fun v22 =>
      ob (if v22 = 0 then
          if (lg_cmp y7 0) ≤ 0 then
            some (x15, m17)
          else
            ob (a_ld 6 67 x16 m17) fun v27 =>
            ob (a_dv ((x2).toInt64 * (v27).toInt64) y7) fun q28 =>
            ob (some ((q28).toInt32)) fun (x29 : Int32) =>
            ob (a_ld 6 66 x16 m17) fun v30 =>
            ob (a_st 6 66 x16 (v30 - x29) m17) fun m31 =>
            ob (some (x15 - x29)) fun (x32 : Int32) =>
            some (x32, m31)
        else
          some (x15, m17)) fun (t33 : Int32 × gM) =>
      ob (some t33.1) fun x24 =>
      ob (some t33.2) fun m25 =>
      f_X0_fail_L71 x2 y7 n x24 (x16 + 1) m25
def f_X0_fail (p1 : Int32) (me : gM) : Option (gM) :=
  ob (a_ld 6 66 p1 me) fun v1 =>
  ob (some (-v1)) fun (x2 : Int32) =>
  ob (a_st 6 66 p1 0 me) fun m3 =>
  ob (a_zst 6 68 p1 1 m3) fun m4 =>
  ob (f_X0_fail_L27 m4 f_fuel 0 0) fun t36 =>
  ob (some t36.1) fun y7 =>
  ob (some t36.2) fun y8 =>
  ob (f_X0_fail_L71 x2 y7 f_fuel x2 0 m4) fun t35 =>
  ob (some t35.1) fun y18 =>
  ob (some t35.2.1) fun y19 =>
  ob (some t35.2.2) fun m20 =>
  ob (some (g_up m20 65 (upd (m20 65) 3 ((m20 65 3) - y18)))) fun m34 =>
  some m34
def f_X0_failAll_L7  : Nat → Int32 → Int32 → gM → Option (Int32 × Int32 × gM)
  | 0, _, _, _ => none
  | n + 1, x2, x3, m4 =>
    if x3 = (-1) then
      some (x2, x3, m4)
    else
      if 6 ≤ x2 then
        some (x2, x3, m4)
      else
        ob (f_X0_fail x3 m4) fun m10 =>
        ob (f_X0_nextToFail m10) fun r11 =>
        f_X0_failAll_L7  n (x2 + 1) r11 m10
def f_X0_failAll (me : gM) : Option (Int32 × gM) :=
  ob (f_X0_nextToFail me) fun r1 =>
  ob (f_X0_failAll_L7  f_fuel 0 r1 me) fun t12 =>
  ob (some t12.1) fun y5 =>
  ob (some t12.2.1) fun y6 =>
  ob (some t12.2.2) fun m7 =>
  some (y5, m7)
abbrev rmX0_payFromHouse : Room := { frames := 0, cells := 0, slots := 0, locals := 0 }
set_option maxHeartbeats 4000000 in
set_option maxRecDepth 100000 in
theorem c_X0_payFromHouse (l : Launch) (G : gG) {p1 : Int32} {p2 : Int32} {me : gM} {m0 : gM}  (hf : f_X0_payFromHouse p1 p2 me = some m0) : Met l yX0_payFromHouse wsX0_payFromHouse rmX0_payFromHouse (va_Pc [.ref (G.2.2.1 65), .int p1, .int p2] (g_W ZC G me)) (g_Qv ZC G m0) 0 0 (g_A ZC G) := by
  refine Met.ofW (cc := cX0_payFromHouse) (maxL := 3) (ret := none) (by decide) rfl ?_
  intro p e s m args below meth c s₁ B hml hv
  obtain ⟨rfl, hW0⟩ := hv
  have hC : CallFix p m c cX0_payFromHouse 3 s ([.ref (G.2.2.1 65), .int p1, .int p2] : List Value).toArray wsX0_payFromHouse RX0 := ⟨B.exec, B.bytes, hml, findClass_of_methodNamed B.named, atoms_spec (ws := wsX0_payFromHouse) B.pre⟩
  have hx := hC.1
  have hb := hC.2.1
  have hown := hC.2.2.2.1
  have hts := hC.2.2.2.2
  have hr := B.returns
  have hlocks := B.notSynchronized
  have hW := g_H_enter hW0
  have hi0 : ∀ w ∈ wsX00, w ∈ wsX0_payFromHouse := by decide +kernel
  have hl := lv_entry ([.ref (G.2.2.1 65), .int p1, .int p2]) (n := 3) (Nat.le_of_ble_eq_true rfl)
  rw [lg_entry_eq]
  generalize (lg_sl ([.ref (G.2.2.1 65), .int p1, .int p2]) ++ List.replicate (3 - (lg_sl ([.ref (G.2.2.1 65), .int p1, .int p2])).length) Slot.unset).toArray = ls at hl ⊢
  have hl : lv_has ls 3 [(0, .ref (G.2.2.1 65)), (1, .int p1), (2, .int p2)] := hl
  obtain ⟨Q, hQ⟩ : ∃ Q, Q = MQ below (g_Qv ZC G m0) ([.ref (G.2.2.1 65), .int p1, .int p2] : List Value).toArray s 0 0 (g_A ZC G) := ⟨_, rfl⟩
  refine g_goQ hQ ?_
  unfold f_X0_payFromHouse at hf
  refine g_start hW (fun H locs hW => ?_)
  refine lv_aload_n hx hb dX0_payFromHouse_0 rfl (lv_at hl 0 rfl) ?_
  refine g_getr hC hW (o := 65) (ci := 0) (k := 0) zc_k65 zc_b65 rfl hi0 (by decide) rfl (t := 66) zc_r65_0 (by decide +kernel) dX0_payFromHouse_1 ?_
  refine lv_iload_n hx hb dX0_payFromHouse_4 rfl (lv_at hl 1 rfl) ?_
  refine lv_dup2_11 hx hb dX0_payFromHouse_5 rfl rfl ?_
  obtain ⟨v1, h9, hf⟩ := ob_inv hf
  refine g_ild hC hW zc_k66 zc_b66 zc_n66 h9 dX0_payFromHouse_6 ?_
  refine lv_iload_n hx hb dX0_payFromHouse_7 rfl (lv_at hl 2 rfl) ?_
  refine lv_iadd hx hb dX0_payFromHouse_8 ?_
  obtain ⟨m2, h9, hf⟩ := ob_inv hf
  refine g_ist hC hW zc_k66 zc_b66 zc_n66 h9 dX0_payFromHouse_9 (fun H locs hW => ?_)
  refine lv_aload_n hx hb dX0_payFromHouse_10 rfl (lv_at hl 0 rfl) ?_
  refine lv_dup hx hb dX0_payFromHouse_11 rfl ?_
  refine g_geti hC hW (o := 65) (ci := 0) (k := 3) zc_k65 zc_b65 rfl hi0 (by decide) rfl (by decide +kernel) dX0_payFromHouse_12 ?_
  refine lv_iload_n hx hb dX0_payFromHouse_15 rfl (lv_at hl 2 rfl) ?_
  refine lv_isub hx hb dX0_payFromHouse_16 ?_
  obtain ⟨m3, h9, hf⟩ := ob_inv hf
  refine g_puti hC hW (o := 65) (ci := 0) (k := 3) zc_k65 zc_b65 rfl hi0 tyX0_ok nmX0 (by decide) rfl rfl rfl (by decide +kernel) dX0_payFromHouse_17 (fun H locs hW => ?_)
  rw [Option.some.inj h9] at hW
  cases hf
  subst hQ
  exact g_vret hC hW hr hlocks rfl dX0_payFromHouse_20
abbrev rmX0_nextToFail : Room := { frames := 0, cells := 0, slots := 0, locals := 0 }
set_option maxHeartbeats 4000000 in
set_option maxRecDepth 100000 in
theorem c_X0_nextToFail (l : Launch) (G : gG)  {me : gM} {r0 : Int32}  (hf : f_X0_nextToFail me = some r0) : Met l yX0_nextToFail wsX0_nextToFail rmX0_nextToFail (va_Pc [.ref (G.2.2.1 65)] (g_W ZC G me)) (g_Qi ZC G r0 me) 0 0 (g_A ZC G) := by
  refine Met.ofW (cc := cX0_nextToFail) (maxL := 2) (ret := (some .int)) (by decide) rfl ?_
  intro p e s m args below meth c s₁ B hml hv
  obtain ⟨rfl, hW0⟩ := hv
  have hC : CallFix p m c cX0_nextToFail 2 s ([.ref (G.2.2.1 65)] : List Value).toArray wsX0_nextToFail RX0 := ⟨B.exec, B.bytes, hml, findClass_of_methodNamed B.named, atoms_spec (ws := wsX0_nextToFail) B.pre⟩
  have hx := hC.1
  have hb := hC.2.1
  have hown := hC.2.2.2.1
  have hts := hC.2.2.2.2
  have hr := B.returns
  have hlocks := B.notSynchronized
  have hW := g_H_enter hW0
  have hi0 : ∀ w ∈ wsX00, w ∈ wsX0_nextToFail := by decide +kernel
  have hl := lv_entry ([.ref (G.2.2.1 65)]) (n := 2) (Nat.le_of_ble_eq_true rfl)
  rw [lg_entry_eq]
  generalize (lg_sl ([.ref (G.2.2.1 65)]) ++ List.replicate (2 - (lg_sl ([.ref (G.2.2.1 65)])).length) Slot.unset).toArray = ls at hl ⊢
  have hl : lv_has ls 2 [(0, .ref (G.2.2.1 65))] := hl
  obtain ⟨Q, hQ⟩ : ∃ Q, Q = MQ below (g_Qi ZC G r0 me) ([.ref (G.2.2.1 65)] : List Value).toArray s 0 0 (g_A ZC G) := ⟨_, rfl⟩
  refine g_goQ hQ ?_
  unfold f_X0_nextToFail at hf
  refine g_start hW (fun H locs hW => ?_)
  refine lv_iconst (v := 0) hx hb dX0_nextToFail_0 (by decide) ?_
  refine lv_istore_n (lv' := [(1, .int 0), (0, .ref (G.2.2.1 65))]) hx hb dX0_nextToFail_1 rfl hl (by decide) rfl (fun ls hl => ?_)
  have hL2 : ∀ (n : Nat) (x1 : Int32) (v9 : (Int32) ⊕ (Int32)) (H : Heap) (locs : List Loc) (ls : Array Slot), f_X0_nextToFail_L2 me n x1 = some v9 → g_H ZC G s H locs me → lv_has ls 2 [(0, .ref (G.2.2.1 65)), (1, .int x1)] → (∀ (y2 : Int32), v9 = .inl y2 → (∀ (H : Heap) (locs : List Loc) (ls : Array Slot), g_H ZC G s H locs me → lv_has ls 2 [] → W p l e (headSpec wsX0_nextToFail rmX0_nextToFail).room s m ([.ref (G.2.2.1 65)] : List Value).toArray below meth c H locs 0 0 Q (F0 m 34 ls []))) → (∀ w9, v9 = .inr w9 → w9 = r0) → W p l e (headSpec wsX0_nextToFail rmX0_nextToFail).room s m ([.ref (G.2.2.1 65)] : List Value).toArray below meth c H locs 0 0 Q (F0 m 2 ls []) := by
    intro n
    induction n with
    | zero =>
      intro x1 v9 H locs ls hf hW hl hE hX
      cases hf
    | succ n ih =>
      intro x1 v9 H locs ls hf hW hl hE hX
      rw [f_X0_nextToFail_L2] at hf
      refine lv_iload_n hx hb dX0_nextToFail_2 rfl (lv_at hl 1 rfl) ?_
      refine lv_bipush (v := 6) hx hb dX0_nextToFail_3 (by decide) ?_
      refine lv_icmp_ge (tgt := 34) hx hb dX0_nextToFail_5 (by decide) (fun c3 => ?_) (fun c3 => ?_)
      · have hf := a_if_t c3 hf
        exact hE _ (Option.some.inj hf).symm H locs ls hW (lv_sub hl [] rfl)
      · have hf := a_if_f c3 hf
        refine lv_aload_n hx hb dX0_nextToFail_8 rfl (lv_at hl 0 rfl) ?_
        refine g_getr hC hW (o := 65) (ci := 0) (k := 2) zc_k65 zc_b65 rfl hi0 (by decide) rfl (t := 68) zc_r65_2 (by decide +kernel) dX0_nextToFail_9 ?_
        refine lv_iload_n hx hb dX0_nextToFail_12 rfl (lv_at hl 1 rfl) ?_
        obtain ⟨v4, h9, hf⟩ := ob_inv hf
        refine g_zld hC hW zc_k68 zc_b68 zc_n68 h9 dX0_nextToFail_13 ?_
        refine lv_if_ne (tgt := 28) hx hb dX0_nextToFail_14 (by decide) (fun c5 => ?_) (fun c5 => ?_)
        · have hf := a_if_f c5 hf
          refine lv_iinc (v := (x1 + 1)) (lv' := [(1, .int (x1 + 1)), (0, .ref (G.2.2.1 65))]) hx hb dX0_nextToFail_28 hl (k := 1) rfl (congrArg (fun z => x1 + z) (by decide)) (by decide) rfl (fun ls hl => ?_)
          refine lv_goto (tgt := 2) hx hb dX0_nextToFail_31 (by decide) ?_
          exact ih _ _ _ _ _ hf hW (lv_sub hl [1, 0] rfl) hE hX
        · have hf := a_if_t c5 hf
          refine lv_aload_n hx hb dX0_nextToFail_17 rfl (lv_at hl 0 rfl) ?_
          refine g_getr hC hW (o := 65) (ci := 0) (k := 0) zc_k65 zc_b65 rfl hi0 (by decide) rfl (t := 66) zc_r65_0 (by decide +kernel) dX0_nextToFail_18 ?_
          refine lv_iload_n hx hb dX0_nextToFail_21 rfl (lv_at hl 1 rfl) ?_
          obtain ⟨v6, h9, hf⟩ := ob_inv hf
          refine g_ild hC hW zc_k66 zc_b66 zc_n66 h9 dX0_nextToFail_22 ?_
          refine lv_if_ge (tgt := 28) hx hb dX0_nextToFail_23 (by decide) (fun c7 => ?_) (fun c7 => ?_)
          · have hf := a_if_t c7 hf
            refine lv_iinc (v := (x1 + 1)) (lv' := [(1, .int (x1 + 1)), (0, .ref (G.2.2.1 65))]) hx hb dX0_nextToFail_28 hl (k := 1) rfl (congrArg (fun z => x1 + z) (by decide)) (by decide) rfl (fun ls hl => ?_)
            refine lv_goto (tgt := 2) hx hb dX0_nextToFail_31 (by decide) ?_
            exact ih _ _ _ _ _ hf hW (lv_sub hl [1, 0] rfl) hE hX
          · have hf := a_if_f c7 hf
            refine lv_iload_n hx hb dX0_nextToFail_26 rfl (lv_at hl 1 rfl) ?_
            have hq := hX _ (Option.some.inj hf).symm
            cases hq
            subst hQ
            exact g_iret hC hW hr hlocks rfl rfl dX0_nextToFail_27
  obtain ⟨v9, hg, hfl, hfr⟩ := oz_inv hf
  refine hL2 _ _ v9 _ _ _ hg hW (lv_sub hl [1, 0] rfl) (fun y2 hv9 H locs ls hW hl => ?_) (fun w9 hw9 => Option.some.inj (hfr w9 hw9))
  have hf := hfl _ hv9
  refine lv_iconst (v := (-1)) hx hb dX0_nextToFail_34 (by decide) ?_
  cases hf
  subst hQ
  exact g_iret hC hW hr hlocks rfl rfl dX0_nextToFail_35
abbrev rmX0_fail : Room := { frames := 0, cells := 0, slots := 0, locals := 0 }
set_option maxHeartbeats 4000000 in
set_option maxRecDepth 100000 in
theorem c_X0_fail (l : Launch) (G : gG) {p1 : Int32} {me : gM} {m0 : gM}  (hf : f_X0_fail p1 me = some m0) : Met l yX0_fail wsX0_fail rmX0_fail (va_Pc [.ref (G.2.2.1 65), .int p1] (g_W ZC G me)) (g_Qv ZC G m0) 0 0 (g_A ZC G) := by
  refine Met.ofW (cc := cX0_fail) (maxL := 8) (ret := none) (by decide) rfl ?_
  intro p e s m args below meth c s₁ B hml hv
  obtain ⟨rfl, hW0⟩ := hv
  have hC : CallFix p m c cX0_fail 8 s ([.ref (G.2.2.1 65), .int p1] : List Value).toArray wsX0_fail RX0 := ⟨B.exec, B.bytes, hml, findClass_of_methodNamed B.named, atoms_spec (ws := wsX0_fail) B.pre⟩
  have hx := hC.1
  have hb := hC.2.1
  have hown := hC.2.2.2.1
  have hts := hC.2.2.2.2
  have hr := B.returns
  have hlocks := B.notSynchronized
  have hW := g_H_enter hW0
  have hi0 : ∀ w ∈ wsX00, w ∈ wsX0_fail := by decide +kernel
  have hl := lv_entry ([.ref (G.2.2.1 65), .int p1]) (n := 8) (Nat.le_of_ble_eq_true rfl)
  rw [lg_entry_eq]
  generalize (lg_sl ([.ref (G.2.2.1 65), .int p1]) ++ List.replicate (8 - (lg_sl ([.ref (G.2.2.1 65), .int p1])).length) Slot.unset).toArray = ls at hl ⊢
  have hl : lv_has ls 8 [(0, .ref (G.2.2.1 65)), (1, .int p1)] := hl
  obtain ⟨Q, hQ⟩ : ∃ Q, Q = MQ below (g_Qv ZC G m0) ([.ref (G.2.2.1 65), .int p1] : List Value).toArray s 0 0 (g_A ZC G) := ⟨_, rfl⟩
  refine g_goQ hQ ?_
  unfold f_X0_fail at hf
  refine g_start hW (fun H locs hW => ?_)
  refine lv_aload_n hx hb dX0_fail_0 rfl (lv_at hl 0 rfl) ?_
  refine g_getr hC hW (o := 65) (ci := 0) (k := 0) zc_k65 zc_b65 rfl hi0 (by decide) rfl (t := 66) zc_r65_0 (by decide +kernel) dX0_fail_1 ?_
  refine lv_iload_n hx hb dX0_fail_4 rfl (lv_at hl 1 rfl) ?_
  obtain ⟨v1, h9, hf⟩ := ob_inv hf
  refine g_ild hC hW zc_k66 zc_b66 zc_n66 h9 dX0_fail_5 ?_
  refine lv_ineg hx hb dX0_fail_6 ?_
  obtain ⟨x2, h9, hf⟩ := ob_inv hf
  refine g_nmi (Option.some.inj h9) ?_
  refine lv_istore_n (lv' := [(2, .int x2), (0, .ref (G.2.2.1 65)), (1, .int p1)]) hx hb dX0_fail_7 rfl hl (by decide) rfl (fun ls hl => ?_)
  refine lv_aload_n hx hb dX0_fail_8 rfl (lv_at hl 1 rfl) ?_
  refine g_getr hC hW (o := 65) (ci := 0) (k := 0) zc_k65 zc_b65 rfl hi0 (by decide) rfl (t := 66) zc_r65_0 (by decide +kernel) dX0_fail_9 ?_
  refine lv_iload_n hx hb dX0_fail_12 rfl (lv_at hl 2 rfl) ?_
  refine lv_iconst (v := 0) hx hb dX0_fail_13 (by decide) ?_
  obtain ⟨m3, h9, hf⟩ := ob_inv hf
  refine g_ist hC hW zc_k66 zc_b66 zc_n66 h9 dX0_fail_14 (fun H locs hW => ?_)
  refine lv_aload_n hx hb dX0_fail_15 rfl (lv_at hl 1 rfl) ?_
  refine g_getr hC hW (o := 65) (ci := 0) (k := 2) zc_k65 zc_b65 rfl hi0 (by decide) rfl (t := 68) zc_r65_2 (by decide +kernel) dX0_fail_16 ?_
  refine lv_iload_n hx hb dX0_fail_19 rfl (lv_at hl 2 rfl) ?_
  refine lv_iconst (v := 1) hx hb dX0_fail_20 (by decide) ?_
  obtain ⟨m4, h9, hf⟩ := ob_inv hf
  refine g_zst hC hW zc_k68 zc_b68 zc_n68 h9 dX0_fail_21 (fun H locs hW => ?_)
  refine lv_lconst (v := 0) hx hb dX0_fail_22 (by decide) ?_
  refine lv_lstore_n (lv' := [(3, .long 0), (2, .int x2), (0, .ref (G.2.2.1 65)), (1, .int p1)]) hx hb dX0_fail_23 rfl hl (by decide) rfl (fun ls hl => ?_)
  refine lv_iconst (v := 0) hx hb dX0_fail_24 (by decide) ?_
  refine lv_istore (lv' := [(5, .int 0), (3, .long 0), (2, .int x2), (0, .ref (G.2.2.1 65)), (1, .int p1)]) hx hb dX0_fail_25 hl (by decide) rfl (fun ls hl => ?_)
  have hL27 : ∀ (n : Nat) (x5 : Int64) (x6 : Int32) (y7 : Int64) (y8 : Int32) (H : Heap) (locs : List Loc) (ls : Array Slot), f_X0_fail_L27 m4 n x5 x6 = some (y7, y8) → g_H ZC G s H locs m4 → lv_has ls 8 [(0, .ref (G.2.2.1 65)), (2, .int x2), (3, .long x5), (5, .int x6)] → (∀ (H : Heap) (locs : List Loc) (ls : Array Slot), g_H ZC G s H locs m4 → lv_has ls 8 [(0, .ref (G.2.2.1 65)), (2, .int x2), (3, .long y7)] → W p l e (headSpec wsX0_fail rmX0_fail).room s m ([.ref (G.2.2.1 65), .int p1] : List Value).toArray below meth c H locs 0 0 Q (F0 m 65 ls [])) → W p l e (headSpec wsX0_fail rmX0_fail).room s m ([.ref (G.2.2.1 65), .int p1] : List Value).toArray below meth c H locs 0 0 Q (F0 m 27 ls []) := by
    intro n
    induction n with
    | zero =>
      intro x5 x6 y7 y8 H locs ls hf hW hl hE
      cases hf
    | succ n ih =>
      intro x5 x6 y7 y8 H locs ls hf hW hl hE
      rw [f_X0_fail_L27] at hf
      refine lv_iload hx hb dX0_fail_27 (lv_at hl 3 rfl) ?_
      refine lv_bipush (v := 6) hx hb dX0_fail_29 (by decide) ?_
      refine lv_icmp_ge (tgt := 65) hx hb dX0_fail_31 (by decide) (fun c9 => ?_) (fun c9 => ?_)
      · have hf := a_if_t c9 hf
        cases hf
        exact hE H locs ls hW (lv_sub hl [0, 1, 2] rfl)
      · have hf := a_if_f c9 hf
        refine lv_lload_n hx hb dX0_fail_34 rfl (lv_at hl 2 rfl) ?_
        refine lv_aload_n hx hb dX0_fail_35 rfl (lv_at hl 0 rfl) ?_
        refine g_getr hC hW (o := 65) (ci := 0) (k := 2) zc_k65 zc_b65 rfl hi0 (by decide) rfl (t := 68) zc_r65_2 (by decide +kernel) dX0_fail_36 ?_
        refine lv_iload hx hb dX0_fail_39 (lv_at hl 3 rfl) ?_
        obtain ⟨v10, h9, hf⟩ := ob_inv hf
        refine g_zld hC hW zc_k68 zc_b68 zc_n68 h9 dX0_fail_41 ?_
        obtain ⟨z12, hg, hf⟩ := ob_inv hf
        have hJ57 : ∀ (H : Heap) (locs : List Loc) (ls : Array Slot), g_H ZC G s H locs m4 → lv_has ls 8 [(0, .ref (G.2.2.1 65)), (2, .int x2), (5, .int x6)] → W p l e (headSpec wsX0_fail rmX0_fail).room s m ([.ref (G.2.2.1 65), .int p1] : List Value).toArray below meth c H locs 0 0 Q (F0 m 57 ls [.long z12, .long x5]) := by
          intro H locs ls hW hl
          refine lv_ladd hx hb dX0_fail_57 ?_
          obtain ⟨x14, h9, hf⟩ := ob_inv hf
          refine g_nml (Option.some.inj h9) ?_
          refine lv_lstore_n (lv' := [(3, .long x14), (0, .ref (G.2.2.1 65)), (2, .int x2), (5, .int x6)]) hx hb dX0_fail_58 rfl hl (by decide) rfl (fun ls hl => ?_)
          refine lv_iinc (v := (x6 + 1)) (lv' := [(5, .int (x6 + 1)), (3, .long x14), (0, .ref (G.2.2.1 65)), (2, .int x2)]) hx hb dX0_fail_59 hl (k := 3) rfl (congrArg (fun z => x6 + z) (by decide)) (by decide) rfl (fun ls hl => ?_)
          refine lv_goto (tgt := 27) hx hb dX0_fail_62 (by decide) ?_
          exact ih _ _ _ _ _ _ _ hf hW (lv_sub hl [2, 3, 1, 0] rfl) hE
        replace hf := hg
        refine lv_if_eq (tgt := 49) hx hb dX0_fail_42 (by decide) (fun c11 => ?_) (fun c11 => ?_)
        · have hf := a_if_t c11 hf
          refine lv_aload_n hx hb dX0_fail_49 rfl (lv_at hl 0 rfl) ?_
          refine g_getr hC hW (o := 65) (ci := 0) (k := 1) zc_k65 zc_b65 rfl hi0 (by decide) rfl (t := 67) zc_r65_1 (by decide +kernel) dX0_fail_50 ?_
          refine lv_iload hx hb dX0_fail_53 (lv_at hl 3 rfl) ?_
          obtain ⟨v13, h9, hf⟩ := ob_inv hf
          refine g_ild hC hW zc_k67 zc_b67 zc_n67 h9 dX0_fail_55 ?_
          refine lv_i2l (v := (v13).toInt64) hx hb dX0_fail_56 rfl ?_
          cases hf
          exact hJ57 H locs ls hW (lv_sub hl [0, 1, 3] rfl)
        · have hf := a_if_f c11 hf
          refine lv_lconst (v := 0) hx hb dX0_fail_45 (by decide) ?_
          refine lv_goto (tgt := 57) hx hb dX0_fail_46 (by decide) ?_
          cases hf
          exact hJ57 H locs ls hW (lv_sub hl [0, 1, 3] rfl)
  obtain ⟨⟨y7, y8⟩, hg, hf⟩ := ob_inv hf
  have hf := ob_inv2 hf
  refine hL27 _ _ _ _ _ _ _ _ hg hW (lv_sub hl [3, 2, 1, 0] rfl) (fun H locs ls hW hl => ?_)
  refine lv_iload_n hx hb dX0_fail_65 rfl (lv_at hl 1 rfl) ?_
  refine lv_istore (lv' := [(5, .int x2), (0, .ref (G.2.2.1 65)), (2, .int x2), (3, .long y7)]) hx hb dX0_fail_66 hl (by decide) rfl (fun ls hl => ?_)
  refine lv_iconst (v := 0) hx hb dX0_fail_68 (by decide) ?_
  refine lv_istore (lv' := [(6, .int 0), (5, .int x2), (0, .ref (G.2.2.1 65)), (2, .int x2), (3, .long y7)]) hx hb dX0_fail_69 hl (by decide) rfl (fun ls hl => ?_)
  have hL71 : ∀ (n : Nat) (x15 : Int32) (x16 : Int32) (m17 : gM) (y18 : Int32) (y19 : Int32) (m20 : gM) (H : Heap) (locs : List Loc) (ls : Array Slot), f_X0_fail_L71 x2 y7 n x15 x16 m17 = some (y18, y19, m20) → g_H ZC G s H locs m17 → lv_has ls 8 [(0, .ref (G.2.2.1 65)), (2, .int x2), (3, .long y7), (5, .int x15), (6, .int x16)] → (∀ (H : Heap) (locs : List Loc) (ls : Array Slot), g_H ZC G s H locs m20 → lv_has ls 8 [(0, .ref (G.2.2.1 65)), (5, .int y18)] → W p l e (headSpec wsX0_fail rmX0_fail).room s m ([.ref (G.2.2.1 65), .int p1] : List Value).toArray below meth c H locs 0 0 Q (F0 m 135 ls [])) → W p l e (headSpec wsX0_fail rmX0_fail).room s m ([.ref (G.2.2.1 65), .int p1] : List Value).toArray below meth c H locs 0 0 Q (F0 m 71 ls []) := by
    intro n
    induction n with
    | zero =>
      intro x15 x16 m17 y18 y19 m20 H locs ls hf hW hl hE
      cases hf
    | succ n ih =>
      intro x15 x16 m17 y18 y19 m20 H locs ls hf hW hl hE
      rw [f_X0_fail_L71] at hf
      refine lv_iload hx hb dX0_fail_71 (lv_at hl 4 rfl) ?_
      refine lv_bipush (v := 6) hx hb dX0_fail_73 (by decide) ?_
      refine lv_icmp_ge (tgt := 135) hx hb dX0_fail_75 (by decide) (fun c21 => ?_) (fun c21 => ?_)
      · have hf := a_if_t c21 hf
        cases hf
        exact hE H locs ls hW (lv_sub hl [0, 3] rfl)
      · have hf := a_if_f c21 hf
        refine lv_aload_n hx hb dX0_fail_78 rfl (lv_at hl 0 rfl) ?_
        refine g_getr hC hW (o := 65) (ci := 0) (k := 2) zc_k65 zc_b65 rfl hi0 (by decide) rfl (t := 68) zc_r65_2 (by decide +kernel) dX0_fail_79 ?_
        refine lv_iload hx hb dX0_fail_82 (lv_at hl 4 rfl) ?_
        obtain ⟨v22, h9, hf⟩ := ob_inv hf
        refine g_zld hC hW zc_k68 zc_b68 zc_n68 h9 dX0_fail_84 ?_
        obtain ⟨⟨x24, m25⟩, hg, hf⟩ := ob_inv hf
        have hf := ob_inv2 hf
        have hJ129 : ∀ (H : Heap) (locs : List Loc) (ls : Array Slot), g_H ZC G s H locs m25 → lv_has ls 8 [(0, .ref (G.2.2.1 65)), (2, .int x2), (3, .long y7), (5, .int x24), (6, .int x16)] → W p l e (headSpec wsX0_fail rmX0_fail).room s m ([.ref (G.2.2.1 65), .int p1] : List Value).toArray below meth c H locs 0 0 Q (F0 m 129 ls []) := by
          intro H locs ls hW hl
          refine lv_iinc (v := (x16 + 1)) (lv' := [(6, .int (x16 + 1)), (0, .ref (G.2.2.1 65)), (2, .int x2), (3, .long y7), (5, .int x24)]) hx hb dX0_fail_129 hl (k := 4) rfl (congrArg (fun z => x16 + z) (by decide)) (by decide) rfl (fun ls hl => ?_)
          refine lv_goto (tgt := 71) hx hb dX0_fail_132 (by decide) ?_
          exact ih _ _ _ _ _ _ _ _ _ hf hW (lv_sub hl [1, 2, 3, 4, 0] rfl) hE
        replace hf := hg
        refine lv_if_ne (tgt := 129) hx hb dX0_fail_85 (by decide) (fun c23 => ?_) (fun c23 => ?_)
        · have hf := a_if_f c23 hf
          cases hf
          exact hJ129 H locs ls hW (lv_sub hl [0, 1, 2, 3, 4] rfl)
        · have hf := a_if_t c23 hf
          refine lv_lload_n hx hb dX0_fail_88 rfl (lv_at hl 2 rfl) ?_
          refine lv_lconst (v := 0) hx hb dX0_fail_89 (by decide) ?_
          refine W.lcmp hx hb dX0_fail_90 ?_
          refine lv_if_le (tgt := 129) hx hb dX0_fail_91 (by decide) (fun c26 => ?_) (fun c26 => ?_)
          · have hf := a_if_t c26 hf
            cases hf
            exact hJ129 H locs ls hW (lv_sub hl [0, 1, 2, 3, 4] rfl)
          · have hf := a_if_f c26 hf
            refine lv_iload_n hx hb dX0_fail_94 rfl (lv_at hl 1 rfl) ?_
            refine lv_i2l (v := (x2).toInt64) hx hb dX0_fail_95 rfl ?_
            refine lv_aload_n hx hb dX0_fail_96 rfl (lv_at hl 0 rfl) ?_
            refine g_getr hC hW (o := 65) (ci := 0) (k := 1) zc_k65 zc_b65 rfl hi0 (by decide) rfl (t := 67) zc_r65_1 (by decide +kernel) dX0_fail_97 ?_
            refine lv_iload hx hb dX0_fail_100 (lv_at hl 4 rfl) ?_
            obtain ⟨v27, h9, hf⟩ := ob_inv hf
            refine g_ild hC hW zc_k67 zc_b67 zc_n67 h9 dX0_fail_102 ?_
            refine lv_i2l (v := (v27).toInt64) hx hb dX0_fail_103 rfl ?_
            refine lv_lmul hx hb dX0_fail_104 ?_
            refine lv_lload_n hx hb dX0_fail_105 rfl (lv_at hl 2 rfl) ?_
            obtain ⟨q28, h9, hf⟩ := ob_inv hf
            refine lv_ldiv hx hb dX0_fail_106 (a_dv_inv h9).1 ?_
            refine g_nml (a_dv_inv h9).2 ?_
            refine lv_l2i (v := (q28).toInt32) hx hb dX0_fail_107 rfl ?_
            obtain ⟨x29, h9, hf⟩ := ob_inv hf
            refine g_nmi (Option.some.inj h9) ?_
            refine lv_istore (lv' := [(7, .int x29), (0, .ref (G.2.2.1 65)), (2, .int x2), (3, .long y7), (5, .int x15), (6, .int x16)]) hx hb dX0_fail_108 hl (by decide) rfl (fun ls hl => ?_)
            refine lv_aload_n hx hb dX0_fail_110 rfl (lv_at hl 1 rfl) ?_
            refine g_getr hC hW (o := 65) (ci := 0) (k := 0) zc_k65 zc_b65 rfl hi0 (by decide) rfl (t := 66) zc_r65_0 (by decide +kernel) dX0_fail_111 ?_
            refine lv_iload hx hb dX0_fail_114 (lv_at hl 5 rfl) ?_
            refine lv_dup2_11 hx hb dX0_fail_116 rfl rfl ?_
            obtain ⟨v30, h9, hf⟩ := ob_inv hf
            refine g_ild hC hW zc_k66 zc_b66 zc_n66 h9 dX0_fail_117 ?_
            refine lv_iload hx hb dX0_fail_118 (lv_at hl 0 rfl) ?_
            refine lv_isub hx hb dX0_fail_120 ?_
            obtain ⟨m31, h9, hf⟩ := ob_inv hf
            refine g_ist hC hW zc_k66 zc_b66 zc_n66 h9 dX0_fail_121 (fun H locs hW => ?_)
            refine lv_iload hx hb dX0_fail_122 (lv_at hl 4 rfl) ?_
            refine lv_iload hx hb dX0_fail_124 (lv_at hl 0 rfl) ?_
            refine lv_isub hx hb dX0_fail_126 ?_
            obtain ⟨x32, h9, hf⟩ := ob_inv hf
            refine g_nmi (Option.some.inj h9) ?_
            refine lv_istore (lv' := [(5, .int x32), (7, .int x29), (0, .ref (G.2.2.1 65)), (2, .int x2), (3, .long y7), (6, .int x16)]) hx hb dX0_fail_127 hl (by decide) rfl (fun ls hl => ?_)
            cases hf
            exact hJ129 H locs ls hW (lv_sub hl [2, 3, 4, 0, 5] rfl)
  obtain ⟨⟨y18, y19, m20⟩, hg, hf⟩ := ob_inv hf
  have hf := ob_inv3 hf
  refine hL71 _ _ _ _ _ _ _ _ _ _ hg hW (lv_sub hl [2, 3, 4, 1, 0] rfl) (fun H locs ls hW hl => ?_)
  refine lv_aload_n hx hb dX0_fail_135 rfl (lv_at hl 0 rfl) ?_
  refine lv_dup hx hb dX0_fail_136 rfl ?_
  refine g_geti hC hW (o := 65) (ci := 0) (k := 3) zc_k65 zc_b65 rfl hi0 (by decide) rfl (by decide +kernel) dX0_fail_137 ?_
  refine lv_iload hx hb dX0_fail_140 (lv_at hl 1 rfl) ?_
  refine lv_isub hx hb dX0_fail_142 ?_
  obtain ⟨m34, h9, hf⟩ := ob_inv hf
  refine g_puti hC hW (o := 65) (ci := 0) (k := 3) zc_k65 zc_b65 rfl hi0 tyX0_ok nmX0 (by decide) rfl rfl rfl (by decide +kernel) dX0_fail_143 (fun H locs hW => ?_)
  rw [Option.some.inj h9] at hW
  cases hf
  subst hQ
  exact g_vret hC hW hr hlocks rfl dX0_fail_146
abbrev rmX0_failAll : Room := { frames := 1, cells := 0, slots := 0, locals := 27 }
set_option maxHeartbeats 4000000 in
set_option maxRecDepth 100000 in
theorem c_X0_failAll (l : Launch) (G : gG)  {me : gM} {r0 : Int32} {m0 : gM}  (hf : f_X0_failAll me = some (r0, m0)) : Met l yX0_failAll wsX0_failAll rmX0_failAll (va_Pc [.ref (G.2.2.1 65)] (g_W ZC G me)) (g_Qi ZC G r0 m0) 0 0 (g_A ZC G) := by
  refine Met.ofW (cc := cX0_failAll) (maxL := 3) (ret := (some .int)) (by decide) rfl ?_
  intro p e s m args below meth c s₁ B hml hv
  obtain ⟨rfl, hW0⟩ := hv
  have hC : CallFix p m c cX0_failAll 3 s ([.ref (G.2.2.1 65)] : List Value).toArray wsX0_failAll RX0 := ⟨B.exec, B.bytes, hml, findClass_of_methodNamed B.named, atoms_spec (ws := wsX0_failAll) B.pre⟩
  have hx := hC.1
  have hb := hC.2.1
  have hown := hC.2.2.2.1
  have hts := hC.2.2.2.2
  have hr := B.returns
  have hlocks := B.notSynchronized
  have hW := g_H_enter hW0
  have hl := lv_entry ([.ref (G.2.2.1 65)]) (n := 3) (Nat.le_of_ble_eq_true rfl)
  rw [lg_entry_eq]
  generalize (lg_sl ([.ref (G.2.2.1 65)]) ++ List.replicate (3 - (lg_sl ([.ref (G.2.2.1 65)])).length) Slot.unset).toArray = ls at hl ⊢
  have hl : lv_has ls 3 [(0, .ref (G.2.2.1 65))] := hl
  obtain ⟨Q, hQ⟩ : ∃ Q, Q = MQ below (g_Qi ZC G r0 m0) ([.ref (G.2.2.1 65)] : List Value).toArray s 0 0 (g_A ZC G) := ⟨_, rfl⟩
  refine g_goQ hQ ?_
  unfold f_X0_failAll at hf
  refine g_start hW (fun H locs hW => ?_)
  refine lv_iconst (v := 0) hx hb dX0_failAll_0 (by decide) ?_
  refine lv_istore_n (lv' := [(1, .int 0), (0, .ref (G.2.2.1 65))]) hx hb dX0_failAll_1 rfl hl (by decide) rfl (fun ls hl => ?_)
  refine lv_aload_n hx hb dX0_failAll_2 rfl (lv_at hl 1 rfl) ?_
  obtain ⟨r1, hg, hf⟩ := ob_inv hf
  refine g_cVi hC hW (o := 65) (ci := 0) (As := []) (rest := []) zc_k65 zc_b65 rfl (c_X0_nextToFail l G  hg) (cwV 0 hts gX0_failAll_X0_nextToFail rfl rfl rfl (by decide +kernel) ⟨Nat.le_of_ble_eq_true rfl, Nat.le_of_ble_eq_true rfl⟩) rfl hl.1 rfl (Nat.le_of_ble_eq_true rfl) dX0_failAll_3 ⟨Nat.le_of_ble_eq_true rfl, Nat.le_of_ble_eq_true rfl⟩ (fun H locs hW => ?_)
  refine lv_istore_n (lv' := [(2, .int r1), (1, .int 0), (0, .ref (G.2.2.1 65))]) hx hb dX0_failAll_6 rfl hl (by decide) rfl (fun ls hl => ?_)
  have hL7 : ∀ (n : Nat) (x2 : Int32) (x3 : Int32) (m4 : gM) (y5 : Int32) (y6 : Int32) (m7 : gM) (H : Heap) (locs : List Loc) (ls : Array Slot), f_X0_failAll_L7  n x2 x3 m4 = some (y5, y6, m7) → g_H ZC G s H locs m4 → lv_has ls 3 [(0, .ref (G.2.2.1 65)), (1, .int x2), (2, .int x3)] → (∀ (H : Heap) (locs : List Loc) (ls : Array Slot), g_H ZC G s H locs m7 → lv_has ls 3 [(1, .int y5)] → W p l e (headSpec wsX0_failAll rmX0_failAll).room s m ([.ref (G.2.2.1 65)] : List Value).toArray below meth c H locs 0 0 Q (F0 m 34 ls [])) → W p l e (headSpec wsX0_failAll rmX0_failAll).room s m ([.ref (G.2.2.1 65)] : List Value).toArray below meth c H locs 0 0 Q (F0 m 7 ls []) := by
    intro n
    induction n with
    | zero =>
      intro x2 x3 m4 y5 y6 m7 H locs ls hf hW hl hE
      cases hf
    | succ n ih =>
      intro x2 x3 m4 y5 y6 m7 H locs ls hf hW hl hE
      rw [f_X0_failAll_L7] at hf
      refine lv_iload_n hx hb dX0_failAll_7 rfl (lv_at hl 2 rfl) ?_
      refine lv_iconst (v := (-1)) hx hb dX0_failAll_8 (by decide) ?_
      refine lv_icmp_eq (tgt := 34) hx hb dX0_failAll_9 (by decide) (fun c8 => ?_) (fun c8 => ?_)
      · have hf := a_if_t c8 hf
        cases hf
        exact hE H locs ls hW (lv_sub hl [1] rfl)
      · have hf := a_if_f c8 hf
        refine lv_iload_n hx hb dX0_failAll_12 rfl (lv_at hl 1 rfl) ?_
        refine lv_bipush (v := 6) hx hb dX0_failAll_13 (by decide) ?_
        refine lv_icmp_ge (tgt := 34) hx hb dX0_failAll_15 (by decide) (fun c9 => ?_) (fun c9 => ?_)
        · have hf := a_if_t c9 hf
          cases hf
          exact hE H locs ls hW (lv_sub hl [1] rfl)
        · have hf := a_if_f c9 hf
          refine lv_aload_n hx hb dX0_failAll_18 rfl (lv_at hl 0 rfl) ?_
          refine lv_iload_n hx hb dX0_failAll_19 rfl (lv_at hl 2 rfl) ?_
          obtain ⟨m10, hg, hf⟩ := ob_inv hf
          refine g_cVv hC hW (o := 65) (ci := 0) (As := [.int x3]) (rest := []) zc_k65 zc_b65 rfl (c_X0_fail l G  hg) (cwV 1 hts gX0_failAll_X0_fail rfl rfl rfl (by decide +kernel) ⟨Nat.le_of_ble_eq_true rfl, Nat.le_of_ble_eq_true rfl⟩) rfl hl.1 rfl (Nat.le_of_ble_eq_true rfl) dX0_failAll_20 ⟨Nat.le_of_ble_eq_true rfl, Nat.le_of_ble_eq_true rfl⟩ (fun H locs hW => ?_)
          refine lv_iinc (v := (x2 + 1)) (lv' := [(1, .int (x2 + 1)), (0, .ref (G.2.2.1 65)), (2, .int x3)]) hx hb dX0_failAll_23 hl (k := 1) rfl (congrArg (fun z => x2 + z) (by decide)) (by decide) rfl (fun ls hl => ?_)
          refine lv_aload_n hx hb dX0_failAll_26 rfl (lv_at hl 1 rfl) ?_
          obtain ⟨r11, hg, hf⟩ := ob_inv hf
          refine g_cVi hC hW (o := 65) (ci := 0) (As := []) (rest := []) zc_k65 zc_b65 rfl (c_X0_nextToFail l G  hg) (cwV 0 hts gX0_failAll_X0_nextToFail rfl rfl rfl (by decide +kernel) ⟨Nat.le_of_ble_eq_true rfl, Nat.le_of_ble_eq_true rfl⟩) rfl hl.1 rfl (Nat.le_of_ble_eq_true rfl) dX0_failAll_27 ⟨Nat.le_of_ble_eq_true rfl, Nat.le_of_ble_eq_true rfl⟩ (fun H locs hW => ?_)
          refine lv_istore_n (lv' := [(2, .int r11), (1, .int (x2 + 1)), (0, .ref (G.2.2.1 65))]) hx hb dX0_failAll_30 rfl hl (by decide) rfl (fun ls hl => ?_)
          refine lv_goto (tgt := 7) hx hb dX0_failAll_31 (by decide) ?_
          exact ih _ _ _ _ _ _ _ _ _ hf hW (lv_sub hl [2, 1, 0] rfl) hE
  obtain ⟨⟨y5, y6, m7⟩, hg, hf⟩ := ob_inv hf
  have hf := ob_inv3 hf
  refine hL7 _ _ _ _ _ _ _ _ _ _ hg hW (lv_sub hl [2, 1, 0] rfl) (fun H locs ls hW hl => ?_)
  refine lv_iload_n hx hb dX0_failAll_34 rfl (lv_at hl 0 rfl) ?_
  cases hf
  subst hQ
  exact g_iret hC hW hr hlocks rfl rfl dX0_failAll_35
