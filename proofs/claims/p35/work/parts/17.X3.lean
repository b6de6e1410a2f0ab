def f_X3_setCount (me : gM) : Option (Int32) :=
  some (a_min 32 (1 <<< ((me 13 8) &&& 31)))
def f_X3_slotOf (p1 : Int32) (p2 : Int32) (me : gM) : Option (Int32) :=
  ob (f_X2_partIn p1 p2 me) fun r1 =>
  some ((p2 * 32) + r1)
def f_X3_keep_L22 (p1 : Int32) : Nat → Int32 → gM → Option (Int32 × gM)
  | 0, _, _ => none
  | n + 1, x3, m4 =>
    if 3 ≤ x3 then
      some (x3, m4)
    else
      ob (a_ld 3 25 x3 m4) fun v8 =>
      ob (a_st 384 41 ((p1 * 3) + x3) v8 m4) fun m9 =>
      ob (f_X7_priceOf x3 m9) fun r10 =>
      ob (a_st 384 42 ((p1 * 3) + x3) r10 m9) fun m11 =>
      f_X3_keep_L22 p1 n (x3 + 1) m11
def f_X3_keep (p1 : Int32) (me : gM) : Option (gM) :=
  ob (a_zst 128 39 p1 1 me) fun m1 =>
  ob (a_st 128 40 p1 (m1 22 4) m1) fun m2 =>
  ob (f_X3_keep_L22 p1 f_fuel 0 m2) fun t12 =>
  ob (some t12.1) fun y5 =>
  ob (some t12.2) fun m6 =>
  some m6
def f_X3_searchHour_L26 (p1 : Int32) (r3 : Int32) : Nat → Int32 → gM → Option (Int32 × gM)
  | 0, _, _ => none
  | n + 1, x4, m5 =>
    if r3 ≤ x4 then
      some (x4, m5)
    else
      ob (f_X3_slotOf x4 p1 m5) fun r9 =>
      ob (a_ld 128 39 r9 m5) fun v10 =>
      ob (if v10 = 0 then
          ob (f_X2_isAllowed x4 m5) fun r13 =>
          if r13 = 0 then
            some m5
          else
            ob (f_X2_partIn x4 p1 m5) fun r15 =>
            ob (f_X7_search r15 m5) fun m16 =>
            ob (f_X3_keep r9 m16) fun m17 =>
            some m17
        else
          some m5) fun (m12 : gM) =>
      f_X3_searchHour_L26 p1 r3 n (x4 + 1) m12
def f_X3_searchHour (p1 : Int32) (me : gM) : Option (gM) :=
  ob (f_X7_draw 4 p1 me) fun m1 =>
  ob (f_X7_weighBids m1) fun m2 =>
  ob (f_X3_setCount m2) fun r3 =>
  ob (f_X3_searchHour_L26 p1 r3 f_fuel 0 m2) fun t18 =>
  ob (some t18.1) fun y6 =>
  ob (some t18.2) fun m7 =>
  some m7
def f_X3_worthWith_L11 (me : gM) (p1 : Int32) : Nat → Int32 → Int32 → Option ((Int32 × Int32) ⊕ (Int32))
  | 0, _, _ => none
  | n + 1, x2, x3 =>
    if 4 ≤ x3 then
      some (.inl (x2, x3))
    else
      ob (f_X3_slotOf p1 x3 me) fun r7 =>
      ob (a_ld 128 40 r7 me) fun v8 =>
      if v8 = (-1000000000) then
        some (.inr (-1000000000))
      else
        ob (some (x2 + v8)) fun (x10 : Int32) =>
        f_X3_worthWith_L11 me p1 n x10 (x3 + 1)
def f_X3_worthWith (p1 : Int32) (me : gM) : Option (Int32) :=
  ob (f_X2_worthOf p1 me) fun r1 =>
  oz (f_X3_worthWith_L11 me p1 f_fuel r1 0) (fun w9 => some w9) fun t11 =>
  ob (some t11.1) fun y4 =>
  ob (some t11.2) fun y5 =>
  some y4
def f_X3_isLosing_L17 (r6 : Int32) (x1 : Int32) : Nat → Int32 → gM → Option (Int32 × gM)
  | 0, _, _ => none
  | n + 1, x7, m8 =>
    if 3 ≤ x7 then
      some (x7, m8)
    else
      ob (f_X9_spotOf x7 x1) fun r12 =>
      ob (a_ld 384 42 ((r6 * 3) + x7) m8) fun v13 =>
      ob (a_st 12 43 r12 v13 m8) fun m14 =>
      f_X3_isLosing_L17 r6 x1 n (x7 + 1) m14
def f_X3_isLosing_L2 (p1 : Int32) : Nat → Int32 → gM → Option (Int32 × gM)
  | 0, _, _ => none
  | n + 1, x1, m2 =>
    if 4 ≤ x1 then
      some (x1, m2)
    else
      ob (f_X3_slotOf p1 x1 m2) fun r6 =>
      ob (f_X3_isLosing_L17 r6 x1 f_fuel 0 m2) fun t15 =>
      ob (some t15.1) fun y9 =>
      ob (some t15.2) fun m10 =>
      f_X3_isLosing_L2 p1 n (x1 + 1) m10
def f_X3_isLosing (p1 : Int32) (me : gM) : Option (Int32 × gM) :=
  ob (f_X3_isLosing_L2 p1 f_fuel 0 me) fun t18 =>
  ob (some t18.1) fun y3 =>
  ob (some t18.2) fun m4 =>
  ob (f_X2_hasLoser p1 12 43 m4) fun r16 =>
  ob (a_zc r16) fun b17 =>
  some (b17, m4)
def f_X3_bestSet_L16 (r2 : Int32) : Nat → Int32 → Int32 → Int32 → gM → Option (Int32 × Int32 × Int32 × gM)
  | 0, _, _, _, _ => none
  | n + 1, x3, x4, x5, m6 =>
    if r2 ≤ x5 then
      some (x3, x4, x5, m6)
    else
      ob (f_X2_isAllowed x5 m6) fun r12 =>
      ob (if r12 = 0 then
          some (x3, x4, m6)
        else
          ob (f_X3_worthWith x5 m6) fun r17 =>
          if r17 ≤ x4 then
            some (x3, x4, m6)
          else
            ob (f_X3_isLosing x5 m6) fun w21 =>
            ob (some w21.1) fun r19 =>
            ob (some w21.2) fun m20 =>
            if r19 = 0 then
              some (x5, r17, m20)
            else
              some (x3, x4, m20)) fun (t23 : Int32 × Int32 × gM) =>
      ob (some t23.1) fun x14 =>
      ob (some t23.2.1) fun x15 =>
      ob (some t23.2.2) fun m16 =>
      f_X3_bestSet_L16 r2 n x14 x15 (x5 + 1) m16
def f_X3_bestSet (me : gM) : Option (Int32 × gM) :=
  ob (f_X3_worthWith 0 me) fun r1 =>
  ob (f_X3_setCount me) fun r2 =>
  ob (f_X3_bestSet_L16 r2 f_fuel 0 r1 1 me) fun t24 =>
  ob (some t24.1) fun y7 =>
  ob (some t24.2.1) fun y8 =>
  ob (some t24.2.2.1) fun y9 =>
  ob (some t24.2.2.2) fun m10 =>
  some (y7, m10)
def f_X3_takeHour_L45 (o2 : Nat) (p1 : Int32) (r1 : Int32) (r2 : Int32) : Nat → Int32 → gM → Option (Int32 × gM)
  | 0, _, _ => none
  | n + 1, x4, m5 =>
    if 3 ≤ x4 then
      some (x4, m5)
    else
      ob (a_ld 384 41 ((r2 * 3) + x4) m5) fun v9 =>
      ob (f_X2_unitsOf r1 x4 m5) fun r10 =>
      ob (some (v9 - r10)) fun (x11 : Int32) =>
      ob (a_rf 3 27 4 x4) fun d12 =>
      ob (f_X4_buysFor d12 x11 m5) fun r13 =>
      ob (if r13 = (-1) then
          some m5
        else
          ob (f_X8_take 4 x4 p1 r13 (r13 + x11) m5) fun m16 =>
          some m16) fun (m15 : gM) =>
      ob (f_X9_spotOf x4 p1) fun r17 =>
      ob (a_st 12 (o2 + 2) r17 v9 m15) fun m18 =>
      ob (f_X9_spotOf x4 p1) fun r19 =>
      ob (a_ld 384 42 ((r2 * 3) + x4) m18) fun v20 =>
      ob (a_st 12 (o2 + 1) r19 v20 m18) fun m21 =>
      f_X3_takeHour_L45 o2 p1 r1 r2 n (x4 + 1) m21
def f_X3_takeHour (p1 : Int32) (o2 : Nat) (me : gM) : Option (gM) :=
  ob (f_X2_partIn (me 13 9) p1 me) fun r1 =>
  ob (f_X3_slotOf (me 13 9) p1 me) fun r2 =>
  ob (f_X7_draw 4 p1 me) fun m3 =>
  ob (f_X3_takeHour_L45 o2 p1 r1 r2 f_fuel 0 m3) fun t22 =>
  ob (some t22.1) fun y6 =>
  ob (some t22.2) fun m7 =>
  some m7
def f_X3_clearDay_L2  : Nat → Int32 → gM → Option (Int32 × gM)
  | 0, _, _ => none
  | n + 1, x1, m2 =>
    if (nI 128) ≤ x1 then
      some (x1, m2)
    else
      ob (a_zst 128 39 x1 0 m2) fun m6 =>
      f_X3_clearDay_L2  n (x1 + 1) m6
def f_X3_clearDay_L26  : Nat → Int32 → gM → Option (Int32 × gM)
  | 0, _, _ => none
  | n + 1, x7, m8 =>
    if 4 ≤ x7 then
      some (x7, m8)
    else
      ob (f_X3_searchHour x7 m8) fun m12 =>
      f_X3_clearDay_L26  n (x7 + 1) m12
def f_X3_clearDay_L55 (o1 : Nat) : Nat → Int32 → gM → Option (Int32 × gM)
  | 0, _, _ => none
  | n + 1, x17, m18 =>
    if 4 ≤ x17 then
      some (x17, m18)
    else
      ob (f_X3_takeHour x17 o1 m18) fun m22 =>
      f_X3_clearDay_L55 o1 n (x17 + 1) m22
def f_X3_clearDay (o1 : Nat) (me : gM) : Option (gM) :=
  ob (f_X3_clearDay_L2  f_fuel 0 me) fun t25 =>
  ob (some t25.1) fun y3 =>
  ob (some t25.2) fun m4 =>
  ob (f_X3_clearDay_L26  f_fuel 0 m4) fun t24 =>
  ob (some t24.1) fun y9 =>
  ob (some t24.2) fun m10 =>
  ob (f_X3_bestSet m10) fun w15 =>
  ob (some w15.1) fun r13 =>
  ob (some w15.2) fun m14 =>
  ob (some (g_up m14 13 (upd (m14 13) 9 r13))) fun m16 =>
  ob (f_X3_clearDay_L55 o1 f_fuel 0 m16) fun t23 =>
  ob (some t23.1) fun y19 =>
  ob (some t23.2) fun m20 =>
  some m20
abbrev rmX3_setCount : Room := { frames := 1, cells := 0, slots := 0, locals := 21 }
set_option maxHeartbeats 4000000 in
set_option maxRecDepth 100000 in
theorem c_X3_setCount (l : Launch) (G : gG)  {me : gM} {r0 : Int32}  (hf : f_X3_setCount me = some r0) : Met l yX3_setCount wsX3_setCount rmX3_setCount (va_Pc [.ref (G.2.2.1 1)] (g_W ZC G me)) (g_Qi ZC G r0 me) 0 0 (g_A ZC G) := by
  refine Met.ofW (cc := cX3_setCount) (maxL := 1) (ret := (some .int)) (by decide) rfl ?_
  intro p e s m args below meth c s₁ B hml hv
  obtain ⟨rfl, hW0⟩ := hv
  have hC : CallFix p m c cX3_setCount 1 s ([.ref (G.2.2.1 1)] : List Value).toArray wsX3_setCount RX3 := ⟨B.exec, B.bytes, hml, findClass_of_methodNamed B.named, atoms_spec (ws := wsX3_setCount) B.pre⟩
  have hx := hC.1
  have hb := hC.2.1
  have hown := hC.2.2.2.1
  have hts := hC.2.2.2.2
  have hr := B.returns
  have hlocks := B.notSynchronized
  have hW := g_H_enter hW0
  have hi2 : ∀ w ∈ wsX20, w ∈ wsX3_setCount := by decide +kernel
  have hi3 : ∀ w ∈ wsX30, w ∈ wsX3_setCount := by decide +kernel
  have hl := lv_entry ([.ref (G.2.2.1 1)]) (n := 1) (Nat.le_of_ble_eq_true rfl)
  rw [lg_entry_eq]
  generalize (lg_sl ([.ref (G.2.2.1 1)]) ++ List.replicate (1 - (lg_sl ([.ref (G.2.2.1 1)])).length) Slot.unset).toArray = ls at hl ⊢
  have hl : lv_has ls 1 [(0, .ref (G.2.2.1 1))] := hl
  obtain ⟨Q, hQ⟩ : ∃ Q, Q = MQ below (g_Qi ZC G r0 me) ([.ref (G.2.2.1 1)] : List Value).toArray s 0 0 (g_A ZC G) := ⟨_, rfl⟩
  refine g_goQ hQ ?_
  unfold f_X3_setCount at hf
  refine g_start hW (fun H locs hW => ?_)
  refine lv_bipush (v := 32) hx hb dX3_setCount_0 (by decide) ?_
  refine lv_iconst (v := 1) hx hb dX3_setCount_2 (by decide) ?_
  refine lv_aload_n hx hb dX3_setCount_3 rfl (lv_at hl 0 rfl) ?_
  refine g_getr hC hW (o := 1) (ci := 3) (k := 2) zc_k1 zc_b1 rfl hi3 (by decide) rfl (t := 13) zc_r1_2 (by decide +kernel) dX3_setCount_4 ?_
  refine g_geti hC hW (o := 13) (ci := 2) (k := 8) zc_k13 zc_b13 rfl hi2 (by decide) rfl (by decide +kernel) dX3_setCount_7 ?_
  refine lv_ishl hx hb dX3_setCount_10 ?_
  refine g_min hC hl.1 (by decide +kernel) (by decide +kernel) (by decide +kernel) (by decide +kernel) (Nat.le_of_ble_eq_true rfl) (Nat.le_of_ble_eq_true rfl) (Nat.le_of_ble_eq_true rfl) (Nat.le_of_ble_eq_true rfl) dX3_setCount_11 ?_
  cases hf
  subst hQ
  exact g_iret hC hW hr hlocks rfl rfl dX3_setCount_14
abbrev rmX3_slotOf : Room := { frames := 2, cells := 0, slots := 0, locals := 45 }
set_option maxHeartbeats 4000000 in
set_option maxRecDepth 100000 in
theorem c_X3_slotOf (l : Launch) (G : gG) {p1 : Int32} {p2 : Int32} {me : gM} {r0 : Int32}  (hf : f_X3_slotOf p1 p2 me = some r0) : Met l yX3_slotOf wsX3_slotOf rmX3_slotOf (va_Pc [.ref (G.2.2.1 1), .int p1, .int p2] (g_W ZC G me)) (g_Qi ZC G r0 me) 0 0 (g_A ZC G) := by
  refine Met.ofW (cc := cX3_slotOf) (maxL := 3) (ret := (some .int)) (by decide) rfl ?_
  intro p e s m args below meth c s₁ B hml hv
  obtain ⟨rfl, hW0⟩ := hv
  have hC : CallFix p m c cX3_slotOf 3 s ([.ref (G.2.2.1 1), .int p1, .int p2] : List Value).toArray wsX3_slotOf RX3 := ⟨B.exec, B.bytes, hml, findClass_of_methodNamed B.named, atoms_spec (ws := wsX3_slotOf) B.pre⟩
  have hx := hC.1
  have hb := hC.2.1
  have hown := hC.2.2.2.1
  have hts := hC.2.2.2.2
  have hr := B.returns
  have hlocks := B.notSynchronized
  have hW := g_H_enter hW0
  have hi3 : ∀ w ∈ wsX30, w ∈ wsX3_slotOf := by decide +kernel
  have hl := lv_entry ([.ref (G.2.2.1 1), .int p1, .int p2]) (n := 3) (Nat.le_of_ble_eq_true rfl)
  rw [lg_entry_eq]
  generalize (lg_sl ([.ref (G.2.2.1 1), .int p1, .int p2]) ++ List.replicate (3 - (lg_sl ([.ref (G.2.2.1 1), .int p1, .int p2])).length) Slot.unset).toArray = ls at hl ⊢
  have hl : lv_has ls 3 [(0, .ref (G.2.2.1 1)), (1, .int p1), (2, .int p2)] := hl
  obtain ⟨Q, hQ⟩ : ∃ Q, Q = MQ below (g_Qi ZC G r0 me) ([.ref (G.2.2.1 1), .int p1, .int p2] : List Value).toArray s 0 0 (g_A ZC G) := ⟨_, rfl⟩
  refine g_goQ hQ ?_
  unfold f_X3_slotOf at hf
  refine g_start hW (fun H locs hW => ?_)
  refine lv_iload_n hx hb dX3_slotOf_0 rfl (lv_at hl 2 rfl) ?_
  refine lv_bipush (v := 32) hx hb dX3_slotOf_1 (by decide) ?_
  refine lv_imul hx hb dX3_slotOf_3 ?_
  refine lv_aload_n hx hb dX3_slotOf_4 rfl (lv_at hl 0 rfl) ?_
  refine g_getr hC hW (o := 1) (ci := 3) (k := 2) zc_k1 zc_b1 rfl hi3 (by decide) rfl (t := 13) zc_r1_2 (by decide +kernel) dX3_slotOf_5 ?_
  refine lv_iload_n hx hb dX3_slotOf_8 rfl (lv_at hl 1 rfl) ?_
  refine lv_iload_n hx hb dX3_slotOf_9 rfl (lv_at hl 2 rfl) ?_
  obtain ⟨r1, hg, hf⟩ := ob_inv hf
  refine g_cVi hC hW (o := 13) (ci := 2) (As := [.int p1, .int p2]) (rest := [.int (p2 * 32)]) zc_k13 zc_b13 rfl (c_X2_partIn l G  hg) (cwV 2 hts gX3_slotOf_X2_partIn rfl rfl rfl (by decide +kernel) ⟨Nat.le_of_ble_eq_true rfl, Nat.le_of_ble_eq_true rfl⟩) rfl hl.1 rfl (Nat.le_of_ble_eq_true rfl) dX3_slotOf_10 ⟨Nat.le_of_ble_eq_true rfl, Nat.le_of_ble_eq_true rfl⟩ (fun H locs hW => ?_)
  refine lv_iadd hx hb dX3_slotOf_13 ?_
  cases hf
  subst hQ
  exact g_iret hC hW hr hlocks rfl rfl dX3_slotOf_14
abbrev rmX3_keep : Room := { frames := 1, cells := 0, slots := 0, locals := 21 }
set_option maxHeartbeats 4000000 in
set_option maxRecDepth 100000 in
theorem c_X3_keep (l : Launch) (G : gG) {p1 : Int32} {me : gM} {m0 : gM}  (hf : f_X3_keep p1 me = some m0) : Met l yX3_keep wsX3_keep rmX3_keep (va_Pc [.ref (G.2.2.1 1), .int p1] (g_W ZC G me)) (g_Qv ZC G m0) 0 0 (g_A ZC G) := by
  refine Met.ofW (cc := cX3_keep) (maxL := 3) (ret := none) (by decide) rfl ?_
  intro p e s m args below meth c s₁ B hml hv
  obtain ⟨rfl, hW0⟩ := hv
  have hC : CallFix p m c cX3_keep 3 s ([.ref (G.2.2.1 1), .int p1] : List Value).toArray wsX3_keep RX3 := ⟨B.exec, B.bytes, hml, findClass_of_methodNamed B.named, atoms_spec (ws := wsX3_keep) B.pre⟩
  have hx := hC.1
  have hb := hC.2.1
  have hown := hC.2.2.2.1
  have hts := hC.2.2.2.2
  have hr := B.returns
  have hlocks := B.notSynchronized
  have hW := g_H_enter hW0
  have hi3 : ∀ w ∈ wsX30, w ∈ wsX3_keep := by decide +kernel
  have hi7 : ∀ w ∈ wsX70, w ∈ wsX3_keep := by decide +kernel
  have hl := lv_entry ([.ref (G.2.2.1 1), .int p1]) (n := 3) (Nat.le_of_ble_eq_true rfl)
  rw [lg_entry_eq]
  generalize (lg_sl ([.ref (G.2.2.1 1), .int p1]) ++ List.replicate (3 - (lg_sl ([.ref (G.2.2.1 1), .int p1])).length) Slot.unset).toArray = ls at hl ⊢
  have hl : lv_has ls 3 [(0, .ref (G.2.2.1 1)), (1, .int p1)] := hl
  obtain ⟨Q, hQ⟩ : ∃ Q, Q = MQ below (g_Qv ZC G m0) ([.ref (G.2.2.1 1), .int p1] : List Value).toArray s 0 0 (g_A ZC G) := ⟨_, rfl⟩
  refine g_goQ hQ ?_
  unfold f_X3_keep at hf
  refine g_start hW (fun H locs hW => ?_)
  refine lv_aload_n hx hb dX3_keep_0 rfl (lv_at hl 0 rfl) ?_
  refine g_getr hC hW (o := 1) (ci := 3) (k := 4) zc_k1 zc_b1 rfl hi3 (by decide) rfl (t := 39) zc_r1_4 (by decide +kernel) dX3_keep_1 ?_
  refine lv_iload_n hx hb dX3_keep_4 rfl (lv_at hl 1 rfl) ?_
  refine lv_iconst (v := 1) hx hb dX3_keep_5 (by decide) ?_
  obtain ⟨m1, h9, hf⟩ := ob_inv hf
  refine g_zst hC hW zc_k39 zc_b39 zc_n39 h9 dX3_keep_6 (fun H locs hW => ?_)
  refine lv_aload_n hx hb dX3_keep_7 rfl (lv_at hl 0 rfl) ?_
  refine g_getr hC hW (o := 1) (ci := 3) (k := 5) zc_k1 zc_b1 rfl hi3 (by decide) rfl (t := 40) zc_r1_5 (by decide +kernel) dX3_keep_8 ?_
  refine lv_iload_n hx hb dX3_keep_11 rfl (lv_at hl 1 rfl) ?_
  refine lv_aload_n hx hb dX3_keep_12 rfl (lv_at hl 0 rfl) ?_
  refine g_getr hC hW (o := 1) (ci := 3) (k := 3) zc_k1 zc_b1 rfl hi3 (by decide) rfl (t := 22) zc_r1_3 (by decide +kernel) dX3_keep_13 ?_
  refine g_geti hC hW (o := 22) (ci := 7) (k := 4) zc_k22 zc_b22 rfl hi7 (by decide) rfl (by decide +kernel) dX3_keep_16 ?_
  obtain ⟨m2, h9, hf⟩ := ob_inv hf
  refine g_ist hC hW zc_k40 zc_b40 zc_n40 h9 dX3_keep_19 (fun H locs hW => ?_)
  refine lv_iconst (v := 0) hx hb dX3_keep_20 (by decide) ?_
  refine lv_istore_n (lv' := [(2, .int 0), (0, .ref (G.2.2.1 1)), (1, .int p1)]) hx hb dX3_keep_21 rfl hl (by decide) rfl (fun ls hl => ?_)
  have hL22 : ∀ (n : Nat) (x3 : Int32) (m4 : gM) (y5 : Int32) (m6 : gM) (H : Heap) (locs : List Loc) (ls : Array Slot), f_X3_keep_L22 p1 n x3 m4 = some (y5, m6) → g_H ZC G s H locs m4 → lv_has ls 3 [(0, .ref (G.2.2.1 1)), (1, .int p1), (2, .int x3)] → (∀ (H : Heap) (locs : List Loc) (ls : Array Slot), g_H ZC G s H locs m6 → lv_has ls 3 [] → W p l e (headSpec wsX3_keep rmX3_keep).room s m ([.ref (G.2.2.1 1), .int p1] : List Value).toArray below meth c H locs 0 0 Q (F0 m 70 ls [])) → W p l e (headSpec wsX3_keep rmX3_keep).room s m ([.ref (G.2.2.1 1), .int p1] : List Value).toArray below meth c H locs 0 0 Q (F0 m 22 ls []) := by
    intro n
    induction n with
    | zero =>
      intro x3 m4 y5 m6 H locs ls hf hW hl hE
      cases hf
    | succ n ih =>
      intro x3 m4 y5 m6 H locs ls hf hW hl hE
      rw [f_X3_keep_L22] at hf
      refine lv_iload_n hx hb dX3_keep_22 rfl (lv_at hl 2 rfl) ?_
      refine lv_iconst (v := 3) hx hb dX3_keep_23 (by decide) ?_
      refine lv_icmp_ge (tgt := 70) hx hb dX3_keep_24 (by decide) (fun c7 => ?_) (fun c7 => ?_)
      · have hf := a_if_t c7 hf
        cases hf
        exact hE H locs ls hW (lv_sub hl [] rfl)
      · have hf := a_if_f c7 hf
        refine lv_aload_n hx hb dX3_keep_27 rfl (lv_at hl 0 rfl) ?_
        refine g_getr hC hW (o := 1) (ci := 3) (k := 6) zc_k1 zc_b1 rfl hi3 (by decide) rfl (t := 41) zc_r1_6 (by decide +kernel) dX3_keep_28 ?_
        refine lv_iload_n hx hb dX3_keep_31 rfl (lv_at hl 1 rfl) ?_
        refine lv_iconst (v := 3) hx hb dX3_keep_32 (by decide) ?_
        refine lv_imul hx hb dX3_keep_33 ?_
        refine lv_iload_n hx hb dX3_keep_34 rfl (lv_at hl 2 rfl) ?_
        refine lv_iadd hx hb dX3_keep_35 ?_
        refine lv_aload_n hx hb dX3_keep_36 rfl (lv_at hl 0 rfl) ?_
        refine g_getr hC hW (o := 1) (ci := 3) (k := 3) zc_k1 zc_b1 rfl hi3 (by decide) rfl (t := 22) zc_r1_3 (by decide +kernel) dX3_keep_37 ?_
        refine g_getr hC hW (o := 22) (ci := 7) (k := 2) zc_k22 zc_b22 rfl hi7 (by decide) rfl (t := 25) zc_r22_2 (by decide +kernel) dX3_keep_40 ?_
        refine lv_iload_n hx hb dX3_keep_43 rfl (lv_at hl 2 rfl) ?_
        obtain ⟨v8, h9, hf⟩ := ob_inv hf
        refine g_ild hC hW zc_k25 zc_b25 zc_n25 h9 dX3_keep_44 ?_
        obtain ⟨m9, h9, hf⟩ := ob_inv hf
        refine g_ist hC hW zc_k41 zc_b41 zc_n41 h9 dX3_keep_45 (fun H locs hW => ?_)
        refine lv_aload_n hx hb dX3_keep_46 rfl (lv_at hl 0 rfl) ?_
        refine g_getr hC hW (o := 1) (ci := 3) (k := 7) zc_k1 zc_b1 rfl hi3 (by decide) rfl (t := 42) zc_r1_7 (by decide +kernel) dX3_keep_47 ?_
        refine lv_iload_n hx hb dX3_keep_50 rfl (lv_at hl 1 rfl) ?_
        refine lv_iconst (v := 3) hx hb dX3_keep_51 (by decide) ?_
        refine lv_imul hx hb dX3_keep_52 ?_
        refine lv_iload_n hx hb dX3_keep_53 rfl (lv_at hl 2 rfl) ?_
        refine lv_iadd hx hb dX3_keep_54 ?_
        refine lv_aload_n hx hb dX3_keep_55 rfl (lv_at hl 0 rfl) ?_
        refine g_getr hC hW (o := 1) (ci := 3) (k := 3) zc_k1 zc_b1 rfl hi3 (by decide) rfl (t := 22) zc_r1_3 (by decide +kernel) dX3_keep_56 ?_
        refine lv_iload_n hx hb dX3_keep_59 rfl (lv_at hl 2 rfl) ?_
        obtain ⟨r10, hg, hf⟩ := ob_inv hf
        refine g_cVi hC hW (o := 22) (ci := 7) (As := [.int x3]) (rest := [.int ((p1 * 3) + x3), .ref (G.2.2.1 42)]) zc_k22 zc_b22 rfl (c_X7_priceOf l G  hg) (cwV 1 hts gX3_keep_X7_priceOf rfl rfl rfl (by decide +kernel) ⟨Nat.le_of_ble_eq_true rfl, Nat.le_of_ble_eq_true rfl⟩) rfl hl.1 rfl (Nat.le_of_ble_eq_true rfl) dX3_keep_60 ⟨Nat.le_of_ble_eq_true rfl, Nat.le_of_ble_eq_true rfl⟩ (fun H locs hW => ?_)
        obtain ⟨m11, h9, hf⟩ := ob_inv hf
        refine g_ist hC hW zc_k42 zc_b42 zc_n42 h9 dX3_keep_63 (fun H locs hW => ?_)
        refine lv_iinc (v := (x3 + 1)) (lv' := [(2, .int (x3 + 1)), (0, .ref (G.2.2.1 1)), (1, .int p1)]) hx hb dX3_keep_64 hl (k := 2) rfl (congrArg (fun z => x3 + z) (by decide)) (by decide) rfl (fun ls hl => ?_)
        refine lv_goto (tgt := 22) hx hb dX3_keep_67 (by decide) ?_
        exact ih _ _ _ _ _ _ _ hf hW (lv_sub hl [1, 2, 0] rfl) hE
  obtain ⟨⟨y5, m6⟩, hg, hf⟩ := ob_inv hf
  have hf := ob_inv2 hf
  refine hL22 _ _ _ _ _ _ _ _ hg hW (lv_sub hl [1, 2, 0] rfl) (fun H locs ls hW hl => ?_)
  cases hf
  subst hQ
  exact g_vret hC hW hr hlocks rfl dX3_keep_70
abbrev rmX3_searchHour : Room := { frames := 4, cells := 0, slots := 0, locals := 88 }
set_option maxHeartbeats 4000000 in
set_option maxRecDepth 100000 in
theorem c_X3_searchHour (l : Launch) (G : gG) {p1 : Int32} {me : gM} {m0 : gM}  (hf : f_X3_searchHour p1 me = some m0) : Met l yX3_searchHour wsX3_searchHour rmX3_searchHour (va_Pc [.ref (G.2.2.1 1), .int p1] (g_W ZC G me)) (g_Qv ZC G m0) 0 0 (g_A ZC G) := by
  refine Met.ofW (cc := cX3_searchHour) (maxL := 5) (ret := none) (by decide) rfl ?_
  intro p e s m args below meth c s₁ B hml hv
  obtain ⟨rfl, hW0⟩ := hv
  have hC : CallFix p m c cX3_searchHour 5 s ([.ref (G.2.2.1 1), .int p1] : List Value).toArray wsX3_searchHour RX3 := ⟨B.exec, B.bytes, hml, findClass_of_methodNamed B.named, atoms_spec (ws := wsX3_searchHour) B.pre⟩
  have hx := hC.1
  have hb := hC.2.1
  have hown := hC.2.2.2.1
  have hts := hC.2.2.2.2
  have hr := B.returns
  have hlocks := B.notSynchronized
  have hW := g_H_enter hW0
  have hi3 : ∀ w ∈ wsX30, w ∈ wsX3_searchHour := by decide +kernel
  have hl := lv_entry ([.ref (G.2.2.1 1), .int p1]) (n := 5) (Nat.le_of_ble_eq_true rfl)
  rw [lg_entry_eq]
  generalize (lg_sl ([.ref (G.2.2.1 1), .int p1]) ++ List.replicate (5 - (lg_sl ([.ref (G.2.2.1 1), .int p1])).length) Slot.unset).toArray = ls at hl ⊢
  have hl : lv_has ls 5 [(0, .ref (G.2.2.1 1)), (1, .int p1)] := hl
  obtain ⟨Q, hQ⟩ : ∃ Q, Q = MQ below (g_Qv ZC G m0) ([.ref (G.2.2.1 1), .int p1] : List Value).toArray s 0 0 (g_A ZC G) := ⟨_, rfl⟩
  refine g_goQ hQ ?_
  unfold f_X3_searchHour at hf
  refine g_start hW (fun H locs hW => ?_)
  refine lv_aload_n hx hb dX3_searchHour_0 rfl (lv_at hl 0 rfl) ?_
  refine g_getr hC hW (o := 1) (ci := 3) (k := 3) zc_k1 zc_b1 rfl hi3 (by decide) rfl (t := 22) zc_r1_3 (by decide +kernel) dX3_searchHour_1 ?_
  refine lv_aload_n hx hb dX3_searchHour_4 rfl (lv_at hl 0 rfl) ?_
  refine g_getr hC hW (o := 1) (ci := 3) (k := 1) zc_k1 zc_b1 rfl hi3 (by decide) rfl (t := 4) zc_r1_1 (by decide +kernel) dX3_searchHour_5 ?_
  refine lv_iload_n hx hb dX3_searchHour_8 rfl (lv_at hl 1 rfl) ?_
  obtain ⟨m1, hg, hf⟩ := ob_inv hf
  refine g_cVv hC hW (o := 22) (ci := 7) (As := [.ref (G.2.2.1 4), .int p1]) (rest := []) zc_k22 zc_b22 rfl (c_X7_draw l G zc_k4 hg) (cwV 2 hts gX3_searchHour_X7_draw rfl rfl rfl (by decide +kernel) ⟨Nat.le_of_ble_eq_true rfl, Nat.le_of_ble_eq_true rfl⟩) rfl hl.1 rfl (Nat.le_of_ble_eq_true rfl) dX3_searchHour_9 ⟨Nat.le_of_ble_eq_true rfl, Nat.le_of_ble_eq_true rfl⟩ (fun H locs hW => ?_)
  refine lv_aload_n hx hb dX3_searchHour_12 rfl (lv_at hl 0 rfl) ?_
  refine g_getr hC hW (o := 1) (ci := 3) (k := 3) zc_k1 zc_b1 rfl hi3 (by decide) rfl (t := 22) zc_r1_3 (by decide +kernel) dX3_searchHour_13 ?_
  obtain ⟨m2, hg, hf⟩ := ob_inv hf
  refine g_cVv hC hW (o := 22) (ci := 7) (As := []) (rest := []) zc_k22 zc_b22 rfl (c_X7_weighBids l G  hg) (cwV 0 hts gX3_searchHour_X7_weighBids rfl rfl rfl (by decide +kernel) ⟨Nat.le_of_ble_eq_true rfl, Nat.le_of_ble_eq_true rfl⟩) rfl hl.1 rfl (Nat.le_of_ble_eq_true rfl) dX3_searchHour_16 ⟨Nat.le_of_ble_eq_true rfl, Nat.le_of_ble_eq_true rfl⟩ (fun H locs hW => ?_)
  refine lv_aload_n hx hb dX3_searchHour_19 rfl (lv_at hl 0 rfl) ?_
  obtain ⟨r3, hg, hf⟩ := ob_inv hf
  refine g_cVi hC hW (o := 1) (ci := 3) (As := []) (rest := []) zc_k1 zc_b1 rfl (c_X3_setCount l G  hg) (cwV 0 hts gX3_searchHour_X3_setCount rfl rfl rfl (by decide +kernel) ⟨Nat.le_of_ble_eq_true rfl, Nat.le_of_ble_eq_true rfl⟩) rfl hl.1 rfl (Nat.le_of_ble_eq_true rfl) dX3_searchHour_20 ⟨Nat.le_of_ble_eq_true rfl, Nat.le_of_ble_eq_true rfl⟩ (fun H locs hW => ?_)
  refine lv_istore_n (lv' := [(2, .int r3), (0, .ref (G.2.2.1 1)), (1, .int p1)]) hx hb dX3_searchHour_23 rfl hl (by decide) rfl (fun ls hl => ?_)
  refine lv_iconst (v := 0) hx hb dX3_searchHour_24 (by decide) ?_
  refine lv_istore_n (lv' := [(3, .int 0), (2, .int r3), (0, .ref (G.2.2.1 1)), (1, .int p1)]) hx hb dX3_searchHour_25 rfl hl (by decide) rfl (fun ls hl => ?_)
  have hL26 : ∀ (n : Nat) (x4 : Int32) (m5 : gM) (y6 : Int32) (m7 : gM) (H : Heap) (locs : List Loc) (ls : Array Slot), f_X3_searchHour_L26 p1 r3 n x4 m5 = some (y6, m7) → g_H ZC G s H locs m5 → lv_has ls 5 [(0, .ref (G.2.2.1 1)), (1, .int p1), (2, .int r3), (3, .int x4)] → (∀ (H : Heap) (locs : List Loc) (ls : Array Slot), g_H ZC G s H locs m7 → lv_has ls 5 [] → W p l e (headSpec wsX3_searchHour rmX3_searchHour).room s m ([.ref (G.2.2.1 1), .int p1] : List Value).toArray below meth c H locs 0 0 Q (F0 m 96 ls [])) → W p l e (headSpec wsX3_searchHour rmX3_searchHour).room s m ([.ref (G.2.2.1 1), .int p1] : List Value).toArray below meth c H locs 0 0 Q (F0 m 26 ls []) := by
    intro n
    induction n with
    | zero =>
      intro x4 m5 y6 m7 H locs ls hf hW hl hE
      cases hf
    | succ n ih =>
      intro x4 m5 y6 m7 H locs ls hf hW hl hE
      rw [f_X3_searchHour_L26] at hf
      refine lv_iload_n hx hb dX3_searchHour_26 rfl (lv_at hl 3 rfl) ?_
      refine lv_iload_n hx hb dX3_searchHour_27 rfl (lv_at hl 2 rfl) ?_
      refine lv_icmp_ge (tgt := 96) hx hb dX3_searchHour_28 (by decide) (fun c8 => ?_) (fun c8 => ?_)
      · have hf := a_if_t c8 hf
        cases hf
        exact hE H locs ls hW (lv_sub hl [] rfl)
      · have hf := a_if_f c8 hf
        refine lv_aload_n hx hb dX3_searchHour_31 rfl (lv_at hl 0 rfl) ?_
        refine lv_iload_n hx hb dX3_searchHour_32 rfl (lv_at hl 3 rfl) ?_
        refine lv_iload_n hx hb dX3_searchHour_33 rfl (lv_at hl 1 rfl) ?_
        obtain ⟨r9, hg, hf⟩ := ob_inv hf
        refine g_cVi hC hW (o := 1) (ci := 3) (As := [.int x4, .int p1]) (rest := []) zc_k1 zc_b1 rfl (c_X3_slotOf l G  hg) (cwV 2 hts gX3_searchHour_X3_slotOf rfl rfl rfl (by decide +kernel) ⟨Nat.le_of_ble_eq_true rfl, Nat.le_of_ble_eq_true rfl⟩) rfl hl.1 rfl (Nat.le_of_ble_eq_true rfl) dX3_searchHour_34 ⟨Nat.le_of_ble_eq_true rfl, Nat.le_of_ble_eq_true rfl⟩ (fun H locs hW => ?_)
        refine lv_istore (lv' := [(4, .int r9), (0, .ref (G.2.2.1 1)), (1, .int p1), (2, .int r3), (3, .int x4)]) hx hb dX3_searchHour_37 hl (by decide) rfl (fun ls hl => ?_)
        refine lv_aload_n hx hb dX3_searchHour_39 rfl (lv_at hl 1 rfl) ?_
        refine g_getr hC hW (o := 1) (ci := 3) (k := 4) zc_k1 zc_b1 rfl hi3 (by decide) rfl (t := 39) zc_r1_4 (by decide +kernel) dX3_searchHour_40 ?_
        refine lv_iload hx hb dX3_searchHour_43 (lv_at hl 0 rfl) ?_
        obtain ⟨v10, h9, hf⟩ := ob_inv hf
        refine g_zld hC hW zc_k39 zc_b39 zc_n39 h9 dX3_searchHour_45 ?_
        obtain ⟨m12, hg, hf⟩ := ob_inv hf
        have hJ90 : ∀ (H : Heap) (locs : List Loc) (ls : Array Slot), g_H ZC G s H locs m12 → lv_has ls 5 [(0, .ref (G.2.2.1 1)), (1, .int p1), (2, .int r3), (3, .int x4)] → W p l e (headSpec wsX3_searchHour rmX3_searchHour).room s m ([.ref (G.2.2.1 1), .int p1] : List Value).toArray below meth c H locs 0 0 Q (F0 m 90 ls []) := by
          intro H locs ls hW hl
          refine lv_iinc (v := (x4 + 1)) (lv' := [(3, .int (x4 + 1)), (0, .ref (G.2.2.1 1)), (1, .int p1), (2, .int r3)]) hx hb dX3_searchHour_90 hl (k := 3) rfl (congrArg (fun z => x4 + z) (by decide)) (by decide) rfl (fun ls hl => ?_)
          refine lv_goto (tgt := 26) hx hb dX3_searchHour_93 (by decide) ?_
          exact ih _ _ _ _ _ _ _ hf hW (lv_sub hl [1, 2, 3, 0] rfl) hE
        replace hf := hg
        refine lv_if_ne (tgt := 90) hx hb dX3_searchHour_46 (by decide) (fun c11 => ?_) (fun c11 => ?_)
        · have hf := a_if_f c11 hf
          cases hf
          exact hJ90 H locs ls hW (lv_sub hl [1, 2, 3, 4] rfl)
        · have hf := a_if_t c11 hf
          refine lv_aload_n hx hb dX3_searchHour_49 rfl (lv_at hl 1 rfl) ?_
          refine g_getr hC hW (o := 1) (ci := 3) (k := 2) zc_k1 zc_b1 rfl hi3 (by decide) rfl (t := 13) zc_r1_2 (by decide +kernel) dX3_searchHour_50 ?_
          refine lv_iload_n hx hb dX3_searchHour_53 rfl (lv_at hl 4 rfl) ?_
          obtain ⟨r13, hg, hf⟩ := ob_inv hf
          refine g_cVi hC hW (o := 13) (ci := 2) (As := [.int x4]) (rest := []) zc_k13 zc_b13 rfl (c_X2_isAllowed l G  hg) (cwV 1 hts gX3_searchHour_X2_isAllowed rfl rfl rfl (by decide +kernel) ⟨Nat.le_of_ble_eq_true rfl, Nat.le_of_ble_eq_true rfl⟩) rfl hl.1 rfl (Nat.le_of_ble_eq_true rfl) dX3_searchHour_54 ⟨Nat.le_of_ble_eq_true rfl, Nat.le_of_ble_eq_true rfl⟩ (fun H locs hW => ?_)
          refine lv_if_eq (tgt := 90) hx hb dX3_searchHour_57 (by decide) (fun c14 => ?_) (fun c14 => ?_)
          · have hf := a_if_t c14 hf
            cases hf
            exact hJ90 H locs ls hW (lv_sub hl [1, 2, 3, 4] rfl)
          · have hf := a_if_f c14 hf
            refine lv_aload_n hx hb dX3_searchHour_60 rfl (lv_at hl 1 rfl) ?_
            refine g_getr hC hW (o := 1) (ci := 3) (k := 3) zc_k1 zc_b1 rfl hi3 (by decide) rfl (t := 22) zc_r1_3 (by decide +kernel) dX3_searchHour_61 ?_
            refine lv_aload_n hx hb dX3_searchHour_64 rfl (lv_at hl 1 rfl) ?_
            refine g_getr hC hW (o := 1) (ci := 3) (k := 0) zc_k1 zc_b1 rfl hi3 (by decide) rfl (t := 2) zc_r1_0 (by decide +kernel) dX3_searchHour_65 ?_
            refine lv_aload_n hx hb dX3_searchHour_68 rfl (lv_at hl 1 rfl) ?_
            refine g_getr hC hW (o := 1) (ci := 3) (k := 2) zc_k1 zc_b1 rfl hi3 (by decide) rfl (t := 13) zc_r1_2 (by decide +kernel) dX3_searchHour_69 ?_
            refine lv_aload_n hx hb dX3_searchHour_72 rfl (lv_at hl 1 rfl) ?_
            refine g_getr hC hW (o := 1) (ci := 3) (k := 2) zc_k1 zc_b1 rfl hi3 (by decide) rfl (t := 13) zc_r1_2 (by decide +kernel) dX3_searchHour_73 ?_
            refine lv_iload_n hx hb dX3_searchHour_76 rfl (lv_at hl 4 rfl) ?_
            refine lv_iload_n hx hb dX3_searchHour_77 rfl (lv_at hl 2 rfl) ?_
            obtain ⟨r15, hg, hf⟩ := ob_inv hf
            refine g_cVi hC hW (o := 13) (ci := 2) (As := [.int x4, .int p1]) (rest := [.ref (G.2.2.1 13), .ref (G.2.2.1 2), .ref (G.2.2.1 22)]) zc_k13 zc_b13 rfl (c_X2_partIn l G  hg) (cwV 2 hts gX3_searchHour_X2_partIn rfl rfl rfl (by decide +kernel) ⟨Nat.le_of_ble_eq_true rfl, Nat.le_of_ble_eq_true rfl⟩) rfl hl.1 rfl (Nat.le_of_ble_eq_true rfl) dX3_searchHour_78 ⟨Nat.le_of_ble_eq_true rfl, Nat.le_of_ble_eq_true rfl⟩ (fun H locs hW => ?_)
            obtain ⟨m16, hg, hf⟩ := ob_inv hf
            refine g_cVv hC hW (o := 22) (ci := 7) (As := [.ref (G.2.2.1 2), .ref (G.2.2.1 13), .int r15]) (rest := []) zc_k22 zc_b22 rfl (c_X7_search l G  hg) (cwV 3 hts gX3_searchHour_X7_search rfl rfl rfl (by decide +kernel) ⟨Nat.le_of_ble_eq_true rfl, Nat.le_of_ble_eq_true rfl⟩) rfl hl.1 rfl (Nat.le_of_ble_eq_true rfl) dX3_searchHour_81 ⟨Nat.le_of_ble_eq_true rfl, Nat.le_of_ble_eq_true rfl⟩ (fun H locs hW => ?_)
            refine lv_aload_n hx hb dX3_searchHour_84 rfl (lv_at hl 1 rfl) ?_
            refine lv_iload hx hb dX3_searchHour_85 (lv_at hl 0 rfl) ?_
            obtain ⟨m17, hg, hf⟩ := ob_inv hf
            refine g_cVv hC hW (o := 1) (ci := 3) (As := [.int r9]) (rest := []) zc_k1 zc_b1 rfl (c_X3_keep l G  hg) (cwV 1 hts gX3_searchHour_X3_keep rfl rfl rfl (by decide +kernel) ⟨Nat.le_of_ble_eq_true rfl, Nat.le_of_ble_eq_true rfl⟩) rfl hl.1 rfl (Nat.le_of_ble_eq_true rfl) dX3_searchHour_87 ⟨Nat.le_of_ble_eq_true rfl, Nat.le_of_ble_eq_true rfl⟩ (fun H locs hW => ?_)
            cases hf
            exact hJ90 H locs ls hW (lv_sub hl [1, 2, 3, 4] rfl)
  obtain ⟨⟨y6, m7⟩, hg, hf⟩ := ob_inv hf
  have hf := ob_inv2 hf
  refine hL26 _ _ _ _ _ _ _ _ hg hW (lv_sub hl [2, 3, 1, 0] rfl) (fun H locs ls hW hl => ?_)
  cases hf
  subst hQ
  exact g_vret hC hW hr hlocks rfl dX3_searchHour_96
abbrev rmX3_worthWith : Room := { frames := 3, cells := 0, slots := 0, locals := 67 }
set_option maxHeartbeats 4000000 in
set_option maxRecDepth 100000 in
theorem c_X3_worthWith (l : Launch) (G : gG) {p1 : Int32} {me : gM} {r0 : Int32}  (hf : f_X3_worthWith p1 me = some r0) : Met l yX3_worthWith wsX3_worthWith rmX3_worthWith (va_Pc [.ref (G.2.2.1 1), .int p1] (g_W ZC G me)) (g_Qi ZC G r0 me) 0 0 (g_A ZC G) := by
  refine Met.ofW (cc := cX3_worthWith) (maxL := 5) (ret := (some .int)) (by decide) rfl ?_
  intro p e s m args below meth c s₁ B hml hv
  obtain ⟨rfl, hW0⟩ := hv
  have hC : CallFix p m c cX3_worthWith 5 s ([.ref (G.2.2.1 1), .int p1] : List Value).toArray wsX3_worthWith RX3 := ⟨B.exec, B.bytes, hml, findClass_of_methodNamed B.named, atoms_spec (ws := wsX3_worthWith) B.pre⟩
  have hx := hC.1
  have hb := hC.2.1
  have hown := hC.2.2.2.1
  have hts := hC.2.2.2.2
  have hr := B.returns
  have hlocks := B.notSynchronized
  have hW := g_H_enter hW0
  have hi3 : ∀ w ∈ wsX30, w ∈ wsX3_worthWith := by decide +kernel
  have hl := lv_entry ([.ref (G.2.2.1 1), .int p1]) (n := 5) (Nat.le_of_ble_eq_true rfl)
  rw [lg_entry_eq]
  generalize (lg_sl ([.ref (G.2.2.1 1), .int p1]) ++ List.replicate (5 - (lg_sl ([.ref (G.2.2.1 1), .int p1])).length) Slot.unset).toArray = ls at hl ⊢
  have hl : lv_has ls 5 [(0, .ref (G.2.2.1 1)), (1, .int p1)] := hl
  obtain ⟨Q, hQ⟩ : ∃ Q, Q = MQ below (g_Qi ZC G r0 me) ([.ref (G.2.2.1 1), .int p1] : List Value).toArray s 0 0 (g_A ZC G) := ⟨_, rfl⟩
  refine g_goQ hQ ?_
  unfold f_X3_worthWith at hf
  refine g_start hW (fun H locs hW => ?_)
  refine lv_aload_n hx hb dX3_worthWith_0 rfl (lv_at hl 0 rfl) ?_
  refine g_getr hC hW (o := 1) (ci := 3) (k := 2) zc_k1 zc_b1 rfl hi3 (by decide) rfl (t := 13) zc_r1_2 (by decide +kernel) dX3_worthWith_1 ?_
  refine lv_iload_n hx hb dX3_worthWith_4 rfl (lv_at hl 1 rfl) ?_
  obtain ⟨r1, hg, hf⟩ := ob_inv hf
  refine g_cVi hC hW (o := 13) (ci := 2) (As := [.int p1]) (rest := []) zc_k13 zc_b13 rfl (c_X2_worthOf l G  hg) (cwV 1 hts gX3_worthWith_X2_worthOf rfl rfl rfl (by decide +kernel) ⟨Nat.le_of_ble_eq_true rfl, Nat.le_of_ble_eq_true rfl⟩) rfl hl.1 rfl (Nat.le_of_ble_eq_true rfl) dX3_worthWith_5 ⟨Nat.le_of_ble_eq_true rfl, Nat.le_of_ble_eq_true rfl⟩ (fun H locs hW => ?_)
  refine lv_istore_n (lv' := [(2, .int r1), (0, .ref (G.2.2.1 1)), (1, .int p1)]) hx hb dX3_worthWith_8 rfl hl (by decide) rfl (fun ls hl => ?_)
  refine lv_iconst (v := 0) hx hb dX3_worthWith_9 (by decide) ?_
  refine lv_istore_n (lv' := [(3, .int 0), (2, .int r1), (0, .ref (G.2.2.1 1)), (1, .int p1)]) hx hb dX3_worthWith_10 rfl hl (by decide) rfl (fun ls hl => ?_)
  have hL11 : ∀ (n : Nat) (x2 : Int32) (x3 : Int32) (v9 : (Int32 × Int32) ⊕ (Int32)) (H : Heap) (locs : List Loc) (ls : Array Slot), f_X3_worthWith_L11 me p1 n x2 x3 = some v9 → g_H ZC G s H locs me → lv_has ls 5 [(0, .ref (G.2.2.1 1)), (1, .int p1), (2, .int x2), (3, .int x3)] → (∀ (y4 : Int32) (y5 : Int32), v9 = .inl (y4, y5) → (∀ (H : Heap) (locs : List Loc) (ls : Array Slot), g_H ZC G s H locs me → lv_has ls 5 [(2, .int y4)] → W p l e (headSpec wsX3_worthWith rmX3_worthWith).room s m ([.ref (G.2.2.1 1), .int p1] : List Value).toArray below meth c H locs 0 0 Q (F0 m 50 ls []))) → (∀ w9, v9 = .inr w9 → w9 = r0) → W p l e (headSpec wsX3_worthWith rmX3_worthWith).room s m ([.ref (G.2.2.1 1), .int p1] : List Value).toArray below meth c H locs 0 0 Q (F0 m 11 ls []) := by
    intro n
    induction n with
    | zero =>
      intro x2 x3 v9 H locs ls hf hW hl hE hX
      cases hf
    | succ n ih =>
      intro x2 x3 v9 H locs ls hf hW hl hE hX
      rw [f_X3_worthWith_L11] at hf
      refine lv_iload_n hx hb dX3_worthWith_11 rfl (lv_at hl 3 rfl) ?_
      refine lv_iconst (v := 4) hx hb dX3_worthWith_12 (by decide) ?_
      refine lv_icmp_ge (tgt := 50) hx hb dX3_worthWith_13 (by decide) (fun c6 => ?_) (fun c6 => ?_)
      · have hf := a_if_t c6 hf
        exact hE _ _ (Option.some.inj hf).symm H locs ls hW (lv_sub hl [2] rfl)
      · have hf := a_if_f c6 hf
        refine lv_aload_n hx hb dX3_worthWith_16 rfl (lv_at hl 0 rfl) ?_
        refine g_getr hC hW (o := 1) (ci := 3) (k := 5) zc_k1 zc_b1 rfl hi3 (by decide) rfl (t := 40) zc_r1_5 (by decide +kernel) dX3_worthWith_17 ?_
        refine lv_aload_n hx hb dX3_worthWith_20 rfl (lv_at hl 0 rfl) ?_
        refine lv_iload_n hx hb dX3_worthWith_21 rfl (lv_at hl 1 rfl) ?_
        refine lv_iload_n hx hb dX3_worthWith_22 rfl (lv_at hl 3 rfl) ?_
        obtain ⟨r7, hg, hf⟩ := ob_inv hf
        refine g_cVi hC hW (o := 1) (ci := 3) (As := [.int p1, .int x3]) (rest := [.ref (G.2.2.1 40)]) zc_k1 zc_b1 rfl (c_X3_slotOf l G  hg) (cwV 2 hts gX3_worthWith_X3_slotOf rfl rfl rfl (by decide +kernel) ⟨Nat.le_of_ble_eq_true rfl, Nat.le_of_ble_eq_true rfl⟩) rfl hl.1 rfl (Nat.le_of_ble_eq_true rfl) dX3_worthWith_23 ⟨Nat.le_of_ble_eq_true rfl, Nat.le_of_ble_eq_true rfl⟩ (fun H locs hW => ?_)
        obtain ⟨v8, h9, hf⟩ := ob_inv hf
        refine g_ild hC hW zc_k40 zc_b40 zc_n40 h9 dX3_worthWith_26 ?_
        refine lv_istore (lv' := [(4, .int v8), (0, .ref (G.2.2.1 1)), (1, .int p1), (2, .int x2), (3, .int x3)]) hx hb dX3_worthWith_27 hl (by decide) rfl (fun ls hl => ?_)
        refine lv_iload hx hb dX3_worthWith_29 (lv_at hl 0 rfl) ?_
        refine lv_ldc (v := (-1000000000)) hx hb hown (hts _ (by decide +kernel : Cond.constant RX3 125 (-1000000000) ∈ wsX3_worthWith)) dX3_worthWith_31 ?_
        refine lv_icmp_ne (tgt := 39) hx hb dX3_worthWith_33 (by decide) (fun c9 => ?_) (fun c9 => ?_)
        · have hf := a_if_f c9 hf
          refine lv_iload_n hx hb dX3_worthWith_39 rfl (lv_at hl 3 rfl) ?_
          refine lv_iload hx hb dX3_worthWith_40 (lv_at hl 0 rfl) ?_
          refine lv_iadd hx hb dX3_worthWith_42 ?_
          obtain ⟨x10, h9, hf⟩ := ob_inv hf
          refine g_nmi (Option.some.inj h9) ?_
          refine lv_istore_n (lv' := [(2, .int x10), (4, .int v8), (0, .ref (G.2.2.1 1)), (1, .int p1), (3, .int x3)]) hx hb dX3_worthWith_43 rfl hl (by decide) rfl (fun ls hl => ?_)
          refine lv_iinc (v := (x3 + 1)) (lv' := [(3, .int (x3 + 1)), (2, .int x10), (4, .int v8), (0, .ref (G.2.2.1 1)), (1, .int p1)]) hx hb dX3_worthWith_44 hl (k := 4) rfl (congrArg (fun z => x3 + z) (by decide)) (by decide) rfl (fun ls hl => ?_)
          refine lv_goto (tgt := 11) hx hb dX3_worthWith_47 (by decide) ?_
          exact ih _ _ _ _ _ _ hf hW (lv_sub hl [3, 4, 1, 0] rfl) hE hX
        · have hf := a_if_t c9 hf
          refine lv_ldc (v := (-1000000000)) hx hb hown (hts _ (by decide +kernel : Cond.constant RX3 125 (-1000000000) ∈ wsX3_worthWith)) dX3_worthWith_36 ?_
          have hq := hX _ (Option.some.inj hf).symm
          cases hq
          subst hQ
          exact g_iret hC hW hr hlocks rfl rfl dX3_worthWith_38
  obtain ⟨v9, hg, hfl, hfr⟩ := oz_inv hf
  refine hL11 _ _ _ v9 _ _ _ hg hW (lv_sub hl [2, 3, 1, 0] rfl) (fun y4 y5 hv9 H locs ls hW hl => ?_) (fun w9 hw9 => Option.some.inj (hfr w9 hw9))
  have hf := hfl _ hv9
  have hf := ob_inv2 hf
  refine lv_iload_n hx hb dX3_worthWith_50 rfl (lv_at hl 0 rfl) ?_
  cases hf
  subst hQ
  exact g_iret hC hW hr hlocks rfl rfl dX3_worthWith_51
abbrev rmX3_isLosing : Room := { frames := 3, cells := 0, slots := 0, locals := 68 }
set_option maxHeartbeats 4000000 in
set_option maxRecDepth 100000 in
theorem c_X3_isLosing (l : Launch) (G : gG) {p1 : Int32} {me : gM} {r0 : Int32} {m0 : gM}  (hf : f_X3_isLosing p1 me = some (r0, m0)) : Met l yX3_isLosing wsX3_isLosing rmX3_isLosing (va_Pc [.ref (G.2.2.1 1), .int p1] (g_W ZC G me)) (g_Qi ZC G r0 m0) 0 0 (g_A ZC G) := by
  refine Met.ofW (cc := cX3_isLosing) (maxL := 5) (ret := (some .boolean)) (by decide) rfl ?_
  intro p e s m args below meth c s₁ B hml hv
  obtain ⟨rfl, hW0⟩ := hv
  have hC : CallFix p m c cX3_isLosing 5 s ([.ref (G.2.2.1 1), .int p1] : List Value).toArray wsX3_isLosing RX3 := ⟨B.exec, B.bytes, hml, findClass_of_methodNamed B.named, atoms_spec (ws := wsX3_isLosing) B.pre⟩
  have hx := hC.1
  have hb := hC.2.1
  have hown := hC.2.2.2.1
  have hts := hC.2.2.2.2
  have hr := B.returns
  have hlocks := B.notSynchronized
  have hW := g_H_enter hW0
  have hi3 : ∀ w ∈ wsX30, w ∈ wsX3_isLosing := by decide +kernel
  have hl := lv_entry ([.ref (G.2.2.1 1), .int p1]) (n := 5) (Nat.le_of_ble_eq_true rfl)
  rw [lg_entry_eq]
  generalize (lg_sl ([.ref (G.2.2.1 1), .int p1]) ++ List.replicate (5 - (lg_sl ([.ref (G.2.2.1 1), .int p1])).length) Slot.unset).toArray = ls at hl ⊢
  have hl : lv_has ls 5 [(0, .ref (G.2.2.1 1)), (1, .int p1)] := hl
  obtain ⟨Q, hQ⟩ : ∃ Q, Q = MQ below (g_Qi ZC G r0 m0) ([.ref (G.2.2.1 1), .int p1] : List Value).toArray s 0 0 (g_A ZC G) := ⟨_, rfl⟩
  refine g_goQ hQ ?_
  unfold f_X3_isLosing at hf
  refine g_start hW (fun H locs hW => ?_)
  refine lv_iconst (v := 0) hx hb dX3_isLosing_0 (by decide) ?_
  refine lv_istore_n (lv' := [(2, .int 0), (0, .ref (G.2.2.1 1)), (1, .int p1)]) hx hb dX3_isLosing_1 rfl hl (by decide) rfl (fun ls hl => ?_)
  have hL2 : ∀ (n : Nat) (x1 : Int32) (m2 : gM) (y3 : Int32) (m4 : gM) (H : Heap) (locs : List Loc) (ls : Array Slot), f_X3_isLosing_L2 p1 n x1 m2 = some (y3, m4) → g_H ZC G s H locs m2 → lv_has ls 5 [(0, .ref (G.2.2.1 1)), (1, .int p1), (2, .int x1)] → (∀ (H : Heap) (locs : List Loc) (ls : Array Slot), g_H ZC G s H locs m4 → lv_has ls 5 [(0, .ref (G.2.2.1 1)), (1, .int p1)] → W p l e (headSpec wsX3_isLosing rmX3_isLosing).room s m ([.ref (G.2.2.1 1), .int p1] : List Value).toArray below meth c H locs 0 0 Q (F0 m 57 ls [])) → W p l e (headSpec wsX3_isLosing rmX3_isLosing).room s m ([.ref (G.2.2.1 1), .int p1] : List Value).toArray below meth c H locs 0 0 Q (F0 m 2 ls []) := by
    intro n
    induction n with
    | zero =>
      intro x1 m2 y3 m4 H locs ls hf hW hl hE
      cases hf
    | succ n ih =>
      intro x1 m2 y3 m4 H locs ls hf hW hl hE
      rw [f_X3_isLosing_L2] at hf
      refine lv_iload_n hx hb dX3_isLosing_2 rfl (lv_at hl 2 rfl) ?_
      refine lv_iconst (v := 4) hx hb dX3_isLosing_3 (by decide) ?_
      refine lv_icmp_ge (tgt := 57) hx hb dX3_isLosing_4 (by decide) (fun c5 => ?_) (fun c5 => ?_)
      · have hf := a_if_t c5 hf
        cases hf
        exact hE H locs ls hW (lv_sub hl [0, 1] rfl)
      · have hf := a_if_f c5 hf
        refine lv_aload_n hx hb dX3_isLosing_7 rfl (lv_at hl 0 rfl) ?_
        refine lv_iload_n hx hb dX3_isLosing_8 rfl (lv_at hl 1 rfl) ?_
        refine lv_iload_n hx hb dX3_isLosing_9 rfl (lv_at hl 2 rfl) ?_
        obtain ⟨r6, hg, hf⟩ := ob_inv hf
        refine g_cVi hC hW (o := 1) (ci := 3) (As := [.int p1, .int x1]) (rest := []) zc_k1 zc_b1 rfl (c_X3_slotOf l G  hg) (cwV 2 hts gX3_isLosing_X3_slotOf rfl rfl rfl (by decide +kernel) ⟨Nat.le_of_ble_eq_true rfl, Nat.le_of_ble_eq_true rfl⟩) rfl hl.1 rfl (Nat.le_of_ble_eq_true rfl) dX3_isLosing_10 ⟨Nat.le_of_ble_eq_true rfl, Nat.le_of_ble_eq_true rfl⟩ (fun H locs hW => ?_)
        refine lv_istore_n (lv' := [(3, .int r6), (0, .ref (G.2.2.1 1)), (1, .int p1), (2, .int x1)]) hx hb dX3_isLosing_13 rfl hl (by decide) rfl (fun ls hl => ?_)
        refine lv_iconst (v := 0) hx hb dX3_isLosing_14 (by decide) ?_
        refine lv_istore (lv' := [(4, .int 0), (3, .int r6), (0, .ref (G.2.2.1 1)), (1, .int p1), (2, .int x1)]) hx hb dX3_isLosing_15 hl (by decide) rfl (fun ls hl => ?_)
        have hL17 : ∀ (n : Nat) (x7 : Int32) (m8 : gM) (y9 : Int32) (m10 : gM) (H : Heap) (locs : List Loc) (ls : Array Slot), f_X3_isLosing_L17 r6 x1 n x7 m8 = some (y9, m10) → g_H ZC G s H locs m8 → lv_has ls 5 [(0, .ref (G.2.2.1 1)), (1, .int p1), (2, .int x1), (3, .int r6), (4, .int x7)] → (∀ (H : Heap) (locs : List Loc) (ls : Array Slot), g_H ZC G s H locs m10 → lv_has ls 5 [(0, .ref (G.2.2.1 1)), (1, .int p1), (2, .int x1)] → W p l e (headSpec wsX3_isLosing rmX3_isLosing).room s m ([.ref (G.2.2.1 1), .int p1] : List Value).toArray below meth c H locs 0 0 Q (F0 m 51 ls [])) → W p l e (headSpec wsX3_isLosing rmX3_isLosing).room s m ([.ref (G.2.2.1 1), .int p1] : List Value).toArray below meth c H locs 0 0 Q (F0 m 17 ls []) := by
          intro n
          induction n with
          | zero =>
            intro x7 m8 y9 m10 H locs ls hf hW hl hE
            cases hf
          | succ n ih =>
            intro x7 m8 y9 m10 H locs ls hf hW hl hE
            rw [f_X3_isLosing_L17] at hf
            refine lv_iload hx hb dX3_isLosing_17 (lv_at hl 4 rfl) ?_
            refine lv_iconst (v := 3) hx hb dX3_isLosing_19 (by decide) ?_
            refine lv_icmp_ge (tgt := 51) hx hb dX3_isLosing_20 (by decide) (fun c11 => ?_) (fun c11 => ?_)
            · have hf := a_if_t c11 hf
              cases hf
              exact hE H locs ls hW (lv_sub hl [0, 1, 2] rfl)
            · have hf := a_if_f c11 hf
              refine lv_aload_n hx hb dX3_isLosing_23 rfl (lv_at hl 0 rfl) ?_
              refine g_getr hC hW (o := 1) (ci := 3) (k := 8) zc_k1 zc_b1 rfl hi3 (by decide) rfl (t := 43) zc_r1_8 (by decide +kernel) dX3_isLosing_24 ?_
              refine lv_iload hx hb dX3_isLosing_27 (lv_at hl 4 rfl) ?_
              refine lv_iload_n hx hb dX3_isLosing_29 rfl (lv_at hl 2 rfl) ?_
              obtain ⟨r12, hg, hf⟩ := ob_inv hf
              refine g_cNi hC hW (As := [.int x7, .int x1]) (rest := [.ref (G.2.2.1 43)]) (host := "GridMarket") (c_X9_spotOf l G  hg) ⟨va_cnB 2 hts gX3_isLosing_X9_spotOf_n126 rfl rfl rfl (hW.2.2.2.1 (RX3, 126, yX9_spotOf) (by decide +kernel)) (hts _ (by decide +kernel : Cond.initialized RX9 ∈ wsX3_isLosing)) (by decide +kernel) ⟨Nat.le_of_ble_eq_true rfl, Nat.le_of_ble_eq_true rfl⟩, hts _ (by decide +kernel : Cond.static yX9_spotOf ∈ wsX3_isLosing), trivial⟩ rfl hl.1 rfl (Nat.le_of_ble_eq_true rfl) dX3_isLosing_30 ⟨Nat.le_of_ble_eq_true rfl, Nat.le_of_ble_eq_true rfl⟩ (fun H locs hW => ?_)
              refine lv_aload_n hx hb dX3_isLosing_33 rfl (lv_at hl 0 rfl) ?_
              refine g_getr hC hW (o := 1) (ci := 3) (k := 7) zc_k1 zc_b1 rfl hi3 (by decide) rfl (t := 42) zc_r1_7 (by decide +kernel) dX3_isLosing_34 ?_
              refine lv_iload_n hx hb dX3_isLosing_37 rfl (lv_at hl 3 rfl) ?_
              refine lv_iconst (v := 3) hx hb dX3_isLosing_38 (by decide) ?_
              refine lv_imul hx hb dX3_isLosing_39 ?_
              refine lv_iload hx hb dX3_isLosing_40 (lv_at hl 4 rfl) ?_
              refine lv_iadd hx hb dX3_isLosing_42 ?_
              obtain ⟨v13, h9, hf⟩ := ob_inv hf
              refine g_ild hC hW zc_k42 zc_b42 zc_n42 h9 dX3_isLosing_43 ?_
              obtain ⟨m14, h9, hf⟩ := ob_inv hf
              refine g_ist hC hW zc_k43 zc_b43 zc_n43 h9 dX3_isLosing_44 (fun H locs hW => ?_)
              refine lv_iinc (v := (x7 + 1)) (lv' := [(4, .int (x7 + 1)), (0, .ref (G.2.2.1 1)), (1, .int p1), (2, .int x1), (3, .int r6)]) hx hb dX3_isLosing_45 hl (k := 4) rfl (congrArg (fun z => x7 + z) (by decide)) (by decide) rfl (fun ls hl => ?_)
              refine lv_goto (tgt := 17) hx hb dX3_isLosing_48 (by decide) ?_
              exact ih _ _ _ _ _ _ _ hf hW (lv_sub hl [1, 2, 3, 4, 0] rfl) hE
        obtain ⟨⟨y9, m10⟩, hg, hf⟩ := ob_inv hf
        have hf := ob_inv2 hf
        refine hL17 _ _ _ _ _ _ _ _ hg hW (lv_sub hl [2, 3, 4, 1, 0] rfl) (fun H locs ls hW hl => ?_)
        refine lv_iinc (v := (x1 + 1)) (lv' := [(2, .int (x1 + 1)), (0, .ref (G.2.2.1 1)), (1, .int p1)]) hx hb dX3_isLosing_51 hl (k := 2) rfl (congrArg (fun z => x1 + z) (by decide)) (by decide) rfl (fun ls hl => ?_)
        refine lv_goto (tgt := 2) hx hb dX3_isLosing_54 (by decide) ?_
        exact ih _ _ _ _ _ _ _ hf hW (lv_sub hl [1, 2, 0] rfl) hE
  obtain ⟨⟨y3, m4⟩, hg, hf⟩ := ob_inv hf
  have hf := ob_inv2 hf
  refine hL2 _ _ _ _ _ _ _ _ hg hW (lv_sub hl [1, 2, 0] rfl) (fun H locs ls hW hl => ?_)
  refine lv_aload_n hx hb dX3_isLosing_57 rfl (lv_at hl 0 rfl) ?_
  refine g_getr hC hW (o := 1) (ci := 3) (k := 2) zc_k1 zc_b1 rfl hi3 (by decide) rfl (t := 13) zc_r1_2 (by decide +kernel) dX3_isLosing_58 ?_
  refine lv_iload_n hx hb dX3_isLosing_61 rfl (lv_at hl 1 rfl) ?_
  refine lv_aload_n hx hb dX3_isLosing_62 rfl (lv_at hl 0 rfl) ?_
  refine g_getr hC hW (o := 1) (ci := 3) (k := 8) zc_k1 zc_b1 rfl hi3 (by decide) rfl (t := 43) zc_r1_8 (by decide +kernel) dX3_isLosing_63 ?_
  obtain ⟨r16, hg, hf⟩ := ob_inv hf
  refine g_cVi hC hW (o := 13) (ci := 2) (As := [.int p1, .ref (G.2.2.1 43)]) (rest := []) zc_k13 zc_b13 rfl (c_X2_hasLoser l G zc_k43 zc_n43 hg) (cwV 2 hts gX3_isLosing_X2_hasLoser rfl rfl rfl (by decide +kernel) ⟨Nat.le_of_ble_eq_true rfl, Nat.le_of_ble_eq_true rfl⟩) rfl hl.1 rfl (Nat.le_of_ble_eq_true rfl) dX3_isLosing_66 ⟨Nat.le_of_ble_eq_true rfl, Nat.le_of_ble_eq_true rfl⟩ (fun H locs hW => ?_)
  obtain ⟨b17, h9, hf⟩ := ob_inv hf
  obtain ⟨h9, hn9⟩ := a_zc_inv h9
  refine g_nmi h9 ?_
  cases hf
  subst hQ
  exact g_zret hC hW hr hlocks hn9 rfl rfl dX3_isLosing_69
abbrev rmX3_bestSet : Room := { frames := 4, cells := 0, slots := 0, locals := 92 }
set_option maxHeartbeats 4000000 in
set_option maxRecDepth 100000 in
theorem c_X3_bestSet (l : Launch) (G : gG)  {me : gM} {r0 : Int32} {m0 : gM}  (hf : f_X3_bestSet me = some (r0, m0)) : Met l yX3_bestSet wsX3_bestSet rmX3_bestSet (va_Pc [.ref (G.2.2.1 1)] (g_W ZC G me)) (g_Qi ZC G r0 m0) 0 0 (g_A ZC G) := by
  refine Met.ofW (cc := cX3_bestSet) (maxL := 6) (ret := (some .int)) (by decide) rfl ?_
  intro p e s m args below meth c s₁ B hml hv
  obtain ⟨rfl, hW0⟩ := hv
  have hC : CallFix p m c cX3_bestSet 6 s ([.ref (G.2.2.1 1)] : List Value).toArray wsX3_bestSet RX3 := ⟨B.exec, B.bytes, hml, findClass_of_methodNamed B.named, atoms_spec (ws := wsX3_bestSet) B.pre⟩
  have hx := hC.1
  have hb := hC.2.1
  have hown := hC.2.2.2.1
  have hts := hC.2.2.2.2
  have hr := B.returns
  have hlocks := B.notSynchronized
  have hW := g_H_enter hW0
  have hi3 : ∀ w ∈ wsX30, w ∈ wsX3_bestSet := by decide +kernel
  have hl := lv_entry ([.ref (G.2.2.1 1)]) (n := 6) (Nat.le_of_ble_eq_true rfl)
  rw [lg_entry_eq]
  generalize (lg_sl ([.ref (G.2.2.1 1)]) ++ List.replicate (6 - (lg_sl ([.ref (G.2.2.1 1)])).length) Slot.unset).toArray = ls at hl ⊢
  have hl : lv_has ls 6 [(0, .ref (G.2.2.1 1))] := hl
  obtain ⟨Q, hQ⟩ : ∃ Q, Q = MQ below (g_Qi ZC G r0 m0) ([.ref (G.2.2.1 1)] : List Value).toArray s 0 0 (g_A ZC G) := ⟨_, rfl⟩
  refine g_goQ hQ ?_
  unfold f_X3_bestSet at hf
  refine g_start hW (fun H locs hW => ?_)
  refine lv_iconst (v := 0) hx hb dX3_bestSet_0 (by decide) ?_
  refine lv_istore_n (lv' := [(1, .int 0), (0, .ref (G.2.2.1 1))]) hx hb dX3_bestSet_1 rfl hl (by decide) rfl (fun ls hl => ?_)
  refine lv_aload_n hx hb dX3_bestSet_2 rfl (lv_at hl 1 rfl) ?_
  refine lv_iconst (v := 0) hx hb dX3_bestSet_3 (by decide) ?_
  obtain ⟨r1, hg, hf⟩ := ob_inv hf
  refine g_cVi hC hW (o := 1) (ci := 3) (As := [.int 0]) (rest := []) zc_k1 zc_b1 rfl (c_X3_worthWith l G  hg) (cwV 1 hts gX3_bestSet_X3_worthWith rfl rfl rfl (by decide +kernel) ⟨Nat.le_of_ble_eq_true rfl, Nat.le_of_ble_eq_true rfl⟩) rfl hl.1 rfl (Nat.le_of_ble_eq_true rfl) dX3_bestSet_4 ⟨Nat.le_of_ble_eq_true rfl, Nat.le_of_ble_eq_true rfl⟩ (fun H locs hW => ?_)
  refine lv_istore_n (lv' := [(2, .int r1), (1, .int 0), (0, .ref (G.2.2.1 1))]) hx hb dX3_bestSet_7 rfl hl (by decide) rfl (fun ls hl => ?_)
  refine lv_aload_n hx hb dX3_bestSet_8 rfl (lv_at hl 2 rfl) ?_
  obtain ⟨r2, hg, hf⟩ := ob_inv hf
  refine g_cVi hC hW (o := 1) (ci := 3) (As := []) (rest := []) zc_k1 zc_b1 rfl (c_X3_setCount l G  hg) (cwV 0 hts gX3_bestSet_X3_setCount rfl rfl rfl (by decide +kernel) ⟨Nat.le_of_ble_eq_true rfl, Nat.le_of_ble_eq_true rfl⟩) rfl hl.1 rfl (Nat.le_of_ble_eq_true rfl) dX3_bestSet_9 ⟨Nat.le_of_ble_eq_true rfl, Nat.le_of_ble_eq_true rfl⟩ (fun H locs hW => ?_)
  refine lv_istore_n (lv' := [(3, .int r2), (2, .int r1), (1, .int 0), (0, .ref (G.2.2.1 1))]) hx hb dX3_bestSet_12 rfl hl (by decide) rfl (fun ls hl => ?_)
  refine lv_iconst (v := 1) hx hb dX3_bestSet_13 (by decide) ?_
  refine lv_istore (lv' := [(4, .int 1), (3, .int r2), (2, .int r1), (1, .int 0), (0, .ref (G.2.2.1 1))]) hx hb dX3_bestSet_14 hl (by decide) rfl (fun ls hl => ?_)
  have hL16 : ∀ (n : Nat) (x3 : Int32) (x4 : Int32) (x5 : Int32) (m6 : gM) (y7 : Int32) (y8 : Int32) (y9 : Int32) (m10 : gM) (H : Heap) (locs : List Loc) (ls : Array Slot), f_X3_bestSet_L16 r2 n x3 x4 x5 m6 = some (y7, y8, y9, m10) → g_H ZC G s H locs m6 → lv_has ls 6 [(0, .ref (G.2.2.1 1)), (1, .int x3), (2, .int x4), (3, .int r2), (4, .int x5)] → (∀ (H : Heap) (locs : List Loc) (ls : Array Slot), g_H ZC G s H locs m10 → lv_has ls 6 [(1, .int y7)] → W p l e (headSpec wsX3_bestSet rmX3_bestSet).room s m ([.ref (G.2.2.1 1)] : List Value).toArray below meth c H locs 0 0 Q (F0 m 69 ls [])) → W p l e (headSpec wsX3_bestSet rmX3_bestSet).room s m ([.ref (G.2.2.1 1)] : List Value).toArray below meth c H locs 0 0 Q (F0 m 16 ls []) := by
    intro n
    induction n with
    | zero =>
      intro x3 x4 x5 m6 y7 y8 y9 m10 H locs ls hf hW hl hE
      cases hf
    | succ n ih =>
      intro x3 x4 x5 m6 y7 y8 y9 m10 H locs ls hf hW hl hE
      rw [f_X3_bestSet_L16] at hf
      refine lv_iload hx hb dX3_bestSet_16 (lv_at hl 4 rfl) ?_
      refine lv_iload_n hx hb dX3_bestSet_18 rfl (lv_at hl 3 rfl) ?_
      refine lv_icmp_ge (tgt := 69) hx hb dX3_bestSet_19 (by decide) (fun c11 => ?_) (fun c11 => ?_)
      · have hf := a_if_t c11 hf
        cases hf
        exact hE H locs ls hW (lv_sub hl [1] rfl)
      · have hf := a_if_f c11 hf
        refine lv_aload_n hx hb dX3_bestSet_22 rfl (lv_at hl 0 rfl) ?_
        refine g_getr hC hW (o := 1) (ci := 3) (k := 2) zc_k1 zc_b1 rfl hi3 (by decide) rfl (t := 13) zc_r1_2 (by decide +kernel) dX3_bestSet_23 ?_
        refine lv_iload hx hb dX3_bestSet_26 (lv_at hl 4 rfl) ?_
        obtain ⟨r12, hg, hf⟩ := ob_inv hf
        refine g_cVi hC hW (o := 13) (ci := 2) (As := [.int x5]) (rest := []) zc_k13 zc_b13 rfl (c_X2_isAllowed l G  hg) (cwV 1 hts gX3_bestSet_X2_isAllowed rfl rfl rfl (by decide +kernel) ⟨Nat.le_of_ble_eq_true rfl, Nat.le_of_ble_eq_true rfl⟩) rfl hl.1 rfl (Nat.le_of_ble_eq_true rfl) dX3_bestSet_28 ⟨Nat.le_of_ble_eq_true rfl, Nat.le_of_ble_eq_true rfl⟩ (fun H locs hW => ?_)
        obtain ⟨⟨x14, x15, m16⟩, hg, hf⟩ := ob_inv hf
        have hf := ob_inv3 hf
        have hJ63 : ∀ (H : Heap) (locs : List Loc) (ls : Array Slot), g_H ZC G s H locs m16 → lv_has ls 6 [(0, .ref (G.2.2.1 1)), (1, .int x14), (2, .int x15), (3, .int r2), (4, .int x5)] → W p l e (headSpec wsX3_bestSet rmX3_bestSet).room s m ([.ref (G.2.2.1 1)] : List Value).toArray below meth c H locs 0 0 Q (F0 m 63 ls []) := by
          intro H locs ls hW hl
          refine lv_iinc (v := (x5 + 1)) (lv' := [(4, .int (x5 + 1)), (0, .ref (G.2.2.1 1)), (1, .int x14), (2, .int x15), (3, .int r2)]) hx hb dX3_bestSet_63 hl (k := 4) rfl (congrArg (fun z => x5 + z) (by decide)) (by decide) rfl (fun ls hl => ?_)
          refine lv_goto (tgt := 16) hx hb dX3_bestSet_66 (by decide) ?_
          exact ih _ _ _ _ _ _ _ _ _ _ _ hf hW (lv_sub hl [1, 2, 3, 4, 0] rfl) hE
        replace hf := hg
        refine lv_if_eq (tgt := 63) hx hb dX3_bestSet_31 (by decide) (fun c13 => ?_) (fun c13 => ?_)
        · have hf := a_if_t c13 hf
          cases hf
          exact hJ63 H locs ls hW (lv_sub hl [0, 1, 2, 3, 4] rfl)
        · have hf := a_if_f c13 hf
          refine lv_aload_n hx hb dX3_bestSet_34 rfl (lv_at hl 0 rfl) ?_
          refine lv_iload hx hb dX3_bestSet_35 (lv_at hl 4 rfl) ?_
          obtain ⟨r17, hg, hf⟩ := ob_inv hf
          refine g_cVi hC hW (o := 1) (ci := 3) (As := [.int x5]) (rest := []) zc_k1 zc_b1 rfl (c_X3_worthWith l G  hg) (cwV 1 hts gX3_bestSet_X3_worthWith rfl rfl rfl (by decide +kernel) ⟨Nat.le_of_ble_eq_true rfl, Nat.le_of_ble_eq_true rfl⟩) rfl hl.1 rfl (Nat.le_of_ble_eq_true rfl) dX3_bestSet_37 ⟨Nat.le_of_ble_eq_true rfl, Nat.le_of_ble_eq_true rfl⟩ (fun H locs hW => ?_)
          refine lv_istore (lv' := [(5, .int r17), (0, .ref (G.2.2.1 1)), (1, .int x3), (2, .int x4), (3, .int r2), (4, .int x5)]) hx hb dX3_bestSet_40 hl (by decide) rfl (fun ls hl => ?_)
          refine lv_iload hx hb dX3_bestSet_42 (lv_at hl 0 rfl) ?_
          refine lv_iload_n hx hb dX3_bestSet_44 rfl (lv_at hl 3 rfl) ?_
          refine lv_icmp_le (tgt := 63) hx hb dX3_bestSet_45 (by decide) (fun c18 => ?_) (fun c18 => ?_)
          · have hf := a_if_t c18 hf
            cases hf
            exact hJ63 H locs ls hW (lv_sub hl [1, 2, 3, 4, 5] rfl)
          · have hf := a_if_f c18 hf
            refine lv_aload_n hx hb dX3_bestSet_48 rfl (lv_at hl 1 rfl) ?_
            refine lv_iload hx hb dX3_bestSet_49 (lv_at hl 5 rfl) ?_
            obtain ⟨⟨r19, m20⟩, hg, hf⟩ := ob_inv hf
            have hf := ob_inv2 hf
            refine g_cVi hC hW (o := 1) (ci := 3) (As := [.int x5]) (rest := []) zc_k1 zc_b1 rfl (c_X3_isLosing l G  hg) (cwV 1 hts gX3_bestSet_X3_isLosing rfl rfl rfl (by decide +kernel) ⟨Nat.le_of_ble_eq_true rfl, Nat.le_of_ble_eq_true rfl⟩) rfl hl.1 rfl (Nat.le_of_ble_eq_true rfl) dX3_bestSet_51 ⟨Nat.le_of_ble_eq_true rfl, Nat.le_of_ble_eq_true rfl⟩ (fun H locs hW => ?_)
            refine lv_if_ne (tgt := 63) hx hb dX3_bestSet_54 (by decide) (fun c22 => ?_) (fun c22 => ?_)
            · have hf := a_if_f c22 hf
              cases hf
              exact hJ63 H locs ls hW (lv_sub hl [1, 2, 3, 4, 5] rfl)
            · have hf := a_if_t c22 hf
              refine lv_iload hx hb dX3_bestSet_57 (lv_at hl 5 rfl) ?_
              refine lv_istore_n (lv' := [(1, .int x5), (5, .int r17), (0, .ref (G.2.2.1 1)), (2, .int x4), (3, .int r2), (4, .int x5)]) hx hb dX3_bestSet_59 rfl hl (by decide) rfl (fun ls hl => ?_)
              refine lv_iload hx hb dX3_bestSet_60 (lv_at hl 1 rfl) ?_
              refine lv_istore_n (lv' := [(2, .int r17), (1, .int x5), (5, .int r17), (0, .ref (G.2.2.1 1)), (3, .int r2), (4, .int x5)]) hx hb dX3_bestSet_62 rfl hl (by decide) rfl (fun ls hl => ?_)
              cases hf
              exact hJ63 H locs ls hW (lv_sub hl [3, 1, 0, 4, 5] rfl)
  obtain ⟨⟨y7, y8, y9, m10⟩, hg, hf⟩ := ob_inv hf
  have hf := ob_inv4 hf
  refine hL16 _ _ _ _ _ _ _ _ _ _ _ _ hg hW (lv_sub hl [4, 3, 2, 1, 0] rfl) (fun H locs ls hW hl => ?_)
  refine lv_iload_n hx hb dX3_bestSet_69 rfl (lv_at hl 0 rfl) ?_
  cases hf
  subst hQ
  exact g_iret hC hW hr hlocks rfl rfl dX3_bestSet_70
abbrev rmX3_takeHour : Room := { frames := 3, cells := 0, slots := 0, locals := 73 }
set_option maxHeartbeats 4000000 in
set_option maxRecDepth 100000 in
theorem c_X3_takeHour (l : Launch) (G : gG) {p1 : Int32} {o2 : Nat} {me : gM} {m0 : gM}  (ho2 : ZC.2.1 o2 = 6) (hf : f_X3_takeHour p1 o2 me = some m0) : Met l yX3_takeHour wsX3_takeHour rmX3_takeHour (va_Pc [.ref (G.2.2.1 1), .int p1, .ref (G.2.2.1 o2)] (g_W ZC G me)) (g_Qv ZC G m0) 0 0 (g_A ZC G) := by
  refine Met.ofW (cc := cX3_takeHour) (maxL := 9) (ret := none) (by decide) rfl ?_
  intro p e s m args below meth c s₁ B hml hv
  obtain ⟨rfl, hW0⟩ := hv
  have hC : CallFix p m c cX3_takeHour 9 s ([.ref (G.2.2.1 1), .int p1, .ref (G.2.2.1 o2)] : List Value).toArray wsX3_takeHour RX3 := ⟨B.exec, B.bytes, hml, findClass_of_methodNamed B.named, atoms_spec (ws := wsX3_takeHour) B.pre⟩
  have hx := hC.1
  have hb := hC.2.1
  have hown := hC.2.2.2.1
  have hts := hC.2.2.2.2
  have hr := B.returns
  have hlocks := B.notSynchronized
  have hW := g_H_enter hW0
  have hi2 : ∀ w ∈ wsX20, w ∈ wsX3_takeHour := by decide +kernel
  have hi3 : ∀ w ∈ wsX30, w ∈ wsX3_takeHour := by decide +kernel
  have hi5 : ∀ w ∈ wsX50, w ∈ wsX3_takeHour := by decide +kernel
  have hi7 : ∀ w ∈ wsX70, w ∈ wsX3_takeHour := by decide +kernel
  have hl := lv_entry ([.ref (G.2.2.1 1), .int p1, .ref (G.2.2.1 o2)]) (n := 9) (Nat.le_of_ble_eq_true rfl)
  rw [lg_entry_eq]
  generalize (lg_sl ([.ref (G.2.2.1 1), .int p1, .ref (G.2.2.1 o2)]) ++ List.replicate (9 - (lg_sl ([.ref (G.2.2.1 1), .int p1, .ref (G.2.2.1 o2)])).length) Slot.unset).toArray = ls at hl ⊢
  have hl : lv_has ls 9 [(0, .ref (G.2.2.1 1)), (1, .int p1), (2, .ref (G.2.2.1 o2))] := hl
  obtain ⟨Q, hQ⟩ : ∃ Q, Q = MQ below (g_Qv ZC G m0) ([.ref (G.2.2.1 1), .int p1, .ref (G.2.2.1 o2)] : List Value).toArray s 0 0 (g_A ZC G) := ⟨_, rfl⟩
  refine g_goQ hQ ?_
  unfold f_X3_takeHour at hf
  refine g_start hW (fun H locs hW => ?_)
  refine lv_aload_n hx hb dX3_takeHour_0 rfl (lv_at hl 0 rfl) ?_
  refine g_getr hC hW (o := 1) (ci := 3) (k := 2) zc_k1 zc_b1 rfl hi3 (by decide) rfl (t := 13) zc_r1_2 (by decide +kernel) dX3_takeHour_1 ?_
  refine lv_aload_n hx hb dX3_takeHour_4 rfl (lv_at hl 0 rfl) ?_
  refine g_getr hC hW (o := 1) (ci := 3) (k := 2) zc_k1 zc_b1 rfl hi3 (by decide) rfl (t := 13) zc_r1_2 (by decide +kernel) dX3_takeHour_5 ?_
  refine g_geti hC hW (o := 13) (ci := 2) (k := 9) zc_k13 zc_b13 rfl hi2 (by decide) rfl (by decide +kernel) dX3_takeHour_8 ?_
  refine lv_iload_n hx hb dX3_takeHour_11 rfl (lv_at hl 1 rfl) ?_
  obtain ⟨r1, hg, hf⟩ := ob_inv hf
  refine g_cVi hC hW (o := 13) (ci := 2) (As := [.int (me 13 9), .int p1]) (rest := []) zc_k13 zc_b13 rfl (c_X2_partIn l G  hg) (cwV 2 hts gX3_takeHour_X2_partIn rfl rfl rfl (by decide +kernel) ⟨Nat.le_of_ble_eq_true rfl, Nat.le_of_ble_eq_true rfl⟩) rfl hl.1 rfl (Nat.le_of_ble_eq_true rfl) dX3_takeHour_12 ⟨Nat.le_of_ble_eq_true rfl, Nat.le_of_ble_eq_true rfl⟩ (fun H locs hW => ?_)
  refine lv_istore_n (lv' := [(3, .int r1), (0, .ref (G.2.2.1 1)), (1, .int p1), (2, .ref (G.2.2.1 o2))]) hx hb dX3_takeHour_15 rfl hl (by decide) rfl (fun ls hl => ?_)
  refine lv_aload_n hx hb dX3_takeHour_16 rfl (lv_at hl 1 rfl) ?_
  refine lv_aload_n hx hb dX3_takeHour_17 rfl (lv_at hl 1 rfl) ?_
  refine g_getr hC hW (o := 1) (ci := 3) (k := 2) zc_k1 zc_b1 rfl hi3 (by decide) rfl (t := 13) zc_r1_2 (by decide +kernel) dX3_takeHour_18 ?_
  refine g_geti hC hW (o := 13) (ci := 2) (k := 9) zc_k13 zc_b13 rfl hi2 (by decide) rfl (by decide +kernel) dX3_takeHour_21 ?_
  refine lv_iload_n hx hb dX3_takeHour_24 rfl (lv_at hl 2 rfl) ?_
  obtain ⟨r2, hg, hf⟩ := ob_inv hf
  refine g_cVi hC hW (o := 1) (ci := 3) (As := [.int (me 13 9), .int p1]) (rest := []) zc_k1 zc_b1 rfl (c_X3_slotOf l G  hg) (cwV 2 hts gX3_takeHour_X3_slotOf rfl rfl rfl (by decide +kernel) ⟨Nat.le_of_ble_eq_true rfl, Nat.le_of_ble_eq_true rfl⟩) rfl hl.1 rfl (Nat.le_of_ble_eq_true rfl) dX3_takeHour_25 ⟨Nat.le_of_ble_eq_true rfl, Nat.le_of_ble_eq_true rfl⟩ (fun H locs hW => ?_)
  refine lv_istore (lv' := [(4, .int r2), (3, .int r1), (0, .ref (G.2.2.1 1)), (1, .int p1), (2, .ref (G.2.2.1 o2))]) hx hb dX3_takeHour_28 hl (by decide) rfl (fun ls hl => ?_)
  refine lv_aload_n hx hb dX3_takeHour_30 rfl (lv_at hl 2 rfl) ?_
  refine g_getr hC hW (o := 1) (ci := 3) (k := 3) zc_k1 zc_b1 rfl hi3 (by decide) rfl (t := 22) zc_r1_3 (by decide +kernel) dX3_takeHour_31 ?_
  refine lv_aload_n hx hb dX3_takeHour_34 rfl (lv_at hl 2 rfl) ?_
  refine g_getr hC hW (o := 1) (ci := 3) (k := 1) zc_k1 zc_b1 rfl hi3 (by decide) rfl (t := 4) zc_r1_1 (by decide +kernel) dX3_takeHour_35 ?_
  refine lv_iload_n hx hb dX3_takeHour_38 rfl (lv_at hl 3 rfl) ?_
  obtain ⟨m3, hg, hf⟩ := ob_inv hf
  refine g_cVv hC hW (o := 22) (ci := 7) (As := [.ref (G.2.2.1 4), .int p1]) (rest := []) zc_k22 zc_b22 rfl (c_X7_draw l G zc_k4 hg) (cwV 2 hts gX3_takeHour_X7_draw rfl rfl rfl (by decide +kernel) ⟨Nat.le_of_ble_eq_true rfl, Nat.le_of_ble_eq_true rfl⟩) rfl hl.1 rfl (Nat.le_of_ble_eq_true rfl) dX3_takeHour_39 ⟨Nat.le_of_ble_eq_true rfl, Nat.le_of_ble_eq_true rfl⟩ (fun H locs hW => ?_)
  refine lv_iconst (v := 0) hx hb dX3_takeHour_42 (by decide) ?_
  refine lv_istore (lv' := [(5, .int 0), (4, .int r2), (3, .int r1), (0, .ref (G.2.2.1 1)), (1, .int p1), (2, .ref (G.2.2.1 o2))]) hx hb dX3_takeHour_43 hl (by decide) rfl (fun ls hl => ?_)
  have hL45 : ∀ (n : Nat) (x4 : Int32) (m5 : gM) (y6 : Int32) (m7 : gM) (H : Heap) (locs : List Loc) (ls : Array Slot), f_X3_takeHour_L45 o2 p1 r1 r2 n x4 m5 = some (y6, m7) → g_H ZC G s H locs m5 → lv_has ls 9 [(0, .ref (G.2.2.1 1)), (1, .int p1), (2, .ref (G.2.2.1 o2)), (3, .int r1), (4, .int r2), (5, .int x4)] → (∀ (H : Heap) (locs : List Loc) (ls : Array Slot), g_H ZC G s H locs m7 → lv_has ls 9 [] → W p l e (headSpec wsX3_takeHour rmX3_takeHour).room s m ([.ref (G.2.2.1 1), .int p1, .ref (G.2.2.1 o2)] : List Value).toArray below meth c H locs 0 0 Q (F0 m 162 ls [])) → W p l e (headSpec wsX3_takeHour rmX3_takeHour).room s m ([.ref (G.2.2.1 1), .int p1, .ref (G.2.2.1 o2)] : List Value).toArray below meth c H locs 0 0 Q (F0 m 45 ls []) := by
    intro n
    induction n with
    | zero =>
      intro x4 m5 y6 m7 H locs ls hf hW hl hE
      cases hf
    | succ n ih =>
      intro x4 m5 y6 m7 H locs ls hf hW hl hE
      rw [f_X3_takeHour_L45] at hf
      refine lv_iload hx hb dX3_takeHour_45 (lv_at hl 5 rfl) ?_
      refine lv_iconst (v := 3) hx hb dX3_takeHour_47 (by decide) ?_
      refine lv_icmp_ge (tgt := 162) hx hb dX3_takeHour_48 (by decide) (fun c8 => ?_) (fun c8 => ?_)
      · have hf := a_if_t c8 hf
        cases hf
        exact hE H locs ls hW (lv_sub hl [] rfl)
      · have hf := a_if_f c8 hf
        refine lv_aload_n hx hb dX3_takeHour_51 rfl (lv_at hl 0 rfl) ?_
        refine g_getr hC hW (o := 1) (ci := 3) (k := 6) zc_k1 zc_b1 rfl hi3 (by decide) rfl (t := 41) zc_r1_6 (by decide +kernel) dX3_takeHour_52 ?_
        refine lv_iload hx hb dX3_takeHour_55 (lv_at hl 4 rfl) ?_
        refine lv_iconst (v := 3) hx hb dX3_takeHour_57 (by decide) ?_
        refine lv_imul hx hb dX3_takeHour_58 ?_
        refine lv_iload hx hb dX3_takeHour_59 (lv_at hl 5 rfl) ?_
        refine lv_iadd hx hb dX3_takeHour_61 ?_
        obtain ⟨v9, h9, hf⟩ := ob_inv hf
        refine g_ild hC hW zc_k41 zc_b41 zc_n41 h9 dX3_takeHour_62 ?_
        refine lv_istore (lv' := [(6, .int v9), (0, .ref (G.2.2.1 1)), (1, .int p1), (2, .ref (G.2.2.1 o2)), (3, .int r1), (4, .int r2), (5, .int x4)]) hx hb dX3_takeHour_63 hl (by decide) rfl (fun ls hl => ?_)
        refine lv_iload hx hb dX3_takeHour_65 (lv_at hl 0 rfl) ?_
        refine lv_aload_n hx hb dX3_takeHour_67 rfl (lv_at hl 1 rfl) ?_
        refine g_getr hC hW (o := 1) (ci := 3) (k := 2) zc_k1 zc_b1 rfl hi3 (by decide) rfl (t := 13) zc_r1_2 (by decide +kernel) dX3_takeHour_68 ?_
        refine lv_iload_n hx hb dX3_takeHour_71 rfl (lv_at hl 4 rfl) ?_
        refine lv_iload hx hb dX3_takeHour_72 (lv_at hl 6 rfl) ?_
        obtain ⟨r10, hg, hf⟩ := ob_inv hf
        refine g_cVi hC hW (o := 13) (ci := 2) (As := [.int r1, .int x4]) (rest := [.int v9]) zc_k13 zc_b13 rfl (c_X2_unitsOf l G  hg) (cwV 2 hts gX3_takeHour_X2_unitsOf rfl rfl rfl (by decide +kernel) ⟨Nat.le_of_ble_eq_true rfl, Nat.le_of_ble_eq_true rfl⟩) rfl hl.1 rfl (Nat.le_of_ble_eq_true rfl) dX3_takeHour_74 ⟨Nat.le_of_ble_eq_true rfl, Nat.le_of_ble_eq_true rfl⟩ (fun H locs hW => ?_)
        refine lv_isub hx hb dX3_takeHour_77 ?_
        obtain ⟨x11, h9, hf⟩ := ob_inv hf
        refine g_nmi (Option.some.inj h9) ?_
        refine lv_istore (lv' := [(7, .int x11), (6, .int v9), (0, .ref (G.2.2.1 1)), (1, .int p1), (2, .ref (G.2.2.1 o2)), (3, .int r1), (4, .int r2), (5, .int x4)]) hx hb dX3_takeHour_78 hl (by decide) rfl (fun ls hl => ?_)
        refine lv_aload_n hx hb dX3_takeHour_80 rfl (lv_at hl 2 rfl) ?_
        refine g_getr hC hW (o := 1) (ci := 3) (k := 3) zc_k1 zc_b1 rfl hi3 (by decide) rfl (t := 22) zc_r1_3 (by decide +kernel) dX3_takeHour_81 ?_
        refine g_getr hC hW (o := 22) (ci := 7) (k := 0) zc_k22 zc_b22 rfl hi7 (by decide) rfl (t := 23) zc_r22_0 (by decide +kernel) dX3_takeHour_84 ?_
        refine lv_iload hx hb dX3_takeHour_87 (lv_at hl 7 rfl) ?_
        obtain ⟨d12, h9, hf⟩ := ob_inv hf
        have hd12 := zc_rk4 h9
        refine g_rldC hC hW zc_k23 zc_b23 zc_n23 zc_rr4 h9 dX3_takeHour_89 ?_
        refine lv_iload hx hb dX3_takeHour_90 (lv_at hl 0 rfl) ?_
        obtain ⟨r13, hg, hf⟩ := ob_inv hf
        refine g_cVi hC hW (o := d12) (ci := 4) (As := [.int x11]) (rest := []) hd12 (zc_lt hd12) rfl (c_X4_buysFor l G hd12 hg) (cwV 1 hts gX3_takeHour_X4_buysFor rfl rfl rfl (by decide +kernel) ⟨Nat.le_of_ble_eq_true rfl, Nat.le_of_ble_eq_true rfl⟩) rfl hl.1 rfl (Nat.le_of_ble_eq_true rfl) dX3_takeHour_92 ⟨Nat.le_of_ble_eq_true rfl, Nat.le_of_ble_eq_true rfl⟩ (fun H locs hW => ?_)
        refine lv_istore (lv' := [(8, .int r13), (7, .int x11), (6, .int v9), (0, .ref (G.2.2.1 1)), (1, .int p1), (2, .ref (G.2.2.1 o2)), (3, .int r1), (4, .int r2), (5, .int x4)]) hx hb dX3_takeHour_95 hl (by decide) rfl (fun ls hl => ?_)
        refine lv_iload hx hb dX3_takeHour_97 (lv_at hl 0 rfl) ?_
        refine lv_iconst (v := (-1)) hx hb dX3_takeHour_99 (by decide) ?_
        obtain ⟨m15, hg, hf⟩ := ob_inv hf
        have hJ120 : ∀ (H : Heap) (locs : List Loc) (ls : Array Slot), g_H ZC G s H locs m15 → lv_has ls 9 [(0, .ref (G.2.2.1 1)), (1, .int p1), (2, .ref (G.2.2.1 o2)), (3, .int r1), (4, .int r2), (5, .int x4), (6, .int v9)] → W p l e (headSpec wsX3_takeHour rmX3_takeHour).room s m ([.ref (G.2.2.1 1), .int p1, .ref (G.2.2.1 o2)] : List Value).toArray below meth c H locs 0 0 Q (F0 m 120 ls []) := by
          intro H locs ls hW hl
          refine lv_aload_n hx hb dX3_takeHour_120 rfl (lv_at hl 2 rfl) ?_
          refine g_getr hC hW (o := o2) (ci := 5) (k := 1) ho2 (zc_lt ho2) rfl hi5 (by decide) rfl (t := (o2 + 2)) (zc_o5_1 ho2).1 (by decide +kernel) dX3_takeHour_121 ?_
          refine lv_iload hx hb dX3_takeHour_124 (lv_at hl 5 rfl) ?_
          refine lv_iload_n hx hb dX3_takeHour_126 rfl (lv_at hl 1 rfl) ?_
          obtain ⟨r17, hg, hf⟩ := ob_inv hf
          refine g_cNi hC hW (As := [.int x4, .int p1]) (rest := [.ref (G.2.2.1 (o2 + 2))]) (host := "GridMarket") (c_X9_spotOf l G  hg) ⟨va_cnB 2 hts gX3_takeHour_X9_spotOf_n126 rfl rfl rfl (hW.2.2.2.1 (RX3, 126, yX9_spotOf) (by decide +kernel)) (hts _ (by decide +kernel : Cond.initialized RX9 ∈ wsX3_takeHour)) (by decide +kernel) ⟨Nat.le_of_ble_eq_true rfl, Nat.le_of_ble_eq_true rfl⟩, hts _ (by decide +kernel : Cond.static yX9_spotOf ∈ wsX3_takeHour), trivial⟩ rfl hl.1 rfl (Nat.le_of_ble_eq_true rfl) dX3_takeHour_127 ⟨Nat.le_of_ble_eq_true rfl, Nat.le_of_ble_eq_true rfl⟩ (fun H locs hW => ?_)
          refine lv_iload hx hb dX3_takeHour_130 (lv_at hl 6 rfl) ?_
          obtain ⟨m18, h9, hf⟩ := ob_inv hf
          refine g_ist hC hW (zc_o5_1 ho2).2.1 (zc_o5_1 ho2).2.2.1 (zc_o5_1 ho2).2.2.2 h9 dX3_takeHour_132 (fun H locs hW => ?_)
          refine lv_aload_n hx hb dX3_takeHour_133 rfl (lv_at hl 2 rfl) ?_
          refine g_getr hC hW (o := o2) (ci := 5) (k := 0) ho2 (zc_lt ho2) rfl hi5 (by decide) rfl (t := (o2 + 1)) (zc_o5_0 ho2).1 (by decide +kernel) dX3_takeHour_134 ?_
          refine lv_iload hx hb dX3_takeHour_137 (lv_at hl 5 rfl) ?_
          refine lv_iload_n hx hb dX3_takeHour_139 rfl (lv_at hl 1 rfl) ?_
          obtain ⟨r19, hg, hf⟩ := ob_inv hf
          refine g_cNi hC hW (As := [.int x4, .int p1]) (rest := [.ref (G.2.2.1 (o2 + 1))]) (host := "GridMarket") (c_X9_spotOf l G  hg) ⟨va_cnB 2 hts gX3_takeHour_X9_spotOf_n126 rfl rfl rfl (hW.2.2.2.1 (RX3, 126, yX9_spotOf) (by decide +kernel)) (hts _ (by decide +kernel : Cond.initialized RX9 ∈ wsX3_takeHour)) (by decide +kernel) ⟨Nat.le_of_ble_eq_true rfl, Nat.le_of_ble_eq_true rfl⟩, hts _ (by decide +kernel : Cond.static yX9_spotOf ∈ wsX3_takeHour), trivial⟩ rfl hl.1 rfl (Nat.le_of_ble_eq_true rfl) dX3_takeHour_140 ⟨Nat.le_of_ble_eq_true rfl, Nat.le_of_ble_eq_true rfl⟩ (fun H locs hW => ?_)
          refine lv_aload_n hx hb dX3_takeHour_143 rfl (lv_at hl 0 rfl) ?_
          refine g_getr hC hW (o := 1) (ci := 3) (k := 7) zc_k1 zc_b1 rfl hi3 (by decide) rfl (t := 42) zc_r1_7 (by decide +kernel) dX3_takeHour_144 ?_
          refine lv_iload hx hb dX3_takeHour_147 (lv_at hl 4 rfl) ?_
          refine lv_iconst (v := 3) hx hb dX3_takeHour_149 (by decide) ?_
          refine lv_imul hx hb dX3_takeHour_150 ?_
          refine lv_iload hx hb dX3_takeHour_151 (lv_at hl 5 rfl) ?_
          refine lv_iadd hx hb dX3_takeHour_153 ?_
          obtain ⟨v20, h9, hf⟩ := ob_inv hf
          refine g_ild hC hW zc_k42 zc_b42 zc_n42 h9 dX3_takeHour_154 ?_
          obtain ⟨m21, h9, hf⟩ := ob_inv hf
          refine g_ist hC hW (zc_o5_0 ho2).2.1 (zc_o5_0 ho2).2.2.1 (zc_o5_0 ho2).2.2.2 h9 dX3_takeHour_155 (fun H locs hW => ?_)
          refine lv_iinc (v := (x4 + 1)) (lv' := [(5, .int (x4 + 1)), (0, .ref (G.2.2.1 1)), (1, .int p1), (2, .ref (G.2.2.1 o2)), (3, .int r1), (4, .int r2), (6, .int v9)]) hx hb dX3_takeHour_156 hl (k := 5) rfl (congrArg (fun z => x4 + z) (by decide)) (by decide) rfl (fun ls hl => ?_)
          refine lv_goto (tgt := 45) hx hb dX3_takeHour_159 (by decide) ?_
          exact ih _ _ _ _ _ _ _ hf hW (lv_sub hl [1, 2, 3, 4, 5, 0] rfl) hE
        replace hf := hg
        refine lv_icmp_eq (tgt := 120) hx hb dX3_takeHour_100 (by decide) (fun c14 => ?_) (fun c14 => ?_)
        · have hf := a_if_t c14 hf
          cases hf
          exact hJ120 H locs ls hW (lv_sub hl [3, 4, 5, 6, 7, 8, 2] rfl)
        · have hf := a_if_f c14 hf
          refine lv_aload_n hx hb dX3_takeHour_103 rfl (lv_at hl 3 rfl) ?_
          refine g_getr hC hW (o := 1) (ci := 3) (k := 1) zc_k1 zc_b1 rfl hi3 (by decide) rfl (t := 4) zc_r1_1 (by decide +kernel) dX3_takeHour_104 ?_
          refine lv_iload hx hb dX3_takeHour_107 (lv_at hl 8 rfl) ?_
          refine lv_iload_n hx hb dX3_takeHour_109 rfl (lv_at hl 4 rfl) ?_
          refine lv_iload hx hb dX3_takeHour_110 (lv_at hl 0 rfl) ?_
          refine lv_iload hx hb dX3_takeHour_112 (lv_at hl 0 rfl) ?_
          refine lv_iload hx hb dX3_takeHour_114 (lv_at hl 1 rfl) ?_
          refine lv_iadd hx hb dX3_takeHour_116 ?_
          obtain ⟨m16, hg, hf⟩ := ob_inv hf
          refine g_cVv hC hW (o := 4) (ci := 8) (As := [.int x4, .int p1, .int r13, .int (r13 + x11)]) (rest := []) zc_k4 zc_b4 rfl (c_X8_take l G zc_k4 hg) (cwV 4 hts gX3_takeHour_X8_take rfl rfl rfl (by decide +kernel) ⟨Nat.le_of_ble_eq_true rfl, Nat.le_of_ble_eq_true rfl⟩) rfl hl.1 rfl (Nat.le_of_ble_eq_true rfl) dX3_takeHour_117 ⟨Nat.le_of_ble_eq_true rfl, Nat.le_of_ble_eq_true rfl⟩ (fun H locs hW => ?_)
          cases hf
          exact hJ120 H locs ls hW (lv_sub hl [3, 4, 5, 6, 7, 8, 2] rfl)
  obtain ⟨⟨y6, m7⟩, hg, hf⟩ := ob_inv hf
  have hf := ob_inv2 hf
  refine hL45 _ _ _ _ _ _ _ _ hg hW (lv_sub hl [3, 4, 5, 2, 1, 0] rfl) (fun H locs ls hW hl => ?_)
  cases hf
  subst hQ
  exact g_vret hC hW hr hlocks rfl dX3_takeHour_162
abbrev rmX3_clearDay : Room := { frames := 5, cells := 0, slots := 0, locals := 117 }
set_option maxHeartbeats 4000000 in
set_option maxRecDepth 100000 in
theorem c_X3_clearDay (l : Launch) (G : gG) {o1 : Nat} {me : gM} {m0 : gM}  (ho1 : ZC.2.1 o1 = 6) (hf : f_X3_clearDay o1 me = some m0) : Met l yX3_clearDay wsX3_clearDay rmX3_clearDay (va_Pc [.ref (G.2.2.1 1), .ref (G.2.2.1 o1)] (g_W ZC G me)) (g_Qv ZC G m0) 0 0 (g_A ZC G) := by
  refine Met.ofW (cc := cX3_clearDay) (maxL := 3) (ret := none) (by decide) rfl ?_
  intro p e s m args below meth c s₁ B hml hv
  obtain ⟨rfl, hW0⟩ := hv
  have hC : CallFix p m c cX3_clearDay 3 s ([.ref (G.2.2.1 1), .ref (G.2.2.1 o1)] : List Value).toArray wsX3_clearDay RX3 := ⟨B.exec, B.bytes, hml, findClass_of_methodNamed B.named, atoms_spec (ws := wsX3_clearDay) B.pre⟩
  have hx := hC.1
  have hb := hC.2.1
  have hown := hC.2.2.2.1
  have hts := hC.2.2.2.2
  have hr := B.returns
  have hlocks := B.notSynchronized
  have hW := g_H_enter hW0
  have hi2 : ∀ w ∈ wsX20, w ∈ wsX3_clearDay := by decide +kernel
  have hi3 : ∀ w ∈ wsX30, w ∈ wsX3_clearDay := by decide +kernel
  have hl := lv_entry ([.ref (G.2.2.1 1), .ref (G.2.2.1 o1)]) (n := 3) (Nat.le_of_ble_eq_true rfl)
  rw [lg_entry_eq]
  generalize (lg_sl ([.ref (G.2.2.1 1), .ref (G.2.2.1 o1)]) ++ List.replicate (3 - (lg_sl ([.ref (G.2.2.1 1), .ref (G.2.2.1 o1)])).length) Slot.unset).toArray = ls at hl ⊢
  have hl : lv_has ls 3 [(0, .ref (G.2.2.1 1)), (1, .ref (G.2.2.1 o1))] := hl
  obtain ⟨Q, hQ⟩ : ∃ Q, Q = MQ below (g_Qv ZC G m0) ([.ref (G.2.2.1 1), .ref (G.2.2.1 o1)] : List Value).toArray s 0 0 (g_A ZC G) := ⟨_, rfl⟩
  refine g_goQ hQ ?_
  unfold f_X3_clearDay at hf
  refine g_start hW (fun H locs hW => ?_)
  refine lv_iconst (v := 0) hx hb dX3_clearDay_0 (by decide) ?_
  refine lv_istore_n (lv' := [(2, .int 0), (0, .ref (G.2.2.1 1)), (1, .ref (G.2.2.1 o1))]) hx hb dX3_clearDay_1 rfl hl (by decide) rfl (fun ls hl => ?_)
  have hL2 : ∀ (n : Nat) (x1 : Int32) (m2 : gM) (y3 : Int32) (m4 : gM) (H : Heap) (locs : List Loc) (ls : Array Slot), f_X3_clearDay_L2  n x1 m2 = some (y3, m4) → g_H ZC G s H locs m2 → lv_has ls 3 [(0, .ref (G.2.2.1 1)), (1, .ref (G.2.2.1 o1)), (2, .int x1)] → (∀ (H : Heap) (locs : List Loc) (ls : Array Slot), g_H ZC G s H locs m4 → lv_has ls 3 [(0, .ref (G.2.2.1 1)), (1, .ref (G.2.2.1 o1))] → W p l e (headSpec wsX3_clearDay rmX3_clearDay).room s m ([.ref (G.2.2.1 1), .ref (G.2.2.1 o1)] : List Value).toArray below meth c H locs 0 0 Q (F0 m 24 ls [])) → W p l e (headSpec wsX3_clearDay rmX3_clearDay).room s m ([.ref (G.2.2.1 1), .ref (G.2.2.1 o1)] : List Value).toArray below meth c H locs 0 0 Q (F0 m 2 ls []) := by
    intro n
    induction n with
    | zero =>
      intro x1 m2 y3 m4 H locs ls hf hW hl hE
      cases hf
    | succ n ih =>
      intro x1 m2 y3 m4 H locs ls hf hW hl hE
      rw [f_X3_clearDay_L2] at hf
      refine lv_iload_n hx hb dX3_clearDay_2 rfl (lv_at hl 2 rfl) ?_
      refine lv_aload_n hx hb dX3_clearDay_3 rfl (lv_at hl 0 rfl) ?_
      refine g_getr hC hW (o := 1) (ci := 3) (k := 4) zc_k1 zc_b1 rfl hi3 (by decide) rfl (t := 39) zc_r1_4 (by decide +kernel) dX3_clearDay_4 ?_
      refine g_lenz hC hW zc_k39 zc_b39 zc_n39 dX3_clearDay_7 ?_
      refine lv_icmp_ge (tgt := 24) hx hb dX3_clearDay_8 (by decide) (fun c5 => ?_) (fun c5 => ?_)
      · have hf := a_if_t c5 hf
        cases hf
        exact hE H locs ls hW (lv_sub hl [0, 1] rfl)
      · have hf := a_if_f c5 hf
        refine lv_aload_n hx hb dX3_clearDay_11 rfl (lv_at hl 0 rfl) ?_
        refine g_getr hC hW (o := 1) (ci := 3) (k := 4) zc_k1 zc_b1 rfl hi3 (by decide) rfl (t := 39) zc_r1_4 (by decide +kernel) dX3_clearDay_12 ?_
        refine lv_iload_n hx hb dX3_clearDay_15 rfl (lv_at hl 2 rfl) ?_
        refine lv_iconst (v := 0) hx hb dX3_clearDay_16 (by decide) ?_
        obtain ⟨m6, h9, hf⟩ := ob_inv hf
        refine g_zst hC hW zc_k39 zc_b39 zc_n39 h9 dX3_clearDay_17 (fun H locs hW => ?_)
        refine lv_iinc (v := (x1 + 1)) (lv' := [(2, .int (x1 + 1)), (0, .ref (G.2.2.1 1)), (1, .ref (G.2.2.1 o1))]) hx hb dX3_clearDay_18 hl (k := 2) rfl (congrArg (fun z => x1 + z) (by decide)) (by decide) rfl (fun ls hl => ?_)
        refine lv_goto (tgt := 2) hx hb dX3_clearDay_21 (by decide) ?_
        exact ih _ _ _ _ _ _ _ hf hW (lv_sub hl [1, 2, 0] rfl) hE
  obtain ⟨⟨y3, m4⟩, hg, hf⟩ := ob_inv hf
  have hf := ob_inv2 hf
  refine hL2 _ _ _ _ _ _ _ _ hg hW (lv_sub hl [1, 2, 0] rfl) (fun H locs ls hW hl => ?_)
  refine lv_iconst (v := 0) hx hb dX3_clearDay_24 (by decide) ?_
  refine lv_istore_n (lv' := [(2, .int 0), (0, .ref (G.2.2.1 1)), (1, .ref (G.2.2.1 o1))]) hx hb dX3_clearDay_25 rfl hl (by decide) rfl (fun ls hl => ?_)
  have hL26 : ∀ (n : Nat) (x7 : Int32) (m8 : gM) (y9 : Int32) (m10 : gM) (H : Heap) (locs : List Loc) (ls : Array Slot), f_X3_clearDay_L26  n x7 m8 = some (y9, m10) → g_H ZC G s H locs m8 → lv_has ls 3 [(0, .ref (G.2.2.1 1)), (1, .ref (G.2.2.1 o1)), (2, .int x7)] → (∀ (H : Heap) (locs : List Loc) (ls : Array Slot), g_H ZC G s H locs m10 → lv_has ls 3 [(0, .ref (G.2.2.1 1)), (1, .ref (G.2.2.1 o1))] → W p l e (headSpec wsX3_clearDay rmX3_clearDay).room s m ([.ref (G.2.2.1 1), .ref (G.2.2.1 o1)] : List Value).toArray below meth c H locs 0 0 Q (F0 m 42 ls [])) → W p l e (headSpec wsX3_clearDay rmX3_clearDay).room s m ([.ref (G.2.2.1 1), .ref (G.2.2.1 o1)] : List Value).toArray below meth c H locs 0 0 Q (F0 m 26 ls []) := by
    intro n
    induction n with
    | zero =>
      intro x7 m8 y9 m10 H locs ls hf hW hl hE
      cases hf
    | succ n ih =>
      intro x7 m8 y9 m10 H locs ls hf hW hl hE
      rw [f_X3_clearDay_L26] at hf
      refine lv_iload_n hx hb dX3_clearDay_26 rfl (lv_at hl 2 rfl) ?_
      refine lv_iconst (v := 4) hx hb dX3_clearDay_27 (by decide) ?_
      refine lv_icmp_ge (tgt := 42) hx hb dX3_clearDay_28 (by decide) (fun c11 => ?_) (fun c11 => ?_)
      · have hf := a_if_t c11 hf
        cases hf
        exact hE H locs ls hW (lv_sub hl [0, 1] rfl)
      · have hf := a_if_f c11 hf
        refine lv_aload_n hx hb dX3_clearDay_31 rfl (lv_at hl 0 rfl) ?_
        refine lv_iload_n hx hb dX3_clearDay_32 rfl (lv_at hl 2 rfl) ?_
        obtain ⟨m12, hg, hf⟩ := ob_inv hf
        refine g_cVv hC hW (o := 1) (ci := 3) (As := [.int x7]) (rest := []) zc_k1 zc_b1 rfl (c_X3_searchHour l G  hg) (cwV 1 hts gX3_clearDay_X3_searchHour rfl rfl rfl (by decide +kernel) ⟨Nat.le_of_ble_eq_true rfl, Nat.le_of_ble_eq_true rfl⟩) rfl hl.1 rfl (Nat.le_of_ble_eq_true rfl) dX3_clearDay_33 ⟨Nat.le_of_ble_eq_true rfl, Nat.le_of_ble_eq_true rfl⟩ (fun H locs hW => ?_)
        refine lv_iinc (v := (x7 + 1)) (lv' := [(2, .int (x7 + 1)), (0, .ref (G.2.2.1 1)), (1, .ref (G.2.2.1 o1))]) hx hb dX3_clearDay_36 hl (k := 2) rfl (congrArg (fun z => x7 + z) (by decide)) (by decide) rfl (fun ls hl => ?_)
        refine lv_goto (tgt := 26) hx hb dX3_clearDay_39 (by decide) ?_
        exact ih _ _ _ _ _ _ _ hf hW (lv_sub hl [1, 2, 0] rfl) hE
  obtain ⟨⟨y9, m10⟩, hg, hf⟩ := ob_inv hf
  have hf := ob_inv2 hf
  refine hL26 _ _ _ _ _ _ _ _ hg hW (lv_sub hl [1, 2, 0] rfl) (fun H locs ls hW hl => ?_)
  refine lv_aload_n hx hb dX3_clearDay_42 rfl (lv_at hl 0 rfl) ?_
  refine g_getr hC hW (o := 1) (ci := 3) (k := 2) zc_k1 zc_b1 rfl hi3 (by decide) rfl (t := 13) zc_r1_2 (by decide +kernel) dX3_clearDay_43 ?_
  refine lv_aload_n hx hb dX3_clearDay_46 rfl (lv_at hl 0 rfl) ?_
  obtain ⟨⟨r13, m14⟩, hg, hf⟩ := ob_inv hf
  have hf := ob_inv2 hf
  refine g_cVi hC hW (o := 1) (ci := 3) (As := []) (rest := [.ref (G.2.2.1 13)]) zc_k1 zc_b1 rfl (c_X3_bestSet l G  hg) (cwV 0 hts gX3_clearDay_X3_bestSet rfl rfl rfl (by decide +kernel) ⟨Nat.le_of_ble_eq_true rfl, Nat.le_of_ble_eq_true rfl⟩) rfl hl.1 rfl (Nat.le_of_ble_eq_true rfl) dX3_clearDay_47 ⟨Nat.le_of_ble_eq_true rfl, Nat.le_of_ble_eq_true rfl⟩ (fun H locs hW => ?_)
  obtain ⟨m16, h9, hf⟩ := ob_inv hf
  refine g_puti hC hW (o := 13) (ci := 2) (k := 9) zc_k13 zc_b13 rfl hi2 tyX2_ok nmX2 (by decide) rfl rfl rfl (by decide +kernel) dX3_clearDay_50 (fun H locs hW => ?_)
  rw [Option.some.inj h9] at hW
  refine lv_iconst (v := 0) hx hb dX3_clearDay_53 (by decide) ?_
  refine lv_istore_n (lv' := [(2, .int 0), (0, .ref (G.2.2.1 1)), (1, .ref (G.2.2.1 o1))]) hx hb dX3_clearDay_54 rfl hl (by decide) rfl (fun ls hl => ?_)
  have hL55 : ∀ (n : Nat) (x17 : Int32) (m18 : gM) (y19 : Int32) (m20 : gM) (H : Heap) (locs : List Loc) (ls : Array Slot), f_X3_clearDay_L55 o1 n x17 m18 = some (y19, m20) → g_H ZC G s H locs m18 → lv_has ls 3 [(0, .ref (G.2.2.1 1)), (1, .ref (G.2.2.1 o1)), (2, .int x17)] → (∀ (H : Heap) (locs : List Loc) (ls : Array Slot), g_H ZC G s H locs m20 → lv_has ls 3 [] → W p l e (headSpec wsX3_clearDay rmX3_clearDay).room s m ([.ref (G.2.2.1 1), .ref (G.2.2.1 o1)] : List Value).toArray below meth c H locs 0 0 Q (F0 m 72 ls [])) → W p l e (headSpec wsX3_clearDay rmX3_clearDay).room s m ([.ref (G.2.2.1 1), .ref (G.2.2.1 o1)] : List Value).toArray below meth c H locs 0 0 Q (F0 m 55 ls []) := by
    intro n
    induction n with
    | zero =>
      intro x17 m18 y19 m20 H locs ls hf hW hl hE
      cases hf
    | succ n ih =>
      intro x17 m18 y19 m20 H locs ls hf hW hl hE
      rw [f_X3_clearDay_L55] at hf
      refine lv_iload_n hx hb dX3_clearDay_55 rfl (lv_at hl 2 rfl) ?_
      refine lv_iconst (v := 4) hx hb dX3_clearDay_56 (by decide) ?_
      refine lv_icmp_ge (tgt := 72) hx hb dX3_clearDay_57 (by decide) (fun c21 => ?_) (fun c21 => ?_)
      · have hf := a_if_t c21 hf
        cases hf
        exact hE H locs ls hW (lv_sub hl [] rfl)
      · have hf := a_if_f c21 hf
        refine lv_aload_n hx hb dX3_clearDay_60 rfl (lv_at hl 0 rfl) ?_
        refine lv_iload_n hx hb dX3_clearDay_61 rfl (lv_at hl 2 rfl) ?_
        refine lv_aload_n hx hb dX3_clearDay_62 rfl (lv_at hl 1 rfl) ?_
        obtain ⟨m22, hg, hf⟩ := ob_inv hf
        refine g_cVv hC hW (o := 1) (ci := 3) (As := [.int x17, .ref (G.2.2.1 o1)]) (rest := []) zc_k1 zc_b1 rfl (c_X3_takeHour l G ho1 hg) (cwV 2 hts gX3_clearDay_X3_takeHour rfl rfl rfl (by decide +kernel) ⟨Nat.le_of_ble_eq_true rfl, Nat.le_of_ble_eq_true rfl⟩) rfl hl.1 rfl (Nat.le_of_ble_eq_true rfl) dX3_clearDay_63 ⟨Nat.le_of_ble_eq_true rfl, Nat.le_of_ble_eq_true rfl⟩ (fun H locs hW => ?_)
        refine lv_iinc (v := (x17 + 1)) (lv' := [(2, .int (x17 + 1)), (0, .ref (G.2.2.1 1)), (1, .ref (G.2.2.1 o1))]) hx hb dX3_clearDay_66 hl (k := 2) rfl (congrArg (fun z => x17 + z) (by decide)) (by decide) rfl (fun ls hl => ?_)
        refine lv_goto (tgt := 55) hx hb dX3_clearDay_69 (by decide) ?_
        exact ih _ _ _ _ _ _ _ hf hW (lv_sub hl [1, 2, 0] rfl) hE
  obtain ⟨⟨y19, m20⟩, hg, hf⟩ := ob_inv hf
  have hf := ob_inv2 hf
  refine hL55 _ _ _ _ _ _ _ _ hg hW (lv_sub hl [1, 2, 0] rfl) (fun H locs ls hW hl => ?_)
  cases hf
  subst hQ
  exact g_vret hC hW hr hlocks rfl dX3_clearDay_72
