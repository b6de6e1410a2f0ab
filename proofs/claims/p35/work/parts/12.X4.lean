def f_X4_extend_L6 (a0 : Nat) (n0 : Nat) (p2 : Int32) (p3 : Int32) : Nat → Int32 → Int32 → gM → Option (Int32 × Int32 × gM)
  | 0, _, _, _ => none
  | n + 1, x1, x2, m3 =>
    if p3 ≤ x2 then
      some (x1, x2, m3)
    else
      if 400 ≤ x1 then
        some (x1, x2, m3)
      else
        ob (a_ld n0 a0 x1 m3) fun v9 =>
        ob (a_st n0 a0 (x1 + 1) (v9 + p2) m3) fun m10 =>
        f_X4_extend_L6 a0 n0 p2 p3 n (x1 + 1) (x2 + 1) m10
def f_X4_extend (n0 : Nat) (a0 : Nat) (p1 : Int32) (p2 : Int32) (p3 : Int32) (me : gM) : Option (Int32 × gM) :=
  ob (f_X4_extend_L6 a0 n0 p2 p3 f_fuel p1 0 me) fun t11 =>
  ob (some t11.1) fun y4 =>
  ob (some t11.2.1) fun y5 =>
  ob (some t11.2.2) fun m6 =>
  some (y4, m6)
def f_X4_draw_L13 (o0 : Nat) (o1 : Nat) (p2 : Int32) (p3 : Int32) : Nat → Int32 → gM → Option (Int32 × gM)
  | 0, _, _ => none
  | n + 1, x3, m4 =>
    if (m4 o1 8) ≤ x3 then
      some (x3, m4)
    else
      ob (a_ld (f_oln o1) (o1 + 8) x3 m4) fun v8 =>
      ob (f_X8_isIn o1 v8 p2 p3 m4) fun r9 =>
      ob (if r9 = 0 then
          some m4
        else
          ob (a_ld (f_oln o1) (o1 + 4) v8 m4) fun v12 =>
          if v12 = 0 then
            ob (a_ld (f_oln o1) (o1 + 5) v8 m4) fun v14 =>
            ob (a_ld (f_oln o1) (o1 + 6) v8 m4) fun v15 =>
            ob (f_X4_extend 401 (o0 + 1) (m4 o0 3) v14 v15 m4) fun w18 =>
            ob (some w18.1) fun r16 =>
            ob (some w18.2) fun m17 =>
            ob (some (g_up m17 o0 (upd (m17 o0) 3 r16))) fun m19 =>
            some m19
          else
            ob (a_ld (f_oln o1) (o1 + 5) v8 m4) fun v20 =>
            ob (a_ld (f_oln o1) (o1 + 6) v8 m4) fun v21 =>
            ob (f_X4_extend 401 (o0 + 2) (m4 o0 4) v20 v21 m4) fun w24 =>
            ob (some w24.1) fun r22 =>
            ob (some w24.2) fun m23 =>
            ob (some (g_up m23 o0 (upd (m23 o0) 4 r22))) fun m25 =>
            some m25) fun (m11 : gM) =>
      f_X4_draw_L13 o0 o1 p2 p3 n (x3 + 1) m11
def f_X4_draw (o0 : Nat) (o1 : Nat) (p2 : Int32) (p3 : Int32) (me : gM) : Option (gM) :=
  ob (some (g_up me o0 (upd (me o0) 3 0))) fun m1 =>
  ob (some (g_up m1 o0 (upd (m1 o0) 4 0))) fun m2 =>
  ob (f_X4_draw_L13 o0 o1 p2 p3 f_fuel 0 m2) fun t26 =>
  ob (some t26.1) fun y5 =>
  ob (some t26.2) fun m6 =>
  some m6
def f_X4_isPairWorth (o0 : Nat) (p1 : Int32) (p2 : Int32) (me : gM) : Option (Int32) :=
  ob (a_ld 401 (o0 + 2) (p1 + 1) me) fun v1 =>
  ob (a_ld 401 (o0 + 2) p1 me) fun v2 =>
  ob (a_ld 401 (o0 + 1) (p2 + 1) me) fun v3 =>
  ob (a_ld 401 (o0 + 1) p2 me) fun v4 =>
  ob (if (v1 - v2) ≤ (v3 - v4) then
      some 0
    else
      some 1) fun (z6 : Int32) =>
  ob (a_zc z6) fun b7 =>
  some b7
def f_X4_buysFor_L27 (o0 : Nat) (me : gM) (p1 : Int32) : Nat → Int32 → Option (Int32)
  | 0, _ => none
  | n + 1, x4 =>
    if (me o0 4) ≤ x4 then
      some x4
    else
      if (me o0 3) ≤ (x4 + p1) then
        some x4
      else
        ob (f_X4_isPairWorth o0 x4 (x4 + p1) me) fun r8 =>
        if r8 = 0 then
          some x4
        else
          f_X4_buysFor_L27 o0 me p1 n (x4 + 1)
def f_X4_buysFor (o0 : Nat) (p1 : Int32) (me : gM) : Option (Int32) :=
  ob (some (a_max 0 (-p1))) fun (x1 : Int32) =>
  if (me o0 4) < x1 then
    some (-1)
  else
    if (x1 + p1) ≤ (me o0 3) then
      ob (f_X4_buysFor_L27 o0 me p1 f_fuel x1) fun y5 =>
      some y5
    else
      some (-1)
def f_X4_weigh_L21 (o0 : Nat) (x1 : Int32) : Nat → Int32 → gM → Option (Int32 × gM)
  | 0, _, _ => none
  | n + 1, x3, m4 =>
    if x1 < x3 then
      some (x3, m4)
    else
      ob (f_X4_buysFor o0 x3 m4) fun r8 =>
      ob (if r8 = (-1) then
          some (-1000000000)
        else
          ob (a_ld 401 (o0 + 2) r8 m4) fun v11 =>
          ob (a_ld 401 (o0 + 1) (r8 + x3) m4) fun v12 =>
          some (v11 - v12)) fun (z10 : Int32) =>
      ob (a_st 143 (o0 + 3) (x3 + 71) z10 m4) fun m13 =>
      f_X4_weigh_L21 o0 x1 n (x3 + 1) m13
def f_X4_weigh (o0 : Nat) (me : gM) : Option (gM) :=
  ob (some (a_min 71 (me o0 3))) fun (x1 : Int32) =>
  ob (some (a_max (-71) (-(me o0 4)))) fun (x2 : Int32) =>
  ob (f_X4_weigh_L21 o0 x1 f_fuel x2 me) fun t14 =>
  ob (some t14.1) fun y5 =>
  ob (some t14.2) fun m6 =>
  some m6
def f_X4_worthOf (o0 : Nat) (p1 : Int32) (me : gM) : Option (Int32) :=
  if p1 < (-(me o0 4)) then
    some (-1000000000)
  else
    if (me o0 3) < p1 then
      some (-1000000000)
    else
      if p1 < (-71) then
        some (-1000000000)
      else
        if p1 ≤ 71 then
          ob (a_ld 143 (o0 + 3) (p1 + 71) me) fun v5 =>
          some v5
        else
          some (-1000000000)
abbrev rmX4_extend : Room := { frames := 0, cells := 0, slots := 0, locals := 0 }
set_option maxHeartbeats 4000000 in
set_option maxRecDepth 100000 in
theorem c_X4_extend (l : Launch) (G : gG) {n0 : Nat} {a0 : Nat} {p1 : Int32} {p2 : Int32} {p3 : Int32} {me : gM} {r0 : Int32} {m0 : gM}  (ha0 : ZC.2.1 a0 = 20) (hn0 : ZC.2.2.1 a0 = n0) (hf : f_X4_extend n0 a0 p1 p2 p3 me = some (r0, m0)) : Met l yX4_extend wsX4_extend rmX4_extend (va_Pc [.ref (G.2.2.1 a0), .int p1, .int p2, .int p3] (g_W ZC G me)) (g_Qi ZC G r0 m0) 0 0 (g_A ZC G) := by
  refine Met.ofW (cc := cX4_extend) (maxL := 6) (ret := (some .int)) (by decide) rfl ?_
  intro p e s m args below meth c s₁ B hml hv
  obtain ⟨rfl, hW0⟩ := hv
  have hC : CallFix p m c cX4_extend 6 s ([.ref (G.2.2.1 a0), .int p1, .int p2, .int p3] : List Value).toArray wsX4_extend RX4 := ⟨B.exec, B.bytes, hml, findClass_of_methodNamed B.named, atoms_spec (ws := wsX4_extend) B.pre⟩
  have hx := hC.1
  have hb := hC.2.1
  have hown := hC.2.2.2.1
  have hts := hC.2.2.2.2
  have hr := B.returns
  have hlocks := B.notSynchronized
  have hW := g_H_enter hW0
  have hl := lv_entry ([.ref (G.2.2.1 a0), .int p1, .int p2, .int p3]) (n := 6) (Nat.le_of_ble_eq_true rfl)
  rw [lg_entry_eq]
  generalize (lg_sl ([.ref (G.2.2.1 a0), .int p1, .int p2, .int p3]) ++ List.replicate (6 - (lg_sl ([.ref (G.2.2.1 a0), .int p1, .int p2, .int p3])).length) Slot.unset).toArray = ls at hl ⊢
  have hl : lv_has ls 6 [(0, .ref (G.2.2.1 a0)), (1, .int p1), (2, .int p2), (3, .int p3)] := hl
  obtain ⟨Q, hQ⟩ : ∃ Q, Q = MQ below (g_Qi ZC G r0 m0) ([.ref (G.2.2.1 a0), .int p1, .int p2, .int p3] : List Value).toArray s 0 0 (g_A ZC G) := ⟨_, rfl⟩
  refine g_goQ hQ ?_
  unfold f_X4_extend at hf
  refine g_start hW (fun H locs hW => ?_)
  refine lv_iload_n hx hb dX4_extend_0 rfl (lv_at hl 1 rfl) ?_
  refine lv_istore (lv' := [(4, .int p1), (0, .ref (G.2.2.1 a0)), (1, .int p1), (2, .int p2), (3, .int p3)]) hx hb dX4_extend_1 hl (by decide) rfl (fun ls hl => ?_)
  refine lv_iconst (v := 0) hx hb dX4_extend_3 (by decide) ?_
  refine lv_istore (lv' := [(5, .int 0), (4, .int p1), (0, .ref (G.2.2.1 a0)), (1, .int p1), (2, .int p2), (3, .int p3)]) hx hb dX4_extend_4 hl (by decide) rfl (fun ls hl => ?_)
  have hL6 : ∀ (n : Nat) (x1 : Int32) (x2 : Int32) (m3 : gM) (y4 : Int32) (y5 : Int32) (m6 : gM) (H : Heap) (locs : List Loc) (ls : Array Slot), f_X4_extend_L6 a0 n0 p2 p3 n x1 x2 m3 = some (y4, y5, m6) → g_H ZC G s H locs m3 → lv_has ls 6 [(0, .ref (G.2.2.1 a0)), (2, .int p2), (3, .int p3), (4, .int x1), (5, .int x2)] → (∀ (H : Heap) (locs : List Loc) (ls : Array Slot), g_H ZC G s H locs m6 → lv_has ls 6 [(4, .int y4)] → W p l e (headSpec wsX4_extend rmX4_extend).room s m ([.ref (G.2.2.1 a0), .int p1, .int p2, .int p3] : List Value).toArray below meth c H locs 0 0 Q (F0 m 41 ls [])) → W p l e (headSpec wsX4_extend rmX4_extend).room s m ([.ref (G.2.2.1 a0), .int p1, .int p2, .int p3] : List Value).toArray below meth c H locs 0 0 Q (F0 m 6 ls []) := by
    intro n
    induction n with
    | zero =>
      intro x1 x2 m3 y4 y5 m6 H locs ls hf hW hl hE
      cases hf
    | succ n ih =>
      intro x1 x2 m3 y4 y5 m6 H locs ls hf hW hl hE
      rw [f_X4_extend_L6] at hf
      refine lv_iload hx hb dX4_extend_6 (lv_at hl 4 rfl) ?_
      refine lv_iload_n hx hb dX4_extend_8 rfl (lv_at hl 2 rfl) ?_
      refine lv_icmp_ge (tgt := 41) hx hb dX4_extend_9 (by decide) (fun c7 => ?_) (fun c7 => ?_)
      · have hf := a_if_t c7 hf
        cases hf
        exact hE H locs ls hW (lv_sub hl [3] rfl)
      · have hf := a_if_f c7 hf
        refine lv_iload hx hb dX4_extend_12 (lv_at hl 3 rfl) ?_
        refine lv_sipush (v := 400) hx hb dX4_extend_14 (by decide) ?_
        refine lv_icmp_ge (tgt := 41) hx hb dX4_extend_17 (by decide) (fun c8 => ?_) (fun c8 => ?_)
        · have hf := a_if_t c8 hf
          cases hf
          exact hE H locs ls hW (lv_sub hl [3] rfl)
        · have hf := a_if_f c8 hf
          refine lv_aload_n hx hb dX4_extend_20 rfl (lv_at hl 0 rfl) ?_
          refine lv_iload hx hb dX4_extend_21 (lv_at hl 3 rfl) ?_
          refine lv_iconst (v := 1) hx hb dX4_extend_23 (by decide) ?_
          refine lv_iadd hx hb dX4_extend_24 ?_
          refine lv_aload_n hx hb dX4_extend_25 rfl (lv_at hl 0 rfl) ?_
          refine lv_iload hx hb dX4_extend_26 (lv_at hl 3 rfl) ?_
          obtain ⟨v9, h9, hf⟩ := ob_inv hf
          refine g_ild hC hW ha0 (zc_lt ha0) hn0 h9 dX4_extend_28 ?_
          refine lv_iload_n hx hb dX4_extend_29 rfl (lv_at hl 1 rfl) ?_
          refine lv_iadd hx hb dX4_extend_30 ?_
          obtain ⟨m10, h9, hf⟩ := ob_inv hf
          refine g_ist hC hW ha0 (zc_lt ha0) hn0 h9 dX4_extend_31 (fun H locs hW => ?_)
          refine lv_iinc (v := (x1 + 1)) (lv' := [(4, .int (x1 + 1)), (0, .ref (G.2.2.1 a0)), (2, .int p2), (3, .int p3), (5, .int x2)]) hx hb dX4_extend_32 hl (k := 3) rfl (congrArg (fun z => x1 + z) (by decide)) (by decide) rfl (fun ls hl => ?_)
          refine lv_iinc (v := (x2 + 1)) (lv' := [(5, .int (x2 + 1)), (4, .int (x1 + 1)), (0, .ref (G.2.2.1 a0)), (2, .int p2), (3, .int p3)]) hx hb dX4_extend_35 hl (k := 4) rfl (congrArg (fun z => x2 + z) (by decide)) (by decide) rfl (fun ls hl => ?_)
          refine lv_goto (tgt := 6) hx hb dX4_extend_38 (by decide) ?_
          exact ih _ _ _ _ _ _ _ _ _ hf hW (lv_sub hl [2, 3, 4, 1, 0] rfl) hE
  obtain ⟨⟨y4, y5, m6⟩, hg, hf⟩ := ob_inv hf
  have hf := ob_inv3 hf
  refine hL6 _ _ _ _ _ _ _ _ _ _ hg hW (lv_sub hl [2, 4, 5, 1, 0] rfl) (fun H locs ls hW hl => ?_)
  refine lv_iload hx hb dX4_extend_41 (lv_at hl 0 rfl) ?_
  cases hf
  subst hQ
  exact g_iret hC hW hr hlocks rfl rfl dX4_extend_43
abbrev rmX4_draw : Room := { frames := 1, cells := 0, slots := 0, locals := 25 }
set_option maxHeartbeats 4000000 in
set_option maxRecDepth 100000 in
theorem c_X4_draw (l : Launch) (G : gG) {o0 : Nat} {o1 : Nat} {p2 : Int32} {p3 : Int32} {me : gM} {m0 : gM}  (ho0 : ZC.2.1 o0 = 5) (ho1 : ZC.2.1 o1 = 9) (hf : f_X4_draw o0 o1 p2 p3 me = some m0) : Met l yX4_draw wsX4_draw rmX4_draw (va_Pc [.ref (G.2.2.1 o0), .ref (G.2.2.1 o1), .int p2, .int p3] (g_W ZC G me)) (g_Qv ZC G m0) 0 0 (g_A ZC G) := by
  refine Met.ofW (cc := cX4_draw) (maxL := 6) (ret := none) (by decide) rfl ?_
  intro p e s m args below meth c s₁ B hml hv
  obtain ⟨rfl, hW0⟩ := hv
  have hC : CallFix p m c cX4_draw 6 s ([.ref (G.2.2.1 o0), .ref (G.2.2.1 o1), .int p2, .int p3] : List Value).toArray wsX4_draw RX4 := ⟨B.exec, B.bytes, hml, findClass_of_methodNamed B.named, atoms_spec (ws := wsX4_draw) B.pre⟩
  have hx := hC.1
  have hb := hC.2.1
  have hown := hC.2.2.2.1
  have hts := hC.2.2.2.2
  have hr := B.returns
  have hlocks := B.notSynchronized
  have hW := g_H_enter hW0
  have hi4 : ∀ w ∈ wsX40, w ∈ wsX4_draw := by decide +kernel
  have hi8 : ∀ w ∈ wsX80, w ∈ wsX4_draw := by decide +kernel
  have hl := lv_entry ([.ref (G.2.2.1 o0), .ref (G.2.2.1 o1), .int p2, .int p3]) (n := 6) (Nat.le_of_ble_eq_true rfl)
  rw [lg_entry_eq]
  generalize (lg_sl ([.ref (G.2.2.1 o0), .ref (G.2.2.1 o1), .int p2, .int p3]) ++ List.replicate (6 - (lg_sl ([.ref (G.2.2.1 o0), .ref (G.2.2.1 o1), .int p2, .int p3])).length) Slot.unset).toArray = ls at hl ⊢
  have hl : lv_has ls 6 [(0, .ref (G.2.2.1 o0)), (1, .ref (G.2.2.1 o1)), (2, .int p2), (3, .int p3)] := hl
  obtain ⟨Q, hQ⟩ : ∃ Q, Q = MQ below (g_Qv ZC G m0) ([.ref (G.2.2.1 o0), .ref (G.2.2.1 o1), .int p2, .int p3] : List Value).toArray s 0 0 (g_A ZC G) := ⟨_, rfl⟩
  refine g_goQ hQ ?_
  unfold f_X4_draw at hf
  refine g_start hW (fun H locs hW => ?_)
  refine lv_aload_n hx hb dX4_draw_0 rfl (lv_at hl 0 rfl) ?_
  refine lv_iconst (v := 0) hx hb dX4_draw_1 (by decide) ?_
  obtain ⟨m1, h9, hf⟩ := ob_inv hf
  refine g_puti hC hW (o := o0) (ci := 4) (k := 3) ho0 (zc_lt ho0) rfl hi4 tyX4_ok nmX4 (by decide) rfl rfl rfl (by decide +kernel) dX4_draw_2 (fun H locs hW => ?_)
  rw [Option.some.inj h9] at hW
  refine lv_aload_n hx hb dX4_draw_5 rfl (lv_at hl 0 rfl) ?_
  refine lv_iconst (v := 0) hx hb dX4_draw_6 (by decide) ?_
  obtain ⟨m2, h9, hf⟩ := ob_inv hf
  refine g_puti hC hW (o := o0) (ci := 4) (k := 4) ho0 (zc_lt ho0) rfl hi4 tyX4_ok nmX4 (by decide) rfl rfl rfl (by decide +kernel) dX4_draw_7 (fun H locs hW => ?_)
  rw [Option.some.inj h9] at hW
  refine lv_iconst (v := 0) hx hb dX4_draw_10 (by decide) ?_
  refine lv_istore (lv' := [(4, .int 0), (0, .ref (G.2.2.1 o0)), (1, .ref (G.2.2.1 o1)), (2, .int p2), (3, .int p3)]) hx hb dX4_draw_11 hl (by decide) rfl (fun ls hl => ?_)
  have hL13 : ∀ (n : Nat) (x3 : Int32) (m4 : gM) (y5 : Int32) (m6 : gM) (H : Heap) (locs : List Loc) (ls : Array Slot), f_X4_draw_L13 o0 o1 p2 p3 n x3 m4 = some (y5, m6) → g_H ZC G s H locs m4 → lv_has ls 6 [(0, .ref (G.2.2.1 o0)), (1, .ref (G.2.2.1 o1)), (2, .int p2), (3, .int p3), (4, .int x3)] → (∀ (H : Heap) (locs : List Loc) (ls : Array Slot), g_H ZC G s H locs m6 → lv_has ls 6 [] → W p l e (headSpec wsX4_draw rmX4_draw).room s m ([.ref (G.2.2.1 o0), .ref (G.2.2.1 o1), .int p2, .int p3] : List Value).toArray below meth c H locs 0 0 Q (F0 m 119 ls [])) → W p l e (headSpec wsX4_draw rmX4_draw).room s m ([.ref (G.2.2.1 o0), .ref (G.2.2.1 o1), .int p2, .int p3] : List Value).toArray below meth c H locs 0 0 Q (F0 m 13 ls []) := by
    intro n
    induction n with
    | zero =>
      intro x3 m4 y5 m6 H locs ls hf hW hl hE
      cases hf
    | succ n ih =>
      intro x3 m4 y5 m6 H locs ls hf hW hl hE
      rw [f_X4_draw_L13] at hf
      refine lv_iload hx hb dX4_draw_13 (lv_at hl 4 rfl) ?_
      refine lv_aload_n hx hb dX4_draw_15 rfl (lv_at hl 1 rfl) ?_
      refine g_geti hC hW (o := o1) (ci := 8) (k := 8) ho1 (zc_lt ho1) rfl hi8 (by decide) rfl (by decide +kernel) dX4_draw_16 ?_
      refine lv_icmp_ge (tgt := 119) hx hb dX4_draw_19 (by decide) (fun c7 => ?_) (fun c7 => ?_)
      · have hf := a_if_t c7 hf
        cases hf
        exact hE H locs ls hW (lv_sub hl [] rfl)
      · have hf := a_if_f c7 hf
        refine lv_aload_n hx hb dX4_draw_22 rfl (lv_at hl 1 rfl) ?_
        refine g_getr hC hW (o := o1) (ci := 8) (k := 7) ho1 (zc_lt ho1) rfl hi8 (by decide) rfl (t := (o1 + 8)) (zc_o8_7 ho1).1 (by decide +kernel) dX4_draw_23 ?_
        refine lv_iload hx hb dX4_draw_26 (lv_at hl 4 rfl) ?_
        obtain ⟨v8, h9, hf⟩ := ob_inv hf
        refine g_ild hC hW (zc_o8_7 ho1).2.1 (zc_o8_7 ho1).2.2.1 (zc_o8_7 ho1).2.2.2 h9 dX4_draw_28 ?_
        refine lv_istore (lv' := [(5, .int v8), (0, .ref (G.2.2.1 o0)), (1, .ref (G.2.2.1 o1)), (2, .int p2), (3, .int p3), (4, .int x3)]) hx hb dX4_draw_29 hl (by decide) rfl (fun ls hl => ?_)
        refine lv_aload_n hx hb dX4_draw_31 rfl (lv_at hl 2 rfl) ?_
        refine lv_iload hx hb dX4_draw_32 (lv_at hl 0 rfl) ?_
        refine lv_iload_n hx hb dX4_draw_34 rfl (lv_at hl 3 rfl) ?_
        refine lv_iload_n hx hb dX4_draw_35 rfl (lv_at hl 4 rfl) ?_
        obtain ⟨r9, hg, hf⟩ := ob_inv hf
        refine g_cVi hC hW (o := o1) (ci := 8) (As := [.int v8, .int p2, .int p3]) (rest := []) ho1 (zc_lt ho1) rfl (c_X8_isIn l G ho1 hg) (cwV 3 hts gX4_draw_X8_isIn rfl rfl rfl (by decide +kernel) ⟨Nat.le_of_ble_eq_true rfl, Nat.le_of_ble_eq_true rfl⟩) rfl hl.1 rfl (Nat.le_of_ble_eq_true rfl) dX4_draw_36 ⟨Nat.le_of_ble_eq_true rfl, Nat.le_of_ble_eq_true rfl⟩ (fun H locs hW => ?_)
        obtain ⟨m11, hg, hf⟩ := ob_inv hf
        have hJ113 : ∀ (H : Heap) (locs : List Loc) (ls : Array Slot), g_H ZC G s H locs m11 → lv_has ls 6 [(0, .ref (G.2.2.1 o0)), (1, .ref (G.2.2.1 o1)), (2, .int p2), (3, .int p3), (4, .int x3)] → W p l e (headSpec wsX4_draw rmX4_draw).room s m ([.ref (G.2.2.1 o0), .ref (G.2.2.1 o1), .int p2, .int p3] : List Value).toArray below meth c H locs 0 0 Q (F0 m 113 ls []) := by
          intro H locs ls hW hl
          refine lv_iinc (v := (x3 + 1)) (lv' := [(4, .int (x3 + 1)), (0, .ref (G.2.2.1 o0)), (1, .ref (G.2.2.1 o1)), (2, .int p2), (3, .int p3)]) hx hb dX4_draw_113 hl (k := 4) rfl (congrArg (fun z => x3 + z) (by decide)) (by decide) rfl (fun ls hl => ?_)
          refine lv_goto (tgt := 13) hx hb dX4_draw_116 (by decide) ?_
          exact ih _ _ _ _ _ _ _ hf hW (lv_sub hl [1, 2, 3, 4, 0] rfl) hE
        replace hf := hg
        refine lv_if_eq (tgt := 113) hx hb dX4_draw_39 (by decide) (fun c10 => ?_) (fun c10 => ?_)
        · have hf := a_if_t c10 hf
          cases hf
          exact hJ113 H locs ls hW (lv_sub hl [1, 2, 3, 4, 5] rfl)
        · have hf := a_if_f c10 hf
          refine lv_aload_n hx hb dX4_draw_42 rfl (lv_at hl 2 rfl) ?_
          refine g_getr hC hW (o := o1) (ci := 8) (k := 3) ho1 (zc_lt ho1) rfl hi8 (by decide) rfl (t := (o1 + 4)) (zc_o8_3 ho1).1 (by decide +kernel) dX4_draw_43 ?_
          refine lv_iload hx hb dX4_draw_46 (lv_at hl 0 rfl) ?_
          obtain ⟨v12, h9, hf⟩ := ob_inv hf
          refine g_zld hC hW (zc_o8_3 ho1).2.1 (zc_o8_3 ho1).2.2.1 (zc_o8_3 ho1).2.2.2 h9 dX4_draw_48 ?_
          refine lv_if_eq (tgt := 84) hx hb dX4_draw_49 (by decide) (fun c13 => ?_) (fun c13 => ?_)
          · have hf := a_if_t c13 hf
            refine lv_aload_n hx hb dX4_draw_84 rfl (lv_at hl 1 rfl) ?_
            refine lv_aload_n hx hb dX4_draw_85 rfl (lv_at hl 1 rfl) ?_
            refine g_getr hC hW (o := o0) (ci := 4) (k := 0) ho0 (zc_lt ho0) rfl hi4 (by decide) rfl (t := (o0 + 1)) (zc_o4_0 ho0).1 (by decide +kernel) dX4_draw_86 ?_
            refine lv_aload_n hx hb dX4_draw_89 rfl (lv_at hl 1 rfl) ?_
            refine g_geti hC hW (o := o0) (ci := 4) (k := 3) ho0 (zc_lt ho0) rfl hi4 (by decide) rfl (by decide +kernel) dX4_draw_90 ?_
            refine lv_aload_n hx hb dX4_draw_93 rfl (lv_at hl 2 rfl) ?_
            refine g_getr hC hW (o := o1) (ci := 8) (k := 4) ho1 (zc_lt ho1) rfl hi8 (by decide) rfl (t := (o1 + 5)) (zc_o8_4 ho1).1 (by decide +kernel) dX4_draw_94 ?_
            refine lv_iload hx hb dX4_draw_97 (lv_at hl 0 rfl) ?_
            obtain ⟨v14, h9, hf⟩ := ob_inv hf
            refine g_ild hC hW (zc_o8_4 ho1).2.1 (zc_o8_4 ho1).2.2.1 (zc_o8_4 ho1).2.2.2 h9 dX4_draw_99 ?_
            refine lv_aload_n hx hb dX4_draw_100 rfl (lv_at hl 2 rfl) ?_
            refine g_getr hC hW (o := o1) (ci := 8) (k := 5) ho1 (zc_lt ho1) rfl hi8 (by decide) rfl (t := (o1 + 6)) (zc_o8_5 ho1).1 (by decide +kernel) dX4_draw_101 ?_
            refine lv_iload hx hb dX4_draw_104 (lv_at hl 0 rfl) ?_
            obtain ⟨v15, h9, hf⟩ := ob_inv hf
            refine g_ild hC hW (zc_o8_5 ho1).2.1 (zc_o8_5 ho1).2.2.1 (zc_o8_5 ho1).2.2.2 h9 dX4_draw_106 ?_
            obtain ⟨⟨r16, m17⟩, hg, hf⟩ := ob_inv hf
            have hf := ob_inv2 hf
            refine g_cSi hC hW (As := [.ref (G.2.2.1 (o0 + 1)), .int (m4 o0 3), .int v14, .int v15]) (rest := [.ref (G.2.2.1 o0)]) (c_X4_extend l G ((zc_o4_0 ho0).2.1) ((zc_o4_0 ho0).2.2.2) hg) (va_cwS 4 hts gX4_draw_X4_extend rfl rfl rfl (by decide +kernel) ⟨Nat.le_of_ble_eq_true rfl, Nat.le_of_ble_eq_true rfl⟩) rfl hl.1 rfl (Nat.le_of_ble_eq_true rfl) dX4_draw_107 ⟨Nat.le_of_ble_eq_true rfl, Nat.le_of_ble_eq_true rfl⟩ (fun H locs hW => ?_)
            obtain ⟨m19, h9, hf⟩ := ob_inv hf
            refine g_puti hC hW (o := o0) (ci := 4) (k := 3) ho0 (zc_lt ho0) rfl hi4 tyX4_ok nmX4 (by decide) rfl rfl rfl (by decide +kernel) dX4_draw_110 (fun H locs hW => ?_)
            rw [Option.some.inj h9] at hW
            cases hf
            exact hJ113 H locs ls hW (lv_sub hl [1, 2, 3, 4, 5] rfl)
          · have hf := a_if_f c13 hf
            refine lv_aload_n hx hb dX4_draw_52 rfl (lv_at hl 1 rfl) ?_
            refine lv_aload_n hx hb dX4_draw_53 rfl (lv_at hl 1 rfl) ?_
            refine g_getr hC hW (o := o0) (ci := 4) (k := 1) ho0 (zc_lt ho0) rfl hi4 (by decide) rfl (t := (o0 + 2)) (zc_o4_1 ho0).1 (by decide +kernel) dX4_draw_54 ?_
            refine lv_aload_n hx hb dX4_draw_57 rfl (lv_at hl 1 rfl) ?_
            refine g_geti hC hW (o := o0) (ci := 4) (k := 4) ho0 (zc_lt ho0) rfl hi4 (by decide) rfl (by decide +kernel) dX4_draw_58 ?_
            refine lv_aload_n hx hb dX4_draw_61 rfl (lv_at hl 2 rfl) ?_
            refine g_getr hC hW (o := o1) (ci := 8) (k := 4) ho1 (zc_lt ho1) rfl hi8 (by decide) rfl (t := (o1 + 5)) (zc_o8_4 ho1).1 (by decide +kernel) dX4_draw_62 ?_
            refine lv_iload hx hb dX4_draw_65 (lv_at hl 0 rfl) ?_
            obtain ⟨v20, h9, hf⟩ := ob_inv hf
            refine g_ild hC hW (zc_o8_4 ho1).2.1 (zc_o8_4 ho1).2.2.1 (zc_o8_4 ho1).2.2.2 h9 dX4_draw_67 ?_
            refine lv_aload_n hx hb dX4_draw_68 rfl (lv_at hl 2 rfl) ?_
            refine g_getr hC hW (o := o1) (ci := 8) (k := 5) ho1 (zc_lt ho1) rfl hi8 (by decide) rfl (t := (o1 + 6)) (zc_o8_5 ho1).1 (by decide +kernel) dX4_draw_69 ?_
            refine lv_iload hx hb dX4_draw_72 (lv_at hl 0 rfl) ?_
            obtain ⟨v21, h9, hf⟩ := ob_inv hf
            refine g_ild hC hW (zc_o8_5 ho1).2.1 (zc_o8_5 ho1).2.2.1 (zc_o8_5 ho1).2.2.2 h9 dX4_draw_74 ?_
            obtain ⟨⟨r22, m23⟩, hg, hf⟩ := ob_inv hf
            have hf := ob_inv2 hf
            refine g_cSi hC hW (As := [.ref (G.2.2.1 (o0 + 2)), .int (m4 o0 4), .int v20, .int v21]) (rest := [.ref (G.2.2.1 o0)]) (c_X4_extend l G ((zc_o4_1 ho0).2.1) ((zc_o4_1 ho0).2.2.2) hg) (va_cwS 4 hts gX4_draw_X4_extend rfl rfl rfl (by decide +kernel) ⟨Nat.le_of_ble_eq_true rfl, Nat.le_of_ble_eq_true rfl⟩) rfl hl.1 rfl (Nat.le_of_ble_eq_true rfl) dX4_draw_75 ⟨Nat.le_of_ble_eq_true rfl, Nat.le_of_ble_eq_true rfl⟩ (fun H locs hW => ?_)
            obtain ⟨m25, h9, hf⟩ := ob_inv hf
            refine g_puti hC hW (o := o0) (ci := 4) (k := 4) ho0 (zc_lt ho0) rfl hi4 tyX4_ok nmX4 (by decide) rfl rfl rfl (by decide +kernel) dX4_draw_78 (fun H locs hW => ?_)
            rw [Option.some.inj h9] at hW
            refine lv_goto (tgt := 113) hx hb dX4_draw_81 (by decide) ?_
            cases hf
            exact hJ113 H locs ls hW (lv_sub hl [1, 2, 3, 4, 5] rfl)
  obtain ⟨⟨y5, m6⟩, hg, hf⟩ := ob_inv hf
  have hf := ob_inv2 hf
  refine hL13 _ _ _ _ _ _ _ _ hg hW (lv_sub hl [1, 2, 3, 4, 0] rfl) (fun H locs ls hW hl => ?_)
  cases hf
  subst hQ
  exact g_vret hC hW hr hlocks rfl dX4_draw_119
abbrev rmX4_isPairWorth : Room := { frames := 0, cells := 0, slots := 0, locals := 0 }
set_option maxHeartbeats 4000000 in
set_option maxRecDepth 100000 in
theorem c_X4_isPairWorth (l : Launch) (G : gG) {o0 : Nat} {p1 : Int32} {p2 : Int32} {me : gM} {r0 : Int32}  (ho0 : ZC.2.1 o0 = 5) (hf : f_X4_isPairWorth o0 p1 p2 me = some r0) : Met l yX4_isPairWorth wsX4_isPairWorth rmX4_isPairWorth (va_Pc [.ref (G.2.2.1 o0), .int p1, .int p2] (g_W ZC G me)) (g_Qi ZC G r0 me) 0 0 (g_A ZC G) := by
  refine Met.ofW (cc := cX4_isPairWorth) (maxL := 3) (ret := (some .boolean)) (by decide) rfl ?_
  intro p e s m args below meth c s₁ B hml hv
  obtain ⟨rfl, hW0⟩ := hv
  have hC : CallFix p m c cX4_isPairWorth 3 s ([.ref (G.2.2.1 o0), .int p1, .int p2] : List Value).toArray wsX4_isPairWorth RX4 := ⟨B.exec, B.bytes, hml, findClass_of_methodNamed B.named, atoms_spec (ws := wsX4_isPairWorth) B.pre⟩
  have hx := hC.1
  have hb := hC.2.1
  have hown := hC.2.2.2.1
  have hts := hC.2.2.2.2
  have hr := B.returns
  have hlocks := B.notSynchronized
  have hW := g_H_enter hW0
  have hi4 : ∀ w ∈ wsX40, w ∈ wsX4_isPairWorth := by decide +kernel
  have hl := lv_entry ([.ref (G.2.2.1 o0), .int p1, .int p2]) (n := 3) (Nat.le_of_ble_eq_true rfl)
  rw [lg_entry_eq]
  generalize (lg_sl ([.ref (G.2.2.1 o0), .int p1, .int p2]) ++ List.replicate (3 - (lg_sl ([.ref (G.2.2.1 o0), .int p1, .int p2])).length) Slot.unset).toArray = ls at hl ⊢
  have hl : lv_has ls 3 [(0, .ref (G.2.2.1 o0)), (1, .int p1), (2, .int p2)] := hl
  obtain ⟨Q, hQ⟩ : ∃ Q, Q = MQ below (g_Qi ZC G r0 me) ([.ref (G.2.2.1 o0), .int p1, .int p2] : List Value).toArray s 0 0 (g_A ZC G) := ⟨_, rfl⟩
  refine g_goQ hQ ?_
  unfold f_X4_isPairWorth at hf
  refine g_start hW (fun H locs hW => ?_)
  refine lv_aload_n hx hb dX4_isPairWorth_0 rfl (lv_at hl 0 rfl) ?_
  refine g_getr hC hW (o := o0) (ci := 4) (k := 1) ho0 (zc_lt ho0) rfl hi4 (by decide) rfl (t := (o0 + 2)) (zc_o4_1 ho0).1 (by decide +kernel) dX4_isPairWorth_1 ?_
  refine lv_iload_n hx hb dX4_isPairWorth_4 rfl (lv_at hl 1 rfl) ?_
  refine lv_iconst (v := 1) hx hb dX4_isPairWorth_5 (by decide) ?_
  refine lv_iadd hx hb dX4_isPairWorth_6 ?_
  obtain ⟨v1, h9, hf⟩ := ob_inv hf
  refine g_ild hC hW (zc_o4_1 ho0).2.1 (zc_o4_1 ho0).2.2.1 (zc_o4_1 ho0).2.2.2 h9 dX4_isPairWorth_7 ?_
  refine lv_aload_n hx hb dX4_isPairWorth_8 rfl (lv_at hl 0 rfl) ?_
  refine g_getr hC hW (o := o0) (ci := 4) (k := 1) ho0 (zc_lt ho0) rfl hi4 (by decide) rfl (t := (o0 + 2)) (zc_o4_1 ho0).1 (by decide +kernel) dX4_isPairWorth_9 ?_
  refine lv_iload_n hx hb dX4_isPairWorth_12 rfl (lv_at hl 1 rfl) ?_
  obtain ⟨v2, h9, hf⟩ := ob_inv hf
  refine g_ild hC hW (zc_o4_1 ho0).2.1 (zc_o4_1 ho0).2.2.1 (zc_o4_1 ho0).2.2.2 h9 dX4_isPairWorth_13 ?_
  refine lv_isub hx hb dX4_isPairWorth_14 ?_
  refine lv_aload_n hx hb dX4_isPairWorth_15 rfl (lv_at hl 0 rfl) ?_
  refine g_getr hC hW (o := o0) (ci := 4) (k := 0) ho0 (zc_lt ho0) rfl hi4 (by decide) rfl (t := (o0 + 1)) (zc_o4_0 ho0).1 (by decide +kernel) dX4_isPairWorth_16 ?_
  refine lv_iload_n hx hb dX4_isPairWorth_19 rfl (lv_at hl 2 rfl) ?_
  refine lv_iconst (v := 1) hx hb dX4_isPairWorth_20 (by decide) ?_
  refine lv_iadd hx hb dX4_isPairWorth_21 ?_
  obtain ⟨v3, h9, hf⟩ := ob_inv hf
  refine g_ild hC hW (zc_o4_0 ho0).2.1 (zc_o4_0 ho0).2.2.1 (zc_o4_0 ho0).2.2.2 h9 dX4_isPairWorth_22 ?_
  refine lv_aload_n hx hb dX4_isPairWorth_23 rfl (lv_at hl 0 rfl) ?_
  refine g_getr hC hW (o := o0) (ci := 4) (k := 0) ho0 (zc_lt ho0) rfl hi4 (by decide) rfl (t := (o0 + 1)) (zc_o4_0 ho0).1 (by decide +kernel) dX4_isPairWorth_24 ?_
  refine lv_iload_n hx hb dX4_isPairWorth_27 rfl (lv_at hl 2 rfl) ?_
  obtain ⟨v4, h9, hf⟩ := ob_inv hf
  refine g_ild hC hW (zc_o4_0 ho0).2.1 (zc_o4_0 ho0).2.2.1 (zc_o4_0 ho0).2.2.2 h9 dX4_isPairWorth_28 ?_
  refine lv_isub hx hb dX4_isPairWorth_29 ?_
  obtain ⟨z6, hg, hf⟩ := ob_inv hf
  have hJ38 : ∀ (H : Heap) (locs : List Loc) (ls : Array Slot), g_H ZC G s H locs me → lv_has ls 3 [] → W p l e (headSpec wsX4_isPairWorth rmX4_isPairWorth).room s m ([.ref (G.2.2.1 o0), .int p1, .int p2] : List Value).toArray below meth c H locs 0 0 Q (F0 m 38 ls [.int z6]) := by
    intro H locs ls hW hl
    obtain ⟨b7, h9, hf⟩ := ob_inv hf
    obtain ⟨h9, hn9⟩ := a_zc_inv h9
    refine g_nmi h9 ?_
    cases hf
    subst hQ
    exact g_zret hC hW hr hlocks hn9 rfl rfl dX4_isPairWorth_38
  replace hf := hg
  refine lv_icmp_le (tgt := 37) hx hb dX4_isPairWorth_30 (by decide) (fun c5 => ?_) (fun c5 => ?_)
  · have hf := a_if_t c5 hf
    refine lv_iconst (v := 0) hx hb dX4_isPairWorth_37 (by decide) ?_
    cases hf
    exact hJ38 H locs ls hW (lv_sub hl [] rfl)
  · have hf := a_if_f c5 hf
    refine lv_iconst (v := 1) hx hb dX4_isPairWorth_33 (by decide) ?_
    refine lv_goto (tgt := 38) hx hb dX4_isPairWorth_34 (by decide) ?_
    cases hf
    exact hJ38 H locs ls hW (lv_sub hl [] rfl)
abbrev rmX4_buysFor : Room := { frames := 1, cells := 0, slots := 0, locals := 22 }
set_option maxHeartbeats 4000000 in
set_option maxRecDepth 100000 in
theorem c_X4_buysFor (l : Launch) (G : gG) {o0 : Nat} {p1 : Int32} {me : gM} {r0 : Int32}  (ho0 : ZC.2.1 o0 = 5) (hf : f_X4_buysFor o0 p1 me = some r0) : Met l yX4_buysFor wsX4_buysFor rmX4_buysFor (va_Pc [.ref (G.2.2.1 o0), .int p1] (g_W ZC G me)) (g_Qi ZC G r0 me) 0 0 (g_A ZC G) := by
  refine Met.ofW (cc := cX4_buysFor) (maxL := 3) (ret := (some .int)) (by decide) rfl ?_
  intro p e s m args below meth c s₁ B hml hv
  obtain ⟨rfl, hW0⟩ := hv
  have hC : CallFix p m c cX4_buysFor 3 s ([.ref (G.2.2.1 o0), .int p1] : List Value).toArray wsX4_buysFor RX4 := ⟨B.exec, B.bytes, hml, findClass_of_methodNamed B.named, atoms_spec (ws := wsX4_buysFor) B.pre⟩
  have hx := hC.1
  have hb := hC.2.1
  have hown := hC.2.2.2.1
  have hts := hC.2.2.2.2
  have hr := B.returns
  have hlocks := B.notSynchronized
  have hW := g_H_enter hW0
  have hi4 : ∀ w ∈ wsX40, w ∈ wsX4_buysFor := by decide +kernel
  have hl := lv_entry ([.ref (G.2.2.1 o0), .int p1]) (n := 3) (Nat.le_of_ble_eq_true rfl)
  rw [lg_entry_eq]
  generalize (lg_sl ([.ref (G.2.2.1 o0), .int p1]) ++ List.replicate (3 - (lg_sl ([.ref (G.2.2.1 o0), .int p1])).length) Slot.unset).toArray = ls at hl ⊢
  have hl : lv_has ls 3 [(0, .ref (G.2.2.1 o0)), (1, .int p1)] := hl
  obtain ⟨Q, hQ⟩ : ∃ Q, Q = MQ below (g_Qi ZC G r0 me) ([.ref (G.2.2.1 o0), .int p1] : List Value).toArray s 0 0 (g_A ZC G) := ⟨_, rfl⟩
  refine g_goQ hQ ?_
  unfold f_X4_buysFor at hf
  refine g_start hW (fun H locs hW => ?_)
  refine lv_iconst (v := 0) hx hb dX4_buysFor_0 (by decide) ?_
  refine lv_iload_n hx hb dX4_buysFor_1 rfl (lv_at hl 1 rfl) ?_
  refine lv_ineg hx hb dX4_buysFor_2 ?_
  refine g_max hC hl.1 (by decide +kernel) (by decide +kernel) (by decide +kernel) (by decide +kernel) (Nat.le_of_ble_eq_true rfl) (Nat.le_of_ble_eq_true rfl) (Nat.le_of_ble_eq_true rfl) (Nat.le_of_ble_eq_true rfl) dX4_buysFor_3 ?_
  obtain ⟨x1, h9, hf⟩ := ob_inv hf
  refine g_nmi (Option.some.inj h9) ?_
  refine lv_istore_n (lv' := [(2, .int x1), (0, .ref (G.2.2.1 o0)), (1, .int p1)]) hx hb dX4_buysFor_6 rfl hl (by decide) rfl (fun ls hl => ?_)
  refine lv_iload_n hx hb dX4_buysFor_7 rfl (lv_at hl 0 rfl) ?_
  refine lv_aload_n hx hb dX4_buysFor_8 rfl (lv_at hl 1 rfl) ?_
  refine g_geti hC hW (o := o0) (ci := 4) (k := 4) ho0 (zc_lt ho0) rfl hi4 (by decide) rfl (by decide +kernel) dX4_buysFor_9 ?_
  refine lv_icmp_gt (tgt := 25) hx hb dX4_buysFor_12 (by decide) (fun c2 => ?_) (fun c2 => ?_)
  · have hf := a_if_t c2 hf
    refine lv_iconst (v := (-1)) hx hb dX4_buysFor_25 (by decide) ?_
    cases hf
    subst hQ
    exact g_iret hC hW hr hlocks rfl rfl dX4_buysFor_26
  · have hf := a_if_f c2 hf
    refine lv_iload_n hx hb dX4_buysFor_15 rfl (lv_at hl 0 rfl) ?_
    refine lv_iload_n hx hb dX4_buysFor_16 rfl (lv_at hl 2 rfl) ?_
    refine lv_iadd hx hb dX4_buysFor_17 ?_
    refine lv_aload_n hx hb dX4_buysFor_18 rfl (lv_at hl 1 rfl) ?_
    refine g_geti hC hW (o := o0) (ci := 4) (k := 3) ho0 (zc_lt ho0) rfl hi4 (by decide) rfl (by decide +kernel) dX4_buysFor_19 ?_
    refine lv_icmp_le (tgt := 27) hx hb dX4_buysFor_22 (by decide) (fun c3 => ?_) (fun c3 => ?_)
    · have hf := a_if_t c3 hf
      have hL27 : ∀ (n : Nat) (x4 : Int32) (y5 : Int32) (H : Heap) (locs : List Loc) (ls : Array Slot), f_X4_buysFor_L27 o0 me p1 n x4 = some y5 → g_H ZC G s H locs me → lv_has ls 3 [(0, .ref (G.2.2.1 o0)), (1, .int p1), (2, .int x4)] → (∀ (H : Heap) (locs : List Loc) (ls : Array Slot), g_H ZC G s H locs me → lv_has ls 3 [(2, .int y5)] → W p l e (headSpec wsX4_buysFor rmX4_buysFor).room s m ([.ref (G.2.2.1 o0), .int p1] : List Value).toArray below meth c H locs 0 0 Q (F0 m 62 ls [])) → W p l e (headSpec wsX4_buysFor rmX4_buysFor).room s m ([.ref (G.2.2.1 o0), .int p1] : List Value).toArray below meth c H locs 0 0 Q (F0 m 27 ls []) := by
        intro n
        induction n with
        | zero =>
          intro x4 y5 H locs ls hf hW hl hE
          cases hf
        | succ n ih =>
          intro x4 y5 H locs ls hf hW hl hE
          rw [f_X4_buysFor_L27] at hf
          refine lv_iload_n hx hb dX4_buysFor_27 rfl (lv_at hl 2 rfl) ?_
          refine lv_aload_n hx hb dX4_buysFor_28 rfl (lv_at hl 0 rfl) ?_
          refine g_geti hC hW (o := o0) (ci := 4) (k := 4) ho0 (zc_lt ho0) rfl hi4 (by decide) rfl (by decide +kernel) dX4_buysFor_29 ?_
          refine lv_icmp_ge (tgt := 62) hx hb dX4_buysFor_32 (by decide) (fun c6 => ?_) (fun c6 => ?_)
          · have hf := a_if_t c6 hf
            cases hf
            exact hE H locs ls hW (lv_sub hl [2] rfl)
          · have hf := a_if_f c6 hf
            refine lv_iload_n hx hb dX4_buysFor_35 rfl (lv_at hl 2 rfl) ?_
            refine lv_iload_n hx hb dX4_buysFor_36 rfl (lv_at hl 1 rfl) ?_
            refine lv_iadd hx hb dX4_buysFor_37 ?_
            refine lv_aload_n hx hb dX4_buysFor_38 rfl (lv_at hl 0 rfl) ?_
            refine g_geti hC hW (o := o0) (ci := 4) (k := 3) ho0 (zc_lt ho0) rfl hi4 (by decide) rfl (by decide +kernel) dX4_buysFor_39 ?_
            refine lv_icmp_ge (tgt := 62) hx hb dX4_buysFor_42 (by decide) (fun c7 => ?_) (fun c7 => ?_)
            · have hf := a_if_t c7 hf
              cases hf
              exact hE H locs ls hW (lv_sub hl [2] rfl)
            · have hf := a_if_f c7 hf
              refine lv_aload_n hx hb dX4_buysFor_45 rfl (lv_at hl 0 rfl) ?_
              refine lv_iload_n hx hb dX4_buysFor_46 rfl (lv_at hl 2 rfl) ?_
              refine lv_iload_n hx hb dX4_buysFor_47 rfl (lv_at hl 2 rfl) ?_
              refine lv_iload_n hx hb dX4_buysFor_48 rfl (lv_at hl 1 rfl) ?_
              refine lv_iadd hx hb dX4_buysFor_49 ?_
              obtain ⟨r8, hg, hf⟩ := ob_inv hf
              refine g_cVi hC hW (o := o0) (ci := 4) (As := [.int x4, .int (x4 + p1)]) (rest := []) ho0 (zc_lt ho0) rfl (c_X4_isPairWorth l G ho0 hg) (cwV 2 hts gX4_buysFor_X4_isPairWorth rfl rfl rfl (by decide +kernel) ⟨Nat.le_of_ble_eq_true rfl, Nat.le_of_ble_eq_true rfl⟩) rfl hl.1 rfl (Nat.le_of_ble_eq_true rfl) dX4_buysFor_50 ⟨Nat.le_of_ble_eq_true rfl, Nat.le_of_ble_eq_true rfl⟩ (fun H locs hW => ?_)
              refine lv_if_eq (tgt := 62) hx hb dX4_buysFor_53 (by decide) (fun c9 => ?_) (fun c9 => ?_)
              · have hf := a_if_t c9 hf
                cases hf
                exact hE H locs ls hW (lv_sub hl [2] rfl)
              · have hf := a_if_f c9 hf
                refine lv_iinc (v := (x4 + 1)) (lv' := [(2, .int (x4 + 1)), (0, .ref (G.2.2.1 o0)), (1, .int p1)]) hx hb dX4_buysFor_56 hl (k := 2) rfl (congrArg (fun z => x4 + z) (by decide)) (by decide) rfl (fun ls hl => ?_)
                refine lv_goto (tgt := 27) hx hb dX4_buysFor_59 (by decide) ?_
                exact ih _ _ _ _ _ hf hW (lv_sub hl [1, 2, 0] rfl) hE
      obtain ⟨y5, hg, hf⟩ := ob_inv hf
      refine hL27 _ _ _ _ _ _ hg hW (lv_sub hl [1, 2, 0] rfl) (fun H locs ls hW hl => ?_)
      refine lv_iload_n hx hb dX4_buysFor_62 rfl (lv_at hl 0 rfl) ?_
      cases hf
      subst hQ
      exact g_iret hC hW hr hlocks rfl rfl dX4_buysFor_63
    · have hf := a_if_f c3 hf
      refine lv_iconst (v := (-1)) hx hb dX4_buysFor_25 (by decide) ?_
      cases hf
      subst hQ
      exact g_iret hC hW hr hlocks rfl rfl dX4_buysFor_26
abbrev rmX4_weigh : Room := { frames := 2, cells := 0, slots := 0, locals := 44 }
set_option maxHeartbeats 4000000 in
set_option maxRecDepth 100000 in
theorem c_X4_weigh (l : Launch) (G : gG) {o0 : Nat} {me : gM} {m0 : gM}  (ho0 : ZC.2.1 o0 = 5) (hf : f_X4_weigh o0 me = some m0) : Met l yX4_weigh wsX4_weigh rmX4_weigh (va_Pc [.ref (G.2.2.1 o0)] (g_W ZC G me)) (g_Qv ZC G m0) 0 0 (g_A ZC G) := by
  refine Met.ofW (cc := cX4_weigh) (maxL := 4) (ret := none) (by decide) rfl ?_
  intro p e s m args below meth c s₁ B hml hv
  obtain ⟨rfl, hW0⟩ := hv
  have hC : CallFix p m c cX4_weigh 4 s ([.ref (G.2.2.1 o0)] : List Value).toArray wsX4_weigh RX4 := ⟨B.exec, B.bytes, hml, findClass_of_methodNamed B.named, atoms_spec (ws := wsX4_weigh) B.pre⟩
  have hx := hC.1
  have hb := hC.2.1
  have hown := hC.2.2.2.1
  have hts := hC.2.2.2.2
  have hr := B.returns
  have hlocks := B.notSynchronized
  have hW := g_H_enter hW0
  have hi4 : ∀ w ∈ wsX40, w ∈ wsX4_weigh := by decide +kernel
  have hl := lv_entry ([.ref (G.2.2.1 o0)]) (n := 4) (Nat.le_of_ble_eq_true rfl)
  rw [lg_entry_eq]
  generalize (lg_sl ([.ref (G.2.2.1 o0)]) ++ List.replicate (4 - (lg_sl ([.ref (G.2.2.1 o0)])).length) Slot.unset).toArray = ls at hl ⊢
  have hl : lv_has ls 4 [(0, .ref (G.2.2.1 o0))] := hl
  obtain ⟨Q, hQ⟩ : ∃ Q, Q = MQ below (g_Qv ZC G m0) ([.ref (G.2.2.1 o0)] : List Value).toArray s 0 0 (g_A ZC G) := ⟨_, rfl⟩
  refine g_goQ hQ ?_
  unfold f_X4_weigh at hf
  refine g_start hW (fun H locs hW => ?_)
  refine lv_bipush (v := 71) hx hb dX4_weigh_0 (by decide) ?_
  refine lv_aload_n hx hb dX4_weigh_2 rfl (lv_at hl 0 rfl) ?_
  refine g_geti hC hW (o := o0) (ci := 4) (k := 3) ho0 (zc_lt ho0) rfl hi4 (by decide) rfl (by decide +kernel) dX4_weigh_3 ?_
  refine g_min hC hl.1 (by decide +kernel) (by decide +kernel) (by decide +kernel) (by decide +kernel) (Nat.le_of_ble_eq_true rfl) (Nat.le_of_ble_eq_true rfl) (Nat.le_of_ble_eq_true rfl) (Nat.le_of_ble_eq_true rfl) dX4_weigh_6 ?_
  obtain ⟨x1, h9, hf⟩ := ob_inv hf
  refine g_nmi (Option.some.inj h9) ?_
  refine lv_istore_n (lv' := [(1, .int x1), (0, .ref (G.2.2.1 o0))]) hx hb dX4_weigh_9 rfl hl (by decide) rfl (fun ls hl => ?_)
  refine lv_bipush (v := (-71)) hx hb dX4_weigh_10 (by decide) ?_
  refine lv_aload_n hx hb dX4_weigh_12 rfl (lv_at hl 1 rfl) ?_
  refine g_geti hC hW (o := o0) (ci := 4) (k := 4) ho0 (zc_lt ho0) rfl hi4 (by decide) rfl (by decide +kernel) dX4_weigh_13 ?_
  refine lv_ineg hx hb dX4_weigh_16 ?_
  refine g_max hC hl.1 (by decide +kernel) (by decide +kernel) (by decide +kernel) (by decide +kernel) (Nat.le_of_ble_eq_true rfl) (Nat.le_of_ble_eq_true rfl) (Nat.le_of_ble_eq_true rfl) (Nat.le_of_ble_eq_true rfl) dX4_weigh_17 ?_
  obtain ⟨x2, h9, hf⟩ := ob_inv hf
  refine g_nmi (Option.some.inj h9) ?_
  refine lv_istore_n (lv' := [(2, .int x2), (1, .int x1), (0, .ref (G.2.2.1 o0))]) hx hb dX4_weigh_20 rfl hl (by decide) rfl (fun ls hl => ?_)
  have hL21 : ∀ (n : Nat) (x3 : Int32) (m4 : gM) (y5 : Int32) (m6 : gM) (H : Heap) (locs : List Loc) (ls : Array Slot), f_X4_weigh_L21 o0 x1 n x3 m4 = some (y5, m6) → g_H ZC G s H locs m4 → lv_has ls 4 [(0, .ref (G.2.2.1 o0)), (1, .int x1), (2, .int x3)] → (∀ (H : Heap) (locs : List Loc) (ls : Array Slot), g_H ZC G s H locs m6 → lv_has ls 4 [] → W p l e (headSpec wsX4_weigh rmX4_weigh).room s m ([.ref (G.2.2.1 o0)] : List Value).toArray below meth c H locs 0 0 Q (F0 m 72 ls [])) → W p l e (headSpec wsX4_weigh rmX4_weigh).room s m ([.ref (G.2.2.1 o0)] : List Value).toArray below meth c H locs 0 0 Q (F0 m 21 ls []) := by
    intro n
    induction n with
    | zero =>
      intro x3 m4 y5 m6 H locs ls hf hW hl hE
      cases hf
    | succ n ih =>
      intro x3 m4 y5 m6 H locs ls hf hW hl hE
      rw [f_X4_weigh_L21] at hf
      refine lv_iload_n hx hb dX4_weigh_21 rfl (lv_at hl 2 rfl) ?_
      refine lv_iload_n hx hb dX4_weigh_22 rfl (lv_at hl 1 rfl) ?_
      refine lv_icmp_gt (tgt := 72) hx hb dX4_weigh_23 (by decide) (fun c7 => ?_) (fun c7 => ?_)
      · have hf := a_if_t c7 hf
        cases hf
        exact hE H locs ls hW (lv_sub hl [] rfl)
      · have hf := a_if_f c7 hf
        refine lv_aload_n hx hb dX4_weigh_26 rfl (lv_at hl 0 rfl) ?_
        refine lv_iload_n hx hb dX4_weigh_27 rfl (lv_at hl 2 rfl) ?_
        obtain ⟨r8, hg, hf⟩ := ob_inv hf
        refine g_cVi hC hW (o := o0) (ci := 4) (As := [.int x3]) (rest := []) ho0 (zc_lt ho0) rfl (c_X4_buysFor l G ho0 hg) (cwV 1 hts gX4_weigh_X4_buysFor rfl rfl rfl (by decide +kernel) ⟨Nat.le_of_ble_eq_true rfl, Nat.le_of_ble_eq_true rfl⟩) rfl hl.1 rfl (Nat.le_of_ble_eq_true rfl) dX4_weigh_28 ⟨Nat.le_of_ble_eq_true rfl, Nat.le_of_ble_eq_true rfl⟩ (fun H locs hW => ?_)
        refine lv_istore_n (lv' := [(3, .int r8), (0, .ref (G.2.2.1 o0)), (1, .int x1), (2, .int x3)]) hx hb dX4_weigh_31 rfl hl (by decide) rfl (fun ls hl => ?_)
        refine lv_aload_n hx hb dX4_weigh_32 rfl (lv_at hl 1 rfl) ?_
        refine g_getr hC hW (o := o0) (ci := 4) (k := 2) ho0 (zc_lt ho0) rfl hi4 (by decide) rfl (t := (o0 + 3)) (zc_o4_2 ho0).1 (by decide +kernel) dX4_weigh_33 ?_
        refine lv_iload_n hx hb dX4_weigh_36 rfl (lv_at hl 3 rfl) ?_
        refine lv_bipush (v := 71) hx hb dX4_weigh_37 (by decide) ?_
        refine lv_iadd hx hb dX4_weigh_39 ?_
        refine lv_iload_n hx hb dX4_weigh_40 rfl (lv_at hl 0 rfl) ?_
        refine lv_iconst (v := (-1)) hx hb dX4_weigh_41 (by decide) ?_
        obtain ⟨z10, hg, hf⟩ := ob_inv hf
        have hJ65 : ∀ (H : Heap) (locs : List Loc) (ls : Array Slot), g_H ZC G s H locs m4 → lv_has ls 4 [(0, .ref (G.2.2.1 o0)), (1, .int x1), (2, .int x3)] → W p l e (headSpec wsX4_weigh rmX4_weigh).room s m ([.ref (G.2.2.1 o0)] : List Value).toArray below meth c H locs 0 0 Q (F0 m 65 ls [.int z10, .int (x3 + 71), .ref (G.2.2.1 (o0 + 3))]) := by
          intro H locs ls hW hl
          obtain ⟨m13, h9, hf⟩ := ob_inv hf
          refine g_ist hC hW (zc_o4_2 ho0).2.1 (zc_o4_2 ho0).2.2.1 (zc_o4_2 ho0).2.2.2 h9 dX4_weigh_65 (fun H locs hW => ?_)
          refine lv_iinc (v := (x3 + 1)) (lv' := [(2, .int (x3 + 1)), (0, .ref (G.2.2.1 o0)), (1, .int x1)]) hx hb dX4_weigh_66 hl (k := 2) rfl (congrArg (fun z => x3 + z) (by decide)) (by decide) rfl (fun ls hl => ?_)
          refine lv_goto (tgt := 21) hx hb dX4_weigh_69 (by decide) ?_
          exact ih _ _ _ _ _ _ _ hf hW (lv_sub hl [1, 2, 0] rfl) hE
        replace hf := hg
        refine lv_icmp_ne (tgt := 50) hx hb dX4_weigh_42 (by decide) (fun c9 => ?_) (fun c9 => ?_)
        · have hf := a_if_f c9 hf
          refine lv_aload_n hx hb dX4_weigh_50 rfl (lv_at hl 1 rfl) ?_
          refine g_getr hC hW (o := o0) (ci := 4) (k := 1) ho0 (zc_lt ho0) rfl hi4 (by decide) rfl (t := (o0 + 2)) (zc_o4_1 ho0).1 (by decide +kernel) dX4_weigh_51 ?_
          refine lv_iload_n hx hb dX4_weigh_54 rfl (lv_at hl 0 rfl) ?_
          obtain ⟨v11, h9, hf⟩ := ob_inv hf
          refine g_ild hC hW (zc_o4_1 ho0).2.1 (zc_o4_1 ho0).2.2.1 (zc_o4_1 ho0).2.2.2 h9 dX4_weigh_55 ?_
          refine lv_aload_n hx hb dX4_weigh_56 rfl (lv_at hl 1 rfl) ?_
          refine g_getr hC hW (o := o0) (ci := 4) (k := 0) ho0 (zc_lt ho0) rfl hi4 (by decide) rfl (t := (o0 + 1)) (zc_o4_0 ho0).1 (by decide +kernel) dX4_weigh_57 ?_
          refine lv_iload_n hx hb dX4_weigh_60 rfl (lv_at hl 0 rfl) ?_
          refine lv_iload_n hx hb dX4_weigh_61 rfl (lv_at hl 3 rfl) ?_
          refine lv_iadd hx hb dX4_weigh_62 ?_
          obtain ⟨v12, h9, hf⟩ := ob_inv hf
          refine g_ild hC hW (zc_o4_0 ho0).2.1 (zc_o4_0 ho0).2.2.1 (zc_o4_0 ho0).2.2.2 h9 dX4_weigh_63 ?_
          refine lv_isub hx hb dX4_weigh_64 ?_
          cases hf
          exact hJ65 H locs ls hW (lv_sub hl [1, 2, 3] rfl)
        · have hf := a_if_t c9 hf
          refine lv_ldc (v := (-1000000000)) hx hb hown (hts _ (by decide +kernel : Cond.constant RX4 67 (-1000000000) ∈ wsX4_weigh)) dX4_weigh_45 ?_
          refine lv_goto (tgt := 65) hx hb dX4_weigh_47 (by decide) ?_
          cases hf
          exact hJ65 H locs ls hW (lv_sub hl [1, 2, 3] rfl)
  obtain ⟨⟨y5, m6⟩, hg, hf⟩ := ob_inv hf
  have hf := ob_inv2 hf
  refine hL21 _ _ _ _ _ _ _ _ hg hW (lv_sub hl [2, 1, 0] rfl) (fun H locs ls hW hl => ?_)
  cases hf
  subst hQ
  exact g_vret hC hW hr hlocks rfl dX4_weigh_72
abbrev rmX4_worthOf : Room := { frames := 0, cells := 0, slots := 0, locals := 0 }
set_option maxHeartbeats 4000000 in
set_option maxRecDepth 100000 in
theorem c_X4_worthOf (l : Launch) (G : gG) {o0 : Nat} {p1 : Int32} {me : gM} {r0 : Int32}  (ho0 : ZC.2.1 o0 = 5) (hf : f_X4_worthOf o0 p1 me = some r0) : Met l yX4_worthOf wsX4_worthOf rmX4_worthOf (va_Pc [.ref (G.2.2.1 o0), .int p1] (g_W ZC G me)) (g_Qi ZC G r0 me) 0 0 (g_A ZC G) := by
  refine Met.ofW (cc := cX4_worthOf) (maxL := 2) (ret := (some .int)) (by decide) rfl ?_
  intro p e s m args below meth c s₁ B hml hv
  obtain ⟨rfl, hW0⟩ := hv
  have hC : CallFix p m c cX4_worthOf 2 s ([.ref (G.2.2.1 o0), .int p1] : List Value).toArray wsX4_worthOf RX4 := ⟨B.exec, B.bytes, hml, findClass_of_methodNamed B.named, atoms_spec (ws := wsX4_worthOf) B.pre⟩
  have hx := hC.1
  have hb := hC.2.1
  have hown := hC.2.2.2.1
  have hts := hC.2.2.2.2
  have hr := B.returns
  have hlocks := B.notSynchronized
  have hW := g_H_enter hW0
  have hi4 : ∀ w ∈ wsX40, w ∈ wsX4_worthOf := by decide +kernel
  have hl := lv_entry ([.ref (G.2.2.1 o0), .int p1]) (n := 2) (Nat.le_of_ble_eq_true rfl)
  rw [lg_entry_eq]
  generalize (lg_sl ([.ref (G.2.2.1 o0), .int p1]) ++ List.replicate (2 - (lg_sl ([.ref (G.2.2.1 o0), .int p1])).length) Slot.unset).toArray = ls at hl ⊢
  have hl : lv_has ls 2 [(0, .ref (G.2.2.1 o0)), (1, .int p1)] := hl
  obtain ⟨Q, hQ⟩ : ∃ Q, Q = MQ below (g_Qi ZC G r0 me) ([.ref (G.2.2.1 o0), .int p1] : List Value).toArray s 0 0 (g_A ZC G) := ⟨_, rfl⟩
  refine g_goQ hQ ?_
  unfold f_X4_worthOf at hf
  refine g_start hW (fun H locs hW => ?_)
  refine lv_iload_n hx hb dX4_worthOf_0 rfl (lv_at hl 1 rfl) ?_
  refine lv_aload_n hx hb dX4_worthOf_1 rfl (lv_at hl 0 rfl) ?_
  refine g_geti hC hW (o := o0) (ci := 4) (k := 4) ho0 (zc_lt ho0) rfl hi4 (by decide) rfl (by decide +kernel) dX4_worthOf_2 ?_
  refine lv_ineg hx hb dX4_worthOf_5 ?_
  refine lv_icmp_lt (tgt := 29) hx hb dX4_worthOf_6 (by decide) (fun c1 => ?_) (fun c1 => ?_)
  · have hf := a_if_t c1 hf
    refine lv_ldc (v := (-1000000000)) hx hb hown (hts _ (by decide +kernel : Cond.constant RX4 67 (-1000000000) ∈ wsX4_worthOf)) dX4_worthOf_29 ?_
    cases hf
    subst hQ
    exact g_iret hC hW hr hlocks rfl rfl dX4_worthOf_31
  · have hf := a_if_f c1 hf
    refine lv_iload_n hx hb dX4_worthOf_9 rfl (lv_at hl 1 rfl) ?_
    refine lv_aload_n hx hb dX4_worthOf_10 rfl (lv_at hl 0 rfl) ?_
    refine g_geti hC hW (o := o0) (ci := 4) (k := 3) ho0 (zc_lt ho0) rfl hi4 (by decide) rfl (by decide +kernel) dX4_worthOf_11 ?_
    refine lv_icmp_gt (tgt := 29) hx hb dX4_worthOf_14 (by decide) (fun c2 => ?_) (fun c2 => ?_)
    · have hf := a_if_t c2 hf
      refine lv_ldc (v := (-1000000000)) hx hb hown (hts _ (by decide +kernel : Cond.constant RX4 67 (-1000000000) ∈ wsX4_worthOf)) dX4_worthOf_29 ?_
      cases hf
      subst hQ
      exact g_iret hC hW hr hlocks rfl rfl dX4_worthOf_31
    · have hf := a_if_f c2 hf
      refine lv_iload_n hx hb dX4_worthOf_17 rfl (lv_at hl 1 rfl) ?_
      refine lv_bipush (v := (-71)) hx hb dX4_worthOf_18 (by decide) ?_
      refine lv_icmp_lt (tgt := 29) hx hb dX4_worthOf_20 (by decide) (fun c3 => ?_) (fun c3 => ?_)
      · have hf := a_if_t c3 hf
        refine lv_ldc (v := (-1000000000)) hx hb hown (hts _ (by decide +kernel : Cond.constant RX4 67 (-1000000000) ∈ wsX4_worthOf)) dX4_worthOf_29 ?_
        cases hf
        subst hQ
        exact g_iret hC hW hr hlocks rfl rfl dX4_worthOf_31
      · have hf := a_if_f c3 hf
        refine lv_iload_n hx hb dX4_worthOf_23 rfl (lv_at hl 1 rfl) ?_
        refine lv_bipush (v := 71) hx hb dX4_worthOf_24 (by decide) ?_
        refine lv_icmp_le (tgt := 32) hx hb dX4_worthOf_26 (by decide) (fun c4 => ?_) (fun c4 => ?_)
        · have hf := a_if_t c4 hf
          refine lv_aload_n hx hb dX4_worthOf_32 rfl (lv_at hl 0 rfl) ?_
          refine g_getr hC hW (o := o0) (ci := 4) (k := 2) ho0 (zc_lt ho0) rfl hi4 (by decide) rfl (t := (o0 + 3)) (zc_o4_2 ho0).1 (by decide +kernel) dX4_worthOf_33 ?_
          refine lv_iload_n hx hb dX4_worthOf_36 rfl (lv_at hl 1 rfl) ?_
          refine lv_bipush (v := 71) hx hb dX4_worthOf_37 (by decide) ?_
          refine lv_iadd hx hb dX4_worthOf_39 ?_
          obtain ⟨v5, h9, hf⟩ := ob_inv hf
          refine g_ild hC hW (zc_o4_2 ho0).2.1 (zc_o4_2 ho0).2.2.1 (zc_o4_2 ho0).2.2.2 h9 dX4_worthOf_40 ?_
          cases hf
          subst hQ
          exact g_iret hC hW hr hlocks rfl rfl dX4_worthOf_41
        · have hf := a_if_f c4 hf
          refine lv_ldc (v := (-1000000000)) hx hb hown (hts _ (by decide +kernel : Cond.constant RX4 67 (-1000000000) ∈ wsX4_worthOf)) dX4_worthOf_29 ?_
          cases hf
          subst hQ
          exact g_iret hC hW hr hlocks rfl rfl dX4_worthOf_31
