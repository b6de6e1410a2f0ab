def f_X7_draw_L2 (o1 : Nat) (p2 : Int32) : Nat → Int32 → gM → Option (Int32 × gM)
  | 0, _, _ => none
  | n + 1, x1, m2 =>
    if 3 ≤ x1 then
      some (x1, m2)
    else
      ob (a_rf 3 27 4 x1) fun d6 =>
      ob (f_X4_draw d6 o1 x1 p2 m2) fun m7 =>
      f_X7_draw_L2 o1 p2 n (x1 + 1) m7
def f_X7_draw (o1 : Nat) (p2 : Int32) (me : gM) : Option (gM) :=
  ob (f_X7_draw_L2 o1 p2 f_fuel 0 me) fun t8 =>
  ob (some t8.1) fun y3 =>
  ob (some t8.2) fun m4 =>
  some m4
def f_X7_weighBids_L2  : Nat → Int32 → gM → Option (Int32 × gM)
  | 0, _, _ => none
  | n + 1, x1, m2 =>
    if 3 ≤ x1 then
      some (x1, m2)
    else
      ob (a_rf 3 27 4 x1) fun d6 =>
      ob (f_X4_weigh d6 m2) fun m7 =>
      f_X7_weighBids_L2  n (x1 + 1) m7
def f_X7_weighBids (me : gM) : Option (gM) :=
  ob (f_X7_weighBids_L2  f_fuel 0 me) fun t8 =>
  ob (some t8.1) fun y3 =>
  ob (some t8.2) fun m4 =>
  some m4
def f_X7_mostNet (p1 : Int32) (me : gM) : Option (Int32) :=
  ob (a_ld 3 24 p1 me) fun v1 =>
  ob (a_rf 3 27 4 p1) fun d2 =>
  some (a_min 20 ((v1 + (me d2 3)) + 1))
def f_X7_leastNet (p1 : Int32) (me : gM) : Option (Int32) :=
  ob (a_ld 3 24 p1 me) fun v1 =>
  ob (a_rf 3 27 4 p1) fun d2 =>
  some (a_max (-20) (v1 - (me d2 4)))
def f_X7_together (p0 : Int32) (p1 : Int32) (p2 : Int32) : Option (Int32) :=
  if p0 = (-1000000000) then
    some (-1000000000)
  else
    if p1 = (-1000000000) then
      some (-1000000000)
    else
      if p2 = (-1000000000) then
        some (-1000000000)
      else
        some ((p0 + p1) + p2)
def f_X7_consider (p1 : Int32) (p2 : Int32) (p3 : Int32) (me : gM) : Option (gM) :=
  ob (a_ld 3 24 0 me) fun v1 =>
  ob (some (p1 - v1)) fun (x2 : Int32) =>
  ob (a_ld 3 24 1 me) fun v3 =>
  ob (some (p2 - v3)) fun (x4 : Int32) =>
  ob (a_ld 3 24 2 me) fun v5 =>
  ob (some (p3 - v5)) fun (x6 : Int32) =>
  ob (a_rf 3 27 4 0) fun d7 =>
  ob (f_X4_worthOf d7 x2 me) fun r8 =>
  ob (a_rf 3 27 4 1) fun d9 =>
  ob (f_X4_worthOf d9 x4 me) fun r10 =>
  ob (a_rf 3 27 4 2) fun d11 =>
  ob (f_X4_worthOf d11 x6 me) fun r12 =>
  ob (a_ld 3 26 0 me) fun v13 =>
  ob (a_rf 3 27 4 0) fun d14 =>
  ob (f_X4_worthOf d14 (x2 - 1) me) fun r15 =>
  ob (f_X7_together r15 r10 r12) fun r16 =>
  ob (a_st 3 26 0 (a_max v13 r16) me) fun m17 =>
  ob (a_ld 3 26 1 m17) fun v18 =>
  ob (a_rf 3 27 4 1) fun d19 =>
  ob (f_X4_worthOf d19 (x4 - 1) m17) fun r20 =>
  ob (f_X7_together r8 r20 r12) fun r21 =>
  ob (a_st 3 26 1 (a_max v18 r21) m17) fun m22 =>
  ob (a_ld 3 26 2 m22) fun v23 =>
  ob (a_rf 3 27 4 2) fun d24 =>
  ob (f_X4_worthOf d24 (x6 - 1) m22) fun r25 =>
  ob (f_X7_together r8 r10 r25) fun r26 =>
  ob (a_st 3 26 2 (a_max v23 r26) m22) fun m27 =>
  ob (f_X7_together r8 r10 r12) fun r28 =>
  ob (some (((a_abs (p1 - p2)) + (a_abs (p2 - p3))) + (a_abs (p1 - p3)))) fun (x29 : Int32) =>
  ob (if r28 = (-1000000000) then
      some m27
    else
      if (m27 22 4) < r28 then
        ob (some (g_up m27 22 (upd (m27 22) 4 r28))) fun m33 =>
        ob (some (g_up m33 22 (upd (m33 22) 5 x29))) fun m34 =>
        ob (a_st 3 25 0 p1 m34) fun m35 =>
        ob (a_st 3 25 1 p2 m35) fun m36 =>
        ob (a_st 3 25 2 p3 m36) fun m37 =>
        some m37
      else
        if r28 = (m27 22 4) then
          if (m27 22 5) ≤ x29 then
            some m27
          else
            ob (some (g_up m27 22 (upd (m27 22) 4 r28))) fun m40 =>
            ob (some (g_up m40 22 (upd (m40 22) 5 x29))) fun m41 =>
            ob (a_st 3 25 0 p1 m41) fun m42 =>
            ob (a_st 3 25 1 p2 m42) fun m43 =>
            ob (a_st 3 25 2 p3 m43) fun m44 =>
            some m44
        else
          some m27) fun (m31 : gM) =>
  some m31
def f_X7_search_L9 (p3 : Int32) : Nat → Int32 → gM → Option (Int32 × gM)
  | 0, _, _ => none
  | n + 1, x2, m3 =>
    if 3 ≤ x2 then
      some (x2, m3)
    else
      ob (f_X2_unitsOf p3 x2 m3) fun r7 =>
      ob (a_st 3 24 x2 r7 m3) fun m8 =>
      ob (a_st 3 25 x2 0 m8) fun m9 =>
      ob (a_st 3 26 x2 (-1000000000) m9) fun m10 =>
      f_X7_search_L9 p3 n (x2 + 1) m10
def f_X7_search_L87 (r12 : Int32) (x14 : Int32) : Nat → Int32 → gM → Option (Int32 × gM)
  | 0, _, _ => none
  | n + 1, x20, m21 =>
    if r12 < x20 then
      some (x20, m21)
    else
      ob (f_X6_allows x14 x20 ((-x14) - x20) m21) fun r25 =>
      ob (if r25 = 0 then
          some m21
        else
          ob (f_X7_consider x14 x20 ((-x14) - x20) m21) fun m28 =>
          some m28) fun (m27 : gM) =>
      f_X7_search_L87 r12 x14 n (x20 + 1) m27
def f_X7_search_L73 (r11 : Int32) (r12 : Int32) : Nat → Int32 → gM → Option (Int32 × gM)
  | 0, _, _ => none
  | n + 1, x14, m15 =>
    if r11 < x14 then
      some (x14, m15)
    else
      ob (f_X7_leastNet 1 m15) fun r19 =>
      ob (f_X7_search_L87 r12 x14 f_fuel r19 m15) fun t29 =>
      ob (some t29.1) fun y22 =>
      ob (some t29.2) fun m23 =>
      f_X7_search_L73 r11 r12 n (x14 + 1) m23
def f_X7_search (p3 : Int32) (me : gM) : Option (gM) :=
  ob (some (g_up me 22 (upd (me 22) 4 (-1000000000)))) fun m1 =>
  ob (f_X7_search_L9 p3 f_fuel 0 m1) fun t31 =>
  ob (some t31.1) fun y4 =>
  ob (some t31.2) fun m5 =>
  ob (f_X7_mostNet 0 m5) fun r11 =>
  ob (f_X7_mostNet 1 m5) fun r12 =>
  ob (f_X7_leastNet 0 m5) fun r13 =>
  ob (f_X7_search_L73 r11 r12 f_fuel r13 m5) fun t30 =>
  ob (some t30.1) fun y16 =>
  ob (some t30.2) fun m17 =>
  some m17
def f_X7_priceOf (p1 : Int32) (me : gM) : Option (Int32) :=
  ob (if (me 22 4) = (-1000000000) then
      some 0
    else
      ob (a_ld 3 26 p1 me) fun v3 =>
      if (me 22 4) ≤ v3 then
        ob (a_ld 3 26 p1 me) fun v5 =>
        some (v5 - (me 22 4))
      else
        some 0) fun (z2 : Int32) =>
  some z2
abbrev rmX7_draw : Room := { frames := 2, cells := 0, slots := 0, locals := 50 }
set_option maxHeartbeats 4000000 in
set_option maxRecDepth 100000 in
theorem c_X7_draw (l : Launch) (G : gG) {o1 : Nat} {p2 : Int32} {me : gM} {m0 : gM}  (ho1 : ZC.2.1 o1 = 9) (hf : f_X7_draw o1 p2 me = some m0) : Met l yX7_draw wsX7_draw rmX7_draw (va_Pc [.ref (G.2.2.1 22), .ref (G.2.2.1 o1), .int p2] (g_W ZC G me)) (g_Qv ZC G m0) 0 0 (g_A ZC G) := by
  refine Met.ofW (cc := cX7_draw) (maxL := 4) (ret := none) (by decide) rfl ?_
  intro p e s m args below meth c s₁ B hml hv
  obtain ⟨rfl, hW0⟩ := hv
  have hC : CallFix p m c cX7_draw 4 s ([.ref (G.2.2.1 22), .ref (G.2.2.1 o1), .int p2] : List Value).toArray wsX7_draw RX7 := ⟨B.exec, B.bytes, hml, findClass_of_methodNamed B.named, atoms_spec (ws := wsX7_draw) B.pre⟩
  have hx := hC.1
  have hb := hC.2.1
  have hown := hC.2.2.2.1
  have hts := hC.2.2.2.2
  have hr := B.returns
  have hlocks := B.notSynchronized
  have hW := g_H_enter hW0
  have hi7 : ∀ w ∈ wsX70, w ∈ wsX7_draw := by decide +kernel
  have hl := lv_entry ([.ref (G.2.2.1 22), .ref (G.2.2.1 o1), .int p2]) (n := 4) (Nat.le_of_ble_eq_true rfl)
  rw [lg_entry_eq]
  generalize (lg_sl ([.ref (G.2.2.1 22), .ref (G.2.2.1 o1), .int p2]) ++ List.replicate (4 - (lg_sl ([.ref (G.2.2.1 22), .ref (G.2.2.1 o1), .int p2])).length) Slot.unset).toArray = ls at hl ⊢
  have hl : lv_has ls 4 [(0, .ref (G.2.2.1 22)), (1, .ref (G.2.2.1 o1)), (2, .int p2)] := hl
  obtain ⟨Q, hQ⟩ : ∃ Q, Q = MQ below (g_Qv ZC G m0) ([.ref (G.2.2.1 22), .ref (G.2.2.1 o1), .int p2] : List Value).toArray s 0 0 (g_A ZC G) := ⟨_, rfl⟩
  refine g_goQ hQ ?_
  unfold f_X7_draw at hf
  refine g_start hW (fun H locs hW => ?_)
  refine lv_iconst (v := 0) hx hb dX7_draw_0 (by decide) ?_
  refine lv_istore_n (lv' := [(3, .int 0), (0, .ref (G.2.2.1 22)), (1, .ref (G.2.2.1 o1)), (2, .int p2)]) hx hb dX7_draw_1 rfl hl (by decide) rfl (fun ls hl => ?_)
  have hL2 : ∀ (n : Nat) (x1 : Int32) (m2 : gM) (y3 : Int32) (m4 : gM) (H : Heap) (locs : List Loc) (ls : Array Slot), f_X7_draw_L2 o1 p2 n x1 m2 = some (y3, m4) → g_H ZC G s H locs m2 → lv_has ls 4 [(0, .ref (G.2.2.1 22)), (1, .ref (G.2.2.1 o1)), (2, .int p2), (3, .int x1)] → (∀ (H : Heap) (locs : List Loc) (ls : Array Slot), g_H ZC G s H locs m4 → lv_has ls 4 [] → W p l e (headSpec wsX7_draw rmX7_draw).room s m ([.ref (G.2.2.1 22), .ref (G.2.2.1 o1), .int p2] : List Value).toArray below meth c H locs 0 0 Q (F0 m 25 ls [])) → W p l e (headSpec wsX7_draw rmX7_draw).room s m ([.ref (G.2.2.1 22), .ref (G.2.2.1 o1), .int p2] : List Value).toArray below meth c H locs 0 0 Q (F0 m 2 ls []) := by
    intro n
    induction n with
    | zero =>
      intro x1 m2 y3 m4 H locs ls hf hW hl hE
      cases hf
    | succ n ih =>
      intro x1 m2 y3 m4 H locs ls hf hW hl hE
      rw [f_X7_draw_L2] at hf
      refine lv_iload_n hx hb dX7_draw_2 rfl (lv_at hl 3 rfl) ?_
      refine lv_iconst (v := 3) hx hb dX7_draw_3 (by decide) ?_
      refine lv_icmp_ge (tgt := 25) hx hb dX7_draw_4 (by decide) (fun c5 => ?_) (fun c5 => ?_)
      · have hf := a_if_t c5 hf
        cases hf
        exact hE H locs ls hW (lv_sub hl [] rfl)
      · have hf := a_if_f c5 hf
        refine lv_aload_n hx hb dX7_draw_7 rfl (lv_at hl 0 rfl) ?_
        refine g_getr hC hW (o := 22) (ci := 7) (k := 0) zc_k22 zc_b22 rfl hi7 (by decide) rfl (t := 23) zc_r22_0 (by decide +kernel) dX7_draw_8 ?_
        refine lv_iload_n hx hb dX7_draw_11 rfl (lv_at hl 3 rfl) ?_
        obtain ⟨d6, h9, hf⟩ := ob_inv hf
        have hd6 := zc_rk4 h9
        refine g_rldC hC hW zc_k23 zc_b23 zc_n23 zc_rr4 h9 dX7_draw_12 ?_
        refine lv_aload_n hx hb dX7_draw_13 rfl (lv_at hl 1 rfl) ?_
        refine lv_iload_n hx hb dX7_draw_14 rfl (lv_at hl 3 rfl) ?_
        refine lv_iload_n hx hb dX7_draw_15 rfl (lv_at hl 2 rfl) ?_
        obtain ⟨m7, hg, hf⟩ := ob_inv hf
        refine g_cVv hC hW (o := d6) (ci := 4) (As := [.ref (G.2.2.1 o1), .int x1, .int p2]) (rest := []) hd6 (zc_lt hd6) rfl (c_X4_draw l G hd6 ho1 hg) (cwV 3 hts gX7_draw_X4_draw rfl rfl rfl (by decide +kernel) ⟨Nat.le_of_ble_eq_true rfl, Nat.le_of_ble_eq_true rfl⟩) rfl hl.1 rfl (Nat.le_of_ble_eq_true rfl) dX7_draw_16 ⟨Nat.le_of_ble_eq_true rfl, Nat.le_of_ble_eq_true rfl⟩ (fun H locs hW => ?_)
        refine lv_iinc (v := (x1 + 1)) (lv' := [(3, .int (x1 + 1)), (0, .ref (G.2.2.1 22)), (1, .ref (G.2.2.1 o1)), (2, .int p2)]) hx hb dX7_draw_19 hl (k := 3) rfl (congrArg (fun z => x1 + z) (by decide)) (by decide) rfl (fun ls hl => ?_)
        refine lv_goto (tgt := 2) hx hb dX7_draw_22 (by decide) ?_
        exact ih _ _ _ _ _ _ _ hf hW (lv_sub hl [1, 2, 3, 0] rfl) hE
  obtain ⟨⟨y3, m4⟩, hg, hf⟩ := ob_inv hf
  have hf := ob_inv2 hf
  refine hL2 _ _ _ _ _ _ _ _ hg hW (lv_sub hl [1, 2, 3, 0] rfl) (fun H locs ls hW hl => ?_)
  cases hf
  subst hQ
  exact g_vret hC hW hr hlocks rfl dX7_draw_25
abbrev rmX7_weighBids : Room := { frames := 3, cells := 0, slots := 0, locals := 67 }
set_option maxHeartbeats 4000000 in
set_option maxRecDepth 100000 in
theorem c_X7_weighBids (l : Launch) (G : gG)  {me : gM} {m0 : gM}  (hf : f_X7_weighBids me = some m0) : Met l yX7_weighBids wsX7_weighBids rmX7_weighBids (va_Pc [.ref (G.2.2.1 22)] (g_W ZC G me)) (g_Qv ZC G m0) 0 0 (g_A ZC G) := by
  refine Met.ofW (cc := cX7_weighBids) (maxL := 2) (ret := none) (by decide) rfl ?_
  intro p e s m args below meth c s₁ B hml hv
  obtain ⟨rfl, hW0⟩ := hv
  have hC : CallFix p m c cX7_weighBids 2 s ([.ref (G.2.2.1 22)] : List Value).toArray wsX7_weighBids RX7 := ⟨B.exec, B.bytes, hml, findClass_of_methodNamed B.named, atoms_spec (ws := wsX7_weighBids) B.pre⟩
  have hx := hC.1
  have hb := hC.2.1
  have hown := hC.2.2.2.1
  have hts := hC.2.2.2.2
  have hr := B.returns
  have hlocks := B.notSynchronized
  have hW := g_H_enter hW0
  have hi7 : ∀ w ∈ wsX70, w ∈ wsX7_weighBids := by decide +kernel
  have hl := lv_entry ([.ref (G.2.2.1 22)]) (n := 2) (Nat.le_of_ble_eq_true rfl)
  rw [lg_entry_eq]
  generalize (lg_sl ([.ref (G.2.2.1 22)]) ++ List.replicate (2 - (lg_sl ([.ref (G.2.2.1 22)])).length) Slot.unset).toArray = ls at hl ⊢
  have hl : lv_has ls 2 [(0, .ref (G.2.2.1 22))] := hl
  obtain ⟨Q, hQ⟩ : ∃ Q, Q = MQ below (g_Qv ZC G m0) ([.ref (G.2.2.1 22)] : List Value).toArray s 0 0 (g_A ZC G) := ⟨_, rfl⟩
  refine g_goQ hQ ?_
  unfold f_X7_weighBids at hf
  refine g_start hW (fun H locs hW => ?_)
  refine lv_iconst (v := 0) hx hb dX7_weighBids_0 (by decide) ?_
  refine lv_istore_n (lv' := [(1, .int 0), (0, .ref (G.2.2.1 22))]) hx hb dX7_weighBids_1 rfl hl (by decide) rfl (fun ls hl => ?_)
  have hL2 : ∀ (n : Nat) (x1 : Int32) (m2 : gM) (y3 : Int32) (m4 : gM) (H : Heap) (locs : List Loc) (ls : Array Slot), f_X7_weighBids_L2  n x1 m2 = some (y3, m4) → g_H ZC G s H locs m2 → lv_has ls 2 [(0, .ref (G.2.2.1 22)), (1, .int x1)] → (∀ (H : Heap) (locs : List Loc) (ls : Array Slot), g_H ZC G s H locs m4 → lv_has ls 2 [] → W p l e (headSpec wsX7_weighBids rmX7_weighBids).room s m ([.ref (G.2.2.1 22)] : List Value).toArray below meth c H locs 0 0 Q (F0 m 22 ls [])) → W p l e (headSpec wsX7_weighBids rmX7_weighBids).room s m ([.ref (G.2.2.1 22)] : List Value).toArray below meth c H locs 0 0 Q (F0 m 2 ls []) := by
    intro n
    induction n with
    | zero =>
      intro x1 m2 y3 m4 H locs ls hf hW hl hE
      cases hf
    | succ n ih =>
      intro x1 m2 y3 m4 H locs ls hf hW hl hE
      rw [f_X7_weighBids_L2] at hf
      refine lv_iload_n hx hb dX7_weighBids_2 rfl (lv_at hl 1 rfl) ?_
      refine lv_iconst (v := 3) hx hb dX7_weighBids_3 (by decide) ?_
      refine lv_icmp_ge (tgt := 22) hx hb dX7_weighBids_4 (by decide) (fun c5 => ?_) (fun c5 => ?_)
      · have hf := a_if_t c5 hf
        cases hf
        exact hE H locs ls hW (lv_sub hl [] rfl)
      · have hf := a_if_f c5 hf
        refine lv_aload_n hx hb dX7_weighBids_7 rfl (lv_at hl 0 rfl) ?_
        refine g_getr hC hW (o := 22) (ci := 7) (k := 0) zc_k22 zc_b22 rfl hi7 (by decide) rfl (t := 23) zc_r22_0 (by decide +kernel) dX7_weighBids_8 ?_
        refine lv_iload_n hx hb dX7_weighBids_11 rfl (lv_at hl 1 rfl) ?_
        obtain ⟨d6, h9, hf⟩ := ob_inv hf
        have hd6 := zc_rk4 h9
        refine g_rldC hC hW zc_k23 zc_b23 zc_n23 zc_rr4 h9 dX7_weighBids_12 ?_
        obtain ⟨m7, hg, hf⟩ := ob_inv hf
        refine g_cVv hC hW (o := d6) (ci := 4) (As := []) (rest := []) hd6 (zc_lt hd6) rfl (c_X4_weigh l G hd6 hg) (cwV 0 hts gX7_weighBids_X4_weigh rfl rfl rfl (by decide +kernel) ⟨Nat.le_of_ble_eq_true rfl, Nat.le_of_ble_eq_true rfl⟩) rfl hl.1 rfl (Nat.le_of_ble_eq_true rfl) dX7_weighBids_13 ⟨Nat.le_of_ble_eq_true rfl, Nat.le_of_ble_eq_true rfl⟩ (fun H locs hW => ?_)
        refine lv_iinc (v := (x1 + 1)) (lv' := [(1, .int (x1 + 1)), (0, .ref (G.2.2.1 22))]) hx hb dX7_weighBids_16 hl (k := 1) rfl (congrArg (fun z => x1 + z) (by decide)) (by decide) rfl (fun ls hl => ?_)
        refine lv_goto (tgt := 2) hx hb dX7_weighBids_19 (by decide) ?_
        exact ih _ _ _ _ _ _ _ hf hW (lv_sub hl [1, 0] rfl) hE
  obtain ⟨⟨y3, m4⟩, hg, hf⟩ := ob_inv hf
  have hf := ob_inv2 hf
  refine hL2 _ _ _ _ _ _ _ _ hg hW (lv_sub hl [1, 0] rfl) (fun H locs ls hW hl => ?_)
  cases hf
  subst hQ
  exact g_vret hC hW hr hlocks rfl dX7_weighBids_22
abbrev rmX7_mostNet : Room := { frames := 1, cells := 0, slots := 0, locals := 21 }
set_option maxHeartbeats 4000000 in
set_option maxRecDepth 100000 in
theorem c_X7_mostNet (l : Launch) (G : gG) {p1 : Int32} {me : gM} {r0 : Int32}  (hf : f_X7_mostNet p1 me = some r0) : Met l yX7_mostNet wsX7_mostNet rmX7_mostNet (va_Pc [.ref (G.2.2.1 22), .int p1] (g_W ZC G me)) (g_Qi ZC G r0 me) 0 0 (g_A ZC G) := by
  refine Met.ofW (cc := cX7_mostNet) (maxL := 2) (ret := (some .int)) (by decide) rfl ?_
  intro p e s m args below meth c s₁ B hml hv
  obtain ⟨rfl, hW0⟩ := hv
  have hC : CallFix p m c cX7_mostNet 2 s ([.ref (G.2.2.1 22), .int p1] : List Value).toArray wsX7_mostNet RX7 := ⟨B.exec, B.bytes, hml, findClass_of_methodNamed B.named, atoms_spec (ws := wsX7_mostNet) B.pre⟩
  have hx := hC.1
  have hb := hC.2.1
  have hown := hC.2.2.2.1
  have hts := hC.2.2.2.2
  have hr := B.returns
  have hlocks := B.notSynchronized
  have hW := g_H_enter hW0
  have hi4 : ∀ w ∈ wsX40, w ∈ wsX7_mostNet := by decide +kernel
  have hi7 : ∀ w ∈ wsX70, w ∈ wsX7_mostNet := by decide +kernel
  have hl := lv_entry ([.ref (G.2.2.1 22), .int p1]) (n := 2) (Nat.le_of_ble_eq_true rfl)
  rw [lg_entry_eq]
  generalize (lg_sl ([.ref (G.2.2.1 22), .int p1]) ++ List.replicate (2 - (lg_sl ([.ref (G.2.2.1 22), .int p1])).length) Slot.unset).toArray = ls at hl ⊢
  have hl : lv_has ls 2 [(0, .ref (G.2.2.1 22)), (1, .int p1)] := hl
  obtain ⟨Q, hQ⟩ : ∃ Q, Q = MQ below (g_Qi ZC G r0 me) ([.ref (G.2.2.1 22), .int p1] : List Value).toArray s 0 0 (g_A ZC G) := ⟨_, rfl⟩
  refine g_goQ hQ ?_
  unfold f_X7_mostNet at hf
  refine g_start hW (fun H locs hW => ?_)
  refine lv_bipush (v := 20) hx hb dX7_mostNet_0 (by decide) ?_
  refine lv_aload_n hx hb dX7_mostNet_2 rfl (lv_at hl 0 rfl) ?_
  refine g_getr hC hW (o := 22) (ci := 7) (k := 1) zc_k22 zc_b22 rfl hi7 (by decide) rfl (t := 24) zc_r22_1 (by decide +kernel) dX7_mostNet_3 ?_
  refine lv_iload_n hx hb dX7_mostNet_6 rfl (lv_at hl 1 rfl) ?_
  obtain ⟨v1, h9, hf⟩ := ob_inv hf
  refine g_ild hC hW zc_k24 zc_b24 zc_n24 h9 dX7_mostNet_7 ?_
  refine lv_aload_n hx hb dX7_mostNet_8 rfl (lv_at hl 0 rfl) ?_
  refine g_getr hC hW (o := 22) (ci := 7) (k := 0) zc_k22 zc_b22 rfl hi7 (by decide) rfl (t := 23) zc_r22_0 (by decide +kernel) dX7_mostNet_9 ?_
  refine lv_iload_n hx hb dX7_mostNet_12 rfl (lv_at hl 1 rfl) ?_
  obtain ⟨d2, h9, hf⟩ := ob_inv hf
  have hd2 := zc_rk4 h9
  refine g_rldC hC hW zc_k23 zc_b23 zc_n23 zc_rr4 h9 dX7_mostNet_13 ?_
  refine g_geti hC hW (o := d2) (ci := 4) (k := 3) hd2 (zc_lt hd2) rfl hi4 (by decide) rfl (by decide +kernel) dX7_mostNet_14 ?_
  refine lv_iadd hx hb dX7_mostNet_17 ?_
  refine lv_iconst (v := 1) hx hb dX7_mostNet_18 (by decide) ?_
  refine lv_iadd hx hb dX7_mostNet_19 ?_
  refine g_min hC hl.1 (by decide +kernel) (by decide +kernel) (by decide +kernel) (by decide +kernel) (Nat.le_of_ble_eq_true rfl) (Nat.le_of_ble_eq_true rfl) (Nat.le_of_ble_eq_true rfl) (Nat.le_of_ble_eq_true rfl) dX7_mostNet_20 ?_
  cases hf
  subst hQ
  exact g_iret hC hW hr hlocks rfl rfl dX7_mostNet_23
abbrev rmX7_leastNet : Room := { frames := 1, cells := 0, slots := 0, locals := 21 }
set_option maxHeartbeats 4000000 in
set_option maxRecDepth 100000 in
theorem c_X7_leastNet (l : Launch) (G : gG) {p1 : Int32} {me : gM} {r0 : Int32}  (hf : f_X7_leastNet p1 me = some r0) : Met l yX7_leastNet wsX7_leastNet rmX7_leastNet (va_Pc [.ref (G.2.2.1 22), .int p1] (g_W ZC G me)) (g_Qi ZC G r0 me) 0 0 (g_A ZC G) := by
  refine Met.ofW (cc := cX7_leastNet) (maxL := 2) (ret := (some .int)) (by decide) rfl ?_
  intro p e s m args below meth c s₁ B hml hv
  obtain ⟨rfl, hW0⟩ := hv
  have hC : CallFix p m c cX7_leastNet 2 s ([.ref (G.2.2.1 22), .int p1] : List Value).toArray wsX7_leastNet RX7 := ⟨B.exec, B.bytes, hml, findClass_of_methodNamed B.named, atoms_spec (ws := wsX7_leastNet) B.pre⟩
  have hx := hC.1
  have hb := hC.2.1
  have hown := hC.2.2.2.1
  have hts := hC.2.2.2.2
  have hr := B.returns
  have hlocks := B.notSynchronized
  have hW := g_H_enter hW0
  have hi4 : ∀ w ∈ wsX40, w ∈ wsX7_leastNet := by decide +kernel
  have hi7 : ∀ w ∈ wsX70, w ∈ wsX7_leastNet := by decide +kernel
  have hl := lv_entry ([.ref (G.2.2.1 22), .int p1]) (n := 2) (Nat.le_of_ble_eq_true rfl)
  rw [lg_entry_eq]
  generalize (lg_sl ([.ref (G.2.2.1 22), .int p1]) ++ List.replicate (2 - (lg_sl ([.ref (G.2.2.1 22), .int p1])).length) Slot.unset).toArray = ls at hl ⊢
  have hl : lv_has ls 2 [(0, .ref (G.2.2.1 22)), (1, .int p1)] := hl
  obtain ⟨Q, hQ⟩ : ∃ Q, Q = MQ below (g_Qi ZC G r0 me) ([.ref (G.2.2.1 22), .int p1] : List Value).toArray s 0 0 (g_A ZC G) := ⟨_, rfl⟩
  refine g_goQ hQ ?_
  unfold f_X7_leastNet at hf
  refine g_start hW (fun H locs hW => ?_)
  refine lv_bipush (v := (-20)) hx hb dX7_leastNet_0 (by decide) ?_
  refine lv_aload_n hx hb dX7_leastNet_2 rfl (lv_at hl 0 rfl) ?_
  refine g_getr hC hW (o := 22) (ci := 7) (k := 1) zc_k22 zc_b22 rfl hi7 (by decide) rfl (t := 24) zc_r22_1 (by decide +kernel) dX7_leastNet_3 ?_
  refine lv_iload_n hx hb dX7_leastNet_6 rfl (lv_at hl 1 rfl) ?_
  obtain ⟨v1, h9, hf⟩ := ob_inv hf
  refine g_ild hC hW zc_k24 zc_b24 zc_n24 h9 dX7_leastNet_7 ?_
  refine lv_aload_n hx hb dX7_leastNet_8 rfl (lv_at hl 0 rfl) ?_
  refine g_getr hC hW (o := 22) (ci := 7) (k := 0) zc_k22 zc_b22 rfl hi7 (by decide) rfl (t := 23) zc_r22_0 (by decide +kernel) dX7_leastNet_9 ?_
  refine lv_iload_n hx hb dX7_leastNet_12 rfl (lv_at hl 1 rfl) ?_
  obtain ⟨d2, h9, hf⟩ := ob_inv hf
  have hd2 := zc_rk4 h9
  refine g_rldC hC hW zc_k23 zc_b23 zc_n23 zc_rr4 h9 dX7_leastNet_13 ?_
  refine g_geti hC hW (o := d2) (ci := 4) (k := 4) hd2 (zc_lt hd2) rfl hi4 (by decide) rfl (by decide +kernel) dX7_leastNet_14 ?_
  refine lv_isub hx hb dX7_leastNet_17 ?_
  refine g_max hC hl.1 (by decide +kernel) (by decide +kernel) (by decide +kernel) (by decide +kernel) (Nat.le_of_ble_eq_true rfl) (Nat.le_of_ble_eq_true rfl) (Nat.le_of_ble_eq_true rfl) (Nat.le_of_ble_eq_true rfl) dX7_leastNet_18 ?_
  cases hf
  subst hQ
  exact g_iret hC hW hr hlocks rfl rfl dX7_leastNet_21
abbrev rmX7_together : Room := { frames := 0, cells := 0, slots := 0, locals := 0 }
set_option maxHeartbeats 4000000 in
set_option maxRecDepth 100000 in
theorem c_X7_together (l : Launch) (G : gG) {p0 : Int32} {p1 : Int32} {p2 : Int32} {me : gM} {r0 : Int32}  (hf : f_X7_together p0 p1 p2 = some r0) : Met l yX7_together wsX7_together rmX7_together (va_Pc [.int p0, .int p1, .int p2] (g_W ZC G me)) (g_Qi ZC G r0 me) 0 0 (g_A ZC G) := by
  refine Met.ofW (cc := cX7_together) (maxL := 3) (ret := (some .int)) (by decide) rfl ?_
  intro p e s m args below meth c s₁ B hml hv
  obtain ⟨rfl, hW0⟩ := hv
  have hC : CallFix p m c cX7_together 3 s ([.int p0, .int p1, .int p2] : List Value).toArray wsX7_together RX7 := ⟨B.exec, B.bytes, hml, findClass_of_methodNamed B.named, atoms_spec (ws := wsX7_together) B.pre⟩
  have hx := hC.1
  have hb := hC.2.1
  have hown := hC.2.2.2.1
  have hts := hC.2.2.2.2
  have hr := B.returns
  have hlocks := B.notSynchronized
  have hW := g_H_enter hW0
  have hl := lv_entry ([.int p0, .int p1, .int p2]) (n := 3) (Nat.le_of_ble_eq_true rfl)
  rw [lg_entry_eq]
  generalize (lg_sl ([.int p0, .int p1, .int p2]) ++ List.replicate (3 - (lg_sl ([.int p0, .int p1, .int p2])).length) Slot.unset).toArray = ls at hl ⊢
  have hl : lv_has ls 3 [(0, .int p0), (1, .int p1), (2, .int p2)] := hl
  obtain ⟨Q, hQ⟩ : ∃ Q, Q = MQ below (g_Qi ZC G r0 me) ([.int p0, .int p1, .int p2] : List Value).toArray s 0 0 (g_A ZC G) := ⟨_, rfl⟩
  refine g_goQ hQ ?_
  unfold f_X7_together at hf
  refine g_start hW (fun H locs hW => ?_)
  refine lv_iload_n hx hb dX7_together_0 rfl (lv_at hl 0 rfl) ?_
  refine lv_ldc (v := (-1000000000)) hx hb hown (hts _ (by decide +kernel : Cond.constant RX7 27 (-1000000000) ∈ wsX7_together)) dX7_together_1 ?_
  refine lv_icmp_eq (tgt := 18) hx hb dX7_together_3 (by decide) (fun c1 => ?_) (fun c1 => ?_)
  · have hf := a_if_t c1 hf
    refine lv_ldc (v := (-1000000000)) hx hb hown (hts _ (by decide +kernel : Cond.constant RX7 27 (-1000000000) ∈ wsX7_together)) dX7_together_18 ?_
    cases hf
    subst hQ
    exact g_iret hC hW hr hlocks rfl rfl dX7_together_20
  · have hf := a_if_f c1 hf
    refine lv_iload_n hx hb dX7_together_6 rfl (lv_at hl 1 rfl) ?_
    refine lv_ldc (v := (-1000000000)) hx hb hown (hts _ (by decide +kernel : Cond.constant RX7 27 (-1000000000) ∈ wsX7_together)) dX7_together_7 ?_
    refine lv_icmp_eq (tgt := 18) hx hb dX7_together_9 (by decide) (fun c2 => ?_) (fun c2 => ?_)
    · have hf := a_if_t c2 hf
      refine lv_ldc (v := (-1000000000)) hx hb hown (hts _ (by decide +kernel : Cond.constant RX7 27 (-1000000000) ∈ wsX7_together)) dX7_together_18 ?_
      cases hf
      subst hQ
      exact g_iret hC hW hr hlocks rfl rfl dX7_together_20
    · have hf := a_if_f c2 hf
      refine lv_iload_n hx hb dX7_together_12 rfl (lv_at hl 2 rfl) ?_
      refine lv_ldc (v := (-1000000000)) hx hb hown (hts _ (by decide +kernel : Cond.constant RX7 27 (-1000000000) ∈ wsX7_together)) dX7_together_13 ?_
      refine lv_icmp_ne (tgt := 21) hx hb dX7_together_15 (by decide) (fun c3 => ?_) (fun c3 => ?_)
      · have hf := a_if_f c3 hf
        refine lv_iload_n hx hb dX7_together_21 rfl (lv_at hl 0 rfl) ?_
        refine lv_iload_n hx hb dX7_together_22 rfl (lv_at hl 1 rfl) ?_
        refine lv_iadd hx hb dX7_together_23 ?_
        refine lv_iload_n hx hb dX7_together_24 rfl (lv_at hl 2 rfl) ?_
        refine lv_iadd hx hb dX7_together_25 ?_
        cases hf
        subst hQ
        exact g_iret hC hW hr hlocks rfl rfl dX7_together_26
      · have hf := a_if_t c3 hf
        refine lv_ldc (v := (-1000000000)) hx hb hown (hts _ (by decide +kernel : Cond.constant RX7 27 (-1000000000) ∈ wsX7_together)) dX7_together_18 ?_
        cases hf
        subst hQ
        exact g_iret hC hW hr hlocks rfl rfl dX7_together_20
abbrev rmX7_consider : Room := { frames := 1, cells := 0, slots := 0, locals := 22 }
set_option maxHeartbeats 4000000 in
set_option maxRecDepth 100000 in
theorem c_X7_consider (l : Launch) (G : gG) {p1 : Int32} {p2 : Int32} {p3 : Int32} {me : gM} {m0 : gM}  (hf : f_X7_consider p1 p2 p3 me = some m0) : Met l yX7_consider wsX7_consider rmX7_consider (va_Pc [.ref (G.2.2.1 22), .int p1, .int p2, .int p3] (g_W ZC G me)) (g_Qv ZC G m0) 0 0 (g_A ZC G) := by
  refine Met.ofW (cc := cX7_consider) (maxL := 12) (ret := none) (by decide) rfl ?_
  intro p e s m args below meth c s₁ B hml hv
  obtain ⟨rfl, hW0⟩ := hv
  have hC : CallFix p m c cX7_consider 12 s ([.ref (G.2.2.1 22), .int p1, .int p2, .int p3] : List Value).toArray wsX7_consider RX7 := ⟨B.exec, B.bytes, hml, findClass_of_methodNamed B.named, atoms_spec (ws := wsX7_consider) B.pre⟩
  have hx := hC.1
  have hb := hC.2.1
  have hown := hC.2.2.2.1
  have hts := hC.2.2.2.2
  have hr := B.returns
  have hlocks := B.notSynchronized
  have hW := g_H_enter hW0
  have hi7 : ∀ w ∈ wsX70, w ∈ wsX7_consider := by decide +kernel
  have hl := lv_entry ([.ref (G.2.2.1 22), .int p1, .int p2, .int p3]) (n := 12) (Nat.le_of_ble_eq_true rfl)
  rw [lg_entry_eq]
  generalize (lg_sl ([.ref (G.2.2.1 22), .int p1, .int p2, .int p3]) ++ List.replicate (12 - (lg_sl ([.ref (G.2.2.1 22), .int p1, .int p2, .int p3])).length) Slot.unset).toArray = ls at hl ⊢
  have hl : lv_has ls 12 [(0, .ref (G.2.2.1 22)), (1, .int p1), (2, .int p2), (3, .int p3)] := hl
  obtain ⟨Q, hQ⟩ : ∃ Q, Q = MQ below (g_Qv ZC G m0) ([.ref (G.2.2.1 22), .int p1, .int p2, .int p3] : List Value).toArray s 0 0 (g_A ZC G) := ⟨_, rfl⟩
  refine g_goQ hQ ?_
  unfold f_X7_consider at hf
  refine g_start hW (fun H locs hW => ?_)
  refine lv_iload_n hx hb dX7_consider_0 rfl (lv_at hl 1 rfl) ?_
  refine lv_aload_n hx hb dX7_consider_1 rfl (lv_at hl 0 rfl) ?_
  refine g_getr hC hW (o := 22) (ci := 7) (k := 1) zc_k22 zc_b22 rfl hi7 (by decide) rfl (t := 24) zc_r22_1 (by decide +kernel) dX7_consider_2 ?_
  refine lv_iconst (v := 0) hx hb dX7_consider_5 (by decide) ?_
  obtain ⟨v1, h9, hf⟩ := ob_inv hf
  refine g_ild hC hW zc_k24 zc_b24 zc_n24 h9 dX7_consider_6 ?_
  refine lv_isub hx hb dX7_consider_7 ?_
  obtain ⟨x2, h9, hf⟩ := ob_inv hf
  refine g_nmi (Option.some.inj h9) ?_
  refine lv_istore (lv' := [(4, .int x2), (0, .ref (G.2.2.1 22)), (1, .int p1), (2, .int p2), (3, .int p3)]) hx hb dX7_consider_8 hl (by decide) rfl (fun ls hl => ?_)
  refine lv_iload_n hx hb dX7_consider_10 rfl (lv_at hl 3 rfl) ?_
  refine lv_aload_n hx hb dX7_consider_11 rfl (lv_at hl 1 rfl) ?_
  refine g_getr hC hW (o := 22) (ci := 7) (k := 1) zc_k22 zc_b22 rfl hi7 (by decide) rfl (t := 24) zc_r22_1 (by decide +kernel) dX7_consider_12 ?_
  refine lv_iconst (v := 1) hx hb dX7_consider_15 (by decide) ?_
  obtain ⟨v3, h9, hf⟩ := ob_inv hf
  refine g_ild hC hW zc_k24 zc_b24 zc_n24 h9 dX7_consider_16 ?_
  refine lv_isub hx hb dX7_consider_17 ?_
  obtain ⟨x4, h9, hf⟩ := ob_inv hf
  refine g_nmi (Option.some.inj h9) ?_
  refine lv_istore (lv' := [(5, .int x4), (4, .int x2), (0, .ref (G.2.2.1 22)), (1, .int p1), (2, .int p2), (3, .int p3)]) hx hb dX7_consider_18 hl (by decide) rfl (fun ls hl => ?_)
  refine lv_iload_n hx hb dX7_consider_20 rfl (lv_at hl 5 rfl) ?_
  refine lv_aload_n hx hb dX7_consider_21 rfl (lv_at hl 2 rfl) ?_
  refine g_getr hC hW (o := 22) (ci := 7) (k := 1) zc_k22 zc_b22 rfl hi7 (by decide) rfl (t := 24) zc_r22_1 (by decide +kernel) dX7_consider_22 ?_
  refine lv_iconst (v := 2) hx hb dX7_consider_25 (by decide) ?_
  obtain ⟨v5, h9, hf⟩ := ob_inv hf
  refine g_ild hC hW zc_k24 zc_b24 zc_n24 h9 dX7_consider_26 ?_
  refine lv_isub hx hb dX7_consider_27 ?_
  obtain ⟨x6, h9, hf⟩ := ob_inv hf
  refine g_nmi (Option.some.inj h9) ?_
  refine lv_istore (lv' := [(6, .int x6), (5, .int x4), (4, .int x2), (0, .ref (G.2.2.1 22)), (1, .int p1), (2, .int p2), (3, .int p3)]) hx hb dX7_consider_28 hl (by decide) rfl (fun ls hl => ?_)
  refine lv_aload_n hx hb dX7_consider_30 rfl (lv_at hl 3 rfl) ?_
  refine g_getr hC hW (o := 22) (ci := 7) (k := 0) zc_k22 zc_b22 rfl hi7 (by decide) rfl (t := 23) zc_r22_0 (by decide +kernel) dX7_consider_31 ?_
  refine lv_iconst (v := 0) hx hb dX7_consider_34 (by decide) ?_
  obtain ⟨d7, h9, hf⟩ := ob_inv hf
  have hd7 := zc_rk4 h9
  refine g_rldC hC hW zc_k23 zc_b23 zc_n23 zc_rr4 h9 dX7_consider_35 ?_
  refine lv_iload hx hb dX7_consider_36 (lv_at hl 2 rfl) ?_
  obtain ⟨r8, hg, hf⟩ := ob_inv hf
  refine g_cVi hC hW (o := d7) (ci := 4) (As := [.int x2]) (rest := []) hd7 (zc_lt hd7) rfl (c_X4_worthOf l G hd7 hg) (cwV 1 hts gX7_consider_X4_worthOf rfl rfl rfl (by decide +kernel) ⟨Nat.le_of_ble_eq_true rfl, Nat.le_of_ble_eq_true rfl⟩) rfl hl.1 rfl (Nat.le_of_ble_eq_true rfl) dX7_consider_38 ⟨Nat.le_of_ble_eq_true rfl, Nat.le_of_ble_eq_true rfl⟩ (fun H locs hW => ?_)
  refine lv_istore (lv' := [(7, .int r8), (6, .int x6), (5, .int x4), (4, .int x2), (0, .ref (G.2.2.1 22)), (1, .int p1), (2, .int p2), (3, .int p3)]) hx hb dX7_consider_41 hl (by decide) rfl (fun ls hl => ?_)
  refine lv_aload_n hx hb dX7_consider_43 rfl (lv_at hl 4 rfl) ?_
  refine g_getr hC hW (o := 22) (ci := 7) (k := 0) zc_k22 zc_b22 rfl hi7 (by decide) rfl (t := 23) zc_r22_0 (by decide +kernel) dX7_consider_44 ?_
  refine lv_iconst (v := 1) hx hb dX7_consider_47 (by decide) ?_
  obtain ⟨d9, h9, hf⟩ := ob_inv hf
  have hd9 := zc_rk4 h9
  refine g_rldC hC hW zc_k23 zc_b23 zc_n23 zc_rr4 h9 dX7_consider_48 ?_
  refine lv_iload hx hb dX7_consider_49 (lv_at hl 2 rfl) ?_
  obtain ⟨r10, hg, hf⟩ := ob_inv hf
  refine g_cVi hC hW (o := d9) (ci := 4) (As := [.int x4]) (rest := []) hd9 (zc_lt hd9) rfl (c_X4_worthOf l G hd9 hg) (cwV 1 hts gX7_consider_X4_worthOf rfl rfl rfl (by decide +kernel) ⟨Nat.le_of_ble_eq_true rfl, Nat.le_of_ble_eq_true rfl⟩) rfl hl.1 rfl (Nat.le_of_ble_eq_true rfl) dX7_consider_51 ⟨Nat.le_of_ble_eq_true rfl, Nat.le_of_ble_eq_true rfl⟩ (fun H locs hW => ?_)
  refine lv_istore (lv' := [(8, .int r10), (7, .int r8), (6, .int x6), (5, .int x4), (4, .int x2), (0, .ref (G.2.2.1 22)), (1, .int p1), (2, .int p2), (3, .int p3)]) hx hb dX7_consider_54 hl (by decide) rfl (fun ls hl => ?_)
  refine lv_aload_n hx hb dX7_consider_56 rfl (lv_at hl 5 rfl) ?_
  refine g_getr hC hW (o := 22) (ci := 7) (k := 0) zc_k22 zc_b22 rfl hi7 (by decide) rfl (t := 23) zc_r22_0 (by decide +kernel) dX7_consider_57 ?_
  refine lv_iconst (v := 2) hx hb dX7_consider_60 (by decide) ?_
  obtain ⟨d11, h9, hf⟩ := ob_inv hf
  have hd11 := zc_rk4 h9
  refine g_rldC hC hW zc_k23 zc_b23 zc_n23 zc_rr4 h9 dX7_consider_61 ?_
  refine lv_iload hx hb dX7_consider_62 (lv_at hl 2 rfl) ?_
  obtain ⟨r12, hg, hf⟩ := ob_inv hf
  refine g_cVi hC hW (o := d11) (ci := 4) (As := [.int x6]) (rest := []) hd11 (zc_lt hd11) rfl (c_X4_worthOf l G hd11 hg) (cwV 1 hts gX7_consider_X4_worthOf rfl rfl rfl (by decide +kernel) ⟨Nat.le_of_ble_eq_true rfl, Nat.le_of_ble_eq_true rfl⟩) rfl hl.1 rfl (Nat.le_of_ble_eq_true rfl) dX7_consider_64 ⟨Nat.le_of_ble_eq_true rfl, Nat.le_of_ble_eq_true rfl⟩ (fun H locs hW => ?_)
  refine lv_istore (lv' := [(9, .int r12), (8, .int r10), (7, .int r8), (6, .int x6), (5, .int x4), (4, .int x2), (0, .ref (G.2.2.1 22)), (1, .int p1), (2, .int p2), (3, .int p3)]) hx hb dX7_consider_67 hl (by decide) rfl (fun ls hl => ?_)
  refine lv_aload_n hx hb dX7_consider_69 rfl (lv_at hl 6 rfl) ?_
  refine g_getr hC hW (o := 22) (ci := 7) (k := 3) zc_k22 zc_b22 rfl hi7 (by decide) rfl (t := 26) zc_r22_3 (by decide +kernel) dX7_consider_70 ?_
  refine lv_iconst (v := 0) hx hb dX7_consider_73 (by decide) ?_
  refine lv_aload_n hx hb dX7_consider_74 rfl (lv_at hl 6 rfl) ?_
  refine g_getr hC hW (o := 22) (ci := 7) (k := 3) zc_k22 zc_b22 rfl hi7 (by decide) rfl (t := 26) zc_r22_3 (by decide +kernel) dX7_consider_75 ?_
  refine lv_iconst (v := 0) hx hb dX7_consider_78 (by decide) ?_
  obtain ⟨v13, h9, hf⟩ := ob_inv hf
  refine g_ild hC hW zc_k26 zc_b26 zc_n26 h9 dX7_consider_79 ?_
  refine lv_aload_n hx hb dX7_consider_80 rfl (lv_at hl 6 rfl) ?_
  refine g_getr hC hW (o := 22) (ci := 7) (k := 0) zc_k22 zc_b22 rfl hi7 (by decide) rfl (t := 23) zc_r22_0 (by decide +kernel) dX7_consider_81 ?_
  refine lv_iconst (v := 0) hx hb dX7_consider_84 (by decide) ?_
  obtain ⟨d14, h9, hf⟩ := ob_inv hf
  have hd14 := zc_rk4 h9
  refine g_rldC hC hW zc_k23 zc_b23 zc_n23 zc_rr4 h9 dX7_consider_85 ?_
  refine lv_iload hx hb dX7_consider_86 (lv_at hl 5 rfl) ?_
  refine lv_iconst (v := 1) hx hb dX7_consider_88 (by decide) ?_
  refine lv_isub hx hb dX7_consider_89 ?_
  obtain ⟨r15, hg, hf⟩ := ob_inv hf
  refine g_cVi hC hW (o := d14) (ci := 4) (As := [.int (x2 - 1)]) (rest := [.int v13, .int 0, .ref (G.2.2.1 26)]) hd14 (zc_lt hd14) rfl (c_X4_worthOf l G hd14 hg) (cwV 1 hts gX7_consider_X4_worthOf rfl rfl rfl (by decide +kernel) ⟨Nat.le_of_ble_eq_true rfl, Nat.le_of_ble_eq_true rfl⟩) rfl hl.1 rfl (Nat.le_of_ble_eq_true rfl) dX7_consider_90 ⟨Nat.le_of_ble_eq_true rfl, Nat.le_of_ble_eq_true rfl⟩ (fun H locs hW => ?_)
  refine lv_iload hx hb dX7_consider_93 (lv_at hl 1 rfl) ?_
  refine lv_iload hx hb dX7_consider_95 (lv_at hl 0 rfl) ?_
  obtain ⟨r16, hg, hf⟩ := ob_inv hf
  refine g_cSi hC hW (As := [.int r15, .int r10, .int r12]) (rest := [.int v13, .int 0, .ref (G.2.2.1 26)]) (c_X7_together l G  hg) (va_cwS 3 hts gX7_consider_X7_together rfl rfl rfl (by decide +kernel) ⟨Nat.le_of_ble_eq_true rfl, Nat.le_of_ble_eq_true rfl⟩) rfl hl.1 rfl (Nat.le_of_ble_eq_true rfl) dX7_consider_97 ⟨Nat.le_of_ble_eq_true rfl, Nat.le_of_ble_eq_true rfl⟩ (fun H locs hW => ?_)
  refine g_max hC hl.1 (by decide +kernel) (by decide +kernel) (by decide +kernel) (by decide +kernel) (Nat.le_of_ble_eq_true rfl) (Nat.le_of_ble_eq_true rfl) (Nat.le_of_ble_eq_true rfl) (Nat.le_of_ble_eq_true rfl) dX7_consider_100 ?_
  obtain ⟨m17, h9, hf⟩ := ob_inv hf
  refine g_ist hC hW zc_k26 zc_b26 zc_n26 h9 dX7_consider_103 (fun H locs hW => ?_)
  refine lv_aload_n hx hb dX7_consider_104 rfl (lv_at hl 6 rfl) ?_
  refine g_getr hC hW (o := 22) (ci := 7) (k := 3) zc_k22 zc_b22 rfl hi7 (by decide) rfl (t := 26) zc_r22_3 (by decide +kernel) dX7_consider_105 ?_
  refine lv_iconst (v := 1) hx hb dX7_consider_108 (by decide) ?_
  refine lv_aload_n hx hb dX7_consider_109 rfl (lv_at hl 6 rfl) ?_
  refine g_getr hC hW (o := 22) (ci := 7) (k := 3) zc_k22 zc_b22 rfl hi7 (by decide) rfl (t := 26) zc_r22_3 (by decide +kernel) dX7_consider_110 ?_
  refine lv_iconst (v := 1) hx hb dX7_consider_113 (by decide) ?_
  obtain ⟨v18, h9, hf⟩ := ob_inv hf
  refine g_ild hC hW zc_k26 zc_b26 zc_n26 h9 dX7_consider_114 ?_
  refine lv_iload hx hb dX7_consider_115 (lv_at hl 2 rfl) ?_
  refine lv_aload_n hx hb dX7_consider_117 rfl (lv_at hl 6 rfl) ?_
  refine g_getr hC hW (o := 22) (ci := 7) (k := 0) zc_k22 zc_b22 rfl hi7 (by decide) rfl (t := 23) zc_r22_0 (by decide +kernel) dX7_consider_118 ?_
  refine lv_iconst (v := 1) hx hb dX7_consider_121 (by decide) ?_
  obtain ⟨d19, h9, hf⟩ := ob_inv hf
  have hd19 := zc_rk4 h9
  refine g_rldC hC hW zc_k23 zc_b23 zc_n23 zc_rr4 h9 dX7_consider_122 ?_
  refine lv_iload hx hb dX7_consider_123 (lv_at hl 4 rfl) ?_
  refine lv_iconst (v := 1) hx hb dX7_consider_125 (by decide) ?_
  refine lv_isub hx hb dX7_consider_126 ?_
  obtain ⟨r20, hg, hf⟩ := ob_inv hf
  refine g_cVi hC hW (o := d19) (ci := 4) (As := [.int (x4 - 1)]) (rest := [.int r8, .int v18, .int 1, .ref (G.2.2.1 26)]) hd19 (zc_lt hd19) rfl (c_X4_worthOf l G hd19 hg) (cwV 1 hts gX7_consider_X4_worthOf rfl rfl rfl (by decide +kernel) ⟨Nat.le_of_ble_eq_true rfl, Nat.le_of_ble_eq_true rfl⟩) rfl hl.1 rfl (Nat.le_of_ble_eq_true rfl) dX7_consider_127 ⟨Nat.le_of_ble_eq_true rfl, Nat.le_of_ble_eq_true rfl⟩ (fun H locs hW => ?_)
  refine lv_iload hx hb dX7_consider_130 (lv_at hl 0 rfl) ?_
  obtain ⟨r21, hg, hf⟩ := ob_inv hf
  refine g_cSi hC hW (As := [.int r8, .int r20, .int r12]) (rest := [.int v18, .int 1, .ref (G.2.2.1 26)]) (c_X7_together l G  hg) (va_cwS 3 hts gX7_consider_X7_together rfl rfl rfl (by decide +kernel) ⟨Nat.le_of_ble_eq_true rfl, Nat.le_of_ble_eq_true rfl⟩) rfl hl.1 rfl (Nat.le_of_ble_eq_true rfl) dX7_consider_132 ⟨Nat.le_of_ble_eq_true rfl, Nat.le_of_ble_eq_true rfl⟩ (fun H locs hW => ?_)
  refine g_max hC hl.1 (by decide +kernel) (by decide +kernel) (by decide +kernel) (by decide +kernel) (Nat.le_of_ble_eq_true rfl) (Nat.le_of_ble_eq_true rfl) (Nat.le_of_ble_eq_true rfl) (Nat.le_of_ble_eq_true rfl) dX7_consider_135 ?_
  obtain ⟨m22, h9, hf⟩ := ob_inv hf
  refine g_ist hC hW zc_k26 zc_b26 zc_n26 h9 dX7_consider_138 (fun H locs hW => ?_)
  refine lv_aload_n hx hb dX7_consider_139 rfl (lv_at hl 6 rfl) ?_
  refine g_getr hC hW (o := 22) (ci := 7) (k := 3) zc_k22 zc_b22 rfl hi7 (by decide) rfl (t := 26) zc_r22_3 (by decide +kernel) dX7_consider_140 ?_
  refine lv_iconst (v := 2) hx hb dX7_consider_143 (by decide) ?_
  refine lv_aload_n hx hb dX7_consider_144 rfl (lv_at hl 6 rfl) ?_
  refine g_getr hC hW (o := 22) (ci := 7) (k := 3) zc_k22 zc_b22 rfl hi7 (by decide) rfl (t := 26) zc_r22_3 (by decide +kernel) dX7_consider_145 ?_
  refine lv_iconst (v := 2) hx hb dX7_consider_148 (by decide) ?_
  obtain ⟨v23, h9, hf⟩ := ob_inv hf
  refine g_ild hC hW zc_k26 zc_b26 zc_n26 h9 dX7_consider_149 ?_
  refine lv_iload hx hb dX7_consider_150 (lv_at hl 2 rfl) ?_
  refine lv_iload hx hb dX7_consider_152 (lv_at hl 1 rfl) ?_
  refine lv_aload_n hx hb dX7_consider_154 rfl (lv_at hl 6 rfl) ?_
  refine g_getr hC hW (o := 22) (ci := 7) (k := 0) zc_k22 zc_b22 rfl hi7 (by decide) rfl (t := 23) zc_r22_0 (by decide +kernel) dX7_consider_155 ?_
  refine lv_iconst (v := 2) hx hb dX7_consider_158 (by decide) ?_
  obtain ⟨d24, h9, hf⟩ := ob_inv hf
  have hd24 := zc_rk4 h9
  refine g_rldC hC hW zc_k23 zc_b23 zc_n23 zc_rr4 h9 dX7_consider_159 ?_
  refine lv_iload hx hb dX7_consider_160 (lv_at hl 3 rfl) ?_
  refine lv_iconst (v := 1) hx hb dX7_consider_162 (by decide) ?_
  refine lv_isub hx hb dX7_consider_163 ?_
  obtain ⟨r25, hg, hf⟩ := ob_inv hf
  refine g_cVi hC hW (o := d24) (ci := 4) (As := [.int (x6 - 1)]) (rest := [.int r10, .int r8, .int v23, .int 2, .ref (G.2.2.1 26)]) hd24 (zc_lt hd24) rfl (c_X4_worthOf l G hd24 hg) (cwV 1 hts gX7_consider_X4_worthOf rfl rfl rfl (by decide +kernel) ⟨Nat.le_of_ble_eq_true rfl, Nat.le_of_ble_eq_true rfl⟩) rfl hl.1 rfl (Nat.le_of_ble_eq_true rfl) dX7_consider_164 ⟨Nat.le_of_ble_eq_true rfl, Nat.le_of_ble_eq_true rfl⟩ (fun H locs hW => ?_)
  obtain ⟨r26, hg, hf⟩ := ob_inv hf
  refine g_cSi hC hW (As := [.int r8, .int r10, .int r25]) (rest := [.int v23, .int 2, .ref (G.2.2.1 26)]) (c_X7_together l G  hg) (va_cwS 3 hts gX7_consider_X7_together rfl rfl rfl (by decide +kernel) ⟨Nat.le_of_ble_eq_true rfl, Nat.le_of_ble_eq_true rfl⟩) rfl hl.1 rfl (Nat.le_of_ble_eq_true rfl) dX7_consider_167 ⟨Nat.le_of_ble_eq_true rfl, Nat.le_of_ble_eq_true rfl⟩ (fun H locs hW => ?_)
  refine g_max hC hl.1 (by decide +kernel) (by decide +kernel) (by decide +kernel) (by decide +kernel) (Nat.le_of_ble_eq_true rfl) (Nat.le_of_ble_eq_true rfl) (Nat.le_of_ble_eq_true rfl) (Nat.le_of_ble_eq_true rfl) dX7_consider_170 ?_
  obtain ⟨m27, h9, hf⟩ := ob_inv hf
  refine g_ist hC hW zc_k26 zc_b26 zc_n26 h9 dX7_consider_173 (fun H locs hW => ?_)
  refine lv_iload hx hb dX7_consider_174 (lv_at hl 2 rfl) ?_
  refine lv_iload hx hb dX7_consider_176 (lv_at hl 1 rfl) ?_
  refine lv_iload hx hb dX7_consider_178 (lv_at hl 0 rfl) ?_
  obtain ⟨r28, hg, hf⟩ := ob_inv hf
  refine g_cSi hC hW (As := [.int r8, .int r10, .int r12]) (rest := []) (c_X7_together l G  hg) (va_cwS 3 hts gX7_consider_X7_together rfl rfl rfl (by decide +kernel) ⟨Nat.le_of_ble_eq_true rfl, Nat.le_of_ble_eq_true rfl⟩) rfl hl.1 rfl (Nat.le_of_ble_eq_true rfl) dX7_consider_180 ⟨Nat.le_of_ble_eq_true rfl, Nat.le_of_ble_eq_true rfl⟩ (fun H locs hW => ?_)
  refine lv_istore (lv' := [(10, .int r28), (9, .int r12), (8, .int r10), (7, .int r8), (6, .int x6), (5, .int x4), (4, .int x2), (0, .ref (G.2.2.1 22)), (1, .int p1), (2, .int p2), (3, .int p3)]) hx hb dX7_consider_183 hl (by decide) rfl (fun ls hl => ?_)
  refine lv_iload_n hx hb dX7_consider_185 rfl (lv_at hl 8 rfl) ?_
  refine lv_iload_n hx hb dX7_consider_186 rfl (lv_at hl 9 rfl) ?_
  refine lv_isub hx hb dX7_consider_187 ?_
  refine g_abs hC hl.1 (by decide +kernel) (by decide +kernel) (by decide +kernel) (by decide +kernel) (Nat.le_of_ble_eq_true rfl) (Nat.le_of_ble_eq_true rfl) (Nat.le_of_ble_eq_true rfl) (Nat.le_of_ble_eq_true rfl) dX7_consider_188 ?_
  refine lv_iload_n hx hb dX7_consider_191 rfl (lv_at hl 9 rfl) ?_
  refine lv_iload_n hx hb dX7_consider_192 rfl (lv_at hl 10 rfl) ?_
  refine lv_isub hx hb dX7_consider_193 ?_
  refine g_abs hC hl.1 (by decide +kernel) (by decide +kernel) (by decide +kernel) (by decide +kernel) (Nat.le_of_ble_eq_true rfl) (Nat.le_of_ble_eq_true rfl) (Nat.le_of_ble_eq_true rfl) (Nat.le_of_ble_eq_true rfl) dX7_consider_194 ?_
  refine lv_iadd hx hb dX7_consider_197 ?_
  refine lv_iload_n hx hb dX7_consider_198 rfl (lv_at hl 8 rfl) ?_
  refine lv_iload_n hx hb dX7_consider_199 rfl (lv_at hl 10 rfl) ?_
  refine lv_isub hx hb dX7_consider_200 ?_
  refine g_abs hC hl.1 (by decide +kernel) (by decide +kernel) (by decide +kernel) (by decide +kernel) (Nat.le_of_ble_eq_true rfl) (Nat.le_of_ble_eq_true rfl) (Nat.le_of_ble_eq_true rfl) (Nat.le_of_ble_eq_true rfl) dX7_consider_201 ?_
  refine lv_iadd hx hb dX7_consider_204 ?_
  obtain ⟨x29, h9, hf⟩ := ob_inv hf
  refine g_nmi (Option.some.inj h9) ?_
  refine lv_istore (lv' := [(11, .int x29), (10, .int r28), (9, .int r12), (8, .int r10), (7, .int r8), (6, .int x6), (5, .int x4), (4, .int x2), (0, .ref (G.2.2.1 22)), (1, .int p1), (2, .int p2), (3, .int p3)]) hx hb dX7_consider_205 hl (by decide) rfl (fun ls hl => ?_)
  refine lv_iload hx hb dX7_consider_207 (lv_at hl 1 rfl) ?_
  refine lv_ldc (v := (-1000000000)) hx hb hown (hts _ (by decide +kernel : Cond.constant RX7 27 (-1000000000) ∈ wsX7_consider)) dX7_consider_209 ?_
  obtain ⟨m31, hg, hf⟩ := ob_inv hf
  have hJ274 : ∀ (H : Heap) (locs : List Loc) (ls : Array Slot), g_H ZC G s H locs m31 → lv_has ls 12 [] → W p l e (headSpec wsX7_consider rmX7_consider).room s m ([.ref (G.2.2.1 22), .int p1, .int p2, .int p3] : List Value).toArray below meth c H locs 0 0 Q (F0 m 274 ls []) := by
    intro H locs ls hW hl
    cases hf
    subst hQ
    exact g_vret hC hW hr hlocks rfl dX7_consider_274
  replace hf := hg
  refine lv_icmp_eq (tgt := 274) hx hb dX7_consider_211 (by decide) (fun c30 => ?_) (fun c30 => ?_)
  · have hf := a_if_t c30 hf
    cases hf
    exact hJ274 H locs ls hW (lv_sub hl [] rfl)
  · have hf := a_if_f c30 hf
    refine lv_iload hx hb dX7_consider_214 (lv_at hl 1 rfl) ?_
    refine lv_aload_n hx hb dX7_consider_216 rfl (lv_at hl 8 rfl) ?_
    refine g_geti hC hW (o := 22) (ci := 7) (k := 4) zc_k22 zc_b22 rfl hi7 (by decide) rfl (by decide +kernel) dX7_consider_217 ?_
    refine lv_icmp_gt (tgt := 241) hx hb dX7_consider_220 (by decide) (fun c32 => ?_) (fun c32 => ?_)
    · have hf := a_if_t c32 hf
      refine lv_aload_n hx hb dX7_consider_241 rfl (lv_at hl 8 rfl) ?_
      refine lv_iload hx hb dX7_consider_242 (lv_at hl 1 rfl) ?_
      obtain ⟨m33, h9, hf⟩ := ob_inv hf
      refine g_puti hC hW (o := 22) (ci := 7) (k := 4) zc_k22 zc_b22 rfl hi7 tyX7_ok nmX7 (by decide) rfl rfl rfl (by decide +kernel) dX7_consider_244 (fun H locs hW => ?_)
      rw [Option.some.inj h9] at hW
      refine lv_aload_n hx hb dX7_consider_247 rfl (lv_at hl 8 rfl) ?_
      refine lv_iload hx hb dX7_consider_248 (lv_at hl 0 rfl) ?_
      obtain ⟨m34, h9, hf⟩ := ob_inv hf
      refine g_puti hC hW (o := 22) (ci := 7) (k := 5) zc_k22 zc_b22 rfl hi7 tyX7_ok nmX7 (by decide) rfl rfl rfl (by decide +kernel) dX7_consider_250 (fun H locs hW => ?_)
      rw [Option.some.inj h9] at hW
      refine lv_aload_n hx hb dX7_consider_253 rfl (lv_at hl 8 rfl) ?_
      refine g_getr hC hW (o := 22) (ci := 7) (k := 2) zc_k22 zc_b22 rfl hi7 (by decide) rfl (t := 25) zc_r22_2 (by decide +kernel) dX7_consider_254 ?_
      refine lv_iconst (v := 0) hx hb dX7_consider_257 (by decide) ?_
      refine lv_iload_n hx hb dX7_consider_258 rfl (lv_at hl 9 rfl) ?_
      obtain ⟨m35, h9, hf⟩ := ob_inv hf
      refine g_ist hC hW zc_k25 zc_b25 zc_n25 h9 dX7_consider_259 (fun H locs hW => ?_)
      refine lv_aload_n hx hb dX7_consider_260 rfl (lv_at hl 8 rfl) ?_
      refine g_getr hC hW (o := 22) (ci := 7) (k := 2) zc_k22 zc_b22 rfl hi7 (by decide) rfl (t := 25) zc_r22_2 (by decide +kernel) dX7_consider_261 ?_
      refine lv_iconst (v := 1) hx hb dX7_consider_264 (by decide) ?_
      refine lv_iload_n hx hb dX7_consider_265 rfl (lv_at hl 10 rfl) ?_
      obtain ⟨m36, h9, hf⟩ := ob_inv hf
      refine g_ist hC hW zc_k25 zc_b25 zc_n25 h9 dX7_consider_266 (fun H locs hW => ?_)
      refine lv_aload_n hx hb dX7_consider_267 rfl (lv_at hl 8 rfl) ?_
      refine g_getr hC hW (o := 22) (ci := 7) (k := 2) zc_k22 zc_b22 rfl hi7 (by decide) rfl (t := 25) zc_r22_2 (by decide +kernel) dX7_consider_268 ?_
      refine lv_iconst (v := 2) hx hb dX7_consider_271 (by decide) ?_
      refine lv_iload_n hx hb dX7_consider_272 rfl (lv_at hl 11 rfl) ?_
      obtain ⟨m37, h9, hf⟩ := ob_inv hf
      refine g_ist hC hW zc_k25 zc_b25 zc_n25 h9 dX7_consider_273 (fun H locs hW => ?_)
      cases hf
      exact hJ274 H locs ls hW (lv_sub hl [] rfl)
    · have hf := a_if_f c32 hf
      refine lv_iload hx hb dX7_consider_223 (lv_at hl 1 rfl) ?_
      refine lv_aload_n hx hb dX7_consider_225 rfl (lv_at hl 8 rfl) ?_
      refine g_geti hC hW (o := 22) (ci := 7) (k := 4) zc_k22 zc_b22 rfl hi7 (by decide) rfl (by decide +kernel) dX7_consider_226 ?_
      refine lv_icmp_ne (tgt := 274) hx hb dX7_consider_229 (by decide) (fun c38 => ?_) (fun c38 => ?_)
      · have hf := a_if_f c38 hf
        cases hf
        exact hJ274 H locs ls hW (lv_sub hl [] rfl)
      · have hf := a_if_t c38 hf
        refine lv_iload hx hb dX7_consider_232 (lv_at hl 0 rfl) ?_
        refine lv_aload_n hx hb dX7_consider_234 rfl (lv_at hl 8 rfl) ?_
        refine g_geti hC hW (o := 22) (ci := 7) (k := 5) zc_k22 zc_b22 rfl hi7 (by decide) rfl (by decide +kernel) dX7_consider_235 ?_
        refine lv_icmp_ge (tgt := 274) hx hb dX7_consider_238 (by decide) (fun c39 => ?_) (fun c39 => ?_)
        · have hf := a_if_t c39 hf
          cases hf
          exact hJ274 H locs ls hW (lv_sub hl [] rfl)
        · have hf := a_if_f c39 hf
          refine lv_aload_n hx hb dX7_consider_241 rfl (lv_at hl 8 rfl) ?_
          refine lv_iload hx hb dX7_consider_242 (lv_at hl 1 rfl) ?_
          obtain ⟨m40, h9, hf⟩ := ob_inv hf
          refine g_puti hC hW (o := 22) (ci := 7) (k := 4) zc_k22 zc_b22 rfl hi7 tyX7_ok nmX7 (by decide) rfl rfl rfl (by decide +kernel) dX7_consider_244 (fun H locs hW => ?_)
          rw [Option.some.inj h9] at hW
          refine lv_aload_n hx hb dX7_consider_247 rfl (lv_at hl 8 rfl) ?_
          refine lv_iload hx hb dX7_consider_248 (lv_at hl 0 rfl) ?_
          obtain ⟨m41, h9, hf⟩ := ob_inv hf
          refine g_puti hC hW (o := 22) (ci := 7) (k := 5) zc_k22 zc_b22 rfl hi7 tyX7_ok nmX7 (by decide) rfl rfl rfl (by decide +kernel) dX7_consider_250 (fun H locs hW => ?_)
          rw [Option.some.inj h9] at hW
          refine lv_aload_n hx hb dX7_consider_253 rfl (lv_at hl 8 rfl) ?_
          refine g_getr hC hW (o := 22) (ci := 7) (k := 2) zc_k22 zc_b22 rfl hi7 (by decide) rfl (t := 25) zc_r22_2 (by decide +kernel) dX7_consider_254 ?_
          refine lv_iconst (v := 0) hx hb dX7_consider_257 (by decide) ?_
          refine lv_iload_n hx hb dX7_consider_258 rfl (lv_at hl 9 rfl) ?_
          obtain ⟨m42, h9, hf⟩ := ob_inv hf
          refine g_ist hC hW zc_k25 zc_b25 zc_n25 h9 dX7_consider_259 (fun H locs hW => ?_)
          refine lv_aload_n hx hb dX7_consider_260 rfl (lv_at hl 8 rfl) ?_
          refine g_getr hC hW (o := 22) (ci := 7) (k := 2) zc_k22 zc_b22 rfl hi7 (by decide) rfl (t := 25) zc_r22_2 (by decide +kernel) dX7_consider_261 ?_
          refine lv_iconst (v := 1) hx hb dX7_consider_264 (by decide) ?_
          refine lv_iload_n hx hb dX7_consider_265 rfl (lv_at hl 10 rfl) ?_
          obtain ⟨m43, h9, hf⟩ := ob_inv hf
          refine g_ist hC hW zc_k25 zc_b25 zc_n25 h9 dX7_consider_266 (fun H locs hW => ?_)
          refine lv_aload_n hx hb dX7_consider_267 rfl (lv_at hl 8 rfl) ?_
          refine g_getr hC hW (o := 22) (ci := 7) (k := 2) zc_k22 zc_b22 rfl hi7 (by decide) rfl (t := 25) zc_r22_2 (by decide +kernel) dX7_consider_268 ?_
          refine lv_iconst (v := 2) hx hb dX7_consider_271 (by decide) ?_
          refine lv_iload_n hx hb dX7_consider_272 rfl (lv_at hl 11 rfl) ?_
          obtain ⟨m44, h9, hf⟩ := ob_inv hf
          refine g_ist hC hW zc_k25 zc_b25 zc_n25 h9 dX7_consider_273 (fun H locs hW => ?_)
          cases hf
          exact hJ274 H locs ls hW (lv_sub hl [] rfl)
abbrev rmX7_search : Room := { frames := 2, cells := 0, slots := 0, locals := 53 }
set_option maxHeartbeats 4000000 in
set_option maxRecDepth 100000 in
theorem c_X7_search (l : Launch) (G : gG) {p3 : Int32} {me : gM} {m0 : gM}  (hf : f_X7_search p3 me = some m0) : Met l yX7_search wsX7_search rmX7_search (va_Pc [.ref (G.2.2.1 22), .ref (G.2.2.1 2), .ref (G.2.2.1 13), .int p3] (g_W ZC G me)) (g_Qv ZC G m0) 0 0 (g_A ZC G) := by
  refine Met.ofW (cc := cX7_search) (maxL := 8) (ret := none) (by decide) rfl ?_
  intro p e s m args below meth c s₁ B hml hv
  obtain ⟨rfl, hW0⟩ := hv
  have hC : CallFix p m c cX7_search 8 s ([.ref (G.2.2.1 22), .ref (G.2.2.1 2), .ref (G.2.2.1 13), .int p3] : List Value).toArray wsX7_search RX7 := ⟨B.exec, B.bytes, hml, findClass_of_methodNamed B.named, atoms_spec (ws := wsX7_search) B.pre⟩
  have hx := hC.1
  have hb := hC.2.1
  have hown := hC.2.2.2.1
  have hts := hC.2.2.2.2
  have hr := B.returns
  have hlocks := B.notSynchronized
  have hW := g_H_enter hW0
  have hi7 : ∀ w ∈ wsX70, w ∈ wsX7_search := by decide +kernel
  have hl := lv_entry ([.ref (G.2.2.1 22), .ref (G.2.2.1 2), .ref (G.2.2.1 13), .int p3]) (n := 8) (Nat.le_of_ble_eq_true rfl)
  rw [lg_entry_eq]
  generalize (lg_sl ([.ref (G.2.2.1 22), .ref (G.2.2.1 2), .ref (G.2.2.1 13), .int p3]) ++ List.replicate (8 - (lg_sl ([.ref (G.2.2.1 22), .ref (G.2.2.1 2), .ref (G.2.2.1 13), .int p3])).length) Slot.unset).toArray = ls at hl ⊢
  have hl : lv_has ls 8 [(0, .ref (G.2.2.1 22)), (1, .ref (G.2.2.1 2)), (2, .ref (G.2.2.1 13)), (3, .int p3)] := hl
  obtain ⟨Q, hQ⟩ : ∃ Q, Q = MQ below (g_Qv ZC G m0) ([.ref (G.2.2.1 22), .ref (G.2.2.1 2), .ref (G.2.2.1 13), .int p3] : List Value).toArray s 0 0 (g_A ZC G) := ⟨_, rfl⟩
  refine g_goQ hQ ?_
  unfold f_X7_search at hf
  refine g_start hW (fun H locs hW => ?_)
  refine lv_aload_n hx hb dX7_search_0 rfl (lv_at hl 0 rfl) ?_
  refine lv_ldc (v := (-1000000000)) hx hb hown (hts _ (by decide +kernel : Cond.constant RX7 27 (-1000000000) ∈ wsX7_search)) dX7_search_1 ?_
  obtain ⟨m1, h9, hf⟩ := ob_inv hf
  refine g_puti hC hW (o := 22) (ci := 7) (k := 4) zc_k22 zc_b22 rfl hi7 tyX7_ok nmX7 (by decide) rfl rfl rfl (by decide +kernel) dX7_search_3 (fun H locs hW => ?_)
  rw [Option.some.inj h9] at hW
  refine lv_iconst (v := 0) hx hb dX7_search_6 (by decide) ?_
  refine lv_istore (lv' := [(4, .int 0), (0, .ref (G.2.2.1 22)), (1, .ref (G.2.2.1 2)), (2, .ref (G.2.2.1 13)), (3, .int p3)]) hx hb dX7_search_7 hl (by decide) rfl (fun ls hl => ?_)
  have hL9 : ∀ (n : Nat) (x2 : Int32) (m3 : gM) (y4 : Int32) (m5 : gM) (H : Heap) (locs : List Loc) (ls : Array Slot), f_X7_search_L9 p3 n x2 m3 = some (y4, m5) → g_H ZC G s H locs m3 → lv_has ls 8 [(0, .ref (G.2.2.1 22)), (1, .ref (G.2.2.1 2)), (2, .ref (G.2.2.1 13)), (3, .int p3), (4, .int x2)] → (∀ (H : Heap) (locs : List Loc) (ls : Array Slot), g_H ZC G s H locs m5 → lv_has ls 8 [(0, .ref (G.2.2.1 22)), (1, .ref (G.2.2.1 2))] → W p l e (headSpec wsX7_search rmX7_search).room s m ([.ref (G.2.2.1 22), .ref (G.2.2.1 2), .ref (G.2.2.1 13), .int p3] : List Value).toArray below meth c H locs 0 0 Q (F0 m 52 ls [])) → W p l e (headSpec wsX7_search rmX7_search).room s m ([.ref (G.2.2.1 22), .ref (G.2.2.1 2), .ref (G.2.2.1 13), .int p3] : List Value).toArray below meth c H locs 0 0 Q (F0 m 9 ls []) := by
    intro n
    induction n with
    | zero =>
      intro x2 m3 y4 m5 H locs ls hf hW hl hE
      cases hf
    | succ n ih =>
      intro x2 m3 y4 m5 H locs ls hf hW hl hE
      rw [f_X7_search_L9] at hf
      refine lv_iload hx hb dX7_search_9 (lv_at hl 4 rfl) ?_
      refine lv_iconst (v := 3) hx hb dX7_search_11 (by decide) ?_
      refine lv_icmp_ge (tgt := 52) hx hb dX7_search_12 (by decide) (fun c6 => ?_) (fun c6 => ?_)
      · have hf := a_if_t c6 hf
        cases hf
        exact hE H locs ls hW (lv_sub hl [0, 1] rfl)
      · have hf := a_if_f c6 hf
        refine lv_aload_n hx hb dX7_search_15 rfl (lv_at hl 0 rfl) ?_
        refine g_getr hC hW (o := 22) (ci := 7) (k := 1) zc_k22 zc_b22 rfl hi7 (by decide) rfl (t := 24) zc_r22_1 (by decide +kernel) dX7_search_16 ?_
        refine lv_iload hx hb dX7_search_19 (lv_at hl 4 rfl) ?_
        refine lv_aload_n hx hb dX7_search_21 rfl (lv_at hl 2 rfl) ?_
        refine lv_iload_n hx hb dX7_search_22 rfl (lv_at hl 3 rfl) ?_
        refine lv_iload hx hb dX7_search_23 (lv_at hl 4 rfl) ?_
        obtain ⟨r7, hg, hf⟩ := ob_inv hf
        refine g_cVi hC hW (o := 13) (ci := 2) (As := [.int p3, .int x2]) (rest := [.int x2, .ref (G.2.2.1 24)]) zc_k13 zc_b13 rfl (c_X2_unitsOf l G  hg) (cwV 2 hts gX7_search_X2_unitsOf rfl rfl rfl (by decide +kernel) ⟨Nat.le_of_ble_eq_true rfl, Nat.le_of_ble_eq_true rfl⟩) rfl hl.1 rfl (Nat.le_of_ble_eq_true rfl) dX7_search_25 ⟨Nat.le_of_ble_eq_true rfl, Nat.le_of_ble_eq_true rfl⟩ (fun H locs hW => ?_)
        obtain ⟨m8, h9, hf⟩ := ob_inv hf
        refine g_ist hC hW zc_k24 zc_b24 zc_n24 h9 dX7_search_28 (fun H locs hW => ?_)
        refine lv_aload_n hx hb dX7_search_29 rfl (lv_at hl 0 rfl) ?_
        refine g_getr hC hW (o := 22) (ci := 7) (k := 2) zc_k22 zc_b22 rfl hi7 (by decide) rfl (t := 25) zc_r22_2 (by decide +kernel) dX7_search_30 ?_
        refine lv_iload hx hb dX7_search_33 (lv_at hl 4 rfl) ?_
        refine lv_iconst (v := 0) hx hb dX7_search_35 (by decide) ?_
        obtain ⟨m9, h9, hf⟩ := ob_inv hf
        refine g_ist hC hW zc_k25 zc_b25 zc_n25 h9 dX7_search_36 (fun H locs hW => ?_)
        refine lv_aload_n hx hb dX7_search_37 rfl (lv_at hl 0 rfl) ?_
        refine g_getr hC hW (o := 22) (ci := 7) (k := 3) zc_k22 zc_b22 rfl hi7 (by decide) rfl (t := 26) zc_r22_3 (by decide +kernel) dX7_search_38 ?_
        refine lv_iload hx hb dX7_search_41 (lv_at hl 4 rfl) ?_
        refine lv_ldc (v := (-1000000000)) hx hb hown (hts _ (by decide +kernel : Cond.constant RX7 27 (-1000000000) ∈ wsX7_search)) dX7_search_43 ?_
        obtain ⟨m10, h9, hf⟩ := ob_inv hf
        refine g_ist hC hW zc_k26 zc_b26 zc_n26 h9 dX7_search_45 (fun H locs hW => ?_)
        refine lv_iinc (v := (x2 + 1)) (lv' := [(4, .int (x2 + 1)), (0, .ref (G.2.2.1 22)), (1, .ref (G.2.2.1 2)), (2, .ref (G.2.2.1 13)), (3, .int p3)]) hx hb dX7_search_46 hl (k := 4) rfl (congrArg (fun z => x2 + z) (by decide)) (by decide) rfl (fun ls hl => ?_)
        refine lv_goto (tgt := 9) hx hb dX7_search_49 (by decide) ?_
        exact ih _ _ _ _ _ _ _ hf hW (lv_sub hl [1, 2, 3, 4, 0] rfl) hE
  obtain ⟨⟨y4, m5⟩, hg, hf⟩ := ob_inv hf
  have hf := ob_inv2 hf
  refine hL9 _ _ _ _ _ _ _ _ hg hW (lv_sub hl [1, 2, 3, 4, 0] rfl) (fun H locs ls hW hl => ?_)
  refine lv_aload_n hx hb dX7_search_52 rfl (lv_at hl 0 rfl) ?_
  refine lv_iconst (v := 0) hx hb dX7_search_53 (by decide) ?_
  obtain ⟨r11, hg, hf⟩ := ob_inv hf
  refine g_cVi hC hW (o := 22) (ci := 7) (As := [.int 0]) (rest := []) zc_k22 zc_b22 rfl (c_X7_mostNet l G  hg) (cwV 1 hts gX7_search_X7_mostNet rfl rfl rfl (by decide +kernel) ⟨Nat.le_of_ble_eq_true rfl, Nat.le_of_ble_eq_true rfl⟩) rfl hl.1 rfl (Nat.le_of_ble_eq_true rfl) dX7_search_54 ⟨Nat.le_of_ble_eq_true rfl, Nat.le_of_ble_eq_true rfl⟩ (fun H locs hW => ?_)
  refine lv_istore (lv' := [(4, .int r11), (0, .ref (G.2.2.1 22)), (1, .ref (G.2.2.1 2))]) hx hb dX7_search_57 hl (by decide) rfl (fun ls hl => ?_)
  refine lv_aload_n hx hb dX7_search_59 rfl (lv_at hl 1 rfl) ?_
  refine lv_iconst (v := 1) hx hb dX7_search_60 (by decide) ?_
  obtain ⟨r12, hg, hf⟩ := ob_inv hf
  refine g_cVi hC hW (o := 22) (ci := 7) (As := [.int 1]) (rest := []) zc_k22 zc_b22 rfl (c_X7_mostNet l G  hg) (cwV 1 hts gX7_search_X7_mostNet rfl rfl rfl (by decide +kernel) ⟨Nat.le_of_ble_eq_true rfl, Nat.le_of_ble_eq_true rfl⟩) rfl hl.1 rfl (Nat.le_of_ble_eq_true rfl) dX7_search_61 ⟨Nat.le_of_ble_eq_true rfl, Nat.le_of_ble_eq_true rfl⟩ (fun H locs hW => ?_)
  refine lv_istore (lv' := [(5, .int r12), (4, .int r11), (0, .ref (G.2.2.1 22)), (1, .ref (G.2.2.1 2))]) hx hb dX7_search_64 hl (by decide) rfl (fun ls hl => ?_)
  refine lv_aload_n hx hb dX7_search_66 rfl (lv_at hl 2 rfl) ?_
  refine lv_iconst (v := 0) hx hb dX7_search_67 (by decide) ?_
  obtain ⟨r13, hg, hf⟩ := ob_inv hf
  refine g_cVi hC hW (o := 22) (ci := 7) (As := [.int 0]) (rest := []) zc_k22 zc_b22 rfl (c_X7_leastNet l G  hg) (cwV 1 hts gX7_search_X7_leastNet rfl rfl rfl (by decide +kernel) ⟨Nat.le_of_ble_eq_true rfl, Nat.le_of_ble_eq_true rfl⟩) rfl hl.1 rfl (Nat.le_of_ble_eq_true rfl) dX7_search_68 ⟨Nat.le_of_ble_eq_true rfl, Nat.le_of_ble_eq_true rfl⟩ (fun H locs hW => ?_)
  refine lv_istore (lv' := [(6, .int r13), (5, .int r12), (4, .int r11), (0, .ref (G.2.2.1 22)), (1, .ref (G.2.2.1 2))]) hx hb dX7_search_71 hl (by decide) rfl (fun ls hl => ?_)
  have hL73 : ∀ (n : Nat) (x14 : Int32) (m15 : gM) (y16 : Int32) (m17 : gM) (H : Heap) (locs : List Loc) (ls : Array Slot), f_X7_search_L73 r11 r12 n x14 m15 = some (y16, m17) → g_H ZC G s H locs m15 → lv_has ls 8 [(0, .ref (G.2.2.1 22)), (1, .ref (G.2.2.1 2)), (4, .int r11), (5, .int r12), (6, .int x14)] → (∀ (H : Heap) (locs : List Loc) (ls : Array Slot), g_H ZC G s H locs m17 → lv_has ls 8 [] → W p l e (headSpec wsX7_search rmX7_search).room s m ([.ref (G.2.2.1 22), .ref (G.2.2.1 2), .ref (G.2.2.1 13), .int p3] : List Value).toArray below meth c H locs 0 0 Q (F0 m 137 ls [])) → W p l e (headSpec wsX7_search rmX7_search).room s m ([.ref (G.2.2.1 22), .ref (G.2.2.1 2), .ref (G.2.2.1 13), .int p3] : List Value).toArray below meth c H locs 0 0 Q (F0 m 73 ls []) := by
    intro n
    induction n with
    | zero =>
      intro x14 m15 y16 m17 H locs ls hf hW hl hE
      cases hf
    | succ n ih =>
      intro x14 m15 y16 m17 H locs ls hf hW hl hE
      rw [f_X7_search_L73] at hf
      refine lv_iload hx hb dX7_search_73 (lv_at hl 4 rfl) ?_
      refine lv_iload hx hb dX7_search_75 (lv_at hl 2 rfl) ?_
      refine lv_icmp_gt (tgt := 137) hx hb dX7_search_77 (by decide) (fun c18 => ?_) (fun c18 => ?_)
      · have hf := a_if_t c18 hf
        cases hf
        exact hE H locs ls hW (lv_sub hl [] rfl)
      · have hf := a_if_f c18 hf
        refine lv_aload_n hx hb dX7_search_80 rfl (lv_at hl 0 rfl) ?_
        refine lv_iconst (v := 1) hx hb dX7_search_81 (by decide) ?_
        obtain ⟨r19, hg, hf⟩ := ob_inv hf
        refine g_cVi hC hW (o := 22) (ci := 7) (As := [.int 1]) (rest := []) zc_k22 zc_b22 rfl (c_X7_leastNet l G  hg) (cwV 1 hts gX7_search_X7_leastNet rfl rfl rfl (by decide +kernel) ⟨Nat.le_of_ble_eq_true rfl, Nat.le_of_ble_eq_true rfl⟩) rfl hl.1 rfl (Nat.le_of_ble_eq_true rfl) dX7_search_82 ⟨Nat.le_of_ble_eq_true rfl, Nat.le_of_ble_eq_true rfl⟩ (fun H locs hW => ?_)
        refine lv_istore (lv' := [(7, .int r19), (0, .ref (G.2.2.1 22)), (1, .ref (G.2.2.1 2)), (4, .int r11), (5, .int r12), (6, .int x14)]) hx hb dX7_search_85 hl (by decide) rfl (fun ls hl => ?_)
        have hL87 : ∀ (n : Nat) (x20 : Int32) (m21 : gM) (y22 : Int32) (m23 : gM) (H : Heap) (locs : List Loc) (ls : Array Slot), f_X7_search_L87 r12 x14 n x20 m21 = some (y22, m23) → g_H ZC G s H locs m21 → lv_has ls 8 [(0, .ref (G.2.2.1 22)), (1, .ref (G.2.2.1 2)), (4, .int r11), (5, .int r12), (6, .int x14), (7, .int x20)] → (∀ (H : Heap) (locs : List Loc) (ls : Array Slot), g_H ZC G s H locs m23 → lv_has ls 8 [(0, .ref (G.2.2.1 22)), (1, .ref (G.2.2.1 2)), (4, .int r11), (5, .int r12), (6, .int x14)] → W p l e (headSpec wsX7_search rmX7_search).room s m ([.ref (G.2.2.1 22), .ref (G.2.2.1 2), .ref (G.2.2.1 13), .int p3] : List Value).toArray below meth c H locs 0 0 Q (F0 m 131 ls [])) → W p l e (headSpec wsX7_search rmX7_search).room s m ([.ref (G.2.2.1 22), .ref (G.2.2.1 2), .ref (G.2.2.1 13), .int p3] : List Value).toArray below meth c H locs 0 0 Q (F0 m 87 ls []) := by
          intro n
          induction n with
          | zero =>
            intro x20 m21 y22 m23 H locs ls hf hW hl hE
            cases hf
          | succ n ih =>
            intro x20 m21 y22 m23 H locs ls hf hW hl hE
            rw [f_X7_search_L87] at hf
            refine lv_iload hx hb dX7_search_87 (lv_at hl 5 rfl) ?_
            refine lv_iload hx hb dX7_search_89 (lv_at hl 3 rfl) ?_
            refine lv_icmp_gt (tgt := 131) hx hb dX7_search_91 (by decide) (fun c24 => ?_) (fun c24 => ?_)
            · have hf := a_if_t c24 hf
              cases hf
              exact hE H locs ls hW (lv_sub hl [0, 1, 2, 3, 4] rfl)
            · have hf := a_if_f c24 hf
              refine lv_aload_n hx hb dX7_search_94 rfl (lv_at hl 1 rfl) ?_
              refine lv_iload hx hb dX7_search_95 (lv_at hl 4 rfl) ?_
              refine lv_iload hx hb dX7_search_97 (lv_at hl 5 rfl) ?_
              refine lv_iload hx hb dX7_search_99 (lv_at hl 4 rfl) ?_
              refine lv_ineg hx hb dX7_search_101 ?_
              refine lv_iload hx hb dX7_search_102 (lv_at hl 5 rfl) ?_
              refine lv_isub hx hb dX7_search_104 ?_
              obtain ⟨r25, hg, hf⟩ := ob_inv hf
              refine g_cVi hC hW (o := 2) (ci := 6) (As := [.int x14, .int x20, .int ((-x14) - x20)]) (rest := []) zc_k2 zc_b2 rfl (c_X6_allows l G  hg) (cwV 3 hts gX7_search_X6_allows rfl rfl rfl (by decide +kernel) ⟨Nat.le_of_ble_eq_true rfl, Nat.le_of_ble_eq_true rfl⟩) rfl hl.1 rfl (Nat.le_of_ble_eq_true rfl) dX7_search_105 ⟨Nat.le_of_ble_eq_true rfl, Nat.le_of_ble_eq_true rfl⟩ (fun H locs hW => ?_)
              obtain ⟨m27, hg, hf⟩ := ob_inv hf
              have hJ125 : ∀ (H : Heap) (locs : List Loc) (ls : Array Slot), g_H ZC G s H locs m27 → lv_has ls 8 [(0, .ref (G.2.2.1 22)), (1, .ref (G.2.2.1 2)), (4, .int r11), (5, .int r12), (6, .int x14), (7, .int x20)] → W p l e (headSpec wsX7_search rmX7_search).room s m ([.ref (G.2.2.1 22), .ref (G.2.2.1 2), .ref (G.2.2.1 13), .int p3] : List Value).toArray below meth c H locs 0 0 Q (F0 m 125 ls []) := by
                intro H locs ls hW hl
                refine lv_iinc (v := (x20 + 1)) (lv' := [(7, .int (x20 + 1)), (0, .ref (G.2.2.1 22)), (1, .ref (G.2.2.1 2)), (4, .int r11), (5, .int r12), (6, .int x14)]) hx hb dX7_search_125 hl (k := 5) rfl (congrArg (fun z => x20 + z) (by decide)) (by decide) rfl (fun ls hl => ?_)
                refine lv_goto (tgt := 87) hx hb dX7_search_128 (by decide) ?_
                exact ih _ _ _ _ _ _ _ hf hW (lv_sub hl [1, 2, 3, 4, 5, 0] rfl) hE
              replace hf := hg
              refine lv_if_eq (tgt := 125) hx hb dX7_search_108 (by decide) (fun c26 => ?_) (fun c26 => ?_)
              · have hf := a_if_t c26 hf
                cases hf
                exact hJ125 H locs ls hW (lv_sub hl [0, 1, 2, 3, 4, 5] rfl)
              · have hf := a_if_f c26 hf
                refine lv_aload_n hx hb dX7_search_111 rfl (lv_at hl 0 rfl) ?_
                refine lv_iload hx hb dX7_search_112 (lv_at hl 4 rfl) ?_
                refine lv_iload hx hb dX7_search_114 (lv_at hl 5 rfl) ?_
                refine lv_iload hx hb dX7_search_116 (lv_at hl 4 rfl) ?_
                refine lv_ineg hx hb dX7_search_118 ?_
                refine lv_iload hx hb dX7_search_119 (lv_at hl 5 rfl) ?_
                refine lv_isub hx hb dX7_search_121 ?_
                obtain ⟨m28, hg, hf⟩ := ob_inv hf
                refine g_cVv hC hW (o := 22) (ci := 7) (As := [.int x14, .int x20, .int ((-x14) - x20)]) (rest := []) zc_k22 zc_b22 rfl (c_X7_consider l G  hg) (cwV 3 hts gX7_search_X7_consider rfl rfl rfl (by decide +kernel) ⟨Nat.le_of_ble_eq_true rfl, Nat.le_of_ble_eq_true rfl⟩) rfl hl.1 rfl (Nat.le_of_ble_eq_true rfl) dX7_search_122 ⟨Nat.le_of_ble_eq_true rfl, Nat.le_of_ble_eq_true rfl⟩ (fun H locs hW => ?_)
                cases hf
                exact hJ125 H locs ls hW (lv_sub hl [0, 1, 2, 3, 4, 5] rfl)
        obtain ⟨⟨y22, m23⟩, hg, hf⟩ := ob_inv hf
        have hf := ob_inv2 hf
        refine hL87 _ _ _ _ _ _ _ _ hg hW (lv_sub hl [1, 2, 3, 4, 5, 0] rfl) (fun H locs ls hW hl => ?_)
        refine lv_iinc (v := (x14 + 1)) (lv' := [(6, .int (x14 + 1)), (0, .ref (G.2.2.1 22)), (1, .ref (G.2.2.1 2)), (4, .int r11), (5, .int r12)]) hx hb dX7_search_131 hl (k := 4) rfl (congrArg (fun z => x14 + z) (by decide)) (by decide) rfl (fun ls hl => ?_)
        refine lv_goto (tgt := 73) hx hb dX7_search_134 (by decide) ?_
        exact ih _ _ _ _ _ _ _ hf hW (lv_sub hl [1, 2, 3, 4, 0] rfl) hE
  obtain ⟨⟨y16, m17⟩, hg, hf⟩ := ob_inv hf
  have hf := ob_inv2 hf
  refine hL73 _ _ _ _ _ _ _ _ hg hW (lv_sub hl [3, 4, 2, 1, 0] rfl) (fun H locs ls hW hl => ?_)
  cases hf
  subst hQ
  exact g_vret hC hW hr hlocks rfl dX7_search_137
abbrev rmX7_priceOf : Room := { frames := 0, cells := 0, slots := 0, locals := 0 }
set_option maxHeartbeats 4000000 in
set_option maxRecDepth 100000 in
theorem c_X7_priceOf (l : Launch) (G : gG) {p1 : Int32} {me : gM} {r0 : Int32}  (hf : f_X7_priceOf p1 me = some r0) : Met l yX7_priceOf wsX7_priceOf rmX7_priceOf (va_Pc [.ref (G.2.2.1 22), .int p1] (g_W ZC G me)) (g_Qi ZC G r0 me) 0 0 (g_A ZC G) := by
  refine Met.ofW (cc := cX7_priceOf) (maxL := 2) (ret := (some .int)) (by decide) rfl ?_
  intro p e s m args below meth c s₁ B hml hv
  obtain ⟨rfl, hW0⟩ := hv
  have hC : CallFix p m c cX7_priceOf 2 s ([.ref (G.2.2.1 22), .int p1] : List Value).toArray wsX7_priceOf RX7 := ⟨B.exec, B.bytes, hml, findClass_of_methodNamed B.named, atoms_spec (ws := wsX7_priceOf) B.pre⟩
  have hx := hC.1
  have hb := hC.2.1
  have hown := hC.2.2.2.1
  have hts := hC.2.2.2.2
  have hr := B.returns
  have hlocks := B.notSynchronized
  have hW := g_H_enter hW0
  have hi7 : ∀ w ∈ wsX70, w ∈ wsX7_priceOf := by decide +kernel
  have hl := lv_entry ([.ref (G.2.2.1 22), .int p1]) (n := 2) (Nat.le_of_ble_eq_true rfl)
  rw [lg_entry_eq]
  generalize (lg_sl ([.ref (G.2.2.1 22), .int p1]) ++ List.replicate (2 - (lg_sl ([.ref (G.2.2.1 22), .int p1])).length) Slot.unset).toArray = ls at hl ⊢
  have hl : lv_has ls 2 [(0, .ref (G.2.2.1 22)), (1, .int p1)] := hl
  obtain ⟨Q, hQ⟩ : ∃ Q, Q = MQ below (g_Qi ZC G r0 me) ([.ref (G.2.2.1 22), .int p1] : List Value).toArray s 0 0 (g_A ZC G) := ⟨_, rfl⟩
  refine g_goQ hQ ?_
  unfold f_X7_priceOf at hf
  refine g_start hW (fun H locs hW => ?_)
  refine lv_aload_n hx hb dX7_priceOf_0 rfl (lv_at hl 0 rfl) ?_
  refine g_geti hC hW (o := 22) (ci := 7) (k := 4) zc_k22 zc_b22 rfl hi7 (by decide) rfl (by decide +kernel) dX7_priceOf_1 ?_
  refine lv_ldc (v := (-1000000000)) hx hb hown (hts _ (by decide +kernel : Cond.constant RX7 27 (-1000000000) ∈ wsX7_priceOf)) dX7_priceOf_4 ?_
  obtain ⟨z2, hg, hf⟩ := ob_inv hf
  have hJ37 : ∀ (H : Heap) (locs : List Loc) (ls : Array Slot), g_H ZC G s H locs me → lv_has ls 2 [] → W p l e (headSpec wsX7_priceOf rmX7_priceOf).room s m ([.ref (G.2.2.1 22), .int p1] : List Value).toArray below meth c H locs 0 0 Q (F0 m 37 ls [.int z2]) := by
    intro H locs ls hW hl
    cases hf
    subst hQ
    exact g_iret hC hW hr hlocks rfl rfl dX7_priceOf_37
  replace hf := hg
  refine lv_icmp_eq (tgt := 22) hx hb dX7_priceOf_6 (by decide) (fun c1 => ?_) (fun c1 => ?_)
  · have hf := a_if_t c1 hf
    refine lv_iconst (v := 0) hx hb dX7_priceOf_22 (by decide) ?_
    refine lv_goto (tgt := 37) hx hb dX7_priceOf_23 (by decide) ?_
    cases hf
    exact hJ37 H locs ls hW (lv_sub hl [] rfl)
  · have hf := a_if_f c1 hf
    refine lv_aload_n hx hb dX7_priceOf_9 rfl (lv_at hl 0 rfl) ?_
    refine g_getr hC hW (o := 22) (ci := 7) (k := 3) zc_k22 zc_b22 rfl hi7 (by decide) rfl (t := 26) zc_r22_3 (by decide +kernel) dX7_priceOf_10 ?_
    refine lv_iload_n hx hb dX7_priceOf_13 rfl (lv_at hl 1 rfl) ?_
    obtain ⟨v3, h9, hf⟩ := ob_inv hf
    refine g_ild hC hW zc_k26 zc_b26 zc_n26 h9 dX7_priceOf_14 ?_
    refine lv_aload_n hx hb dX7_priceOf_15 rfl (lv_at hl 0 rfl) ?_
    refine g_geti hC hW (o := 22) (ci := 7) (k := 4) zc_k22 zc_b22 rfl hi7 (by decide) rfl (by decide +kernel) dX7_priceOf_16 ?_
    refine lv_icmp_ge (tgt := 26) hx hb dX7_priceOf_19 (by decide) (fun c4 => ?_) (fun c4 => ?_)
    · have hf := a_if_t c4 hf
      refine lv_aload_n hx hb dX7_priceOf_26 rfl (lv_at hl 0 rfl) ?_
      refine g_getr hC hW (o := 22) (ci := 7) (k := 3) zc_k22 zc_b22 rfl hi7 (by decide) rfl (t := 26) zc_r22_3 (by decide +kernel) dX7_priceOf_27 ?_
      refine lv_iload_n hx hb dX7_priceOf_30 rfl (lv_at hl 1 rfl) ?_
      obtain ⟨v5, h9, hf⟩ := ob_inv hf
      refine g_ild hC hW zc_k26 zc_b26 zc_n26 h9 dX7_priceOf_31 ?_
      refine lv_aload_n hx hb dX7_priceOf_32 rfl (lv_at hl 0 rfl) ?_
      refine g_geti hC hW (o := 22) (ci := 7) (k := 4) zc_k22 zc_b22 rfl hi7 (by decide) rfl (by decide +kernel) dX7_priceOf_33 ?_
      refine lv_isub hx hb dX7_priceOf_36 ?_
      cases hf
      exact hJ37 H locs ls hW (lv_sub hl [] rfl)
    · have hf := a_if_f c4 hf
      refine lv_iconst (v := 0) hx hb dX7_priceOf_22 (by decide) ?_
      refine lv_goto (tgt := 37) hx hb dX7_priceOf_23 (by decide) ?_
      cases hf
      exact hJ37 H locs ls hW (lv_sub hl [] rfl)
