def f_L_bid (p1 : Int32) (p2 : Int32) (p3 : Int32) (p4 : Int32) (p5 : Int32) (p6 : Int32) (me : gM) : Option (Int32 × gM) :=
  os (f_X9_bid p1 p2 p3 p4 p5 p6 me) (fun k9 => if k9 = 3 then some ((-9), me) else none) fun w1 =>
  ob (some w1.1) fun r3 =>
  ob (some w1.2) fun m2 =>
  some (r3, m2)
def f_L_block (p1 : Int32) (p2 : Int32) (p3 : Int32) (p4 : Int32) (p5 : Int32) (p6 : Int32) (me : gM) : Option (Int32 × gM) :=
  os (f_X9_block p1 p2 p3 p4 p5 p6 me) (fun k9 => if k9 = 3 then some ((-9), me) else none) fun w1 =>
  ob (some w1.1) fun r3 =>
  ob (some w1.2) fun m2 =>
  some (r3, m2)
def f_L_ask (p1 : Int32) (p2 : Int32) (p3 : Int32) (p4 : Int32) (p5 : Int32) (me : gM) : Option (Int32 × gM) :=
  os (f_X9_ask p1 p2 p3 p4 p5 me) (fun k9 => if k9 = 3 then some ((-9), me) else none) fun w1 =>
  ob (some w1.1) fun r3 =>
  ob (some w1.2) fun m2 =>
  some (r3, m2)
def f_L_offer (p1 : Int32) (p2 : Int32) (p3 : Int32) (p4 : Int32) (p5 : Int32) (p6 : Int32) (me : gM) : Option (Int32 × gM) :=
  os (f_X9_offer p1 p2 p3 p4 p5 p6 me) (fun k9 => if k9 = 3 then some ((-9), me) else none) fun w1 =>
  ob (some w1.1) fun r3 =>
  ob (some w1.2) fun m2 =>
  some (r3, m2)
def f_L_aid (p1 : Int32) (p2 : Int32) (p3 : Int32) (p4 : Int32) (p5 : Int32) (me : gM) : Option (Int32 × gM) :=
  os (f_X9_aid p1 p2 p3 p4 p5 me) (fun k9 => if k9 = 3 then some ((-9), me) else none) fun w1 =>
  ob (some w1.1) fun r3 =>
  ob (some w1.2) fun m2 =>
  some (r3, m2)
def f_L_deposit (p1 : Int32) (p2 : Int32) (me : gM) : Option (Int32 × gM) :=
  os (f_X9_deposit p1 p2 me) (fun k9 => if k9 = 3 then some ((-9), me) else none) fun w1 =>
  ob (some w1.1) fun r3 =>
  ob (some w1.2) fun m2 =>
  some (r3, m2)
def f_L_run (p1 : Int32) (me : gM) : Option (Int32 × gM) :=
  os (f_X9_run p1 me) (fun k9 => if k9 = 3 then some ((-9), me) else none) fun w1 =>
  ob (some w1.1) fun r3 =>
  ob (some w1.2) fun m2 =>
  some (r3, m2)
set_option maxRecDepth 20000 in
theorem gW_bid : GoodIn wsW_bid (wsV RL 9 RX9 yX9_bid wsX9_bid) := goodIn_app (goodIn_of _ (by decide +kernel)) (goodIn_sub (fun _ h => List.mem_cons_of_mem _ (List.mem_append_right _ h)) (by decide +kernel))
abbrev rmL_bid : Room := { frames := 8, cells := 6, slots := 36, locals := 138 }
set_option maxHeartbeats 4000000 in
set_option maxRecDepth 100000 in
theorem c_L_bid (l : Launch) (G : gG) (hst : l.stackTraces = false) {p1 : Int32} {p2 : Int32} {p3 : Int32} {p4 : Int32} {p5 : Int32} {p6 : Int32} {me : gM} {r0 : Int32} {m0 : gM} (hf : f_L_bid p1 p2 p3 p4 p5 p6 me = some (r0, m0)) : vx_Met l yL_bid wsW_bid rmL_bid (va_Pc [.ref (G.2.2.1 0), .int p1, .int p2, .int p3, .int p4, .int p5, .int p6] (g_WY ZC G me)) (g_Qi ZC G r0 m0) (g_XN G) 6 36 (g_A ZC G) := by
  refine vx_ofWH (cc := cL_bid) (maxL := 8) (ret := (some .int)) (hh := [(0, 13, 14, 15)]) (by decide) rfl ?_
  intro p e s m args below meth c s₁ B hml hv
  obtain ⟨rfl, ⟨hW0, hX0⟩, hN0⟩ := hv
  have hC : CallFix p m c cL_bid 8 s ([.ref (G.2.2.1 0), .int p1, .int p2, .int p3, .int p4, .int p5, .int p6] : List Value).toArray wsW_bid RL := ⟨B.exec, B.bytes, hml, findClass_of_methodNamed B.named, atoms_spec (ws := wsW_bid) B.pre⟩
  have hx := hC.1
  have hb := hC.2.1
  have hown := hC.2.2.2.1
  have hts := hC.2.2.2.2
  have hr := B.returns
  have hlocks := B.notSynchronized
  have hW := g_H_enter hW0
  have htab : c.exceptionTable.toList = tableOf [(0, 13, 14, 15)] := vx_table (x := yL_bid) B (hts _ List.mem_cons_self)
  have hl := lv_entry ([.ref (G.2.2.1 0), .int p1, .int p2, .int p3, .int p4, .int p5, .int p6]) (n := 8) (Nat.le_of_ble_eq_true rfl)
  rw [lg_entry_eq]
  generalize (lg_sl ([.ref (G.2.2.1 0), .int p1, .int p2, .int p3, .int p4, .int p5, .int p6]) ++ List.replicate (8 - (lg_sl ([.ref (G.2.2.1 0), .int p1, .int p2, .int p3, .int p4, .int p5, .int p6])).length) Slot.unset).toArray = ls at hl ⊢
  have hl : lv_has ls 8 [(0, .ref (G.2.2.1 0)), (1, .int p1), (2, .int p2), (3, .int p3), (4, .int p4), (5, .int p5), (6, .int p6)] := hl
  obtain ⟨Q, hQ⟩ : ∃ Q, Q = vx_MQ below (g_Qi ZC G r0 m0) (g_XN G) ([.ref (G.2.2.1 0), .int p1, .int p2, .int p3, .int p4, .int p5, .int p6] : List Value).toArray s 6 36 (g_A ZC G) := ⟨_, rfl⟩
  refine g_goQ hQ ?_
  unfold f_L_bid at hf
  refine g_start hW (fun H locs hW => ?_)
  refine lv_aload_n hx hb dL_bid_0 rfl (lv_at hl 0 rfl) ?_
  refine lv_iload_n hx hb dL_bid_1 rfl (lv_at hl 1 rfl) ?_
  refine lv_iload_n hx hb dL_bid_2 rfl (lv_at hl 2 rfl) ?_
  refine lv_iload_n hx hb dL_bid_3 rfl (lv_at hl 3 rfl) ?_
  refine lv_iload hx hb dL_bid_4 (lv_at hl 4 rfl) ?_
  refine lv_iload hx hb dL_bid_6 (lv_at hl 5 rfl) ?_
  refine lv_iload hx hb dL_bid_8 (lv_at hl 6 rfl) ?_
  obtain ⟨v9, hg, hfx, hfn⟩ := os_inv hf
  refine g_cXVw hC hW hX0 (o := 0) (ci := 9) (As := [.int p1, .int p2, .int p3, .int p4, .int p5, .int p6]) (rest := []) zc_k0 zc_b0 rfl (c_X9_bid l G hst hg) (cwV 6 hts gW_bid rfl rfl rfl (by decide +kernel) ⟨(Nat.le_of_ble_eq_true rfl), (Nat.le_of_ble_eq_true rfl)⟩) rfl hl.1 rfl (Nat.le_of_ble_eq_true rfl) dL_bid_10 ⟨(Nat.le_of_ble_eq_true rfl), (Nat.le_of_ble_eq_true rfl)⟩ (fun k9 hk9 H locs q9 ce hW hq9 hcv hcl => ?_) (fun r3 m2 hv9 H locs hW => ?_)
  · have hf := hfx _ hk9
    by_cases hk0 : k9 = 3
    · have hf := a_if_t hk0 hf
      subst hk0
      refine vx_catch (name := g_xn 3) (E := g_xn 3) hown (pre := []) (x := ⟨0, 13, 14, 15⟩) (suf := []) (hsplit := htab) (fun z hz => by cases hz) (by decide) (by decide) (hts _ (by decide +kernel : Cond.classLink RL 15 (g_xn 3) ∈ wsW_bid)) (va_Nw.use rfl (hX0.2.2.1 _ (by decide +kernel : Cond.castable (g_xn 3) (g_xn 3) ∈ g_xw))) hq9 hcv hcl ?_
      refine lv_astore (lv' := [(7, .ref q9), (0, .ref (G.2.2.1 0)), (1, .int p1), (2, .int p2), (3, .int p3), (4, .int p4), (5, .int p5), (6, .int p6)]) hx hb dL_bid_14 hl (by decide) rfl (fun ls hl => ?_)
      refine lv_bipush (v := (-9)) hx hb dL_bid_16 (by decide) ?_
      cases hf
      subst hQ
      exact g_yiret hC hW hr hlocks rfl rfl (Nat.le_of_ble_eq_true rfl) (Nat.le_of_ble_eq_true rfl) dL_bid_18
    have hf := a_if_f hk0 hf
    cases hf
  have hf := hfn _ hv9
  have hf := ob_inv2 hf
  cases hf
  subst hQ
  exact g_yiret hC hW hr hlocks rfl rfl (Nat.le_of_ble_eq_true rfl) (Nat.le_of_ble_eq_true rfl) dL_bid_13
set_option maxRecDepth 20000 in
theorem gW_block : GoodIn wsW_block (wsV RL 17 RX9 yX9_block wsX9_block) := goodIn_app (goodIn_of _ (by decide +kernel)) (goodIn_sub (fun _ h => List.mem_cons_of_mem _ (List.mem_append_right _ h)) (by decide +kernel))
abbrev rmL_block : Room := { frames := 8, cells := 6, slots := 36, locals := 138 }
set_option maxHeartbeats 4000000 in
set_option maxRecDepth 100000 in
theorem c_L_block (l : Launch) (G : gG) (hst : l.stackTraces = false) {p1 : Int32} {p2 : Int32} {p3 : Int32} {p4 : Int32} {p5 : Int32} {p6 : Int32} {me : gM} {r0 : Int32} {m0 : gM} (hf : f_L_block p1 p2 p3 p4 p5 p6 me = some (r0, m0)) : vx_Met l yL_block wsW_block rmL_block (va_Pc [.ref (G.2.2.1 0), .int p1, .int p2, .int p3, .int p4, .int p5, .int p6] (g_WY ZC G me)) (g_Qi ZC G r0 m0) (g_XN G) 6 36 (g_A ZC G) := by
  refine vx_ofWH (cc := cL_block) (maxL := 8) (ret := (some .int)) (hh := [(0, 13, 14, 15)]) (by decide) rfl ?_
  intro p e s m args below meth c s₁ B hml hv
  obtain ⟨rfl, ⟨hW0, hX0⟩, hN0⟩ := hv
  have hC : CallFix p m c cL_block 8 s ([.ref (G.2.2.1 0), .int p1, .int p2, .int p3, .int p4, .int p5, .int p6] : List Value).toArray wsW_block RL := ⟨B.exec, B.bytes, hml, findClass_of_methodNamed B.named, atoms_spec (ws := wsW_block) B.pre⟩
  have hx := hC.1
  have hb := hC.2.1
  have hown := hC.2.2.2.1
  have hts := hC.2.2.2.2
  have hr := B.returns
  have hlocks := B.notSynchronized
  have hW := g_H_enter hW0
  have htab : c.exceptionTable.toList = tableOf [(0, 13, 14, 15)] := vx_table (x := yL_block) B (hts _ List.mem_cons_self)
  have hl := lv_entry ([.ref (G.2.2.1 0), .int p1, .int p2, .int p3, .int p4, .int p5, .int p6]) (n := 8) (Nat.le_of_ble_eq_true rfl)
  rw [lg_entry_eq]
  generalize (lg_sl ([.ref (G.2.2.1 0), .int p1, .int p2, .int p3, .int p4, .int p5, .int p6]) ++ List.replicate (8 - (lg_sl ([.ref (G.2.2.1 0), .int p1, .int p2, .int p3, .int p4, .int p5, .int p6])).length) Slot.unset).toArray = ls at hl ⊢
  have hl : lv_has ls 8 [(0, .ref (G.2.2.1 0)), (1, .int p1), (2, .int p2), (3, .int p3), (4, .int p4), (5, .int p5), (6, .int p6)] := hl
  obtain ⟨Q, hQ⟩ : ∃ Q, Q = vx_MQ below (g_Qi ZC G r0 m0) (g_XN G) ([.ref (G.2.2.1 0), .int p1, .int p2, .int p3, .int p4, .int p5, .int p6] : List Value).toArray s 6 36 (g_A ZC G) := ⟨_, rfl⟩
  refine g_goQ hQ ?_
  unfold f_L_block at hf
  refine g_start hW (fun H locs hW => ?_)
  refine lv_aload_n hx hb dL_block_0 rfl (lv_at hl 0 rfl) ?_
  refine lv_iload_n hx hb dL_block_1 rfl (lv_at hl 1 rfl) ?_
  refine lv_iload_n hx hb dL_block_2 rfl (lv_at hl 2 rfl) ?_
  refine lv_iload_n hx hb dL_block_3 rfl (lv_at hl 3 rfl) ?_
  refine lv_iload hx hb dL_block_4 (lv_at hl 4 rfl) ?_
  refine lv_iload hx hb dL_block_6 (lv_at hl 5 rfl) ?_
  refine lv_iload hx hb dL_block_8 (lv_at hl 6 rfl) ?_
  obtain ⟨v9, hg, hfx, hfn⟩ := os_inv hf
  refine g_cXVw hC hW hX0 (o := 0) (ci := 9) (As := [.int p1, .int p2, .int p3, .int p4, .int p5, .int p6]) (rest := []) zc_k0 zc_b0 rfl (c_X9_block l G hst hg) (cwV 6 hts gW_block rfl rfl rfl (by decide +kernel) ⟨(Nat.le_of_ble_eq_true rfl), (Nat.le_of_ble_eq_true rfl)⟩) rfl hl.1 rfl (Nat.le_of_ble_eq_true rfl) dL_block_10 ⟨(Nat.le_of_ble_eq_true rfl), (Nat.le_of_ble_eq_true rfl)⟩ (fun k9 hk9 H locs q9 ce hW hq9 hcv hcl => ?_) (fun r3 m2 hv9 H locs hW => ?_)
  · have hf := hfx _ hk9
    by_cases hk0 : k9 = 3
    · have hf := a_if_t hk0 hf
      subst hk0
      refine vx_catch (name := g_xn 3) (E := g_xn 3) hown (pre := []) (x := ⟨0, 13, 14, 15⟩) (suf := []) (hsplit := htab) (fun z hz => by cases hz) (by decide) (by decide) (hts _ (by decide +kernel : Cond.classLink RL 15 (g_xn 3) ∈ wsW_block)) (va_Nw.use rfl (hX0.2.2.1 _ (by decide +kernel : Cond.castable (g_xn 3) (g_xn 3) ∈ g_xw))) hq9 hcv hcl ?_
      refine lv_astore (lv' := [(7, .ref q9), (0, .ref (G.2.2.1 0)), (1, .int p1), (2, .int p2), (3, .int p3), (4, .int p4), (5, .int p5), (6, .int p6)]) hx hb dL_block_14 hl (by decide) rfl (fun ls hl => ?_)
      refine lv_bipush (v := (-9)) hx hb dL_block_16 (by decide) ?_
      cases hf
      subst hQ
      exact g_yiret hC hW hr hlocks rfl rfl (Nat.le_of_ble_eq_true rfl) (Nat.le_of_ble_eq_true rfl) dL_block_18
    have hf := a_if_f hk0 hf
    cases hf
  have hf := hfn _ hv9
  have hf := ob_inv2 hf
  cases hf
  subst hQ
  exact g_yiret hC hW hr hlocks rfl rfl (Nat.le_of_ble_eq_true rfl) (Nat.le_of_ble_eq_true rfl) dL_block_13
set_option maxRecDepth 20000 in
theorem gW_ask : GoodIn wsW_ask (wsV RL 20 RX9 yX9_ask wsX9_ask) := goodIn_app (goodIn_of _ (by decide +kernel)) (goodIn_sub (fun _ h => List.mem_cons_of_mem _ (List.mem_append_right _ h)) (by decide +kernel))
abbrev rmL_ask : Room := { frames := 8, cells := 7, slots := 42, locals := 137 }
set_option maxHeartbeats 4000000 in
set_option maxRecDepth 100000 in
theorem c_L_ask (l : Launch) (G : gG) (hst : l.stackTraces = false) {p1 : Int32} {p2 : Int32} {p3 : Int32} {p4 : Int32} {p5 : Int32} {me : gM} {r0 : Int32} {m0 : gM} (hf : f_L_ask p1 p2 p3 p4 p5 me = some (r0, m0)) : vx_Met l yL_ask wsW_ask rmL_ask (va_Pc [.ref (G.2.2.1 0), .int p1, .int p2, .int p3, .int p4, .int p5] (g_WY ZC G me)) (g_Qi ZC G r0 m0) (g_XN G) 7 42 (g_A ZC G) := by
  refine vx_ofWH (cc := cL_ask) (maxL := 7) (ret := (some .int)) (hh := [(0, 11, 12, 15)]) (by decide) rfl ?_
  intro p e s m args below meth c s₁ B hml hv
  obtain ⟨rfl, ⟨hW0, hX0⟩, hN0⟩ := hv
  have hC : CallFix p m c cL_ask 7 s ([.ref (G.2.2.1 0), .int p1, .int p2, .int p3, .int p4, .int p5] : List Value).toArray wsW_ask RL := ⟨B.exec, B.bytes, hml, findClass_of_methodNamed B.named, atoms_spec (ws := wsW_ask) B.pre⟩
  have hx := hC.1
  have hb := hC.2.1
  have hown := hC.2.2.2.1
  have hts := hC.2.2.2.2
  have hr := B.returns
  have hlocks := B.notSynchronized
  have hW := g_H_enter hW0
  have htab : c.exceptionTable.toList = tableOf [(0, 11, 12, 15)] := vx_table (x := yL_ask) B (hts _ List.mem_cons_self)
  have hl := lv_entry ([.ref (G.2.2.1 0), .int p1, .int p2, .int p3, .int p4, .int p5]) (n := 7) (Nat.le_of_ble_eq_true rfl)
  rw [lg_entry_eq]
  generalize (lg_sl ([.ref (G.2.2.1 0), .int p1, .int p2, .int p3, .int p4, .int p5]) ++ List.replicate (7 - (lg_sl ([.ref (G.2.2.1 0), .int p1, .int p2, .int p3, .int p4, .int p5])).length) Slot.unset).toArray = ls at hl ⊢
  have hl : lv_has ls 7 [(0, .ref (G.2.2.1 0)), (1, .int p1), (2, .int p2), (3, .int p3), (4, .int p4), (5, .int p5)] := hl
  obtain ⟨Q, hQ⟩ : ∃ Q, Q = vx_MQ below (g_Qi ZC G r0 m0) (g_XN G) ([.ref (G.2.2.1 0), .int p1, .int p2, .int p3, .int p4, .int p5] : List Value).toArray s 7 42 (g_A ZC G) := ⟨_, rfl⟩
  refine g_goQ hQ ?_
  unfold f_L_ask at hf
  refine g_start hW (fun H locs hW => ?_)
  refine lv_aload_n hx hb dL_ask_0 rfl (lv_at hl 0 rfl) ?_
  refine lv_iload_n hx hb dL_ask_1 rfl (lv_at hl 1 rfl) ?_
  refine lv_iload_n hx hb dL_ask_2 rfl (lv_at hl 2 rfl) ?_
  refine lv_iload_n hx hb dL_ask_3 rfl (lv_at hl 3 rfl) ?_
  refine lv_iload hx hb dL_ask_4 (lv_at hl 4 rfl) ?_
  refine lv_iload hx hb dL_ask_6 (lv_at hl 5 rfl) ?_
  obtain ⟨v9, hg, hfx, hfn⟩ := os_inv hf
  refine g_cXVw hC hW hX0 (o := 0) (ci := 9) (As := [.int p1, .int p2, .int p3, .int p4, .int p5]) (rest := []) zc_k0 zc_b0 rfl (c_X9_ask l G hst hg) (cwV 5 hts gW_ask rfl rfl rfl (by decide +kernel) ⟨(Nat.le_of_ble_eq_true rfl), (Nat.le_of_ble_eq_true rfl)⟩) rfl hl.1 rfl (Nat.le_of_ble_eq_true rfl) dL_ask_8 ⟨(Nat.le_of_ble_eq_true rfl), (Nat.le_of_ble_eq_true rfl)⟩ (fun k9 hk9 H locs q9 ce hW hq9 hcv hcl => ?_) (fun r3 m2 hv9 H locs hW => ?_)
  · have hf := hfx _ hk9
    by_cases hk0 : k9 = 3
    · have hf := a_if_t hk0 hf
      subst hk0
      refine vx_catch (name := g_xn 3) (E := g_xn 3) hown (pre := []) (x := ⟨0, 11, 12, 15⟩) (suf := []) (hsplit := htab) (fun z hz => by cases hz) (by decide) (by decide) (hts _ (by decide +kernel : Cond.classLink RL 15 (g_xn 3) ∈ wsW_ask)) (va_Nw.use rfl (hX0.2.2.1 _ (by decide +kernel : Cond.castable (g_xn 3) (g_xn 3) ∈ g_xw))) hq9 hcv hcl ?_
      refine lv_astore (lv' := [(6, .ref q9), (0, .ref (G.2.2.1 0)), (1, .int p1), (2, .int p2), (3, .int p3), (4, .int p4), (5, .int p5)]) hx hb dL_ask_12 hl (by decide) rfl (fun ls hl => ?_)
      refine lv_bipush (v := (-9)) hx hb dL_ask_14 (by decide) ?_
      cases hf
      subst hQ
      exact g_yiret hC hW hr hlocks rfl rfl (Nat.le_of_ble_eq_true rfl) (Nat.le_of_ble_eq_true rfl) dL_ask_16
    have hf := a_if_f hk0 hf
    cases hf
  have hf := hfn _ hv9
  have hf := ob_inv2 hf
  cases hf
  subst hQ
  exact g_yiret hC hW hr hlocks rfl rfl (Nat.le_of_ble_eq_true rfl) (Nat.le_of_ble_eq_true rfl) dL_ask_11
set_option maxRecDepth 20000 in
theorem gW_offer : GoodIn wsW_offer (wsV RL 24 RX9 yX9_offer wsX9_offer) := goodIn_app (goodIn_of _ (by decide +kernel)) (goodIn_sub (fun _ h => List.mem_cons_of_mem _ (List.mem_append_right _ h)) (by decide +kernel))
abbrev rmL_offer : Room := { frames := 8, cells := 6, slots := 36, locals := 148 }
set_option maxHeartbeats 4000000 in
set_option maxRecDepth 100000 in
theorem c_L_offer (l : Launch) (G : gG) (hst : l.stackTraces = false) {p1 : Int32} {p2 : Int32} {p3 : Int32} {p4 : Int32} {p5 : Int32} {p6 : Int32} {me : gM} {r0 : Int32} {m0 : gM} (hf : f_L_offer p1 p2 p3 p4 p5 p6 me = some (r0, m0)) : vx_Met l yL_offer wsW_offer rmL_offer (va_Pc [.ref (G.2.2.1 0), .int p1, .int p2, .int p3, .int p4, .int p5, .int p6] (g_WY ZC G me)) (g_Qi ZC G r0 m0) (g_XN G) 6 36 (g_A ZC G) := by
  refine vx_ofWH (cc := cL_offer) (maxL := 8) (ret := (some .int)) (hh := [(0, 13, 14, 15)]) (by decide) rfl ?_
  intro p e s m args below meth c s₁ B hml hv
  obtain ⟨rfl, ⟨hW0, hX0⟩, hN0⟩ := hv
  have hC : CallFix p m c cL_offer 8 s ([.ref (G.2.2.1 0), .int p1, .int p2, .int p3, .int p4, .int p5, .int p6] : List Value).toArray wsW_offer RL := ⟨B.exec, B.bytes, hml, findClass_of_methodNamed B.named, atoms_spec (ws := wsW_offer) B.pre⟩
  have hx := hC.1
  have hb := hC.2.1
  have hown := hC.2.2.2.1
  have hts := hC.2.2.2.2
  have hr := B.returns
  have hlocks := B.notSynchronized
  have hW := g_H_enter hW0
  have htab : c.exceptionTable.toList = tableOf [(0, 13, 14, 15)] := vx_table (x := yL_offer) B (hts _ List.mem_cons_self)
  have hl := lv_entry ([.ref (G.2.2.1 0), .int p1, .int p2, .int p3, .int p4, .int p5, .int p6]) (n := 8) (Nat.le_of_ble_eq_true rfl)
  rw [lg_entry_eq]
  generalize (lg_sl ([.ref (G.2.2.1 0), .int p1, .int p2, .int p3, .int p4, .int p5, .int p6]) ++ List.replicate (8 - (lg_sl ([.ref (G.2.2.1 0), .int p1, .int p2, .int p3, .int p4, .int p5, .int p6])).length) Slot.unset).toArray = ls at hl ⊢
  have hl : lv_has ls 8 [(0, .ref (G.2.2.1 0)), (1, .int p1), (2, .int p2), (3, .int p3), (4, .int p4), (5, .int p5), (6, .int p6)] := hl
  obtain ⟨Q, hQ⟩ : ∃ Q, Q = vx_MQ below (g_Qi ZC G r0 m0) (g_XN G) ([.ref (G.2.2.1 0), .int p1, .int p2, .int p3, .int p4, .int p5, .int p6] : List Value).toArray s 6 36 (g_A ZC G) := ⟨_, rfl⟩
  refine g_goQ hQ ?_
  unfold f_L_offer at hf
  refine g_start hW (fun H locs hW => ?_)
  refine lv_aload_n hx hb dL_offer_0 rfl (lv_at hl 0 rfl) ?_
  refine lv_iload_n hx hb dL_offer_1 rfl (lv_at hl 1 rfl) ?_
  refine lv_iload_n hx hb dL_offer_2 rfl (lv_at hl 2 rfl) ?_
  refine lv_iload_n hx hb dL_offer_3 rfl (lv_at hl 3 rfl) ?_
  refine lv_iload hx hb dL_offer_4 (lv_at hl 4 rfl) ?_
  refine lv_iload hx hb dL_offer_6 (lv_at hl 5 rfl) ?_
  refine lv_iload hx hb dL_offer_8 (lv_at hl 6 rfl) ?_
  obtain ⟨v9, hg, hfx, hfn⟩ := os_inv hf
  refine g_cXVw hC hW hX0 (o := 0) (ci := 9) (As := [.int p1, .int p2, .int p3, .int p4, .int p5, .int p6]) (rest := []) zc_k0 zc_b0 rfl (c_X9_offer l G hst hg) (cwV 6 hts gW_offer rfl rfl rfl (by decide +kernel) ⟨(Nat.le_of_ble_eq_true rfl), (Nat.le_of_ble_eq_true rfl)⟩) rfl hl.1 rfl (Nat.le_of_ble_eq_true rfl) dL_offer_10 ⟨(Nat.le_of_ble_eq_true rfl), (Nat.le_of_ble_eq_true rfl)⟩ (fun k9 hk9 H locs q9 ce hW hq9 hcv hcl => ?_) (fun r3 m2 hv9 H locs hW => ?_)
  · have hf := hfx _ hk9
    by_cases hk0 : k9 = 3
    · have hf := a_if_t hk0 hf
      subst hk0
      refine vx_catch (name := g_xn 3) (E := g_xn 3) hown (pre := []) (x := ⟨0, 13, 14, 15⟩) (suf := []) (hsplit := htab) (fun z hz => by cases hz) (by decide) (by decide) (hts _ (by decide +kernel : Cond.classLink RL 15 (g_xn 3) ∈ wsW_offer)) (va_Nw.use rfl (hX0.2.2.1 _ (by decide +kernel : Cond.castable (g_xn 3) (g_xn 3) ∈ g_xw))) hq9 hcv hcl ?_
      refine lv_astore (lv' := [(7, .ref q9), (0, .ref (G.2.2.1 0)), (1, .int p1), (2, .int p2), (3, .int p3), (4, .int p4), (5, .int p5), (6, .int p6)]) hx hb dL_offer_14 hl (by decide) rfl (fun ls hl => ?_)
      refine lv_bipush (v := (-9)) hx hb dL_offer_16 (by decide) ?_
      cases hf
      subst hQ
      exact g_yiret hC hW hr hlocks rfl rfl (Nat.le_of_ble_eq_true rfl) (Nat.le_of_ble_eq_true rfl) dL_offer_18
    have hf := a_if_f hk0 hf
    cases hf
  have hf := hfn _ hv9
  have hf := ob_inv2 hf
  cases hf
  subst hQ
  exact g_yiret hC hW hr hlocks rfl rfl (Nat.le_of_ble_eq_true rfl) (Nat.le_of_ble_eq_true rfl) dL_offer_13
set_option maxRecDepth 20000 in
theorem gW_aid : GoodIn wsW_aid (wsV RL 27 RX9 yX9_aid wsX9_aid) := goodIn_app (goodIn_of _ (by decide +kernel)) (goodIn_sub (fun _ h => List.mem_cons_of_mem _ (List.mem_append_right _ h)) (by decide +kernel))
abbrev rmL_aid : Room := { frames := 8, cells := 5, slots := 30, locals := 138 }
set_option maxHeartbeats 4000000 in
set_option maxRecDepth 100000 in
theorem c_L_aid (l : Launch) (G : gG) (hst : l.stackTraces = false) {p1 : Int32} {p2 : Int32} {p3 : Int32} {p4 : Int32} {p5 : Int32} {me : gM} {r0 : Int32} {m0 : gM} (hf : f_L_aid p1 p2 p3 p4 p5 me = some (r0, m0)) : vx_Met l yL_aid wsW_aid rmL_aid (va_Pc [.ref (G.2.2.1 0), .int p1, .int p2, .int p3, .int p4, .int p5] (g_WY ZC G me)) (g_Qi ZC G r0 m0) (g_XN G) 5 30 (g_A ZC G) := by
  refine vx_ofWH (cc := cL_aid) (maxL := 7) (ret := (some .int)) (hh := [(0, 11, 12, 15)]) (by decide) rfl ?_
  intro p e s m args below meth c s₁ B hml hv
  obtain ⟨rfl, ⟨hW0, hX0⟩, hN0⟩ := hv
  have hC : CallFix p m c cL_aid 7 s ([.ref (G.2.2.1 0), .int p1, .int p2, .int p3, .int p4, .int p5] : List Value).toArray wsW_aid RL := ⟨B.exec, B.bytes, hml, findClass_of_methodNamed B.named, atoms_spec (ws := wsW_aid) B.pre⟩
  have hx := hC.1
  have hb := hC.2.1
  have hown := hC.2.2.2.1
  have hts := hC.2.2.2.2
  have hr := B.returns
  have hlocks := B.notSynchronized
  have hW := g_H_enter hW0
  have htab : c.exceptionTable.toList = tableOf [(0, 11, 12, 15)] := vx_table (x := yL_aid) B (hts _ List.mem_cons_self)
  have hl := lv_entry ([.ref (G.2.2.1 0), .int p1, .int p2, .int p3, .int p4, .int p5]) (n := 7) (Nat.le_of_ble_eq_true rfl)
  rw [lg_entry_eq]
  generalize (lg_sl ([.ref (G.2.2.1 0), .int p1, .int p2, .int p3, .int p4, .int p5]) ++ List.replicate (7 - (lg_sl ([.ref (G.2.2.1 0), .int p1, .int p2, .int p3, .int p4, .int p5])).length) Slot.unset).toArray = ls at hl ⊢
  have hl : lv_has ls 7 [(0, .ref (G.2.2.1 0)), (1, .int p1), (2, .int p2), (3, .int p3), (4, .int p4), (5, .int p5)] := hl
  obtain ⟨Q, hQ⟩ : ∃ Q, Q = vx_MQ below (g_Qi ZC G r0 m0) (g_XN G) ([.ref (G.2.2.1 0), .int p1, .int p2, .int p3, .int p4, .int p5] : List Value).toArray s 5 30 (g_A ZC G) := ⟨_, rfl⟩
  refine g_goQ hQ ?_
  unfold f_L_aid at hf
  refine g_start hW (fun H locs hW => ?_)
  refine lv_aload_n hx hb dL_aid_0 rfl (lv_at hl 0 rfl) ?_
  refine lv_iload_n hx hb dL_aid_1 rfl (lv_at hl 1 rfl) ?_
  refine lv_iload_n hx hb dL_aid_2 rfl (lv_at hl 2 rfl) ?_
  refine lv_iload_n hx hb dL_aid_3 rfl (lv_at hl 3 rfl) ?_
  refine lv_iload hx hb dL_aid_4 (lv_at hl 4 rfl) ?_
  refine lv_iload hx hb dL_aid_6 (lv_at hl 5 rfl) ?_
  obtain ⟨v9, hg, hfx, hfn⟩ := os_inv hf
  refine g_cXVw hC hW hX0 (o := 0) (ci := 9) (As := [.int p1, .int p2, .int p3, .int p4, .int p5]) (rest := []) zc_k0 zc_b0 rfl (c_X9_aid l G hst hg) (cwV 5 hts gW_aid rfl rfl rfl (by decide +kernel) ⟨(Nat.le_of_ble_eq_true rfl), (Nat.le_of_ble_eq_true rfl)⟩) rfl hl.1 rfl (Nat.le_of_ble_eq_true rfl) dL_aid_8 ⟨(Nat.le_of_ble_eq_true rfl), (Nat.le_of_ble_eq_true rfl)⟩ (fun k9 hk9 H locs q9 ce hW hq9 hcv hcl => ?_) (fun r3 m2 hv9 H locs hW => ?_)
  · have hf := hfx _ hk9
    by_cases hk0 : k9 = 3
    · have hf := a_if_t hk0 hf
      subst hk0
      refine vx_catch (name := g_xn 3) (E := g_xn 3) hown (pre := []) (x := ⟨0, 11, 12, 15⟩) (suf := []) (hsplit := htab) (fun z hz => by cases hz) (by decide) (by decide) (hts _ (by decide +kernel : Cond.classLink RL 15 (g_xn 3) ∈ wsW_aid)) (va_Nw.use rfl (hX0.2.2.1 _ (by decide +kernel : Cond.castable (g_xn 3) (g_xn 3) ∈ g_xw))) hq9 hcv hcl ?_
      refine lv_astore (lv' := [(6, .ref q9), (0, .ref (G.2.2.1 0)), (1, .int p1), (2, .int p2), (3, .int p3), (4, .int p4), (5, .int p5)]) hx hb dL_aid_12 hl (by decide) rfl (fun ls hl => ?_)
      refine lv_bipush (v := (-9)) hx hb dL_aid_14 (by decide) ?_
      cases hf
      subst hQ
      exact g_yiret hC hW hr hlocks rfl rfl (Nat.le_of_ble_eq_true rfl) (Nat.le_of_ble_eq_true rfl) dL_aid_16
    have hf := a_if_f hk0 hf
    cases hf
  have hf := hfn _ hv9
  have hf := ob_inv2 hf
  cases hf
  subst hQ
  exact g_yiret hC hW hr hlocks rfl rfl (Nat.le_of_ble_eq_true rfl) (Nat.le_of_ble_eq_true rfl) dL_aid_11
set_option maxRecDepth 20000 in
theorem gW_deposit : GoodIn wsW_deposit (wsV RL 31 RX9 yX9_deposit wsX9_deposit) := goodIn_app (goodIn_of _ (by decide +kernel)) (goodIn_sub (fun _ h => List.mem_cons_of_mem _ (List.mem_append_right _ h)) (by decide +kernel))
abbrev rmL_deposit : Room := { frames := 8, cells := 3, slots := 18, locals := 134 }
set_option maxHeartbeats 4000000 in
set_option maxRecDepth 100000 in
theorem c_L_deposit (l : Launch) (G : gG) (hst : l.stackTraces = false) {p1 : Int32} {p2 : Int32} {me : gM} {r0 : Int32} {m0 : gM} (hf : f_L_deposit p1 p2 me = some (r0, m0)) : vx_Met l yL_deposit wsW_deposit rmL_deposit (va_Pc [.ref (G.2.2.1 0), .int p1, .int p2] (g_WY ZC G me)) (g_Qi ZC G r0 m0) (g_XN G) 3 18 (g_A ZC G) := by
  refine vx_ofWH (cc := cL_deposit) (maxL := 4) (ret := (some .int)) (hh := [(0, 6, 7, 15)]) (by decide) rfl ?_
  intro p e s m args below meth c s₁ B hml hv
  obtain ⟨rfl, ⟨hW0, hX0⟩, hN0⟩ := hv
  have hC : CallFix p m c cL_deposit 4 s ([.ref (G.2.2.1 0), .int p1, .int p2] : List Value).toArray wsW_deposit RL := ⟨B.exec, B.bytes, hml, findClass_of_methodNamed B.named, atoms_spec (ws := wsW_deposit) B.pre⟩
  have hx := hC.1
  have hb := hC.2.1
  have hown := hC.2.2.2.1
  have hts := hC.2.2.2.2
  have hr := B.returns
  have hlocks := B.notSynchronized
  have hW := g_H_enter hW0
  have htab : c.exceptionTable.toList = tableOf [(0, 6, 7, 15)] := vx_table (x := yL_deposit) B (hts _ List.mem_cons_self)
  have hl := lv_entry ([.ref (G.2.2.1 0), .int p1, .int p2]) (n := 4) (Nat.le_of_ble_eq_true rfl)
  rw [lg_entry_eq]
  generalize (lg_sl ([.ref (G.2.2.1 0), .int p1, .int p2]) ++ List.replicate (4 - (lg_sl ([.ref (G.2.2.1 0), .int p1, .int p2])).length) Slot.unset).toArray = ls at hl ⊢
  have hl : lv_has ls 4 [(0, .ref (G.2.2.1 0)), (1, .int p1), (2, .int p2)] := hl
  obtain ⟨Q, hQ⟩ : ∃ Q, Q = vx_MQ below (g_Qi ZC G r0 m0) (g_XN G) ([.ref (G.2.2.1 0), .int p1, .int p2] : List Value).toArray s 3 18 (g_A ZC G) := ⟨_, rfl⟩
  refine g_goQ hQ ?_
  unfold f_L_deposit at hf
  refine g_start hW (fun H locs hW => ?_)
  refine lv_aload_n hx hb dL_deposit_0 rfl (lv_at hl 0 rfl) ?_
  refine lv_iload_n hx hb dL_deposit_1 rfl (lv_at hl 1 rfl) ?_
  refine lv_iload_n hx hb dL_deposit_2 rfl (lv_at hl 2 rfl) ?_
  obtain ⟨v9, hg, hfx, hfn⟩ := os_inv hf
  refine g_cXVw hC hW hX0 (o := 0) (ci := 9) (As := [.int p1, .int p2]) (rest := []) zc_k0 zc_b0 rfl (c_X9_deposit l G hst hg) (cwV 2 hts gW_deposit rfl rfl rfl (by decide +kernel) ⟨(Nat.le_of_ble_eq_true rfl), (Nat.le_of_ble_eq_true rfl)⟩) rfl hl.1 rfl (Nat.le_of_ble_eq_true rfl) dL_deposit_3 ⟨(Nat.le_of_ble_eq_true rfl), (Nat.le_of_ble_eq_true rfl)⟩ (fun k9 hk9 H locs q9 ce hW hq9 hcv hcl => ?_) (fun r3 m2 hv9 H locs hW => ?_)
  · have hf := hfx _ hk9
    by_cases hk0 : k9 = 3
    · have hf := a_if_t hk0 hf
      subst hk0
      refine vx_catch (name := g_xn 3) (E := g_xn 3) hown (pre := []) (x := ⟨0, 6, 7, 15⟩) (suf := []) (hsplit := htab) (fun z hz => by cases hz) (by decide) (by decide) (hts _ (by decide +kernel : Cond.classLink RL 15 (g_xn 3) ∈ wsW_deposit)) (va_Nw.use rfl (hX0.2.2.1 _ (by decide +kernel : Cond.castable (g_xn 3) (g_xn 3) ∈ g_xw))) hq9 hcv hcl ?_
      refine lv_astore_n (lv' := [(3, .ref q9), (0, .ref (G.2.2.1 0)), (1, .int p1), (2, .int p2)]) hx hb dL_deposit_7 rfl hl (by decide) rfl (fun ls hl => ?_)
      refine lv_bipush (v := (-9)) hx hb dL_deposit_8 (by decide) ?_
      cases hf
      subst hQ
      exact g_yiret hC hW hr hlocks rfl rfl (Nat.le_of_ble_eq_true rfl) (Nat.le_of_ble_eq_true rfl) dL_deposit_10
    have hf := a_if_f hk0 hf
    cases hf
  have hf := hfn _ hv9
  have hf := ob_inv2 hf
  cases hf
  subst hQ
  exact g_yiret hC hW hr hlocks rfl rfl (Nat.le_of_ble_eq_true rfl) (Nat.le_of_ble_eq_true rfl) dL_deposit_6
set_option maxRecDepth 20000 in
theorem gW_run : GoodIn wsW_run (wsV RL 35 RX9 yX9_run wsX9_run) := goodIn_app (goodIn_of _ (by decide +kernel)) (goodIn_sub (fun _ h => List.mem_cons_of_mem _ (List.mem_append_right _ h)) (by decide +kernel))
abbrev rmL_run : Room := { frames := 8, cells := 2, slots := 12, locals := 142 }
set_option maxHeartbeats 4000000 in
set_option maxRecDepth 100000 in
theorem c_L_run (l : Launch) (G : gG) (hst : l.stackTraces = false) {p1 : Int32} {me : gM} {r0 : Int32} {m0 : gM} (hf : f_L_run p1 me = some (r0, m0)) : vx_Met l yL_run wsW_run rmL_run (va_Pc [.ref (G.2.2.1 0), .int p1] (g_WY ZC G me)) (g_Qi ZC G r0 m0) (g_XN G) 2 12 (g_A ZC G) := by
  refine vx_ofWH (cc := cL_run) (maxL := 3) (ret := (some .int)) (hh := [(0, 5, 6, 15)]) (by decide) rfl ?_
  intro p e s m args below meth c s₁ B hml hv
  obtain ⟨rfl, ⟨hW0, hX0⟩, hN0⟩ := hv
  have hC : CallFix p m c cL_run 3 s ([.ref (G.2.2.1 0), .int p1] : List Value).toArray wsW_run RL := ⟨B.exec, B.bytes, hml, findClass_of_methodNamed B.named, atoms_spec (ws := wsW_run) B.pre⟩
  have hx := hC.1
  have hb := hC.2.1
  have hown := hC.2.2.2.1
  have hts := hC.2.2.2.2
  have hr := B.returns
  have hlocks := B.notSynchronized
  have hW := g_H_enter hW0
  have htab : c.exceptionTable.toList = tableOf [(0, 5, 6, 15)] := vx_table (x := yL_run) B (hts _ List.mem_cons_self)
  have hl := lv_entry ([.ref (G.2.2.1 0), .int p1]) (n := 3) (Nat.le_of_ble_eq_true rfl)
  rw [lg_entry_eq]
  generalize (lg_sl ([.ref (G.2.2.1 0), .int p1]) ++ List.replicate (3 - (lg_sl ([.ref (G.2.2.1 0), .int p1])).length) Slot.unset).toArray = ls at hl ⊢
  have hl : lv_has ls 3 [(0, .ref (G.2.2.1 0)), (1, .int p1)] := hl
  obtain ⟨Q, hQ⟩ : ∃ Q, Q = vx_MQ below (g_Qi ZC G r0 m0) (g_XN G) ([.ref (G.2.2.1 0), .int p1] : List Value).toArray s 2 12 (g_A ZC G) := ⟨_, rfl⟩
  refine g_goQ hQ ?_
  unfold f_L_run at hf
  refine g_start hW (fun H locs hW => ?_)
  refine lv_aload_n hx hb dL_run_0 rfl (lv_at hl 0 rfl) ?_
  refine lv_iload_n hx hb dL_run_1 rfl (lv_at hl 1 rfl) ?_
  obtain ⟨v9, hg, hfx, hfn⟩ := os_inv hf
  refine g_cXVw hC hW hX0 (o := 0) (ci := 9) (As := [.int p1]) (rest := []) zc_k0 zc_b0 rfl (c_X9_run l G hst hg) (cwV 1 hts gW_run rfl rfl rfl (by decide +kernel) ⟨(Nat.le_of_ble_eq_true rfl), (Nat.le_of_ble_eq_true rfl)⟩) rfl hl.1 rfl (Nat.le_of_ble_eq_true rfl) dL_run_2 ⟨(Nat.le_of_ble_eq_true rfl), (Nat.le_of_ble_eq_true rfl)⟩ (fun k9 hk9 H locs q9 ce hW hq9 hcv hcl => ?_) (fun r3 m2 hv9 H locs hW => ?_)
  · have hf := hfx _ hk9
    by_cases hk0 : k9 = 3
    · have hf := a_if_t hk0 hf
      subst hk0
      refine vx_catch (name := g_xn 3) (E := g_xn 3) hown (pre := []) (x := ⟨0, 5, 6, 15⟩) (suf := []) (hsplit := htab) (fun z hz => by cases hz) (by decide) (by decide) (hts _ (by decide +kernel : Cond.classLink RL 15 (g_xn 3) ∈ wsW_run)) (va_Nw.use rfl (hX0.2.2.1 _ (by decide +kernel : Cond.castable (g_xn 3) (g_xn 3) ∈ g_xw))) hq9 hcv hcl ?_
      refine lv_astore_n (lv' := [(2, .ref q9), (0, .ref (G.2.2.1 0)), (1, .int p1)]) hx hb dL_run_6 rfl hl (by decide) rfl (fun ls hl => ?_)
      refine lv_bipush (v := (-9)) hx hb dL_run_7 (by decide) ?_
      cases hf
      subst hQ
      exact g_yiret hC hW hr hlocks rfl rfl (Nat.le_of_ble_eq_true rfl) (Nat.le_of_ble_eq_true rfl) dL_run_9
    have hf := a_if_f hk0 hf
    cases hf
  have hf := hfn _ hv9
  have hf := ob_inv2 hf
  cases hf
  subst hQ
  exact g_yiret hC hW hr hlocks rfl rfl (Nat.le_of_ble_eq_true rfl) (Nat.le_of_ble_eq_true rfl) dL_run_5
