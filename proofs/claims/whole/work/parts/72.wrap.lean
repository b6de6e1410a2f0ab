def f_L_deposit (p1 : Int32) (p2 : Int32) (me : gM) : Option (Int32 × gM) :=
  os (f_X9_deposit p1 p2 me) (fun k9 => if k9 = 1 then some (1, me) else if k9 = 2 then some (2, me) else if k9 = 3 then some (3, me) else none) fun w1 =>
  ob (some w1.1) fun r3 =>
  ob (some w1.2) fun m2 =>
  ob (a_lst 1 229 0 ((r3).toInt64) m2) fun m4 =>
  some (0, m4)
def f_L_setLimit (p1 : Int32) (p2 : Int32) (me : gM) : Option (Int32 × gM) :=
  os (f_X9_setLimit p1 p2 me) (fun k9 => if k9 = 1 then some (1, me) else if k9 = 2 then some (2, me) else if k9 = 3 then some (3, me) else none) fun w1 =>
  ob (some w1.1) fun r3 =>
  ob (some w1.2) fun m2 =>
  ob (a_lst 1 229 0 ((r3).toInt64) m2) fun m4 =>
  some (0, m4)
def f_L_bid (p1 : Int32) (p2 : Int32) (p3 : Int32) (p4 : Int32) (p5 : Int32) (p6 : Int32) (me : gM) : Option (Int32 × gM) :=
  os (f_X9_bid p1 p2 p3 p4 p5 p6 me) (fun k9 => if k9 = 1 then some (1, me) else if k9 = 2 then some (2, me) else if k9 = 3 then some (3, me) else none) fun w1 =>
  ob (some w1.1) fun r3 =>
  ob (some w1.2) fun m2 =>
  ob (a_lst 1 229 0 ((r3).toInt64) m2) fun m4 =>
  some (0, m4)
def f_L_block (p1 : Int32) (p2 : Int32) (p3 : Int32) (p4 : Int32) (p5 : Int32) (p6 : Int32) (me : gM) : Option (Int32 × gM) :=
  os (f_X9_block p1 p2 p3 p4 p5 p6 me) (fun k9 => if k9 = 1 then some (1, me) else if k9 = 2 then some (2, me) else if k9 = 3 then some (3, me) else none) fun w1 =>
  ob (some w1.1) fun r3 =>
  ob (some w1.2) fun m2 =>
  ob (a_lst 1 229 0 ((r3).toInt64) m2) fun m4 =>
  some (0, m4)
def f_L_link (p1 : Int32) (p2 : Int32) (p3 : Int32) (me : gM) : Option (Int32 × gM) :=
  os (f_X9_link p1 p2 p3 me) (fun k9 => if k9 = 1 then some (1, me) else if k9 = 2 then some (2, me) else if k9 = 3 then some (3, me) else none) fun w1 =>
  ob (some w1) fun m2 =>
  some (0, m2)
def f_L_ask (p1 : Int32) (p2 : Int32) (p3 : Int32) (p4 : Int32) (p5 : Int32) (me : gM) : Option (Int32 × gM) :=
  os (f_X9_ask p1 p2 p3 p4 p5 me) (fun k9 => if k9 = 1 then some (1, me) else if k9 = 2 then some (2, me) else if k9 = 3 then some (3, me) else none) fun w1 =>
  ob (some w1.1) fun r3 =>
  ob (some w1.2) fun m2 =>
  ob (a_lst 1 229 0 ((r3).toInt64) m2) fun m4 =>
  some (0, m4)
def f_L_clear (me : gM) : Option (Int32 × gM) :=
  os (f_X9_clear me) (fun k9 => if k9 = 3 then some (1, me) else none) fun w1 =>
  ob (some w1.1) fun r3 =>
  ob (some w1.2) fun m2 =>
  ob (a_lst 1 229 0 ((r3).toInt64) m2) fun m4 =>
  some (0, m4)
def f_L_offer (p1 : Int32) (p2 : Int32) (p3 : Int32) (p4 : Int32) (p5 : Int32) (p6 : Int32) (me : gM) : Option (Int32 × gM) :=
  os (f_X9_offer p1 p2 p3 p4 p5 p6 me) (fun k9 => if k9 = 1 then some (1, me) else if k9 = 2 then some (2, me) else if k9 = 3 then some (3, me) else none) fun w1 =>
  ob (some w1.1) fun r3 =>
  ob (some w1.2) fun m2 =>
  ob (a_lst 1 229 0 ((r3).toInt64) m2) fun m4 =>
  some (0, m4)
def f_L_takeBack (p1 : Int32) (me : gM) : Option (Int32 × gM) :=
  os (f_X9_takeBack p1 me) (fun k9 => if k9 = 1 then some (1, me) else if k9 = 3 then some (2, me) else none) fun w1 =>
  ob (some w1.1) fun r3 =>
  ob (some w1.2) fun m2 =>
  ob (a_lst 1 229 0 ((r3).toInt64) m2) fun m4 =>
  some (0, m4)
def f_L_aid (p1 : Int32) (p2 : Int32) (p3 : Int32) (p4 : Int32) (p5 : Int32) (me : gM) : Option (Int32 × gM) :=
  os (f_X9_aid p1 p2 p3 p4 p5 me) (fun k9 => if k9 = 1 then some (1, me) else if k9 = 2 then some (2, me) else if k9 = 3 then some (3, me) else none) fun w1 =>
  ob (some w1.1) fun r3 =>
  ob (some w1.2) fun m2 =>
  ob (a_lst 1 229 0 ((r3).toInt64) m2) fun m4 =>
  some (0, m4)
def f_L_close (me : gM) : Option (Int32 × gM) :=
  os (f_X9_close me) (fun k9 => if k9 = 3 then some (1, me) else none) fun w1 =>
  ob (some w1.1) fun r3 =>
  ob (some w1.2) fun m2 =>
  ob (a_lst 1 229 0 ((r3).toInt64) m2) fun m4 =>
  some (0, m4)
def f_L_read (p1 : Int32) (p2 : Int32) (p3 : Int32) (p4 : Int32) (p5 : Int32) (me : gM) : Option (Int32 × gM) :=
  os (f_X9_read p1 p2 p3 p4 p5 me) (fun k9 => if k9 = 1 then some (1, me) else if k9 = 2 then some (2, me) else none) fun w1 =>
  ob (some w1.1) fun r3 =>
  ob (some w1.2) fun m2 =>
  ob (a_lst 1 229 0 ((r3).toInt64) m2) fun m4 =>
  some (0, m4)
def f_L_run (p1 : Int32) (me : gM) : Option (Int32 × gM) :=
  os (f_X9_run p1 me) (fun k9 => if k9 = 1 then some (1, me) else if k9 = 3 then some (2, me) else none) fun w1 =>
  ob (some w1.1) fun r3 =>
  ob (some w1.2) fun m2 =>
  ob (a_lst 1 229 0 ((r3).toInt64) m2) fun m4 =>
  some (0, m4)
def f_L_price (p1 : Int32) (p2 : Int32) (me : gM) : Option (Int32 × gM) :=
  os (f_X9_price p1 p2 me) (fun k9 => if k9 = 1 then some (1, me) else if k9 = 3 then some (2, me) else none) fun w1 =>
  ob (some w1) fun r3 =>
  ob (a_lst 1 229 0 ((r3).toInt64) me) fun m4 =>
  some (0, m4)
def f_L_net (p1 : Int32) (p2 : Int32) (me : gM) : Option (Int32 × gM) :=
  os (f_X9_net p1 p2 me) (fun k9 => if k9 = 1 then some (1, me) else if k9 = 3 then some (2, me) else none) fun w1 =>
  ob (some w1) fun r3 =>
  ob (a_lst 1 229 0 ((r3).toInt64) me) fun m4 =>
  some (0, m4)
def f_L_flow (p1 : Int32) (p2 : Int32) (me : gM) : Option (Int32 × gM) :=
  os (f_X9_flow p1 p2 me) (fun k9 => if k9 = 1 then some (1, me) else if k9 = 3 then some (2, me) else none) fun w1 =>
  ob (some w1) fun r3 =>
  ob (a_lst 1 229 0 ((r3).toInt64) me) fun m4 =>
  some (0, m4)
def f_L_taken (p1 : Int32) (me : gM) : Option (Int32 × gM) :=
  os (f_X9_taken p1 me) (fun k9 => if k9 = 1 then some (1, me) else if k9 = 3 then some (2, me) else none) fun w1 =>
  ob (some w1) fun r3 =>
  ob (a_lst 1 229 0 ((r3).toInt64) me) fun m4 =>
  some (0, m4)
def f_L_isTaken (p1 : Int32) (me : gM) : Option (Int32 × gM) :=
  os (f_X9_isTaken p1 me) (fun k9 => if k9 = 1 then some (1, me) else if k9 = 3 then some (2, me) else none) fun w1 =>
  ob (some w1) fun r3 =>
  ob (if r3 = 0 then
      some 0
    else
      some 1) fun (z5 : Int64) =>
  ob (a_lst 1 229 0 z5 me) fun m6 =>
  some (0, m6)
def f_L_gain (p1 : Int32) (me : gM) : Option (Int32 × gM) :=
  os (f_X9_gain p1 me) (fun k9 => if k9 = 1 then some (1, me) else if k9 = 3 then some (2, me) else none) fun w1 =>
  ob (some w1) fun r3 =>
  ob (a_lst 1 229 0 ((r3).toInt64) me) fun m4 =>
  some (0, m4)
def f_L_worthAnew (me : gM) : Option (Int32 × gM) :=
  os (f_X9_worthAnew me) (fun k9 => if k9 = 3 then some (1, me) else none) fun w1 =>
  ob (some w1) fun r3 =>
  ob (a_lst 1 229 0 ((r3).toInt64) me) fun m4 =>
  some (0, m4)
def f_L_given (p1 : Int32) (me : gM) : Option (Int32 × gM) :=
  os (f_X9_given p1 me) (fun k9 => if k9 = 1 then some (1, me) else if k9 = 3 then some (2, me) else none) fun w1 =>
  ob (some w1) fun r3 =>
  ob (a_lst 1 229 0 ((r3).toInt64) me) fun m4 =>
  some (0, m4)
def f_L_left (p1 : Int32) (me : gM) : Option (Int32 × gM) :=
  os (f_X9_left p1 me) (fun k9 => if k9 = 1 then some (1, me) else none) fun w1 =>
  ob (some w1) fun r3 =>
  ob (a_lst 1 229 0 ((r3).toInt64) me) fun m4 =>
  some (0, m4)
def f_L_plan (p1 : Int32) (p2 : Int32) (p3 : Int32) (p4 : Int32) (me : gM) : Option (Int32 × gM) :=
  os (f_X9_plan p1 p2 p3 p4 me) (fun k9 => if k9 = 1 then some (1, me) else none) fun w1 =>
  ob (some w1) fun r3 =>
  ob (a_lst 1 229 0 ((r3).toInt64) me) fun m4 =>
  some (0, m4)
def f_L_gap (p1 : Int32) (p2 : Int32) (me : gM) : Option (Int32 × gM) :=
  os (f_X9_gap p1 p2 me) (fun k9 => if k9 = 1 then some (1, me) else none) fun w1 =>
  ob (some w1) fun r3 =>
  ob (a_lst 1 229 0 ((r3).toInt64) me) fun m4 =>
  some (0, m4)
def f_L_gapPrice (p1 : Int32) (p2 : Int32) (me : gM) : Option (Int32 × gM) :=
  os (f_X9_gapPrice p1 p2 me) (fun k9 => if k9 = 1 then some (1, me) else none) fun w1 =>
  ob (some w1) fun r3 =>
  ob (a_lst 1 229 0 ((r3).toInt64) me) fun m4 =>
  some (0, m4)
def f_L_bill (p1 : Int32) (p2 : Int32) (me : gM) : Option (Int32 × gM) :=
  os (f_X9_bill p1 p2 me) (fun k9 => if k9 = 1 then some (1, me) else none) fun w1 =>
  ob (some w1) fun r3 =>
  ob (a_lst 1 229 0 ((r3).toInt64) me) fun m4 =>
  some (0, m4)
def f_L_settled (p1 : Int32) (p2 : Int32) (me : gM) : Option (Int32 × gM) :=
  os (f_X9_settled p1 p2 me) (fun k9 => if k9 = 1 then some (1, me) else none) fun w1 =>
  ob (some w1) fun r3 =>
  ob (a_lst 1 229 0 ((r3).toInt64) me) fun m4 =>
  some (0, m4)
def f_L_account (p1 : Int32) (me : gM) : Option (Int32 × gM) :=
  os (f_X9_account p1 me) (fun k9 => if k9 = 1 then some (1, me) else none) fun w1 =>
  ob (some w1) fun r3 =>
  ob (a_lst 1 229 0 ((r3).toInt64) me) fun m4 =>
  some (0, m4)
def f_L_hasFailed (p1 : Int32) (me : gM) : Option (Int32 × gM) :=
  os (f_X9_hasFailed p1 me) (fun k9 => if k9 = 1 then some (1, me) else none) fun w1 =>
  ob (some w1) fun r3 =>
  ob (if r3 = 0 then
      some 0
    else
      some 1) fun (z5 : Int64) =>
  ob (a_lst 1 229 0 z5 me) fun m6 =>
  some (0, m6)
set_option maxRecDepth 20000 in
theorem gW_deposit : GoodIn wsW_deposit (wsV RL 7 RX9 yX9_deposit wsX9_deposit) := goodIn_app (goodIn_of _ (by decide +kernel)) (goodIn_sub (fun _ h => List.mem_cons_of_mem _ (List.mem_append_right _ h)) (by decide +kernel))
abbrev rmL_deposit : Room := { frames := 8, cells := 3, slots := 18, locals := 134 }
set_option maxHeartbeats 4000000 in
set_option maxRecDepth 100000 in
theorem c_L_deposit (l : Launch) (G : gG) (hst : l.stackTraces = false) {p1 : Int32} {p2 : Int32} {me : gM} {r0 : Int32} {m0 : gM} (hf : f_L_deposit p1 p2 me = some (r0, m0)) : vx_Met l yL_deposit wsW_deposit rmL_deposit (va_Pc [.ref (G.2.2.1 0), .int p1, .int p2, .ref (G.2.2.1 229)] (g_WY ZC G me)) (g_Qi ZC G r0 m0) (g_XN G) 3 18 (g_A ZC G) := by
  refine vx_ofWH (cc := cL_deposit) (maxL := 5) (ret := (some .int)) (hh := [(0, 10, 13, 13), (0, 10, 17, 15), (0, 10, 21, 17)]) (by decide) rfl ?_
  intro p e s m args below meth c s₁ B hml hv
  obtain ⟨rfl, ⟨hW0, hX0⟩, hN0⟩ := hv
  have hC : CallFix p m c cL_deposit 5 s ([.ref (G.2.2.1 0), .int p1, .int p2, .ref (G.2.2.1 229)] : List Value).toArray wsW_deposit RL := ⟨B.exec, B.bytes, hml, findClass_of_methodNamed B.named, atoms_spec (ws := wsW_deposit) B.pre⟩
  have hx := hC.1
  have hb := hC.2.1
  have hown := hC.2.2.2.1
  have hts := hC.2.2.2.2
  have hr := B.returns
  have hlocks := B.notSynchronized
  have hW := g_H_enter hW0
  have htab : c.exceptionTable.toList = tableOf [(0, 10, 13, 13), (0, 10, 17, 15), (0, 10, 21, 17)] := vx_table (x := yL_deposit) B (hts _ List.mem_cons_self)
  have hl := lv_entry ([.ref (G.2.2.1 0), .int p1, .int p2, .ref (G.2.2.1 229)]) (n := 5) (Nat.le_of_ble_eq_true rfl)
  rw [lg_entry_eq]
  generalize (lg_sl ([.ref (G.2.2.1 0), .int p1, .int p2, .ref (G.2.2.1 229)]) ++ List.replicate (5 - (lg_sl ([.ref (G.2.2.1 0), .int p1, .int p2, .ref (G.2.2.1 229)])).length) Slot.unset).toArray = ls at hl ⊢
  have hl : lv_has ls 5 [(0, .ref (G.2.2.1 0)), (1, .int p1), (2, .int p2), (3, .ref (G.2.2.1 229))] := hl
  obtain ⟨Q, hQ⟩ : ∃ Q, Q = vx_MQ below (g_Qi ZC G r0 m0) (g_XN G) ([.ref (G.2.2.1 0), .int p1, .int p2, .ref (G.2.2.1 229)] : List Value).toArray s 3 18 (g_A ZC G) := ⟨_, rfl⟩
  refine g_goQ hQ ?_
  unfold f_L_deposit at hf
  refine g_start hW (fun H locs hW => ?_)
  refine lv_aload_n hx hb dL_deposit_0 rfl (lv_at hl 3 rfl) ?_
  refine lv_iconst (v := 0) hx hb dL_deposit_1 (by decide) ?_
  refine lv_aload_n hx hb dL_deposit_2 rfl (lv_at hl 0 rfl) ?_
  refine lv_iload_n hx hb dL_deposit_3 rfl (lv_at hl 1 rfl) ?_
  refine lv_iload_n hx hb dL_deposit_4 rfl (lv_at hl 2 rfl) ?_
  obtain ⟨v9, hg, hfx, hfn⟩ := os_inv hf
  refine g_cXVw hC hW hX0 (o := 0) (ci := 9) (As := [.int p1, .int p2]) (rest := [.int 0, .ref (G.2.2.1 229)]) zc_k0 zc_b0 rfl (c_X9_deposit l G hst hg) (cwV 2 hts gW_deposit rfl rfl rfl (by decide +kernel) ⟨(Nat.le_of_ble_eq_true rfl), (Nat.le_of_ble_eq_true rfl)⟩) rfl hl.1 rfl (Nat.le_of_ble_eq_true rfl) dL_deposit_5 ⟨(Nat.le_of_ble_eq_true rfl), (Nat.le_of_ble_eq_true rfl)⟩ (fun k9 hk9 H locs q9 ce hW hq9 hcv hcl => ?_) (fun r3 m2 hv9 H locs hW => ?_)
  · have hf := hfx _ hk9
    by_cases hk0 : k9 = 1
    · have hf := a_if_t hk0 hf
      subst hk0
      refine vx_catch (name := g_xn 1) (E := g_xn 1) hown (pre := []) (x := ⟨0, 10, 13, 13⟩) (suf := [⟨0, 10, 17, 15⟩, ⟨0, 10, 21, 17⟩]) (hsplit := htab) (fun z hz => by cases hz) (by decide) (by decide) (hts _ (by decide +kernel : Cond.classLink RL 13 (g_xn 1) ∈ wsW_deposit)) (va_Nw.use rfl (hX0.2.2.1 _ (by decide +kernel : Cond.castable (g_xn 1) (g_xn 1) ∈ g_xw))) hq9 hcv hcl ?_
      refine lv_astore (lv' := [(4, .ref q9), (0, .ref (G.2.2.1 0)), (1, .int p1), (2, .int p2), (3, .ref (G.2.2.1 229))]) hx hb dL_deposit_13 hl (by decide) rfl (fun ls hl => ?_)
      refine lv_iconst (v := 1) hx hb dL_deposit_15 (by decide) ?_
      cases hf
      subst hQ
      exact g_yiret hC hW hr hlocks rfl rfl (Nat.le_of_ble_eq_true rfl) (Nat.le_of_ble_eq_true rfl) dL_deposit_16
    have hf := a_if_f hk0 hf
    by_cases hk1 : k9 = 2
    · have hf := a_if_t hk1 hf
      subst hk1
      refine vx_catch (name := g_xn 2) (E := g_xn 2) hown (pre := [⟨0, 10, 13, 13⟩]) (x := ⟨0, 10, 17, 15⟩) (suf := [⟨0, 10, 21, 17⟩]) (hsplit := htab) (by intro z hz; rcases List.mem_cons.mp hz with rfl | hz; exact Or.inr ⟨by decide, g_xn 1, hts _ (by decide +kernel : Cond.classLink RL 13 (g_xn 1) ∈ wsW_deposit), hN0.1⟩; cases hz) (by decide) (by decide) (hts _ (by decide +kernel : Cond.classLink RL 15 (g_xn 2) ∈ wsW_deposit)) (va_Nw.use rfl (hX0.2.2.1 _ (by decide +kernel : Cond.castable (g_xn 2) (g_xn 2) ∈ g_xw))) hq9 hcv hcl ?_
      refine lv_astore (lv' := [(4, .ref q9), (0, .ref (G.2.2.1 0)), (1, .int p1), (2, .int p2), (3, .ref (G.2.2.1 229))]) hx hb dL_deposit_17 hl (by decide) rfl (fun ls hl => ?_)
      refine lv_iconst (v := 2) hx hb dL_deposit_19 (by decide) ?_
      cases hf
      subst hQ
      exact g_yiret hC hW hr hlocks rfl rfl (Nat.le_of_ble_eq_true rfl) (Nat.le_of_ble_eq_true rfl) dL_deposit_20
    have hf := a_if_f hk1 hf
    by_cases hk2 : k9 = 3
    · have hf := a_if_t hk2 hf
      subst hk2
      refine vx_catch (name := g_xn 3) (E := g_xn 3) hown (pre := [⟨0, 10, 13, 13⟩, ⟨0, 10, 17, 15⟩]) (x := ⟨0, 10, 21, 17⟩) (suf := []) (hsplit := htab) (by intro z hz; rcases List.mem_cons.mp hz with rfl | hz; exact Or.inr ⟨by decide, g_xn 1, hts _ (by decide +kernel : Cond.classLink RL 13 (g_xn 1) ∈ wsW_deposit), hN0.2.1⟩; rcases List.mem_cons.mp hz with rfl | hz; exact Or.inr ⟨by decide, g_xn 2, hts _ (by decide +kernel : Cond.classLink RL 15 (g_xn 2) ∈ wsW_deposit), hN0.2.2⟩; cases hz) (by decide) (by decide) (hts _ (by decide +kernel : Cond.classLink RL 17 (g_xn 3) ∈ wsW_deposit)) (va_Nw.use rfl (hX0.2.2.1 _ (by decide +kernel : Cond.castable (g_xn 3) (g_xn 3) ∈ g_xw))) hq9 hcv hcl ?_
      refine lv_astore (lv' := [(4, .ref q9), (0, .ref (G.2.2.1 0)), (1, .int p1), (2, .int p2), (3, .ref (G.2.2.1 229))]) hx hb dL_deposit_21 hl (by decide) rfl (fun ls hl => ?_)
      refine lv_iconst (v := 3) hx hb dL_deposit_23 (by decide) ?_
      cases hf
      subst hQ
      exact g_yiret hC hW hr hlocks rfl rfl (Nat.le_of_ble_eq_true rfl) (Nat.le_of_ble_eq_true rfl) dL_deposit_24
    have hf := a_if_f hk2 hf
    cases hf
  have hf := hfn _ hv9
  have hf := ob_inv2 hf
  refine lv_i2l (v := (r3).toInt64) hx hb dL_deposit_8 rfl ?_
  obtain ⟨m4, h9, hf⟩ := ob_inv hf
  refine g_llst hC hW zc_k229 zc_b229 zc_n229 h9 dL_deposit_9 (fun H locs hW => ?_)
  refine lv_goto (tgt := 25) hx hb dL_deposit_10 (by decide) ?_
  refine lv_iconst (v := 0) hx hb dL_deposit_25 (by decide) ?_
  cases hf
  subst hQ
  exact g_yiret hC hW hr hlocks rfl rfl (Nat.le_of_ble_eq_true rfl) (Nat.le_of_ble_eq_true rfl) dL_deposit_26
set_option maxRecDepth 20000 in
theorem gW_setLimit : GoodIn wsW_setLimit (wsV RL 19 RX9 yX9_setLimit wsX9_setLimit) := goodIn_app (goodIn_of _ (by decide +kernel)) (goodIn_sub (fun _ h => List.mem_cons_of_mem _ (List.mem_append_right _ h)) (by decide +kernel))
abbrev rmL_setLimit : Room := { frames := 8, cells := 3, slots := 18, locals := 135 }
set_option maxHeartbeats 4000000 in
set_option maxRecDepth 100000 in
theorem c_L_setLimit (l : Launch) (G : gG) (hst : l.stackTraces = false) {p1 : Int32} {p2 : Int32} {me : gM} {r0 : Int32} {m0 : gM} (hf : f_L_setLimit p1 p2 me = some (r0, m0)) : vx_Met l yL_setLimit wsW_setLimit rmL_setLimit (va_Pc [.ref (G.2.2.1 0), .int p1, .int p2, .ref (G.2.2.1 229)] (g_WY ZC G me)) (g_Qi ZC G r0 m0) (g_XN G) 3 18 (g_A ZC G) := by
  refine vx_ofWH (cc := cL_setLimit) (maxL := 5) (ret := (some .int)) (hh := [(0, 10, 13, 13), (0, 10, 17, 15), (0, 10, 21, 17)]) (by decide) rfl ?_
  intro p e s m args below meth c s₁ B hml hv
  obtain ⟨rfl, ⟨hW0, hX0⟩, hN0⟩ := hv
  have hC : CallFix p m c cL_setLimit 5 s ([.ref (G.2.2.1 0), .int p1, .int p2, .ref (G.2.2.1 229)] : List Value).toArray wsW_setLimit RL := ⟨B.exec, B.bytes, hml, findClass_of_methodNamed B.named, atoms_spec (ws := wsW_setLimit) B.pre⟩
  have hx := hC.1
  have hb := hC.2.1
  have hown := hC.2.2.2.1
  have hts := hC.2.2.2.2
  have hr := B.returns
  have hlocks := B.notSynchronized
  have hW := g_H_enter hW0
  have htab : c.exceptionTable.toList = tableOf [(0, 10, 13, 13), (0, 10, 17, 15), (0, 10, 21, 17)] := vx_table (x := yL_setLimit) B (hts _ List.mem_cons_self)
  have hl := lv_entry ([.ref (G.2.2.1 0), .int p1, .int p2, .ref (G.2.2.1 229)]) (n := 5) (Nat.le_of_ble_eq_true rfl)
  rw [lg_entry_eq]
  generalize (lg_sl ([.ref (G.2.2.1 0), .int p1, .int p2, .ref (G.2.2.1 229)]) ++ List.replicate (5 - (lg_sl ([.ref (G.2.2.1 0), .int p1, .int p2, .ref (G.2.2.1 229)])).length) Slot.unset).toArray = ls at hl ⊢
  have hl : lv_has ls 5 [(0, .ref (G.2.2.1 0)), (1, .int p1), (2, .int p2), (3, .ref (G.2.2.1 229))] := hl
  obtain ⟨Q, hQ⟩ : ∃ Q, Q = vx_MQ below (g_Qi ZC G r0 m0) (g_XN G) ([.ref (G.2.2.1 0), .int p1, .int p2, .ref (G.2.2.1 229)] : List Value).toArray s 3 18 (g_A ZC G) := ⟨_, rfl⟩
  refine g_goQ hQ ?_
  unfold f_L_setLimit at hf
  refine g_start hW (fun H locs hW => ?_)
  refine lv_aload_n hx hb dL_setLimit_0 rfl (lv_at hl 3 rfl) ?_
  refine lv_iconst (v := 0) hx hb dL_setLimit_1 (by decide) ?_
  refine lv_aload_n hx hb dL_setLimit_2 rfl (lv_at hl 0 rfl) ?_
  refine lv_iload_n hx hb dL_setLimit_3 rfl (lv_at hl 1 rfl) ?_
  refine lv_iload_n hx hb dL_setLimit_4 rfl (lv_at hl 2 rfl) ?_
  obtain ⟨v9, hg, hfx, hfn⟩ := os_inv hf
  refine g_cXVw hC hW hX0 (o := 0) (ci := 9) (As := [.int p1, .int p2]) (rest := [.int 0, .ref (G.2.2.1 229)]) zc_k0 zc_b0 rfl (c_X9_setLimit l G hst hg) (cwV 2 hts gW_setLimit rfl rfl rfl (by decide +kernel) ⟨(Nat.le_of_ble_eq_true rfl), (Nat.le_of_ble_eq_true rfl)⟩) rfl hl.1 rfl (Nat.le_of_ble_eq_true rfl) dL_setLimit_5 ⟨(Nat.le_of_ble_eq_true rfl), (Nat.le_of_ble_eq_true rfl)⟩ (fun k9 hk9 H locs q9 ce hW hq9 hcv hcl => ?_) (fun r3 m2 hv9 H locs hW => ?_)
  · have hf := hfx _ hk9
    by_cases hk0 : k9 = 1
    · have hf := a_if_t hk0 hf
      subst hk0
      refine vx_catch (name := g_xn 1) (E := g_xn 1) hown (pre := []) (x := ⟨0, 10, 13, 13⟩) (suf := [⟨0, 10, 17, 15⟩, ⟨0, 10, 21, 17⟩]) (hsplit := htab) (fun z hz => by cases hz) (by decide) (by decide) (hts _ (by decide +kernel : Cond.classLink RL 13 (g_xn 1) ∈ wsW_setLimit)) (va_Nw.use rfl (hX0.2.2.1 _ (by decide +kernel : Cond.castable (g_xn 1) (g_xn 1) ∈ g_xw))) hq9 hcv hcl ?_
      refine lv_astore (lv' := [(4, .ref q9), (0, .ref (G.2.2.1 0)), (1, .int p1), (2, .int p2), (3, .ref (G.2.2.1 229))]) hx hb dL_setLimit_13 hl (by decide) rfl (fun ls hl => ?_)
      refine lv_iconst (v := 1) hx hb dL_setLimit_15 (by decide) ?_
      cases hf
      subst hQ
      exact g_yiret hC hW hr hlocks rfl rfl (Nat.le_of_ble_eq_true rfl) (Nat.le_of_ble_eq_true rfl) dL_setLimit_16
    have hf := a_if_f hk0 hf
    by_cases hk1 : k9 = 2
    · have hf := a_if_t hk1 hf
      subst hk1
      refine vx_catch (name := g_xn 2) (E := g_xn 2) hown (pre := [⟨0, 10, 13, 13⟩]) (x := ⟨0, 10, 17, 15⟩) (suf := [⟨0, 10, 21, 17⟩]) (hsplit := htab) (by intro z hz; rcases List.mem_cons.mp hz with rfl | hz; exact Or.inr ⟨by decide, g_xn 1, hts _ (by decide +kernel : Cond.classLink RL 13 (g_xn 1) ∈ wsW_setLimit), hN0.1⟩; cases hz) (by decide) (by decide) (hts _ (by decide +kernel : Cond.classLink RL 15 (g_xn 2) ∈ wsW_setLimit)) (va_Nw.use rfl (hX0.2.2.1 _ (by decide +kernel : Cond.castable (g_xn 2) (g_xn 2) ∈ g_xw))) hq9 hcv hcl ?_
      refine lv_astore (lv' := [(4, .ref q9), (0, .ref (G.2.2.1 0)), (1, .int p1), (2, .int p2), (3, .ref (G.2.2.1 229))]) hx hb dL_setLimit_17 hl (by decide) rfl (fun ls hl => ?_)
      refine lv_iconst (v := 2) hx hb dL_setLimit_19 (by decide) ?_
      cases hf
      subst hQ
      exact g_yiret hC hW hr hlocks rfl rfl (Nat.le_of_ble_eq_true rfl) (Nat.le_of_ble_eq_true rfl) dL_setLimit_20
    have hf := a_if_f hk1 hf
    by_cases hk2 : k9 = 3
    · have hf := a_if_t hk2 hf
      subst hk2
      refine vx_catch (name := g_xn 3) (E := g_xn 3) hown (pre := [⟨0, 10, 13, 13⟩, ⟨0, 10, 17, 15⟩]) (x := ⟨0, 10, 21, 17⟩) (suf := []) (hsplit := htab) (by intro z hz; rcases List.mem_cons.mp hz with rfl | hz; exact Or.inr ⟨by decide, g_xn 1, hts _ (by decide +kernel : Cond.classLink RL 13 (g_xn 1) ∈ wsW_setLimit), hN0.2.1⟩; rcases List.mem_cons.mp hz with rfl | hz; exact Or.inr ⟨by decide, g_xn 2, hts _ (by decide +kernel : Cond.classLink RL 15 (g_xn 2) ∈ wsW_setLimit), hN0.2.2⟩; cases hz) (by decide) (by decide) (hts _ (by decide +kernel : Cond.classLink RL 17 (g_xn 3) ∈ wsW_setLimit)) (va_Nw.use rfl (hX0.2.2.1 _ (by decide +kernel : Cond.castable (g_xn 3) (g_xn 3) ∈ g_xw))) hq9 hcv hcl ?_
      refine lv_astore (lv' := [(4, .ref q9), (0, .ref (G.2.2.1 0)), (1, .int p1), (2, .int p2), (3, .ref (G.2.2.1 229))]) hx hb dL_setLimit_21 hl (by decide) rfl (fun ls hl => ?_)
      refine lv_iconst (v := 3) hx hb dL_setLimit_23 (by decide) ?_
      cases hf
      subst hQ
      exact g_yiret hC hW hr hlocks rfl rfl (Nat.le_of_ble_eq_true rfl) (Nat.le_of_ble_eq_true rfl) dL_setLimit_24
    have hf := a_if_f hk2 hf
    cases hf
  have hf := hfn _ hv9
  have hf := ob_inv2 hf
  refine lv_i2l (v := (r3).toInt64) hx hb dL_setLimit_8 rfl ?_
  obtain ⟨m4, h9, hf⟩ := ob_inv hf
  refine g_llst hC hW zc_k229 zc_b229 zc_n229 h9 dL_setLimit_9 (fun H locs hW => ?_)
  refine lv_goto (tgt := 25) hx hb dL_setLimit_10 (by decide) ?_
  refine lv_iconst (v := 0) hx hb dL_setLimit_25 (by decide) ?_
  cases hf
  subst hQ
  exact g_yiret hC hW hr hlocks rfl rfl (Nat.le_of_ble_eq_true rfl) (Nat.le_of_ble_eq_true rfl) dL_setLimit_26
set_option maxRecDepth 20000 in
theorem gW_bid : GoodIn wsW_bid (wsV RL 22 RX9 yX9_bid wsX9_bid) := goodIn_app (goodIn_of _ (by decide +kernel)) (goodIn_sub (fun _ h => List.mem_cons_of_mem _ (List.mem_append_right _ h)) (by decide +kernel))
abbrev rmL_bid : Room := { frames := 8, cells := 6, slots := 36, locals := 138 }
set_option maxHeartbeats 4000000 in
set_option maxRecDepth 100000 in
theorem c_L_bid (l : Launch) (G : gG) (hst : l.stackTraces = false) {p1 : Int32} {p2 : Int32} {p3 : Int32} {p4 : Int32} {p5 : Int32} {p6 : Int32} {me : gM} {r0 : Int32} {m0 : gM} (hf : f_L_bid p1 p2 p3 p4 p5 p6 me = some (r0, m0)) : vx_Met l yL_bid wsW_bid rmL_bid (va_Pc [.ref (G.2.2.1 0), .int p1, .int p2, .int p3, .int p4, .int p5, .int p6, .ref (G.2.2.1 229)] (g_WY ZC G me)) (g_Qi ZC G r0 m0) (g_XN G) 6 36 (g_A ZC G) := by
  refine vx_ofWH (cc := cL_bid) (maxL := 9) (ret := (some .int)) (hh := [(0, 18, 21, 13), (0, 18, 25, 15), (0, 18, 29, 17)]) (by decide) rfl ?_
  intro p e s m args below meth c s₁ B hml hv
  obtain ⟨rfl, ⟨hW0, hX0⟩, hN0⟩ := hv
  have hC : CallFix p m c cL_bid 9 s ([.ref (G.2.2.1 0), .int p1, .int p2, .int p3, .int p4, .int p5, .int p6, .ref (G.2.2.1 229)] : List Value).toArray wsW_bid RL := ⟨B.exec, B.bytes, hml, findClass_of_methodNamed B.named, atoms_spec (ws := wsW_bid) B.pre⟩
  have hx := hC.1
  have hb := hC.2.1
  have hown := hC.2.2.2.1
  have hts := hC.2.2.2.2
  have hr := B.returns
  have hlocks := B.notSynchronized
  have hW := g_H_enter hW0
  have htab : c.exceptionTable.toList = tableOf [(0, 18, 21, 13), (0, 18, 25, 15), (0, 18, 29, 17)] := vx_table (x := yL_bid) B (hts _ List.mem_cons_self)
  have hl := lv_entry ([.ref (G.2.2.1 0), .int p1, .int p2, .int p3, .int p4, .int p5, .int p6, .ref (G.2.2.1 229)]) (n := 9) (Nat.le_of_ble_eq_true rfl)
  rw [lg_entry_eq]
  generalize (lg_sl ([.ref (G.2.2.1 0), .int p1, .int p2, .int p3, .int p4, .int p5, .int p6, .ref (G.2.2.1 229)]) ++ List.replicate (9 - (lg_sl ([.ref (G.2.2.1 0), .int p1, .int p2, .int p3, .int p4, .int p5, .int p6, .ref (G.2.2.1 229)])).length) Slot.unset).toArray = ls at hl ⊢
  have hl : lv_has ls 9 [(0, .ref (G.2.2.1 0)), (1, .int p1), (2, .int p2), (3, .int p3), (4, .int p4), (5, .int p5), (6, .int p6), (7, .ref (G.2.2.1 229))] := hl
  obtain ⟨Q, hQ⟩ : ∃ Q, Q = vx_MQ below (g_Qi ZC G r0 m0) (g_XN G) ([.ref (G.2.2.1 0), .int p1, .int p2, .int p3, .int p4, .int p5, .int p6, .ref (G.2.2.1 229)] : List Value).toArray s 6 36 (g_A ZC G) := ⟨_, rfl⟩
  refine g_goQ hQ ?_
  unfold f_L_bid at hf
  refine g_start hW (fun H locs hW => ?_)
  refine lv_aload hx hb dL_bid_0 (lv_at hl 7 rfl) ?_
  refine lv_iconst (v := 0) hx hb dL_bid_2 (by decide) ?_
  refine lv_aload_n hx hb dL_bid_3 rfl (lv_at hl 0 rfl) ?_
  refine lv_iload_n hx hb dL_bid_4 rfl (lv_at hl 1 rfl) ?_
  refine lv_iload_n hx hb dL_bid_5 rfl (lv_at hl 2 rfl) ?_
  refine lv_iload_n hx hb dL_bid_6 rfl (lv_at hl 3 rfl) ?_
  refine lv_iload hx hb dL_bid_7 (lv_at hl 4 rfl) ?_
  refine lv_iload hx hb dL_bid_9 (lv_at hl 5 rfl) ?_
  refine lv_iload hx hb dL_bid_11 (lv_at hl 6 rfl) ?_
  obtain ⟨v9, hg, hfx, hfn⟩ := os_inv hf
  refine g_cXVw hC hW hX0 (o := 0) (ci := 9) (As := [.int p1, .int p2, .int p3, .int p4, .int p5, .int p6]) (rest := [.int 0, .ref (G.2.2.1 229)]) zc_k0 zc_b0 rfl (c_X9_bid l G hst hg) (cwV 6 hts gW_bid rfl rfl rfl (by decide +kernel) ⟨(Nat.le_of_ble_eq_true rfl), (Nat.le_of_ble_eq_true rfl)⟩) rfl hl.1 rfl (Nat.le_of_ble_eq_true rfl) dL_bid_13 ⟨(Nat.le_of_ble_eq_true rfl), (Nat.le_of_ble_eq_true rfl)⟩ (fun k9 hk9 H locs q9 ce hW hq9 hcv hcl => ?_) (fun r3 m2 hv9 H locs hW => ?_)
  · have hf := hfx _ hk9
    by_cases hk0 : k9 = 1
    · have hf := a_if_t hk0 hf
      subst hk0
      refine vx_catch (name := g_xn 1) (E := g_xn 1) hown (pre := []) (x := ⟨0, 18, 21, 13⟩) (suf := [⟨0, 18, 25, 15⟩, ⟨0, 18, 29, 17⟩]) (hsplit := htab) (fun z hz => by cases hz) (by decide) (by decide) (hts _ (by decide +kernel : Cond.classLink RL 13 (g_xn 1) ∈ wsW_bid)) (va_Nw.use rfl (hX0.2.2.1 _ (by decide +kernel : Cond.castable (g_xn 1) (g_xn 1) ∈ g_xw))) hq9 hcv hcl ?_
      refine lv_astore (lv' := [(8, .ref q9), (0, .ref (G.2.2.1 0)), (1, .int p1), (2, .int p2), (3, .int p3), (4, .int p4), (5, .int p5), (6, .int p6), (7, .ref (G.2.2.1 229))]) hx hb dL_bid_21 hl (by decide) rfl (fun ls hl => ?_)
      refine lv_iconst (v := 1) hx hb dL_bid_23 (by decide) ?_
      cases hf
      subst hQ
      exact g_yiret hC hW hr hlocks rfl rfl (Nat.le_of_ble_eq_true rfl) (Nat.le_of_ble_eq_true rfl) dL_bid_24
    have hf := a_if_f hk0 hf
    by_cases hk1 : k9 = 2
    · have hf := a_if_t hk1 hf
      subst hk1
      refine vx_catch (name := g_xn 2) (E := g_xn 2) hown (pre := [⟨0, 18, 21, 13⟩]) (x := ⟨0, 18, 25, 15⟩) (suf := [⟨0, 18, 29, 17⟩]) (hsplit := htab) (by intro z hz; rcases List.mem_cons.mp hz with rfl | hz; exact Or.inr ⟨by decide, g_xn 1, hts _ (by decide +kernel : Cond.classLink RL 13 (g_xn 1) ∈ wsW_bid), hN0.1⟩; cases hz) (by decide) (by decide) (hts _ (by decide +kernel : Cond.classLink RL 15 (g_xn 2) ∈ wsW_bid)) (va_Nw.use rfl (hX0.2.2.1 _ (by decide +kernel : Cond.castable (g_xn 2) (g_xn 2) ∈ g_xw))) hq9 hcv hcl ?_
      refine lv_astore (lv' := [(8, .ref q9), (0, .ref (G.2.2.1 0)), (1, .int p1), (2, .int p2), (3, .int p3), (4, .int p4), (5, .int p5), (6, .int p6), (7, .ref (G.2.2.1 229))]) hx hb dL_bid_25 hl (by decide) rfl (fun ls hl => ?_)
      refine lv_iconst (v := 2) hx hb dL_bid_27 (by decide) ?_
      cases hf
      subst hQ
      exact g_yiret hC hW hr hlocks rfl rfl (Nat.le_of_ble_eq_true rfl) (Nat.le_of_ble_eq_true rfl) dL_bid_28
    have hf := a_if_f hk1 hf
    by_cases hk2 : k9 = 3
    · have hf := a_if_t hk2 hf
      subst hk2
      refine vx_catch (name := g_xn 3) (E := g_xn 3) hown (pre := [⟨0, 18, 21, 13⟩, ⟨0, 18, 25, 15⟩]) (x := ⟨0, 18, 29, 17⟩) (suf := []) (hsplit := htab) (by intro z hz; rcases List.mem_cons.mp hz with rfl | hz; exact Or.inr ⟨by decide, g_xn 1, hts _ (by decide +kernel : Cond.classLink RL 13 (g_xn 1) ∈ wsW_bid), hN0.2.1⟩; rcases List.mem_cons.mp hz with rfl | hz; exact Or.inr ⟨by decide, g_xn 2, hts _ (by decide +kernel : Cond.classLink RL 15 (g_xn 2) ∈ wsW_bid), hN0.2.2⟩; cases hz) (by decide) (by decide) (hts _ (by decide +kernel : Cond.classLink RL 17 (g_xn 3) ∈ wsW_bid)) (va_Nw.use rfl (hX0.2.2.1 _ (by decide +kernel : Cond.castable (g_xn 3) (g_xn 3) ∈ g_xw))) hq9 hcv hcl ?_
      refine lv_astore (lv' := [(8, .ref q9), (0, .ref (G.2.2.1 0)), (1, .int p1), (2, .int p2), (3, .int p3), (4, .int p4), (5, .int p5), (6, .int p6), (7, .ref (G.2.2.1 229))]) hx hb dL_bid_29 hl (by decide) rfl (fun ls hl => ?_)
      refine lv_iconst (v := 3) hx hb dL_bid_31 (by decide) ?_
      cases hf
      subst hQ
      exact g_yiret hC hW hr hlocks rfl rfl (Nat.le_of_ble_eq_true rfl) (Nat.le_of_ble_eq_true rfl) dL_bid_32
    have hf := a_if_f hk2 hf
    cases hf
  have hf := hfn _ hv9
  have hf := ob_inv2 hf
  refine lv_i2l (v := (r3).toInt64) hx hb dL_bid_16 rfl ?_
  obtain ⟨m4, h9, hf⟩ := ob_inv hf
  refine g_llst hC hW zc_k229 zc_b229 zc_n229 h9 dL_bid_17 (fun H locs hW => ?_)
  refine lv_goto (tgt := 33) hx hb dL_bid_18 (by decide) ?_
  refine lv_iconst (v := 0) hx hb dL_bid_33 (by decide) ?_
  cases hf
  subst hQ
  exact g_yiret hC hW hr hlocks rfl rfl (Nat.le_of_ble_eq_true rfl) (Nat.le_of_ble_eq_true rfl) dL_bid_34
set_option maxRecDepth 20000 in
theorem gW_block : GoodIn wsW_block (wsV RL 26 RX9 yX9_block wsX9_block) := goodIn_app (goodIn_of _ (by decide +kernel)) (goodIn_sub (fun _ h => List.mem_cons_of_mem _ (List.mem_append_right _ h)) (by decide +kernel))
abbrev rmL_block : Room := { frames := 8, cells := 6, slots := 36, locals := 138 }
set_option maxHeartbeats 4000000 in
set_option maxRecDepth 100000 in
theorem c_L_block (l : Launch) (G : gG) (hst : l.stackTraces = false) {p1 : Int32} {p2 : Int32} {p3 : Int32} {p4 : Int32} {p5 : Int32} {p6 : Int32} {me : gM} {r0 : Int32} {m0 : gM} (hf : f_L_block p1 p2 p3 p4 p5 p6 me = some (r0, m0)) : vx_Met l yL_block wsW_block rmL_block (va_Pc [.ref (G.2.2.1 0), .int p1, .int p2, .int p3, .int p4, .int p5, .int p6, .ref (G.2.2.1 229)] (g_WY ZC G me)) (g_Qi ZC G r0 m0) (g_XN G) 6 36 (g_A ZC G) := by
  refine vx_ofWH (cc := cL_block) (maxL := 9) (ret := (some .int)) (hh := [(0, 18, 21, 13), (0, 18, 25, 15), (0, 18, 29, 17)]) (by decide) rfl ?_
  intro p e s m args below meth c s₁ B hml hv
  obtain ⟨rfl, ⟨hW0, hX0⟩, hN0⟩ := hv
  have hC : CallFix p m c cL_block 9 s ([.ref (G.2.2.1 0), .int p1, .int p2, .int p3, .int p4, .int p5, .int p6, .ref (G.2.2.1 229)] : List Value).toArray wsW_block RL := ⟨B.exec, B.bytes, hml, findClass_of_methodNamed B.named, atoms_spec (ws := wsW_block) B.pre⟩
  have hx := hC.1
  have hb := hC.2.1
  have hown := hC.2.2.2.1
  have hts := hC.2.2.2.2
  have hr := B.returns
  have hlocks := B.notSynchronized
  have hW := g_H_enter hW0
  have htab : c.exceptionTable.toList = tableOf [(0, 18, 21, 13), (0, 18, 25, 15), (0, 18, 29, 17)] := vx_table (x := yL_block) B (hts _ List.mem_cons_self)
  have hl := lv_entry ([.ref (G.2.2.1 0), .int p1, .int p2, .int p3, .int p4, .int p5, .int p6, .ref (G.2.2.1 229)]) (n := 9) (Nat.le_of_ble_eq_true rfl)
  rw [lg_entry_eq]
  generalize (lg_sl ([.ref (G.2.2.1 0), .int p1, .int p2, .int p3, .int p4, .int p5, .int p6, .ref (G.2.2.1 229)]) ++ List.replicate (9 - (lg_sl ([.ref (G.2.2.1 0), .int p1, .int p2, .int p3, .int p4, .int p5, .int p6, .ref (G.2.2.1 229)])).length) Slot.unset).toArray = ls at hl ⊢
  have hl : lv_has ls 9 [(0, .ref (G.2.2.1 0)), (1, .int p1), (2, .int p2), (3, .int p3), (4, .int p4), (5, .int p5), (6, .int p6), (7, .ref (G.2.2.1 229))] := hl
  obtain ⟨Q, hQ⟩ : ∃ Q, Q = vx_MQ below (g_Qi ZC G r0 m0) (g_XN G) ([.ref (G.2.2.1 0), .int p1, .int p2, .int p3, .int p4, .int p5, .int p6, .ref (G.2.2.1 229)] : List Value).toArray s 6 36 (g_A ZC G) := ⟨_, rfl⟩
  refine g_goQ hQ ?_
  unfold f_L_block at hf
  refine g_start hW (fun H locs hW => ?_)
  refine lv_aload hx hb dL_block_0 (lv_at hl 7 rfl) ?_
  refine lv_iconst (v := 0) hx hb dL_block_2 (by decide) ?_
  refine lv_aload_n hx hb dL_block_3 rfl (lv_at hl 0 rfl) ?_
  refine lv_iload_n hx hb dL_block_4 rfl (lv_at hl 1 rfl) ?_
  refine lv_iload_n hx hb dL_block_5 rfl (lv_at hl 2 rfl) ?_
  refine lv_iload_n hx hb dL_block_6 rfl (lv_at hl 3 rfl) ?_
  refine lv_iload hx hb dL_block_7 (lv_at hl 4 rfl) ?_
  refine lv_iload hx hb dL_block_9 (lv_at hl 5 rfl) ?_
  refine lv_iload hx hb dL_block_11 (lv_at hl 6 rfl) ?_
  obtain ⟨v9, hg, hfx, hfn⟩ := os_inv hf
  refine g_cXVw hC hW hX0 (o := 0) (ci := 9) (As := [.int p1, .int p2, .int p3, .int p4, .int p5, .int p6]) (rest := [.int 0, .ref (G.2.2.1 229)]) zc_k0 zc_b0 rfl (c_X9_block l G hst hg) (cwV 6 hts gW_block rfl rfl rfl (by decide +kernel) ⟨(Nat.le_of_ble_eq_true rfl), (Nat.le_of_ble_eq_true rfl)⟩) rfl hl.1 rfl (Nat.le_of_ble_eq_true rfl) dL_block_13 ⟨(Nat.le_of_ble_eq_true rfl), (Nat.le_of_ble_eq_true rfl)⟩ (fun k9 hk9 H locs q9 ce hW hq9 hcv hcl => ?_) (fun r3 m2 hv9 H locs hW => ?_)
  · have hf := hfx _ hk9
    by_cases hk0 : k9 = 1
    · have hf := a_if_t hk0 hf
      subst hk0
      refine vx_catch (name := g_xn 1) (E := g_xn 1) hown (pre := []) (x := ⟨0, 18, 21, 13⟩) (suf := [⟨0, 18, 25, 15⟩, ⟨0, 18, 29, 17⟩]) (hsplit := htab) (fun z hz => by cases hz) (by decide) (by decide) (hts _ (by decide +kernel : Cond.classLink RL 13 (g_xn 1) ∈ wsW_block)) (va_Nw.use rfl (hX0.2.2.1 _ (by decide +kernel : Cond.castable (g_xn 1) (g_xn 1) ∈ g_xw))) hq9 hcv hcl ?_
      refine lv_astore (lv' := [(8, .ref q9), (0, .ref (G.2.2.1 0)), (1, .int p1), (2, .int p2), (3, .int p3), (4, .int p4), (5, .int p5), (6, .int p6), (7, .ref (G.2.2.1 229))]) hx hb dL_block_21 hl (by decide) rfl (fun ls hl => ?_)
      refine lv_iconst (v := 1) hx hb dL_block_23 (by decide) ?_
      cases hf
      subst hQ
      exact g_yiret hC hW hr hlocks rfl rfl (Nat.le_of_ble_eq_true rfl) (Nat.le_of_ble_eq_true rfl) dL_block_24
    have hf := a_if_f hk0 hf
    by_cases hk1 : k9 = 2
    · have hf := a_if_t hk1 hf
      subst hk1
      refine vx_catch (name := g_xn 2) (E := g_xn 2) hown (pre := [⟨0, 18, 21, 13⟩]) (x := ⟨0, 18, 25, 15⟩) (suf := [⟨0, 18, 29, 17⟩]) (hsplit := htab) (by intro z hz; rcases List.mem_cons.mp hz with rfl | hz; exact Or.inr ⟨by decide, g_xn 1, hts _ (by decide +kernel : Cond.classLink RL 13 (g_xn 1) ∈ wsW_block), hN0.1⟩; cases hz) (by decide) (by decide) (hts _ (by decide +kernel : Cond.classLink RL 15 (g_xn 2) ∈ wsW_block)) (va_Nw.use rfl (hX0.2.2.1 _ (by decide +kernel : Cond.castable (g_xn 2) (g_xn 2) ∈ g_xw))) hq9 hcv hcl ?_
      refine lv_astore (lv' := [(8, .ref q9), (0, .ref (G.2.2.1 0)), (1, .int p1), (2, .int p2), (3, .int p3), (4, .int p4), (5, .int p5), (6, .int p6), (7, .ref (G.2.2.1 229))]) hx hb dL_block_25 hl (by decide) rfl (fun ls hl => ?_)
      refine lv_iconst (v := 2) hx hb dL_block_27 (by decide) ?_
      cases hf
      subst hQ
      exact g_yiret hC hW hr hlocks rfl rfl (Nat.le_of_ble_eq_true rfl) (Nat.le_of_ble_eq_true rfl) dL_block_28
    have hf := a_if_f hk1 hf
    by_cases hk2 : k9 = 3
    · have hf := a_if_t hk2 hf
      subst hk2
      refine vx_catch (name := g_xn 3) (E := g_xn 3) hown (pre := [⟨0, 18, 21, 13⟩, ⟨0, 18, 25, 15⟩]) (x := ⟨0, 18, 29, 17⟩) (suf := []) (hsplit := htab) (by intro z hz; rcases List.mem_cons.mp hz with rfl | hz; exact Or.inr ⟨by decide, g_xn 1, hts _ (by decide +kernel : Cond.classLink RL 13 (g_xn 1) ∈ wsW_block), hN0.2.1⟩; rcases List.mem_cons.mp hz with rfl | hz; exact Or.inr ⟨by decide, g_xn 2, hts _ (by decide +kernel : Cond.classLink RL 15 (g_xn 2) ∈ wsW_block), hN0.2.2⟩; cases hz) (by decide) (by decide) (hts _ (by decide +kernel : Cond.classLink RL 17 (g_xn 3) ∈ wsW_block)) (va_Nw.use rfl (hX0.2.2.1 _ (by decide +kernel : Cond.castable (g_xn 3) (g_xn 3) ∈ g_xw))) hq9 hcv hcl ?_
      refine lv_astore (lv' := [(8, .ref q9), (0, .ref (G.2.2.1 0)), (1, .int p1), (2, .int p2), (3, .int p3), (4, .int p4), (5, .int p5), (6, .int p6), (7, .ref (G.2.2.1 229))]) hx hb dL_block_29 hl (by decide) rfl (fun ls hl => ?_)
      refine lv_iconst (v := 3) hx hb dL_block_31 (by decide) ?_
      cases hf
      subst hQ
      exact g_yiret hC hW hr hlocks rfl rfl (Nat.le_of_ble_eq_true rfl) (Nat.le_of_ble_eq_true rfl) dL_block_32
    have hf := a_if_f hk2 hf
    cases hf
  have hf := hfn _ hv9
  have hf := ob_inv2 hf
  refine lv_i2l (v := (r3).toInt64) hx hb dL_block_16 rfl ?_
  obtain ⟨m4, h9, hf⟩ := ob_inv hf
  refine g_llst hC hW zc_k229 zc_b229 zc_n229 h9 dL_block_17 (fun H locs hW => ?_)
  refine lv_goto (tgt := 33) hx hb dL_block_18 (by decide) ?_
  refine lv_iconst (v := 0) hx hb dL_block_33 (by decide) ?_
  cases hf
  subst hQ
  exact g_yiret hC hW hr hlocks rfl rfl (Nat.le_of_ble_eq_true rfl) (Nat.le_of_ble_eq_true rfl) dL_block_34
set_option maxRecDepth 20000 in
theorem gW_link : GoodIn wsW_link (wsV RL 29 RX9 yX9_link wsX9_link) := goodIn_app (goodIn_of _ (by decide +kernel)) (goodIn_sub (fun _ h => List.mem_cons_of_mem _ (List.mem_append_right _ h)) (by decide +kernel))
abbrev rmL_link : Room := { frames := 8, cells := 4, slots := 24, locals := 135 }
set_option maxHeartbeats 4000000 in
set_option maxRecDepth 100000 in
theorem c_L_link (l : Launch) (G : gG) (hst : l.stackTraces = false) {p1 : Int32} {p2 : Int32} {p3 : Int32} {me : gM} {r0 : Int32} {m0 : gM} (hf : f_L_link p1 p2 p3 me = some (r0, m0)) : vx_Met l yL_link wsW_link rmL_link (va_Pc [.ref (G.2.2.1 0), .int p1, .int p2, .int p3] (g_WY ZC G me)) (g_Qi ZC G r0 m0) (g_XN G) 4 24 (g_A ZC G) := by
  refine vx_ofWH (cc := cL_link) (maxL := 5) (ret := (some .int)) (hh := [(0, 7, 10, 13), (0, 7, 14, 15), (0, 7, 18, 17)]) (by decide) rfl ?_
  intro p e s m args below meth c s₁ B hml hv
  obtain ⟨rfl, ⟨hW0, hX0⟩, hN0⟩ := hv
  have hC : CallFix p m c cL_link 5 s ([.ref (G.2.2.1 0), .int p1, .int p2, .int p3] : List Value).toArray wsW_link RL := ⟨B.exec, B.bytes, hml, findClass_of_methodNamed B.named, atoms_spec (ws := wsW_link) B.pre⟩
  have hx := hC.1
  have hb := hC.2.1
  have hown := hC.2.2.2.1
  have hts := hC.2.2.2.2
  have hr := B.returns
  have hlocks := B.notSynchronized
  have hW := g_H_enter hW0
  have htab : c.exceptionTable.toList = tableOf [(0, 7, 10, 13), (0, 7, 14, 15), (0, 7, 18, 17)] := vx_table (x := yL_link) B (hts _ List.mem_cons_self)
  have hl := lv_entry ([.ref (G.2.2.1 0), .int p1, .int p2, .int p3]) (n := 5) (Nat.le_of_ble_eq_true rfl)
  rw [lg_entry_eq]
  generalize (lg_sl ([.ref (G.2.2.1 0), .int p1, .int p2, .int p3]) ++ List.replicate (5 - (lg_sl ([.ref (G.2.2.1 0), .int p1, .int p2, .int p3])).length) Slot.unset).toArray = ls at hl ⊢
  have hl : lv_has ls 5 [(0, .ref (G.2.2.1 0)), (1, .int p1), (2, .int p2), (3, .int p3)] := hl
  obtain ⟨Q, hQ⟩ : ∃ Q, Q = vx_MQ below (g_Qi ZC G r0 m0) (g_XN G) ([.ref (G.2.2.1 0), .int p1, .int p2, .int p3] : List Value).toArray s 4 24 (g_A ZC G) := ⟨_, rfl⟩
  refine g_goQ hQ ?_
  unfold f_L_link at hf
  refine g_start hW (fun H locs hW => ?_)
  refine lv_aload_n hx hb dL_link_0 rfl (lv_at hl 0 rfl) ?_
  refine lv_iload_n hx hb dL_link_1 rfl (lv_at hl 1 rfl) ?_
  refine lv_iload_n hx hb dL_link_2 rfl (lv_at hl 2 rfl) ?_
  refine lv_iload_n hx hb dL_link_3 rfl (lv_at hl 3 rfl) ?_
  obtain ⟨v9, hg, hfx, hfn⟩ := os_inv hf
  refine g_cXVm hC hW hX0 (o := 0) (ci := 9) (As := [.int p1, .int p2, .int p3]) (rest := []) zc_k0 zc_b0 rfl (c_X9_link l G hst hg) (cwV 3 hts gW_link rfl rfl rfl (by decide +kernel) ⟨(Nat.le_of_ble_eq_true rfl), (Nat.le_of_ble_eq_true rfl)⟩) rfl hl.1 rfl (Nat.le_of_ble_eq_true rfl) dL_link_4 ⟨(Nat.le_of_ble_eq_true rfl), (Nat.le_of_ble_eq_true rfl)⟩ (fun k9 hk9 H locs q9 ce hW hq9 hcv hcl => ?_) (fun m2 hv9 H locs hW => ?_)
  · have hf := hfx _ hk9
    by_cases hk0 : k9 = 1
    · have hf := a_if_t hk0 hf
      subst hk0
      refine vx_catch (name := g_xn 1) (E := g_xn 1) hown (pre := []) (x := ⟨0, 7, 10, 13⟩) (suf := [⟨0, 7, 14, 15⟩, ⟨0, 7, 18, 17⟩]) (hsplit := htab) (fun z hz => by cases hz) (by decide) (by decide) (hts _ (by decide +kernel : Cond.classLink RL 13 (g_xn 1) ∈ wsW_link)) (va_Nw.use rfl (hX0.2.2.1 _ (by decide +kernel : Cond.castable (g_xn 1) (g_xn 1) ∈ g_xw))) hq9 hcv hcl ?_
      refine lv_astore (lv' := [(4, .ref q9), (0, .ref (G.2.2.1 0)), (1, .int p1), (2, .int p2), (3, .int p3)]) hx hb dL_link_10 hl (by decide) rfl (fun ls hl => ?_)
      refine lv_iconst (v := 1) hx hb dL_link_12 (by decide) ?_
      cases hf
      subst hQ
      exact g_yiret hC hW hr hlocks rfl rfl (Nat.le_of_ble_eq_true rfl) (Nat.le_of_ble_eq_true rfl) dL_link_13
    have hf := a_if_f hk0 hf
    by_cases hk1 : k9 = 2
    · have hf := a_if_t hk1 hf
      subst hk1
      refine vx_catch (name := g_xn 2) (E := g_xn 2) hown (pre := [⟨0, 7, 10, 13⟩]) (x := ⟨0, 7, 14, 15⟩) (suf := [⟨0, 7, 18, 17⟩]) (hsplit := htab) (by intro z hz; rcases List.mem_cons.mp hz with rfl | hz; exact Or.inr ⟨by decide, g_xn 1, hts _ (by decide +kernel : Cond.classLink RL 13 (g_xn 1) ∈ wsW_link), hN0.1⟩; cases hz) (by decide) (by decide) (hts _ (by decide +kernel : Cond.classLink RL 15 (g_xn 2) ∈ wsW_link)) (va_Nw.use rfl (hX0.2.2.1 _ (by decide +kernel : Cond.castable (g_xn 2) (g_xn 2) ∈ g_xw))) hq9 hcv hcl ?_
      refine lv_astore (lv' := [(4, .ref q9), (0, .ref (G.2.2.1 0)), (1, .int p1), (2, .int p2), (3, .int p3)]) hx hb dL_link_14 hl (by decide) rfl (fun ls hl => ?_)
      refine lv_iconst (v := 2) hx hb dL_link_16 (by decide) ?_
      cases hf
      subst hQ
      exact g_yiret hC hW hr hlocks rfl rfl (Nat.le_of_ble_eq_true rfl) (Nat.le_of_ble_eq_true rfl) dL_link_17
    have hf := a_if_f hk1 hf
    by_cases hk2 : k9 = 3
    · have hf := a_if_t hk2 hf
      subst hk2
      refine vx_catch (name := g_xn 3) (E := g_xn 3) hown (pre := [⟨0, 7, 10, 13⟩, ⟨0, 7, 14, 15⟩]) (x := ⟨0, 7, 18, 17⟩) (suf := []) (hsplit := htab) (by intro z hz; rcases List.mem_cons.mp hz with rfl | hz; exact Or.inr ⟨by decide, g_xn 1, hts _ (by decide +kernel : Cond.classLink RL 13 (g_xn 1) ∈ wsW_link), hN0.2.1⟩; rcases List.mem_cons.mp hz with rfl | hz; exact Or.inr ⟨by decide, g_xn 2, hts _ (by decide +kernel : Cond.classLink RL 15 (g_xn 2) ∈ wsW_link), hN0.2.2⟩; cases hz) (by decide) (by decide) (hts _ (by decide +kernel : Cond.classLink RL 17 (g_xn 3) ∈ wsW_link)) (va_Nw.use rfl (hX0.2.2.1 _ (by decide +kernel : Cond.castable (g_xn 3) (g_xn 3) ∈ g_xw))) hq9 hcv hcl ?_
      refine lv_astore (lv' := [(4, .ref q9), (0, .ref (G.2.2.1 0)), (1, .int p1), (2, .int p2), (3, .int p3)]) hx hb dL_link_18 hl (by decide) rfl (fun ls hl => ?_)
      refine lv_iconst (v := 3) hx hb dL_link_20 (by decide) ?_
      cases hf
      subst hQ
      exact g_yiret hC hW hr hlocks rfl rfl (Nat.le_of_ble_eq_true rfl) (Nat.le_of_ble_eq_true rfl) dL_link_21
    have hf := a_if_f hk2 hf
    cases hf
  have hf := hfn _ hv9
  have hf := ob_inv1 hf
  refine lv_goto (tgt := 22) hx hb dL_link_7 (by decide) ?_
  refine lv_iconst (v := 0) hx hb dL_link_22 (by decide) ?_
  cases hf
  subst hQ
  exact g_yiret hC hW hr hlocks rfl rfl (Nat.le_of_ble_eq_true rfl) (Nat.le_of_ble_eq_true rfl) dL_link_23
set_option maxRecDepth 20000 in
theorem gW_ask : GoodIn wsW_ask (wsV RL 33 RX9 yX9_ask wsX9_ask) := goodIn_app (goodIn_of _ (by decide +kernel)) (goodIn_sub (fun _ h => List.mem_cons_of_mem _ (List.mem_append_right _ h)) (by decide +kernel))
abbrev rmL_ask : Room := { frames := 8, cells := 7, slots := 42, locals := 137 }
set_option maxHeartbeats 4000000 in
set_option maxRecDepth 100000 in
theorem c_L_ask (l : Launch) (G : gG) (hst : l.stackTraces = false) {p1 : Int32} {p2 : Int32} {p3 : Int32} {p4 : Int32} {p5 : Int32} {me : gM} {r0 : Int32} {m0 : gM} (hf : f_L_ask p1 p2 p3 p4 p5 me = some (r0, m0)) : vx_Met l yL_ask wsW_ask rmL_ask (va_Pc [.ref (G.2.2.1 0), .int p1, .int p2, .int p3, .int p4, .int p5, .ref (G.2.2.1 229)] (g_WY ZC G me)) (g_Qi ZC G r0 m0) (g_XN G) 7 42 (g_A ZC G) := by
  refine vx_ofWH (cc := cL_ask) (maxL := 8) (ret := (some .int)) (hh := [(0, 16, 19, 13), (0, 16, 23, 15), (0, 16, 27, 17)]) (by decide) rfl ?_
  intro p e s m args below meth c s₁ B hml hv
  obtain ⟨rfl, ⟨hW0, hX0⟩, hN0⟩ := hv
  have hC : CallFix p m c cL_ask 8 s ([.ref (G.2.2.1 0), .int p1, .int p2, .int p3, .int p4, .int p5, .ref (G.2.2.1 229)] : List Value).toArray wsW_ask RL := ⟨B.exec, B.bytes, hml, findClass_of_methodNamed B.named, atoms_spec (ws := wsW_ask) B.pre⟩
  have hx := hC.1
  have hb := hC.2.1
  have hown := hC.2.2.2.1
  have hts := hC.2.2.2.2
  have hr := B.returns
  have hlocks := B.notSynchronized
  have hW := g_H_enter hW0
  have htab : c.exceptionTable.toList = tableOf [(0, 16, 19, 13), (0, 16, 23, 15), (0, 16, 27, 17)] := vx_table (x := yL_ask) B (hts _ List.mem_cons_self)
  have hl := lv_entry ([.ref (G.2.2.1 0), .int p1, .int p2, .int p3, .int p4, .int p5, .ref (G.2.2.1 229)]) (n := 8) (Nat.le_of_ble_eq_true rfl)
  rw [lg_entry_eq]
  generalize (lg_sl ([.ref (G.2.2.1 0), .int p1, .int p2, .int p3, .int p4, .int p5, .ref (G.2.2.1 229)]) ++ List.replicate (8 - (lg_sl ([.ref (G.2.2.1 0), .int p1, .int p2, .int p3, .int p4, .int p5, .ref (G.2.2.1 229)])).length) Slot.unset).toArray = ls at hl ⊢
  have hl : lv_has ls 8 [(0, .ref (G.2.2.1 0)), (1, .int p1), (2, .int p2), (3, .int p3), (4, .int p4), (5, .int p5), (6, .ref (G.2.2.1 229))] := hl
  obtain ⟨Q, hQ⟩ : ∃ Q, Q = vx_MQ below (g_Qi ZC G r0 m0) (g_XN G) ([.ref (G.2.2.1 0), .int p1, .int p2, .int p3, .int p4, .int p5, .ref (G.2.2.1 229)] : List Value).toArray s 7 42 (g_A ZC G) := ⟨_, rfl⟩
  refine g_goQ hQ ?_
  unfold f_L_ask at hf
  refine g_start hW (fun H locs hW => ?_)
  refine lv_aload hx hb dL_ask_0 (lv_at hl 6 rfl) ?_
  refine lv_iconst (v := 0) hx hb dL_ask_2 (by decide) ?_
  refine lv_aload_n hx hb dL_ask_3 rfl (lv_at hl 0 rfl) ?_
  refine lv_iload_n hx hb dL_ask_4 rfl (lv_at hl 1 rfl) ?_
  refine lv_iload_n hx hb dL_ask_5 rfl (lv_at hl 2 rfl) ?_
  refine lv_iload_n hx hb dL_ask_6 rfl (lv_at hl 3 rfl) ?_
  refine lv_iload hx hb dL_ask_7 (lv_at hl 4 rfl) ?_
  refine lv_iload hx hb dL_ask_9 (lv_at hl 5 rfl) ?_
  obtain ⟨v9, hg, hfx, hfn⟩ := os_inv hf
  refine g_cXVw hC hW hX0 (o := 0) (ci := 9) (As := [.int p1, .int p2, .int p3, .int p4, .int p5]) (rest := [.int 0, .ref (G.2.2.1 229)]) zc_k0 zc_b0 rfl (c_X9_ask l G hst hg) (cwV 5 hts gW_ask rfl rfl rfl (by decide +kernel) ⟨(Nat.le_of_ble_eq_true rfl), (Nat.le_of_ble_eq_true rfl)⟩) rfl hl.1 rfl (Nat.le_of_ble_eq_true rfl) dL_ask_11 ⟨(Nat.le_of_ble_eq_true rfl), (Nat.le_of_ble_eq_true rfl)⟩ (fun k9 hk9 H locs q9 ce hW hq9 hcv hcl => ?_) (fun r3 m2 hv9 H locs hW => ?_)
  · have hf := hfx _ hk9
    by_cases hk0 : k9 = 1
    · have hf := a_if_t hk0 hf
      subst hk0
      refine vx_catch (name := g_xn 1) (E := g_xn 1) hown (pre := []) (x := ⟨0, 16, 19, 13⟩) (suf := [⟨0, 16, 23, 15⟩, ⟨0, 16, 27, 17⟩]) (hsplit := htab) (fun z hz => by cases hz) (by decide) (by decide) (hts _ (by decide +kernel : Cond.classLink RL 13 (g_xn 1) ∈ wsW_ask)) (va_Nw.use rfl (hX0.2.2.1 _ (by decide +kernel : Cond.castable (g_xn 1) (g_xn 1) ∈ g_xw))) hq9 hcv hcl ?_
      refine lv_astore (lv' := [(7, .ref q9), (0, .ref (G.2.2.1 0)), (1, .int p1), (2, .int p2), (3, .int p3), (4, .int p4), (5, .int p5), (6, .ref (G.2.2.1 229))]) hx hb dL_ask_19 hl (by decide) rfl (fun ls hl => ?_)
      refine lv_iconst (v := 1) hx hb dL_ask_21 (by decide) ?_
      cases hf
      subst hQ
      exact g_yiret hC hW hr hlocks rfl rfl (Nat.le_of_ble_eq_true rfl) (Nat.le_of_ble_eq_true rfl) dL_ask_22
    have hf := a_if_f hk0 hf
    by_cases hk1 : k9 = 2
    · have hf := a_if_t hk1 hf
      subst hk1
      refine vx_catch (name := g_xn 2) (E := g_xn 2) hown (pre := [⟨0, 16, 19, 13⟩]) (x := ⟨0, 16, 23, 15⟩) (suf := [⟨0, 16, 27, 17⟩]) (hsplit := htab) (by intro z hz; rcases List.mem_cons.mp hz with rfl | hz; exact Or.inr ⟨by decide, g_xn 1, hts _ (by decide +kernel : Cond.classLink RL 13 (g_xn 1) ∈ wsW_ask), hN0.1⟩; cases hz) (by decide) (by decide) (hts _ (by decide +kernel : Cond.classLink RL 15 (g_xn 2) ∈ wsW_ask)) (va_Nw.use rfl (hX0.2.2.1 _ (by decide +kernel : Cond.castable (g_xn 2) (g_xn 2) ∈ g_xw))) hq9 hcv hcl ?_
      refine lv_astore (lv' := [(7, .ref q9), (0, .ref (G.2.2.1 0)), (1, .int p1), (2, .int p2), (3, .int p3), (4, .int p4), (5, .int p5), (6, .ref (G.2.2.1 229))]) hx hb dL_ask_23 hl (by decide) rfl (fun ls hl => ?_)
      refine lv_iconst (v := 2) hx hb dL_ask_25 (by decide) ?_
      cases hf
      subst hQ
      exact g_yiret hC hW hr hlocks rfl rfl (Nat.le_of_ble_eq_true rfl) (Nat.le_of_ble_eq_true rfl) dL_ask_26
    have hf := a_if_f hk1 hf
    by_cases hk2 : k9 = 3
    · have hf := a_if_t hk2 hf
      subst hk2
      refine vx_catch (name := g_xn 3) (E := g_xn 3) hown (pre := [⟨0, 16, 19, 13⟩, ⟨0, 16, 23, 15⟩]) (x := ⟨0, 16, 27, 17⟩) (suf := []) (hsplit := htab) (by intro z hz; rcases List.mem_cons.mp hz with rfl | hz; exact Or.inr ⟨by decide, g_xn 1, hts _ (by decide +kernel : Cond.classLink RL 13 (g_xn 1) ∈ wsW_ask), hN0.2.1⟩; rcases List.mem_cons.mp hz with rfl | hz; exact Or.inr ⟨by decide, g_xn 2, hts _ (by decide +kernel : Cond.classLink RL 15 (g_xn 2) ∈ wsW_ask), hN0.2.2⟩; cases hz) (by decide) (by decide) (hts _ (by decide +kernel : Cond.classLink RL 17 (g_xn 3) ∈ wsW_ask)) (va_Nw.use rfl (hX0.2.2.1 _ (by decide +kernel : Cond.castable (g_xn 3) (g_xn 3) ∈ g_xw))) hq9 hcv hcl ?_
      refine lv_astore (lv' := [(7, .ref q9), (0, .ref (G.2.2.1 0)), (1, .int p1), (2, .int p2), (3, .int p3), (4, .int p4), (5, .int p5), (6, .ref (G.2.2.1 229))]) hx hb dL_ask_27 hl (by decide) rfl (fun ls hl => ?_)
      refine lv_iconst (v := 3) hx hb dL_ask_29 (by decide) ?_
      cases hf
      subst hQ
      exact g_yiret hC hW hr hlocks rfl rfl (Nat.le_of_ble_eq_true rfl) (Nat.le_of_ble_eq_true rfl) dL_ask_30
    have hf := a_if_f hk2 hf
    cases hf
  have hf := hfn _ hv9
  have hf := ob_inv2 hf
  refine lv_i2l (v := (r3).toInt64) hx hb dL_ask_14 rfl ?_
  obtain ⟨m4, h9, hf⟩ := ob_inv hf
  refine g_llst hC hW zc_k229 zc_b229 zc_n229 h9 dL_ask_15 (fun H locs hW => ?_)
  refine lv_goto (tgt := 31) hx hb dL_ask_16 (by decide) ?_
  refine lv_iconst (v := 0) hx hb dL_ask_31 (by decide) ?_
  cases hf
  subst hQ
  exact g_yiret hC hW hr hlocks rfl rfl (Nat.le_of_ble_eq_true rfl) (Nat.le_of_ble_eq_true rfl) dL_ask_32
set_option maxRecDepth 20000 in
theorem gW_clear : GoodIn wsW_clear (wsV RL 37 RX9 yX9_clear wsX9_clear) := goodIn_app (goodIn_of _ (by decide +kernel)) (goodIn_sub (fun _ h => List.mem_cons_of_mem _ (List.mem_append_right _ h)) (by decide +kernel))
abbrev rmL_clear : Room := { frames := 8, cells := 1, slots := 6, locals := 160 }
set_option maxHeartbeats 4000000 in
set_option maxRecDepth 100000 in
theorem c_L_clear (l : Launch) (G : gG) (hst : l.stackTraces = false)  {me : gM} {r0 : Int32} {m0 : gM} (hf : f_L_clear me = some (r0, m0)) : vx_Met l yL_clear wsW_clear rmL_clear (va_Pc [.ref (G.2.2.1 0), .ref (G.2.2.1 229)] (g_WY ZC G me)) (g_Qi ZC G r0 m0) (g_XN G) 1 6 (g_A ZC G) := by
  refine vx_ofWH (cc := cL_clear) (maxL := 3) (ret := (some .int)) (hh := [(0, 8, 11, 17)]) (by decide) rfl ?_
  intro p e s m args below meth c s₁ B hml hv
  obtain ⟨rfl, ⟨hW0, hX0⟩, hN0⟩ := hv
  have hC : CallFix p m c cL_clear 3 s ([.ref (G.2.2.1 0), .ref (G.2.2.1 229)] : List Value).toArray wsW_clear RL := ⟨B.exec, B.bytes, hml, findClass_of_methodNamed B.named, atoms_spec (ws := wsW_clear) B.pre⟩
  have hx := hC.1
  have hb := hC.2.1
  have hown := hC.2.2.2.1
  have hts := hC.2.2.2.2
  have hr := B.returns
  have hlocks := B.notSynchronized
  have hW := g_H_enter hW0
  have htab : c.exceptionTable.toList = tableOf [(0, 8, 11, 17)] := vx_table (x := yL_clear) B (hts _ List.mem_cons_self)
  have hl := lv_entry ([.ref (G.2.2.1 0), .ref (G.2.2.1 229)]) (n := 3) (Nat.le_of_ble_eq_true rfl)
  rw [lg_entry_eq]
  generalize (lg_sl ([.ref (G.2.2.1 0), .ref (G.2.2.1 229)]) ++ List.replicate (3 - (lg_sl ([.ref (G.2.2.1 0), .ref (G.2.2.1 229)])).length) Slot.unset).toArray = ls at hl ⊢
  have hl : lv_has ls 3 [(0, .ref (G.2.2.1 0)), (1, .ref (G.2.2.1 229))] := hl
  obtain ⟨Q, hQ⟩ : ∃ Q, Q = vx_MQ below (g_Qi ZC G r0 m0) (g_XN G) ([.ref (G.2.2.1 0), .ref (G.2.2.1 229)] : List Value).toArray s 1 6 (g_A ZC G) := ⟨_, rfl⟩
  refine g_goQ hQ ?_
  unfold f_L_clear at hf
  refine g_start hW (fun H locs hW => ?_)
  refine lv_aload_n hx hb dL_clear_0 rfl (lv_at hl 1 rfl) ?_
  refine lv_iconst (v := 0) hx hb dL_clear_1 (by decide) ?_
  refine lv_aload_n hx hb dL_clear_2 rfl (lv_at hl 0 rfl) ?_
  obtain ⟨v9, hg, hfx, hfn⟩ := os_inv hf
  refine g_cXVw hC hW hX0 (o := 0) (ci := 9) (As := []) (rest := [.int 0, .ref (G.2.2.1 229)]) zc_k0 zc_b0 rfl (c_X9_clear l G hst hg) (cwV 0 hts gW_clear rfl rfl rfl (by decide +kernel) ⟨(Nat.le_of_ble_eq_true rfl), (Nat.le_of_ble_eq_true rfl)⟩) rfl hl.1 rfl (Nat.le_of_ble_eq_true rfl) dL_clear_3 ⟨(Nat.le_of_ble_eq_true rfl), (Nat.le_of_ble_eq_true rfl)⟩ (fun k9 hk9 H locs q9 ce hW hq9 hcv hcl => ?_) (fun r3 m2 hv9 H locs hW => ?_)
  · have hf := hfx _ hk9
    by_cases hk0 : k9 = 3
    · have hf := a_if_t hk0 hf
      subst hk0
      refine vx_catch (name := g_xn 3) (E := g_xn 3) hown (pre := []) (x := ⟨0, 8, 11, 17⟩) (suf := []) (hsplit := htab) (fun z hz => by cases hz) (by decide) (by decide) (hts _ (by decide +kernel : Cond.classLink RL 17 (g_xn 3) ∈ wsW_clear)) (va_Nw.use rfl (hX0.2.2.1 _ (by decide +kernel : Cond.castable (g_xn 3) (g_xn 3) ∈ g_xw))) hq9 hcv hcl ?_
      refine lv_astore_n (lv' := [(2, .ref q9), (0, .ref (G.2.2.1 0)), (1, .ref (G.2.2.1 229))]) hx hb dL_clear_11 rfl hl (by decide) rfl (fun ls hl => ?_)
      refine lv_iconst (v := 1) hx hb dL_clear_12 (by decide) ?_
      cases hf
      subst hQ
      exact g_yiret hC hW hr hlocks rfl rfl (Nat.le_of_ble_eq_true rfl) (Nat.le_of_ble_eq_true rfl) dL_clear_13
    have hf := a_if_f hk0 hf
    cases hf
  have hf := hfn _ hv9
  have hf := ob_inv2 hf
  refine lv_i2l (v := (r3).toInt64) hx hb dL_clear_6 rfl ?_
  obtain ⟨m4, h9, hf⟩ := ob_inv hf
  refine g_llst hC hW zc_k229 zc_b229 zc_n229 h9 dL_clear_7 (fun H locs hW => ?_)
  refine lv_goto (tgt := 14) hx hb dL_clear_8 (by decide) ?_
  refine lv_iconst (v := 0) hx hb dL_clear_14 (by decide) ?_
  cases hf
  subst hQ
  exact g_yiret hC hW hr hlocks rfl rfl (Nat.le_of_ble_eq_true rfl) (Nat.le_of_ble_eq_true rfl) dL_clear_15
set_option maxRecDepth 20000 in
theorem gW_offer : GoodIn wsW_offer (wsV RL 41 RX9 yX9_offer wsX9_offer) := goodIn_app (goodIn_of _ (by decide +kernel)) (goodIn_sub (fun _ h => List.mem_cons_of_mem _ (List.mem_append_right _ h)) (by decide +kernel))
abbrev rmL_offer : Room := { frames := 8, cells := 6, slots := 36, locals := 148 }
set_option maxHeartbeats 4000000 in
set_option maxRecDepth 100000 in
theorem c_L_offer (l : Launch) (G : gG) (hst : l.stackTraces = false) {p1 : Int32} {p2 : Int32} {p3 : Int32} {p4 : Int32} {p5 : Int32} {p6 : Int32} {me : gM} {r0 : Int32} {m0 : gM} (hf : f_L_offer p1 p2 p3 p4 p5 p6 me = some (r0, m0)) : vx_Met l yL_offer wsW_offer rmL_offer (va_Pc [.ref (G.2.2.1 0), .int p1, .int p2, .int p3, .int p4, .int p5, .int p6, .ref (G.2.2.1 229)] (g_WY ZC G me)) (g_Qi ZC G r0 m0) (g_XN G) 6 36 (g_A ZC G) := by
  refine vx_ofWH (cc := cL_offer) (maxL := 9) (ret := (some .int)) (hh := [(0, 18, 21, 13), (0, 18, 25, 15), (0, 18, 29, 17)]) (by decide) rfl ?_
  intro p e s m args below meth c s₁ B hml hv
  obtain ⟨rfl, ⟨hW0, hX0⟩, hN0⟩ := hv
  have hC : CallFix p m c cL_offer 9 s ([.ref (G.2.2.1 0), .int p1, .int p2, .int p3, .int p4, .int p5, .int p6, .ref (G.2.2.1 229)] : List Value).toArray wsW_offer RL := ⟨B.exec, B.bytes, hml, findClass_of_methodNamed B.named, atoms_spec (ws := wsW_offer) B.pre⟩
  have hx := hC.1
  have hb := hC.2.1
  have hown := hC.2.2.2.1
  have hts := hC.2.2.2.2
  have hr := B.returns
  have hlocks := B.notSynchronized
  have hW := g_H_enter hW0
  have htab : c.exceptionTable.toList = tableOf [(0, 18, 21, 13), (0, 18, 25, 15), (0, 18, 29, 17)] := vx_table (x := yL_offer) B (hts _ List.mem_cons_self)
  have hl := lv_entry ([.ref (G.2.2.1 0), .int p1, .int p2, .int p3, .int p4, .int p5, .int p6, .ref (G.2.2.1 229)]) (n := 9) (Nat.le_of_ble_eq_true rfl)
  rw [lg_entry_eq]
  generalize (lg_sl ([.ref (G.2.2.1 0), .int p1, .int p2, .int p3, .int p4, .int p5, .int p6, .ref (G.2.2.1 229)]) ++ List.replicate (9 - (lg_sl ([.ref (G.2.2.1 0), .int p1, .int p2, .int p3, .int p4, .int p5, .int p6, .ref (G.2.2.1 229)])).length) Slot.unset).toArray = ls at hl ⊢
  have hl : lv_has ls 9 [(0, .ref (G.2.2.1 0)), (1, .int p1), (2, .int p2), (3, .int p3), (4, .int p4), (5, .int p5), (6, .int p6), (7, .ref (G.2.2.1 229))] := hl
  obtain ⟨Q, hQ⟩ : ∃ Q, Q = vx_MQ below (g_Qi ZC G r0 m0) (g_XN G) ([.ref (G.2.2.1 0), .int p1, .int p2, .int p3, .int p4, .int p5, .int p6, .ref (G.2.2.1 229)] : List Value).toArray s 6 36 (g_A ZC G) := ⟨_, rfl⟩
  refine g_goQ hQ ?_
  unfold f_L_offer at hf
  refine g_start hW (fun H locs hW => ?_)
  refine lv_aload hx hb dL_offer_0 (lv_at hl 7 rfl) ?_
  refine lv_iconst (v := 0) hx hb dL_offer_2 (by decide) ?_
  refine lv_aload_n hx hb dL_offer_3 rfl (lv_at hl 0 rfl) ?_
  refine lv_iload_n hx hb dL_offer_4 rfl (lv_at hl 1 rfl) ?_
  refine lv_iload_n hx hb dL_offer_5 rfl (lv_at hl 2 rfl) ?_
  refine lv_iload_n hx hb dL_offer_6 rfl (lv_at hl 3 rfl) ?_
  refine lv_iload hx hb dL_offer_7 (lv_at hl 4 rfl) ?_
  refine lv_iload hx hb dL_offer_9 (lv_at hl 5 rfl) ?_
  refine lv_iload hx hb dL_offer_11 (lv_at hl 6 rfl) ?_
  obtain ⟨v9, hg, hfx, hfn⟩ := os_inv hf
  refine g_cXVw hC hW hX0 (o := 0) (ci := 9) (As := [.int p1, .int p2, .int p3, .int p4, .int p5, .int p6]) (rest := [.int 0, .ref (G.2.2.1 229)]) zc_k0 zc_b0 rfl (c_X9_offer l G hst hg) (cwV 6 hts gW_offer rfl rfl rfl (by decide +kernel) ⟨(Nat.le_of_ble_eq_true rfl), (Nat.le_of_ble_eq_true rfl)⟩) rfl hl.1 rfl (Nat.le_of_ble_eq_true rfl) dL_offer_13 ⟨(Nat.le_of_ble_eq_true rfl), (Nat.le_of_ble_eq_true rfl)⟩ (fun k9 hk9 H locs q9 ce hW hq9 hcv hcl => ?_) (fun r3 m2 hv9 H locs hW => ?_)
  · have hf := hfx _ hk9
    by_cases hk0 : k9 = 1
    · have hf := a_if_t hk0 hf
      subst hk0
      refine vx_catch (name := g_xn 1) (E := g_xn 1) hown (pre := []) (x := ⟨0, 18, 21, 13⟩) (suf := [⟨0, 18, 25, 15⟩, ⟨0, 18, 29, 17⟩]) (hsplit := htab) (fun z hz => by cases hz) (by decide) (by decide) (hts _ (by decide +kernel : Cond.classLink RL 13 (g_xn 1) ∈ wsW_offer)) (va_Nw.use rfl (hX0.2.2.1 _ (by decide +kernel : Cond.castable (g_xn 1) (g_xn 1) ∈ g_xw))) hq9 hcv hcl ?_
      refine lv_astore (lv' := [(8, .ref q9), (0, .ref (G.2.2.1 0)), (1, .int p1), (2, .int p2), (3, .int p3), (4, .int p4), (5, .int p5), (6, .int p6), (7, .ref (G.2.2.1 229))]) hx hb dL_offer_21 hl (by decide) rfl (fun ls hl => ?_)
      refine lv_iconst (v := 1) hx hb dL_offer_23 (by decide) ?_
      cases hf
      subst hQ
      exact g_yiret hC hW hr hlocks rfl rfl (Nat.le_of_ble_eq_true rfl) (Nat.le_of_ble_eq_true rfl) dL_offer_24
    have hf := a_if_f hk0 hf
    by_cases hk1 : k9 = 2
    · have hf := a_if_t hk1 hf
      subst hk1
      refine vx_catch (name := g_xn 2) (E := g_xn 2) hown (pre := [⟨0, 18, 21, 13⟩]) (x := ⟨0, 18, 25, 15⟩) (suf := [⟨0, 18, 29, 17⟩]) (hsplit := htab) (by intro z hz; rcases List.mem_cons.mp hz with rfl | hz; exact Or.inr ⟨by decide, g_xn 1, hts _ (by decide +kernel : Cond.classLink RL 13 (g_xn 1) ∈ wsW_offer), hN0.1⟩; cases hz) (by decide) (by decide) (hts _ (by decide +kernel : Cond.classLink RL 15 (g_xn 2) ∈ wsW_offer)) (va_Nw.use rfl (hX0.2.2.1 _ (by decide +kernel : Cond.castable (g_xn 2) (g_xn 2) ∈ g_xw))) hq9 hcv hcl ?_
      refine lv_astore (lv' := [(8, .ref q9), (0, .ref (G.2.2.1 0)), (1, .int p1), (2, .int p2), (3, .int p3), (4, .int p4), (5, .int p5), (6, .int p6), (7, .ref (G.2.2.1 229))]) hx hb dL_offer_25 hl (by decide) rfl (fun ls hl => ?_)
      refine lv_iconst (v := 2) hx hb dL_offer_27 (by decide) ?_
      cases hf
      subst hQ
      exact g_yiret hC hW hr hlocks rfl rfl (Nat.le_of_ble_eq_true rfl) (Nat.le_of_ble_eq_true rfl) dL_offer_28
    have hf := a_if_f hk1 hf
    by_cases hk2 : k9 = 3
    · have hf := a_if_t hk2 hf
      subst hk2
      refine vx_catch (name := g_xn 3) (E := g_xn 3) hown (pre := [⟨0, 18, 21, 13⟩, ⟨0, 18, 25, 15⟩]) (x := ⟨0, 18, 29, 17⟩) (suf := []) (hsplit := htab) (by intro z hz; rcases List.mem_cons.mp hz with rfl | hz; exact Or.inr ⟨by decide, g_xn 1, hts _ (by decide +kernel : Cond.classLink RL 13 (g_xn 1) ∈ wsW_offer), hN0.2.1⟩; rcases List.mem_cons.mp hz with rfl | hz; exact Or.inr ⟨by decide, g_xn 2, hts _ (by decide +kernel : Cond.classLink RL 15 (g_xn 2) ∈ wsW_offer), hN0.2.2⟩; cases hz) (by decide) (by decide) (hts _ (by decide +kernel : Cond.classLink RL 17 (g_xn 3) ∈ wsW_offer)) (va_Nw.use rfl (hX0.2.2.1 _ (by decide +kernel : Cond.castable (g_xn 3) (g_xn 3) ∈ g_xw))) hq9 hcv hcl ?_
      refine lv_astore (lv' := [(8, .ref q9), (0, .ref (G.2.2.1 0)), (1, .int p1), (2, .int p2), (3, .int p3), (4, .int p4), (5, .int p5), (6, .int p6), (7, .ref (G.2.2.1 229))]) hx hb dL_offer_29 hl (by decide) rfl (fun ls hl => ?_)
      refine lv_iconst (v := 3) hx hb dL_offer_31 (by decide) ?_
      cases hf
      subst hQ
      exact g_yiret hC hW hr hlocks rfl rfl (Nat.le_of_ble_eq_true rfl) (Nat.le_of_ble_eq_true rfl) dL_offer_32
    have hf := a_if_f hk2 hf
    cases hf
  have hf := hfn _ hv9
  have hf := ob_inv2 hf
  refine lv_i2l (v := (r3).toInt64) hx hb dL_offer_16 rfl ?_
  obtain ⟨m4, h9, hf⟩ := ob_inv hf
  refine g_llst hC hW zc_k229 zc_b229 zc_n229 h9 dL_offer_17 (fun H locs hW => ?_)
  refine lv_goto (tgt := 33) hx hb dL_offer_18 (by decide) ?_
  refine lv_iconst (v := 0) hx hb dL_offer_33 (by decide) ?_
  cases hf
  subst hQ
  exact g_yiret hC hW hr hlocks rfl rfl (Nat.le_of_ble_eq_true rfl) (Nat.le_of_ble_eq_true rfl) dL_offer_34
set_option maxRecDepth 20000 in
theorem gW_takeBack : GoodIn wsW_takeBack (wsV RL 44 RX9 yX9_takeBack wsX9_takeBack) := goodIn_app (goodIn_of _ (by decide +kernel)) (goodIn_sub (fun _ h => List.mem_cons_of_mem _ (List.mem_append_right _ h)) (by decide +kernel))
abbrev rmL_takeBack : Room := { frames := 8, cells := 2, slots := 12, locals := 133 }
set_option maxHeartbeats 4000000 in
set_option maxRecDepth 100000 in
theorem c_L_takeBack (l : Launch) (G : gG) (hst : l.stackTraces = false) {p1 : Int32} {me : gM} {r0 : Int32} {m0 : gM} (hf : f_L_takeBack p1 me = some (r0, m0)) : vx_Met l yL_takeBack wsW_takeBack rmL_takeBack (va_Pc [.ref (G.2.2.1 0), .int p1, .ref (G.2.2.1 229)] (g_WY ZC G me)) (g_Qi ZC G r0 m0) (g_XN G) 2 12 (g_A ZC G) := by
  refine vx_ofWH (cc := cL_takeBack) (maxL := 4) (ret := (some .int)) (hh := [(0, 9, 12, 13), (0, 9, 15, 17)]) (by decide) rfl ?_
  intro p e s m args below meth c s₁ B hml hv
  obtain ⟨rfl, ⟨hW0, hX0⟩, hN0⟩ := hv
  have hC : CallFix p m c cL_takeBack 4 s ([.ref (G.2.2.1 0), .int p1, .ref (G.2.2.1 229)] : List Value).toArray wsW_takeBack RL := ⟨B.exec, B.bytes, hml, findClass_of_methodNamed B.named, atoms_spec (ws := wsW_takeBack) B.pre⟩
  have hx := hC.1
  have hb := hC.2.1
  have hown := hC.2.2.2.1
  have hts := hC.2.2.2.2
  have hr := B.returns
  have hlocks := B.notSynchronized
  have hW := g_H_enter hW0
  have htab : c.exceptionTable.toList = tableOf [(0, 9, 12, 13), (0, 9, 15, 17)] := vx_table (x := yL_takeBack) B (hts _ List.mem_cons_self)
  have hl := lv_entry ([.ref (G.2.2.1 0), .int p1, .ref (G.2.2.1 229)]) (n := 4) (Nat.le_of_ble_eq_true rfl)
  rw [lg_entry_eq]
  generalize (lg_sl ([.ref (G.2.2.1 0), .int p1, .ref (G.2.2.1 229)]) ++ List.replicate (4 - (lg_sl ([.ref (G.2.2.1 0), .int p1, .ref (G.2.2.1 229)])).length) Slot.unset).toArray = ls at hl ⊢
  have hl : lv_has ls 4 [(0, .ref (G.2.2.1 0)), (1, .int p1), (2, .ref (G.2.2.1 229))] := hl
  obtain ⟨Q, hQ⟩ : ∃ Q, Q = vx_MQ below (g_Qi ZC G r0 m0) (g_XN G) ([.ref (G.2.2.1 0), .int p1, .ref (G.2.2.1 229)] : List Value).toArray s 2 12 (g_A ZC G) := ⟨_, rfl⟩
  refine g_goQ hQ ?_
  unfold f_L_takeBack at hf
  refine g_start hW (fun H locs hW => ?_)
  refine lv_aload_n hx hb dL_takeBack_0 rfl (lv_at hl 2 rfl) ?_
  refine lv_iconst (v := 0) hx hb dL_takeBack_1 (by decide) ?_
  refine lv_aload_n hx hb dL_takeBack_2 rfl (lv_at hl 0 rfl) ?_
  refine lv_iload_n hx hb dL_takeBack_3 rfl (lv_at hl 1 rfl) ?_
  obtain ⟨v9, hg, hfx, hfn⟩ := os_inv hf
  refine g_cXVw hC hW hX0 (o := 0) (ci := 9) (As := [.int p1]) (rest := [.int 0, .ref (G.2.2.1 229)]) zc_k0 zc_b0 rfl (c_X9_takeBack l G hst hg) (cwV 1 hts gW_takeBack rfl rfl rfl (by decide +kernel) ⟨(Nat.le_of_ble_eq_true rfl), (Nat.le_of_ble_eq_true rfl)⟩) rfl hl.1 rfl (Nat.le_of_ble_eq_true rfl) dL_takeBack_4 ⟨(Nat.le_of_ble_eq_true rfl), (Nat.le_of_ble_eq_true rfl)⟩ (fun k9 hk9 H locs q9 ce hW hq9 hcv hcl => ?_) (fun r3 m2 hv9 H locs hW => ?_)
  · have hf := hfx _ hk9
    by_cases hk0 : k9 = 1
    · have hf := a_if_t hk0 hf
      subst hk0
      refine vx_catch (name := g_xn 1) (E := g_xn 1) hown (pre := []) (x := ⟨0, 9, 12, 13⟩) (suf := [⟨0, 9, 15, 17⟩]) (hsplit := htab) (fun z hz => by cases hz) (by decide) (by decide) (hts _ (by decide +kernel : Cond.classLink RL 13 (g_xn 1) ∈ wsW_takeBack)) (va_Nw.use rfl (hX0.2.2.1 _ (by decide +kernel : Cond.castable (g_xn 1) (g_xn 1) ∈ g_xw))) hq9 hcv hcl ?_
      refine lv_astore_n (lv' := [(3, .ref q9), (0, .ref (G.2.2.1 0)), (1, .int p1), (2, .ref (G.2.2.1 229))]) hx hb dL_takeBack_12 rfl hl (by decide) rfl (fun ls hl => ?_)
      refine lv_iconst (v := 1) hx hb dL_takeBack_13 (by decide) ?_
      cases hf
      subst hQ
      exact g_yiret hC hW hr hlocks rfl rfl (Nat.le_of_ble_eq_true rfl) (Nat.le_of_ble_eq_true rfl) dL_takeBack_14
    have hf := a_if_f hk0 hf
    by_cases hk1 : k9 = 3
    · have hf := a_if_t hk1 hf
      subst hk1
      refine vx_catch (name := g_xn 3) (E := g_xn 3) hown (pre := [⟨0, 9, 12, 13⟩]) (x := ⟨0, 9, 15, 17⟩) (suf := []) (hsplit := htab) (by intro z hz; rcases List.mem_cons.mp hz with rfl | hz; exact Or.inr ⟨by decide, g_xn 1, hts _ (by decide +kernel : Cond.classLink RL 13 (g_xn 1) ∈ wsW_takeBack), hN0.2.1⟩; cases hz) (by decide) (by decide) (hts _ (by decide +kernel : Cond.classLink RL 17 (g_xn 3) ∈ wsW_takeBack)) (va_Nw.use rfl (hX0.2.2.1 _ (by decide +kernel : Cond.castable (g_xn 3) (g_xn 3) ∈ g_xw))) hq9 hcv hcl ?_
      refine lv_astore_n (lv' := [(3, .ref q9), (0, .ref (G.2.2.1 0)), (1, .int p1), (2, .ref (G.2.2.1 229))]) hx hb dL_takeBack_15 rfl hl (by decide) rfl (fun ls hl => ?_)
      refine lv_iconst (v := 2) hx hb dL_takeBack_16 (by decide) ?_
      cases hf
      subst hQ
      exact g_yiret hC hW hr hlocks rfl rfl (Nat.le_of_ble_eq_true rfl) (Nat.le_of_ble_eq_true rfl) dL_takeBack_17
    have hf := a_if_f hk1 hf
    cases hf
  have hf := hfn _ hv9
  have hf := ob_inv2 hf
  refine lv_i2l (v := (r3).toInt64) hx hb dL_takeBack_7 rfl ?_
  obtain ⟨m4, h9, hf⟩ := ob_inv hf
  refine g_llst hC hW zc_k229 zc_b229 zc_n229 h9 dL_takeBack_8 (fun H locs hW => ?_)
  refine lv_goto (tgt := 18) hx hb dL_takeBack_9 (by decide) ?_
  refine lv_iconst (v := 0) hx hb dL_takeBack_18 (by decide) ?_
  cases hf
  subst hQ
  exact g_yiret hC hW hr hlocks rfl rfl (Nat.le_of_ble_eq_true rfl) (Nat.le_of_ble_eq_true rfl) dL_takeBack_19
set_option maxRecDepth 20000 in
theorem gW_aid : GoodIn wsW_aid (wsV RL 48 RX9 yX9_aid wsX9_aid) := goodIn_app (goodIn_of _ (by decide +kernel)) (goodIn_sub (fun _ h => List.mem_cons_of_mem _ (List.mem_append_right _ h)) (by decide +kernel))
abbrev rmL_aid : Room := { frames := 8, cells := 5, slots := 30, locals := 138 }
set_option maxHeartbeats 4000000 in
set_option maxRecDepth 100000 in
theorem c_L_aid (l : Launch) (G : gG) (hst : l.stackTraces = false) {p1 : Int32} {p2 : Int32} {p3 : Int32} {p4 : Int32} {p5 : Int32} {me : gM} {r0 : Int32} {m0 : gM} (hf : f_L_aid p1 p2 p3 p4 p5 me = some (r0, m0)) : vx_Met l yL_aid wsW_aid rmL_aid (va_Pc [.ref (G.2.2.1 0), .int p1, .int p2, .int p3, .int p4, .int p5, .ref (G.2.2.1 229)] (g_WY ZC G me)) (g_Qi ZC G r0 m0) (g_XN G) 5 30 (g_A ZC G) := by
  refine vx_ofWH (cc := cL_aid) (maxL := 8) (ret := (some .int)) (hh := [(0, 16, 19, 13), (0, 16, 23, 15), (0, 16, 27, 17)]) (by decide) rfl ?_
  intro p e s m args below meth c s₁ B hml hv
  obtain ⟨rfl, ⟨hW0, hX0⟩, hN0⟩ := hv
  have hC : CallFix p m c cL_aid 8 s ([.ref (G.2.2.1 0), .int p1, .int p2, .int p3, .int p4, .int p5, .ref (G.2.2.1 229)] : List Value).toArray wsW_aid RL := ⟨B.exec, B.bytes, hml, findClass_of_methodNamed B.named, atoms_spec (ws := wsW_aid) B.pre⟩
  have hx := hC.1
  have hb := hC.2.1
  have hown := hC.2.2.2.1
  have hts := hC.2.2.2.2
  have hr := B.returns
  have hlocks := B.notSynchronized
  have hW := g_H_enter hW0
  have htab : c.exceptionTable.toList = tableOf [(0, 16, 19, 13), (0, 16, 23, 15), (0, 16, 27, 17)] := vx_table (x := yL_aid) B (hts _ List.mem_cons_self)
  have hl := lv_entry ([.ref (G.2.2.1 0), .int p1, .int p2, .int p3, .int p4, .int p5, .ref (G.2.2.1 229)]) (n := 8) (Nat.le_of_ble_eq_true rfl)
  rw [lg_entry_eq]
  generalize (lg_sl ([.ref (G.2.2.1 0), .int p1, .int p2, .int p3, .int p4, .int p5, .ref (G.2.2.1 229)]) ++ List.replicate (8 - (lg_sl ([.ref (G.2.2.1 0), .int p1, .int p2, .int p3, .int p4, .int p5, .ref (G.2.2.1 229)])).length) Slot.unset).toArray = ls at hl ⊢
  have hl : lv_has ls 8 [(0, .ref (G.2.2.1 0)), (1, .int p1), (2, .int p2), (3, .int p3), (4, .int p4), (5, .int p5), (6, .ref (G.2.2.1 229))] := hl
  obtain ⟨Q, hQ⟩ : ∃ Q, Q = vx_MQ below (g_Qi ZC G r0 m0) (g_XN G) ([.ref (G.2.2.1 0), .int p1, .int p2, .int p3, .int p4, .int p5, .ref (G.2.2.1 229)] : List Value).toArray s 5 30 (g_A ZC G) := ⟨_, rfl⟩
  refine g_goQ hQ ?_
  unfold f_L_aid at hf
  refine g_start hW (fun H locs hW => ?_)
  refine lv_aload hx hb dL_aid_0 (lv_at hl 6 rfl) ?_
  refine lv_iconst (v := 0) hx hb dL_aid_2 (by decide) ?_
  refine lv_aload_n hx hb dL_aid_3 rfl (lv_at hl 0 rfl) ?_
  refine lv_iload_n hx hb dL_aid_4 rfl (lv_at hl 1 rfl) ?_
  refine lv_iload_n hx hb dL_aid_5 rfl (lv_at hl 2 rfl) ?_
  refine lv_iload_n hx hb dL_aid_6 rfl (lv_at hl 3 rfl) ?_
  refine lv_iload hx hb dL_aid_7 (lv_at hl 4 rfl) ?_
  refine lv_iload hx hb dL_aid_9 (lv_at hl 5 rfl) ?_
  obtain ⟨v9, hg, hfx, hfn⟩ := os_inv hf
  refine g_cXVw hC hW hX0 (o := 0) (ci := 9) (As := [.int p1, .int p2, .int p3, .int p4, .int p5]) (rest := [.int 0, .ref (G.2.2.1 229)]) zc_k0 zc_b0 rfl (c_X9_aid l G hst hg) (cwV 5 hts gW_aid rfl rfl rfl (by decide +kernel) ⟨(Nat.le_of_ble_eq_true rfl), (Nat.le_of_ble_eq_true rfl)⟩) rfl hl.1 rfl (Nat.le_of_ble_eq_true rfl) dL_aid_11 ⟨(Nat.le_of_ble_eq_true rfl), (Nat.le_of_ble_eq_true rfl)⟩ (fun k9 hk9 H locs q9 ce hW hq9 hcv hcl => ?_) (fun r3 m2 hv9 H locs hW => ?_)
  · have hf := hfx _ hk9
    by_cases hk0 : k9 = 1
    · have hf := a_if_t hk0 hf
      subst hk0
      refine vx_catch (name := g_xn 1) (E := g_xn 1) hown (pre := []) (x := ⟨0, 16, 19, 13⟩) (suf := [⟨0, 16, 23, 15⟩, ⟨0, 16, 27, 17⟩]) (hsplit := htab) (fun z hz => by cases hz) (by decide) (by decide) (hts _ (by decide +kernel : Cond.classLink RL 13 (g_xn 1) ∈ wsW_aid)) (va_Nw.use rfl (hX0.2.2.1 _ (by decide +kernel : Cond.castable (g_xn 1) (g_xn 1) ∈ g_xw))) hq9 hcv hcl ?_
      refine lv_astore (lv' := [(7, .ref q9), (0, .ref (G.2.2.1 0)), (1, .int p1), (2, .int p2), (3, .int p3), (4, .int p4), (5, .int p5), (6, .ref (G.2.2.1 229))]) hx hb dL_aid_19 hl (by decide) rfl (fun ls hl => ?_)
      refine lv_iconst (v := 1) hx hb dL_aid_21 (by decide) ?_
      cases hf
      subst hQ
      exact g_yiret hC hW hr hlocks rfl rfl (Nat.le_of_ble_eq_true rfl) (Nat.le_of_ble_eq_true rfl) dL_aid_22
    have hf := a_if_f hk0 hf
    by_cases hk1 : k9 = 2
    · have hf := a_if_t hk1 hf
      subst hk1
      refine vx_catch (name := g_xn 2) (E := g_xn 2) hown (pre := [⟨0, 16, 19, 13⟩]) (x := ⟨0, 16, 23, 15⟩) (suf := [⟨0, 16, 27, 17⟩]) (hsplit := htab) (by intro z hz; rcases List.mem_cons.mp hz with rfl | hz; exact Or.inr ⟨by decide, g_xn 1, hts _ (by decide +kernel : Cond.classLink RL 13 (g_xn 1) ∈ wsW_aid), hN0.1⟩; cases hz) (by decide) (by decide) (hts _ (by decide +kernel : Cond.classLink RL 15 (g_xn 2) ∈ wsW_aid)) (va_Nw.use rfl (hX0.2.2.1 _ (by decide +kernel : Cond.castable (g_xn 2) (g_xn 2) ∈ g_xw))) hq9 hcv hcl ?_
      refine lv_astore (lv' := [(7, .ref q9), (0, .ref (G.2.2.1 0)), (1, .int p1), (2, .int p2), (3, .int p3), (4, .int p4), (5, .int p5), (6, .ref (G.2.2.1 229))]) hx hb dL_aid_23 hl (by decide) rfl (fun ls hl => ?_)
      refine lv_iconst (v := 2) hx hb dL_aid_25 (by decide) ?_
      cases hf
      subst hQ
      exact g_yiret hC hW hr hlocks rfl rfl (Nat.le_of_ble_eq_true rfl) (Nat.le_of_ble_eq_true rfl) dL_aid_26
    have hf := a_if_f hk1 hf
    by_cases hk2 : k9 = 3
    · have hf := a_if_t hk2 hf
      subst hk2
      refine vx_catch (name := g_xn 3) (E := g_xn 3) hown (pre := [⟨0, 16, 19, 13⟩, ⟨0, 16, 23, 15⟩]) (x := ⟨0, 16, 27, 17⟩) (suf := []) (hsplit := htab) (by intro z hz; rcases List.mem_cons.mp hz with rfl | hz; exact Or.inr ⟨by decide, g_xn 1, hts _ (by decide +kernel : Cond.classLink RL 13 (g_xn 1) ∈ wsW_aid), hN0.2.1⟩; rcases List.mem_cons.mp hz with rfl | hz; exact Or.inr ⟨by decide, g_xn 2, hts _ (by decide +kernel : Cond.classLink RL 15 (g_xn 2) ∈ wsW_aid), hN0.2.2⟩; cases hz) (by decide) (by decide) (hts _ (by decide +kernel : Cond.classLink RL 17 (g_xn 3) ∈ wsW_aid)) (va_Nw.use rfl (hX0.2.2.1 _ (by decide +kernel : Cond.castable (g_xn 3) (g_xn 3) ∈ g_xw))) hq9 hcv hcl ?_
      refine lv_astore (lv' := [(7, .ref q9), (0, .ref (G.2.2.1 0)), (1, .int p1), (2, .int p2), (3, .int p3), (4, .int p4), (5, .int p5), (6, .ref (G.2.2.1 229))]) hx hb dL_aid_27 hl (by decide) rfl (fun ls hl => ?_)
      refine lv_iconst (v := 3) hx hb dL_aid_29 (by decide) ?_
      cases hf
      subst hQ
      exact g_yiret hC hW hr hlocks rfl rfl (Nat.le_of_ble_eq_true rfl) (Nat.le_of_ble_eq_true rfl) dL_aid_30
    have hf := a_if_f hk2 hf
    cases hf
  have hf := hfn _ hv9
  have hf := ob_inv2 hf
  refine lv_i2l (v := (r3).toInt64) hx hb dL_aid_14 rfl ?_
  obtain ⟨m4, h9, hf⟩ := ob_inv hf
  refine g_llst hC hW zc_k229 zc_b229 zc_n229 h9 dL_aid_15 (fun H locs hW => ?_)
  refine lv_goto (tgt := 31) hx hb dL_aid_16 (by decide) ?_
  refine lv_iconst (v := 0) hx hb dL_aid_31 (by decide) ?_
  cases hf
  subst hQ
  exact g_yiret hC hW hr hlocks rfl rfl (Nat.le_of_ble_eq_true rfl) (Nat.le_of_ble_eq_true rfl) dL_aid_32
set_option maxRecDepth 20000 in
theorem gW_close : GoodIn wsW_close (wsV RL 52 RX9 yX9_close wsX9_close) := goodIn_app (goodIn_of _ (by decide +kernel)) (goodIn_sub (fun _ h => List.mem_cons_of_mem _ (List.mem_append_right _ h)) (by decide +kernel))
abbrev rmL_close : Room := { frames := 8, cells := 1, slots := 6, locals := 130 }
set_option maxHeartbeats 4000000 in
set_option maxRecDepth 100000 in
theorem c_L_close (l : Launch) (G : gG) (hst : l.stackTraces = false)  {me : gM} {r0 : Int32} {m0 : gM} (hf : f_L_close me = some (r0, m0)) : vx_Met l yL_close wsW_close rmL_close (va_Pc [.ref (G.2.2.1 0), .ref (G.2.2.1 229)] (g_WY ZC G me)) (g_Qi ZC G r0 m0) (g_XN G) 1 6 (g_A ZC G) := by
  refine vx_ofWH (cc := cL_close) (maxL := 3) (ret := (some .int)) (hh := [(0, 8, 11, 17)]) (by decide) rfl ?_
  intro p e s m args below meth c s₁ B hml hv
  obtain ⟨rfl, ⟨hW0, hX0⟩, hN0⟩ := hv
  have hC : CallFix p m c cL_close 3 s ([.ref (G.2.2.1 0), .ref (G.2.2.1 229)] : List Value).toArray wsW_close RL := ⟨B.exec, B.bytes, hml, findClass_of_methodNamed B.named, atoms_spec (ws := wsW_close) B.pre⟩
  have hx := hC.1
  have hb := hC.2.1
  have hown := hC.2.2.2.1
  have hts := hC.2.2.2.2
  have hr := B.returns
  have hlocks := B.notSynchronized
  have hW := g_H_enter hW0
  have htab : c.exceptionTable.toList = tableOf [(0, 8, 11, 17)] := vx_table (x := yL_close) B (hts _ List.mem_cons_self)
  have hl := lv_entry ([.ref (G.2.2.1 0), .ref (G.2.2.1 229)]) (n := 3) (Nat.le_of_ble_eq_true rfl)
  rw [lg_entry_eq]
  generalize (lg_sl ([.ref (G.2.2.1 0), .ref (G.2.2.1 229)]) ++ List.replicate (3 - (lg_sl ([.ref (G.2.2.1 0), .ref (G.2.2.1 229)])).length) Slot.unset).toArray = ls at hl ⊢
  have hl : lv_has ls 3 [(0, .ref (G.2.2.1 0)), (1, .ref (G.2.2.1 229))] := hl
  obtain ⟨Q, hQ⟩ : ∃ Q, Q = vx_MQ below (g_Qi ZC G r0 m0) (g_XN G) ([.ref (G.2.2.1 0), .ref (G.2.2.1 229)] : List Value).toArray s 1 6 (g_A ZC G) := ⟨_, rfl⟩
  refine g_goQ hQ ?_
  unfold f_L_close at hf
  refine g_start hW (fun H locs hW => ?_)
  refine lv_aload_n hx hb dL_close_0 rfl (lv_at hl 1 rfl) ?_
  refine lv_iconst (v := 0) hx hb dL_close_1 (by decide) ?_
  refine lv_aload_n hx hb dL_close_2 rfl (lv_at hl 0 rfl) ?_
  obtain ⟨v9, hg, hfx, hfn⟩ := os_inv hf
  refine g_cXVw hC hW hX0 (o := 0) (ci := 9) (As := []) (rest := [.int 0, .ref (G.2.2.1 229)]) zc_k0 zc_b0 rfl (c_X9_close l G hst hg) (cwV 0 hts gW_close rfl rfl rfl (by decide +kernel) ⟨(Nat.le_of_ble_eq_true rfl), (Nat.le_of_ble_eq_true rfl)⟩) rfl hl.1 rfl (Nat.le_of_ble_eq_true rfl) dL_close_3 ⟨(Nat.le_of_ble_eq_true rfl), (Nat.le_of_ble_eq_true rfl)⟩ (fun k9 hk9 H locs q9 ce hW hq9 hcv hcl => ?_) (fun r3 m2 hv9 H locs hW => ?_)
  · have hf := hfx _ hk9
    by_cases hk0 : k9 = 3
    · have hf := a_if_t hk0 hf
      subst hk0
      refine vx_catch (name := g_xn 3) (E := g_xn 3) hown (pre := []) (x := ⟨0, 8, 11, 17⟩) (suf := []) (hsplit := htab) (fun z hz => by cases hz) (by decide) (by decide) (hts _ (by decide +kernel : Cond.classLink RL 17 (g_xn 3) ∈ wsW_close)) (va_Nw.use rfl (hX0.2.2.1 _ (by decide +kernel : Cond.castable (g_xn 3) (g_xn 3) ∈ g_xw))) hq9 hcv hcl ?_
      refine lv_astore_n (lv' := [(2, .ref q9), (0, .ref (G.2.2.1 0)), (1, .ref (G.2.2.1 229))]) hx hb dL_close_11 rfl hl (by decide) rfl (fun ls hl => ?_)
      refine lv_iconst (v := 1) hx hb dL_close_12 (by decide) ?_
      cases hf
      subst hQ
      exact g_yiret hC hW hr hlocks rfl rfl (Nat.le_of_ble_eq_true rfl) (Nat.le_of_ble_eq_true rfl) dL_close_13
    have hf := a_if_f hk0 hf
    cases hf
  have hf := hfn _ hv9
  have hf := ob_inv2 hf
  refine lv_i2l (v := (r3).toInt64) hx hb dL_close_6 rfl ?_
  obtain ⟨m4, h9, hf⟩ := ob_inv hf
  refine g_llst hC hW zc_k229 zc_b229 zc_n229 h9 dL_close_7 (fun H locs hW => ?_)
  refine lv_goto (tgt := 14) hx hb dL_close_8 (by decide) ?_
  refine lv_iconst (v := 0) hx hb dL_close_14 (by decide) ?_
  cases hf
  subst hQ
  exact g_yiret hC hW hr hlocks rfl rfl (Nat.le_of_ble_eq_true rfl) (Nat.le_of_ble_eq_true rfl) dL_close_15
set_option maxRecDepth 20000 in
theorem gW_read : GoodIn wsW_read (wsV RL 55 RX9 yX9_read wsX9_read) := goodIn_app (goodIn_of _ (by decide +kernel)) (goodIn_sub (fun _ h => List.mem_cons_of_mem _ (List.mem_append_right _ h)) (by decide +kernel))
abbrev rmL_read : Room := { frames := 8, cells := 5, slots := 30, locals := 139 }
set_option maxHeartbeats 4000000 in
set_option maxRecDepth 100000 in
theorem c_L_read (l : Launch) (G : gG) (hst : l.stackTraces = false) {p1 : Int32} {p2 : Int32} {p3 : Int32} {p4 : Int32} {p5 : Int32} {me : gM} {r0 : Int32} {m0 : gM} (hf : f_L_read p1 p2 p3 p4 p5 me = some (r0, m0)) : vx_Met l yL_read wsW_read rmL_read (va_Pc [.ref (G.2.2.1 0), .int p1, .int p2, .int p3, .int p4, .int p5, .ref (G.2.2.1 229)] (g_WY ZC G me)) (g_Qi ZC G r0 m0) (g_XN G) 5 30 (g_A ZC G) := by
  refine vx_ofWH (cc := cL_read) (maxL := 8) (ret := (some .int)) (hh := [(0, 16, 19, 13), (0, 16, 23, 15)]) (by decide) rfl ?_
  intro p e s m args below meth c s₁ B hml hv
  obtain ⟨rfl, ⟨hW0, hX0⟩, hN0⟩ := hv
  have hC : CallFix p m c cL_read 8 s ([.ref (G.2.2.1 0), .int p1, .int p2, .int p3, .int p4, .int p5, .ref (G.2.2.1 229)] : List Value).toArray wsW_read RL := ⟨B.exec, B.bytes, hml, findClass_of_methodNamed B.named, atoms_spec (ws := wsW_read) B.pre⟩
  have hx := hC.1
  have hb := hC.2.1
  have hown := hC.2.2.2.1
  have hts := hC.2.2.2.2
  have hr := B.returns
  have hlocks := B.notSynchronized
  have hW := g_H_enter hW0
  have htab : c.exceptionTable.toList = tableOf [(0, 16, 19, 13), (0, 16, 23, 15)] := vx_table (x := yL_read) B (hts _ List.mem_cons_self)
  have hl := lv_entry ([.ref (G.2.2.1 0), .int p1, .int p2, .int p3, .int p4, .int p5, .ref (G.2.2.1 229)]) (n := 8) (Nat.le_of_ble_eq_true rfl)
  rw [lg_entry_eq]
  generalize (lg_sl ([.ref (G.2.2.1 0), .int p1, .int p2, .int p3, .int p4, .int p5, .ref (G.2.2.1 229)]) ++ List.replicate (8 - (lg_sl ([.ref (G.2.2.1 0), .int p1, .int p2, .int p3, .int p4, .int p5, .ref (G.2.2.1 229)])).length) Slot.unset).toArray = ls at hl ⊢
  have hl : lv_has ls 8 [(0, .ref (G.2.2.1 0)), (1, .int p1), (2, .int p2), (3, .int p3), (4, .int p4), (5, .int p5), (6, .ref (G.2.2.1 229))] := hl
  obtain ⟨Q, hQ⟩ : ∃ Q, Q = vx_MQ below (g_Qi ZC G r0 m0) (g_XN G) ([.ref (G.2.2.1 0), .int p1, .int p2, .int p3, .int p4, .int p5, .ref (G.2.2.1 229)] : List Value).toArray s 5 30 (g_A ZC G) := ⟨_, rfl⟩
  refine g_goQ hQ ?_
  unfold f_L_read at hf
  refine g_start hW (fun H locs hW => ?_)
  refine lv_aload hx hb dL_read_0 (lv_at hl 6 rfl) ?_
  refine lv_iconst (v := 0) hx hb dL_read_2 (by decide) ?_
  refine lv_aload_n hx hb dL_read_3 rfl (lv_at hl 0 rfl) ?_
  refine lv_iload_n hx hb dL_read_4 rfl (lv_at hl 1 rfl) ?_
  refine lv_iload_n hx hb dL_read_5 rfl (lv_at hl 2 rfl) ?_
  refine lv_iload_n hx hb dL_read_6 rfl (lv_at hl 3 rfl) ?_
  refine lv_iload hx hb dL_read_7 (lv_at hl 4 rfl) ?_
  refine lv_iload hx hb dL_read_9 (lv_at hl 5 rfl) ?_
  obtain ⟨v9, hg, hfx, hfn⟩ := os_inv hf
  refine g_cXVw hC hW hX0 (o := 0) (ci := 9) (As := [.int p1, .int p2, .int p3, .int p4, .int p5]) (rest := [.int 0, .ref (G.2.2.1 229)]) zc_k0 zc_b0 rfl (c_X9_read l G hst hg) (cwV 5 hts gW_read rfl rfl rfl (by decide +kernel) ⟨(Nat.le_of_ble_eq_true rfl), (Nat.le_of_ble_eq_true rfl)⟩) rfl hl.1 rfl (Nat.le_of_ble_eq_true rfl) dL_read_11 ⟨(Nat.le_of_ble_eq_true rfl), (Nat.le_of_ble_eq_true rfl)⟩ (fun k9 hk9 H locs q9 ce hW hq9 hcv hcl => ?_) (fun r3 m2 hv9 H locs hW => ?_)
  · have hf := hfx _ hk9
    by_cases hk0 : k9 = 1
    · have hf := a_if_t hk0 hf
      subst hk0
      refine vx_catch (name := g_xn 1) (E := g_xn 1) hown (pre := []) (x := ⟨0, 16, 19, 13⟩) (suf := [⟨0, 16, 23, 15⟩]) (hsplit := htab) (fun z hz => by cases hz) (by decide) (by decide) (hts _ (by decide +kernel : Cond.classLink RL 13 (g_xn 1) ∈ wsW_read)) (va_Nw.use rfl (hX0.2.2.1 _ (by decide +kernel : Cond.castable (g_xn 1) (g_xn 1) ∈ g_xw))) hq9 hcv hcl ?_
      refine lv_astore (lv' := [(7, .ref q9), (0, .ref (G.2.2.1 0)), (1, .int p1), (2, .int p2), (3, .int p3), (4, .int p4), (5, .int p5), (6, .ref (G.2.2.1 229))]) hx hb dL_read_19 hl (by decide) rfl (fun ls hl => ?_)
      refine lv_iconst (v := 1) hx hb dL_read_21 (by decide) ?_
      cases hf
      subst hQ
      exact g_yiret hC hW hr hlocks rfl rfl (Nat.le_of_ble_eq_true rfl) (Nat.le_of_ble_eq_true rfl) dL_read_22
    have hf := a_if_f hk0 hf
    by_cases hk1 : k9 = 2
    · have hf := a_if_t hk1 hf
      subst hk1
      refine vx_catch (name := g_xn 2) (E := g_xn 2) hown (pre := [⟨0, 16, 19, 13⟩]) (x := ⟨0, 16, 23, 15⟩) (suf := []) (hsplit := htab) (by intro z hz; rcases List.mem_cons.mp hz with rfl | hz; exact Or.inr ⟨by decide, g_xn 1, hts _ (by decide +kernel : Cond.classLink RL 13 (g_xn 1) ∈ wsW_read), hN0.1⟩; cases hz) (by decide) (by decide) (hts _ (by decide +kernel : Cond.classLink RL 15 (g_xn 2) ∈ wsW_read)) (va_Nw.use rfl (hX0.2.2.1 _ (by decide +kernel : Cond.castable (g_xn 2) (g_xn 2) ∈ g_xw))) hq9 hcv hcl ?_
      refine lv_astore (lv' := [(7, .ref q9), (0, .ref (G.2.2.1 0)), (1, .int p1), (2, .int p2), (3, .int p3), (4, .int p4), (5, .int p5), (6, .ref (G.2.2.1 229))]) hx hb dL_read_23 hl (by decide) rfl (fun ls hl => ?_)
      refine lv_iconst (v := 2) hx hb dL_read_25 (by decide) ?_
      cases hf
      subst hQ
      exact g_yiret hC hW hr hlocks rfl rfl (Nat.le_of_ble_eq_true rfl) (Nat.le_of_ble_eq_true rfl) dL_read_26
    have hf := a_if_f hk1 hf
    cases hf
  have hf := hfn _ hv9
  have hf := ob_inv2 hf
  refine lv_i2l (v := (r3).toInt64) hx hb dL_read_14 rfl ?_
  obtain ⟨m4, h9, hf⟩ := ob_inv hf
  refine g_llst hC hW zc_k229 zc_b229 zc_n229 h9 dL_read_15 (fun H locs hW => ?_)
  refine lv_goto (tgt := 27) hx hb dL_read_16 (by decide) ?_
  refine lv_iconst (v := 0) hx hb dL_read_27 (by decide) ?_
  cases hf
  subst hQ
  exact g_yiret hC hW hr hlocks rfl rfl (Nat.le_of_ble_eq_true rfl) (Nat.le_of_ble_eq_true rfl) dL_read_28
set_option maxRecDepth 20000 in
theorem gW_run : GoodIn wsW_run (wsV RL 58 RX9 yX9_run wsX9_run) := goodIn_app (goodIn_of _ (by decide +kernel)) (goodIn_sub (fun _ h => List.mem_cons_of_mem _ (List.mem_append_right _ h)) (by decide +kernel))
abbrev rmL_run : Room := { frames := 8, cells := 2, slots := 12, locals := 142 }
set_option maxHeartbeats 4000000 in
set_option maxRecDepth 100000 in
theorem c_L_run (l : Launch) (G : gG) (hst : l.stackTraces = false) {p1 : Int32} {me : gM} {r0 : Int32} {m0 : gM} (hf : f_L_run p1 me = some (r0, m0)) : vx_Met l yL_run wsW_run rmL_run (va_Pc [.ref (G.2.2.1 0), .int p1, .ref (G.2.2.1 229)] (g_WY ZC G me)) (g_Qi ZC G r0 m0) (g_XN G) 2 12 (g_A ZC G) := by
  refine vx_ofWH (cc := cL_run) (maxL := 4) (ret := (some .int)) (hh := [(0, 9, 12, 13), (0, 9, 15, 17)]) (by decide) rfl ?_
  intro p e s m args below meth c s₁ B hml hv
  obtain ⟨rfl, ⟨hW0, hX0⟩, hN0⟩ := hv
  have hC : CallFix p m c cL_run 4 s ([.ref (G.2.2.1 0), .int p1, .ref (G.2.2.1 229)] : List Value).toArray wsW_run RL := ⟨B.exec, B.bytes, hml, findClass_of_methodNamed B.named, atoms_spec (ws := wsW_run) B.pre⟩
  have hx := hC.1
  have hb := hC.2.1
  have hown := hC.2.2.2.1
  have hts := hC.2.2.2.2
  have hr := B.returns
  have hlocks := B.notSynchronized
  have hW := g_H_enter hW0
  have htab : c.exceptionTable.toList = tableOf [(0, 9, 12, 13), (0, 9, 15, 17)] := vx_table (x := yL_run) B (hts _ List.mem_cons_self)
  have hl := lv_entry ([.ref (G.2.2.1 0), .int p1, .ref (G.2.2.1 229)]) (n := 4) (Nat.le_of_ble_eq_true rfl)
  rw [lg_entry_eq]
  generalize (lg_sl ([.ref (G.2.2.1 0), .int p1, .ref (G.2.2.1 229)]) ++ List.replicate (4 - (lg_sl ([.ref (G.2.2.1 0), .int p1, .ref (G.2.2.1 229)])).length) Slot.unset).toArray = ls at hl ⊢
  have hl : lv_has ls 4 [(0, .ref (G.2.2.1 0)), (1, .int p1), (2, .ref (G.2.2.1 229))] := hl
  obtain ⟨Q, hQ⟩ : ∃ Q, Q = vx_MQ below (g_Qi ZC G r0 m0) (g_XN G) ([.ref (G.2.2.1 0), .int p1, .ref (G.2.2.1 229)] : List Value).toArray s 2 12 (g_A ZC G) := ⟨_, rfl⟩
  refine g_goQ hQ ?_
  unfold f_L_run at hf
  refine g_start hW (fun H locs hW => ?_)
  refine lv_aload_n hx hb dL_run_0 rfl (lv_at hl 2 rfl) ?_
  refine lv_iconst (v := 0) hx hb dL_run_1 (by decide) ?_
  refine lv_aload_n hx hb dL_run_2 rfl (lv_at hl 0 rfl) ?_
  refine lv_iload_n hx hb dL_run_3 rfl (lv_at hl 1 rfl) ?_
  obtain ⟨v9, hg, hfx, hfn⟩ := os_inv hf
  refine g_cXVw hC hW hX0 (o := 0) (ci := 9) (As := [.int p1]) (rest := [.int 0, .ref (G.2.2.1 229)]) zc_k0 zc_b0 rfl (c_X9_run l G hst hg) (cwV 1 hts gW_run rfl rfl rfl (by decide +kernel) ⟨(Nat.le_of_ble_eq_true rfl), (Nat.le_of_ble_eq_true rfl)⟩) rfl hl.1 rfl (Nat.le_of_ble_eq_true rfl) dL_run_4 ⟨(Nat.le_of_ble_eq_true rfl), (Nat.le_of_ble_eq_true rfl)⟩ (fun k9 hk9 H locs q9 ce hW hq9 hcv hcl => ?_) (fun r3 m2 hv9 H locs hW => ?_)
  · have hf := hfx _ hk9
    by_cases hk0 : k9 = 1
    · have hf := a_if_t hk0 hf
      subst hk0
      refine vx_catch (name := g_xn 1) (E := g_xn 1) hown (pre := []) (x := ⟨0, 9, 12, 13⟩) (suf := [⟨0, 9, 15, 17⟩]) (hsplit := htab) (fun z hz => by cases hz) (by decide) (by decide) (hts _ (by decide +kernel : Cond.classLink RL 13 (g_xn 1) ∈ wsW_run)) (va_Nw.use rfl (hX0.2.2.1 _ (by decide +kernel : Cond.castable (g_xn 1) (g_xn 1) ∈ g_xw))) hq9 hcv hcl ?_
      refine lv_astore_n (lv' := [(3, .ref q9), (0, .ref (G.2.2.1 0)), (1, .int p1), (2, .ref (G.2.2.1 229))]) hx hb dL_run_12 rfl hl (by decide) rfl (fun ls hl => ?_)
      refine lv_iconst (v := 1) hx hb dL_run_13 (by decide) ?_
      cases hf
      subst hQ
      exact g_yiret hC hW hr hlocks rfl rfl (Nat.le_of_ble_eq_true rfl) (Nat.le_of_ble_eq_true rfl) dL_run_14
    have hf := a_if_f hk0 hf
    by_cases hk1 : k9 = 3
    · have hf := a_if_t hk1 hf
      subst hk1
      refine vx_catch (name := g_xn 3) (E := g_xn 3) hown (pre := [⟨0, 9, 12, 13⟩]) (x := ⟨0, 9, 15, 17⟩) (suf := []) (hsplit := htab) (by intro z hz; rcases List.mem_cons.mp hz with rfl | hz; exact Or.inr ⟨by decide, g_xn 1, hts _ (by decide +kernel : Cond.classLink RL 13 (g_xn 1) ∈ wsW_run), hN0.2.1⟩; cases hz) (by decide) (by decide) (hts _ (by decide +kernel : Cond.classLink RL 17 (g_xn 3) ∈ wsW_run)) (va_Nw.use rfl (hX0.2.2.1 _ (by decide +kernel : Cond.castable (g_xn 3) (g_xn 3) ∈ g_xw))) hq9 hcv hcl ?_
      refine lv_astore_n (lv' := [(3, .ref q9), (0, .ref (G.2.2.1 0)), (1, .int p1), (2, .ref (G.2.2.1 229))]) hx hb dL_run_15 rfl hl (by decide) rfl (fun ls hl => ?_)
      refine lv_iconst (v := 2) hx hb dL_run_16 (by decide) ?_
      cases hf
      subst hQ
      exact g_yiret hC hW hr hlocks rfl rfl (Nat.le_of_ble_eq_true rfl) (Nat.le_of_ble_eq_true rfl) dL_run_17
    have hf := a_if_f hk1 hf
    cases hf
  have hf := hfn _ hv9
  have hf := ob_inv2 hf
  refine lv_i2l (v := (r3).toInt64) hx hb dL_run_7 rfl ?_
  obtain ⟨m4, h9, hf⟩ := ob_inv hf
  refine g_llst hC hW zc_k229 zc_b229 zc_n229 h9 dL_run_8 (fun H locs hW => ?_)
  refine lv_goto (tgt := 18) hx hb dL_run_9 (by decide) ?_
  refine lv_iconst (v := 0) hx hb dL_run_18 (by decide) ?_
  cases hf
  subst hQ
  exact g_yiret hC hW hr hlocks rfl rfl (Nat.le_of_ble_eq_true rfl) (Nat.le_of_ble_eq_true rfl) dL_run_19
set_option maxRecDepth 20000 in
theorem gW_price : GoodIn wsW_price (wsV RL 61 RX9 yX9_price wsX9_price) := goodIn_app (goodIn_of _ (by decide +kernel)) (goodIn_sub (fun _ h => List.mem_cons_of_mem _ (List.mem_append_right _ h)) (by decide +kernel))
abbrev rmL_price : Room := { frames := 8, cells := 3, slots := 18, locals := 133 }
set_option maxHeartbeats 4000000 in
set_option maxRecDepth 100000 in
theorem c_L_price (l : Launch) (G : gG) (hst : l.stackTraces = false) {p1 : Int32} {p2 : Int32} {me : gM} {r0 : Int32} {m0 : gM} (hf : f_L_price p1 p2 me = some (r0, m0)) : vx_Met l yL_price wsW_price rmL_price (va_Pc [.ref (G.2.2.1 0), .int p1, .int p2, .ref (G.2.2.1 229)] (g_WY ZC G me)) (g_Qi ZC G r0 m0) (g_XN G) 3 18 (g_A ZC G) := by
  refine vx_ofWH (cc := cL_price) (maxL := 5) (ret := (some .int)) (hh := [(0, 10, 13, 13), (0, 10, 17, 17)]) (by decide) rfl ?_
  intro p e s m args below meth c s₁ B hml hv
  obtain ⟨rfl, ⟨hW0, hX0⟩, hN0⟩ := hv
  have hC : CallFix p m c cL_price 5 s ([.ref (G.2.2.1 0), .int p1, .int p2, .ref (G.2.2.1 229)] : List Value).toArray wsW_price RL := ⟨B.exec, B.bytes, hml, findClass_of_methodNamed B.named, atoms_spec (ws := wsW_price) B.pre⟩
  have hx := hC.1
  have hb := hC.2.1
  have hown := hC.2.2.2.1
  have hts := hC.2.2.2.2
  have hr := B.returns
  have hlocks := B.notSynchronized
  have hW := g_H_enter hW0
  have htab : c.exceptionTable.toList = tableOf [(0, 10, 13, 13), (0, 10, 17, 17)] := vx_table (x := yL_price) B (hts _ List.mem_cons_self)
  have hl := lv_entry ([.ref (G.2.2.1 0), .int p1, .int p2, .ref (G.2.2.1 229)]) (n := 5) (Nat.le_of_ble_eq_true rfl)
  rw [lg_entry_eq]
  generalize (lg_sl ([.ref (G.2.2.1 0), .int p1, .int p2, .ref (G.2.2.1 229)]) ++ List.replicate (5 - (lg_sl ([.ref (G.2.2.1 0), .int p1, .int p2, .ref (G.2.2.1 229)])).length) Slot.unset).toArray = ls at hl ⊢
  have hl : lv_has ls 5 [(0, .ref (G.2.2.1 0)), (1, .int p1), (2, .int p2), (3, .ref (G.2.2.1 229))] := hl
  obtain ⟨Q, hQ⟩ : ∃ Q, Q = vx_MQ below (g_Qi ZC G r0 m0) (g_XN G) ([.ref (G.2.2.1 0), .int p1, .int p2, .ref (G.2.2.1 229)] : List Value).toArray s 3 18 (g_A ZC G) := ⟨_, rfl⟩
  refine g_goQ hQ ?_
  unfold f_L_price at hf
  refine g_start hW (fun H locs hW => ?_)
  refine lv_aload_n hx hb dL_price_0 rfl (lv_at hl 3 rfl) ?_
  refine lv_iconst (v := 0) hx hb dL_price_1 (by decide) ?_
  refine lv_aload_n hx hb dL_price_2 rfl (lv_at hl 0 rfl) ?_
  refine lv_iload_n hx hb dL_price_3 rfl (lv_at hl 1 rfl) ?_
  refine lv_iload_n hx hb dL_price_4 rfl (lv_at hl 2 rfl) ?_
  obtain ⟨v9, hg, hfx, hfn⟩ := os_inv hf
  refine g_cXVi hC hW hX0 (o := 0) (ci := 9) (As := [.int p1, .int p2]) (rest := [.int 0, .ref (G.2.2.1 229)]) zc_k0 zc_b0 rfl (c_X9_price l G hst hg) (cwV 2 hts gW_price rfl rfl rfl (by decide +kernel) ⟨(Nat.le_of_ble_eq_true rfl), (Nat.le_of_ble_eq_true rfl)⟩) rfl hl.1 rfl (Nat.le_of_ble_eq_true rfl) dL_price_5 ⟨(Nat.le_of_ble_eq_true rfl), (Nat.le_of_ble_eq_true rfl)⟩ (fun k9 hk9 H locs q9 ce hW hq9 hcv hcl => ?_) (fun r3 hv9 H locs hW => ?_)
  · have hf := hfx _ hk9
    by_cases hk0 : k9 = 1
    · have hf := a_if_t hk0 hf
      subst hk0
      refine vx_catch (name := g_xn 1) (E := g_xn 1) hown (pre := []) (x := ⟨0, 10, 13, 13⟩) (suf := [⟨0, 10, 17, 17⟩]) (hsplit := htab) (fun z hz => by cases hz) (by decide) (by decide) (hts _ (by decide +kernel : Cond.classLink RL 13 (g_xn 1) ∈ wsW_price)) (va_Nw.use rfl (hX0.2.2.1 _ (by decide +kernel : Cond.castable (g_xn 1) (g_xn 1) ∈ g_xw))) hq9 hcv hcl ?_
      refine lv_astore (lv' := [(4, .ref q9), (0, .ref (G.2.2.1 0)), (1, .int p1), (2, .int p2), (3, .ref (G.2.2.1 229))]) hx hb dL_price_13 hl (by decide) rfl (fun ls hl => ?_)
      refine lv_iconst (v := 1) hx hb dL_price_15 (by decide) ?_
      cases hf
      subst hQ
      exact g_yiret hC hW hr hlocks rfl rfl (Nat.le_of_ble_eq_true rfl) (Nat.le_of_ble_eq_true rfl) dL_price_16
    have hf := a_if_f hk0 hf
    by_cases hk1 : k9 = 3
    · have hf := a_if_t hk1 hf
      subst hk1
      refine vx_catch (name := g_xn 3) (E := g_xn 3) hown (pre := [⟨0, 10, 13, 13⟩]) (x := ⟨0, 10, 17, 17⟩) (suf := []) (hsplit := htab) (by intro z hz; rcases List.mem_cons.mp hz with rfl | hz; exact Or.inr ⟨by decide, g_xn 1, hts _ (by decide +kernel : Cond.classLink RL 13 (g_xn 1) ∈ wsW_price), hN0.2.1⟩; cases hz) (by decide) (by decide) (hts _ (by decide +kernel : Cond.classLink RL 17 (g_xn 3) ∈ wsW_price)) (va_Nw.use rfl (hX0.2.2.1 _ (by decide +kernel : Cond.castable (g_xn 3) (g_xn 3) ∈ g_xw))) hq9 hcv hcl ?_
      refine lv_astore (lv' := [(4, .ref q9), (0, .ref (G.2.2.1 0)), (1, .int p1), (2, .int p2), (3, .ref (G.2.2.1 229))]) hx hb dL_price_17 hl (by decide) rfl (fun ls hl => ?_)
      refine lv_iconst (v := 2) hx hb dL_price_19 (by decide) ?_
      cases hf
      subst hQ
      exact g_yiret hC hW hr hlocks rfl rfl (Nat.le_of_ble_eq_true rfl) (Nat.le_of_ble_eq_true rfl) dL_price_20
    have hf := a_if_f hk1 hf
    cases hf
  have hf := hfn _ hv9
  have hf := ob_inv1 hf
  refine lv_i2l (v := (r3).toInt64) hx hb dL_price_8 rfl ?_
  obtain ⟨m4, h9, hf⟩ := ob_inv hf
  refine g_llst hC hW zc_k229 zc_b229 zc_n229 h9 dL_price_9 (fun H locs hW => ?_)
  refine lv_goto (tgt := 21) hx hb dL_price_10 (by decide) ?_
  refine lv_iconst (v := 0) hx hb dL_price_21 (by decide) ?_
  cases hf
  subst hQ
  exact g_yiret hC hW hr hlocks rfl rfl (Nat.le_of_ble_eq_true rfl) (Nat.le_of_ble_eq_true rfl) dL_price_22
set_option maxRecDepth 20000 in
theorem gW_net : GoodIn wsW_net (wsV RL 64 RX9 yX9_net wsX9_net) := goodIn_app (goodIn_of _ (by decide +kernel)) (goodIn_sub (fun _ h => List.mem_cons_of_mem _ (List.mem_append_right _ h)) (by decide +kernel))
abbrev rmL_net : Room := { frames := 8, cells := 3, slots := 18, locals := 133 }
set_option maxHeartbeats 4000000 in
set_option maxRecDepth 100000 in
theorem c_L_net (l : Launch) (G : gG) (hst : l.stackTraces = false) {p1 : Int32} {p2 : Int32} {me : gM} {r0 : Int32} {m0 : gM} (hf : f_L_net p1 p2 me = some (r0, m0)) : vx_Met l yL_net wsW_net rmL_net (va_Pc [.ref (G.2.2.1 0), .int p1, .int p2, .ref (G.2.2.1 229)] (g_WY ZC G me)) (g_Qi ZC G r0 m0) (g_XN G) 3 18 (g_A ZC G) := by
  refine vx_ofWH (cc := cL_net) (maxL := 5) (ret := (some .int)) (hh := [(0, 10, 13, 13), (0, 10, 17, 17)]) (by decide) rfl ?_
  intro p e s m args below meth c s₁ B hml hv
  obtain ⟨rfl, ⟨hW0, hX0⟩, hN0⟩ := hv
  have hC : CallFix p m c cL_net 5 s ([.ref (G.2.2.1 0), .int p1, .int p2, .ref (G.2.2.1 229)] : List Value).toArray wsW_net RL := ⟨B.exec, B.bytes, hml, findClass_of_methodNamed B.named, atoms_spec (ws := wsW_net) B.pre⟩
  have hx := hC.1
  have hb := hC.2.1
  have hown := hC.2.2.2.1
  have hts := hC.2.2.2.2
  have hr := B.returns
  have hlocks := B.notSynchronized
  have hW := g_H_enter hW0
  have htab : c.exceptionTable.toList = tableOf [(0, 10, 13, 13), (0, 10, 17, 17)] := vx_table (x := yL_net) B (hts _ List.mem_cons_self)
  have hl := lv_entry ([.ref (G.2.2.1 0), .int p1, .int p2, .ref (G.2.2.1 229)]) (n := 5) (Nat.le_of_ble_eq_true rfl)
  rw [lg_entry_eq]
  generalize (lg_sl ([.ref (G.2.2.1 0), .int p1, .int p2, .ref (G.2.2.1 229)]) ++ List.replicate (5 - (lg_sl ([.ref (G.2.2.1 0), .int p1, .int p2, .ref (G.2.2.1 229)])).length) Slot.unset).toArray = ls at hl ⊢
  have hl : lv_has ls 5 [(0, .ref (G.2.2.1 0)), (1, .int p1), (2, .int p2), (3, .ref (G.2.2.1 229))] := hl
  obtain ⟨Q, hQ⟩ : ∃ Q, Q = vx_MQ below (g_Qi ZC G r0 m0) (g_XN G) ([.ref (G.2.2.1 0), .int p1, .int p2, .ref (G.2.2.1 229)] : List Value).toArray s 3 18 (g_A ZC G) := ⟨_, rfl⟩
  refine g_goQ hQ ?_
  unfold f_L_net at hf
  refine g_start hW (fun H locs hW => ?_)
  refine lv_aload_n hx hb dL_net_0 rfl (lv_at hl 3 rfl) ?_
  refine lv_iconst (v := 0) hx hb dL_net_1 (by decide) ?_
  refine lv_aload_n hx hb dL_net_2 rfl (lv_at hl 0 rfl) ?_
  refine lv_iload_n hx hb dL_net_3 rfl (lv_at hl 1 rfl) ?_
  refine lv_iload_n hx hb dL_net_4 rfl (lv_at hl 2 rfl) ?_
  obtain ⟨v9, hg, hfx, hfn⟩ := os_inv hf
  refine g_cXVi hC hW hX0 (o := 0) (ci := 9) (As := [.int p1, .int p2]) (rest := [.int 0, .ref (G.2.2.1 229)]) zc_k0 zc_b0 rfl (c_X9_net l G hst hg) (cwV 2 hts gW_net rfl rfl rfl (by decide +kernel) ⟨(Nat.le_of_ble_eq_true rfl), (Nat.le_of_ble_eq_true rfl)⟩) rfl hl.1 rfl (Nat.le_of_ble_eq_true rfl) dL_net_5 ⟨(Nat.le_of_ble_eq_true rfl), (Nat.le_of_ble_eq_true rfl)⟩ (fun k9 hk9 H locs q9 ce hW hq9 hcv hcl => ?_) (fun r3 hv9 H locs hW => ?_)
  · have hf := hfx _ hk9
    by_cases hk0 : k9 = 1
    · have hf := a_if_t hk0 hf
      subst hk0
      refine vx_catch (name := g_xn 1) (E := g_xn 1) hown (pre := []) (x := ⟨0, 10, 13, 13⟩) (suf := [⟨0, 10, 17, 17⟩]) (hsplit := htab) (fun z hz => by cases hz) (by decide) (by decide) (hts _ (by decide +kernel : Cond.classLink RL 13 (g_xn 1) ∈ wsW_net)) (va_Nw.use rfl (hX0.2.2.1 _ (by decide +kernel : Cond.castable (g_xn 1) (g_xn 1) ∈ g_xw))) hq9 hcv hcl ?_
      refine lv_astore (lv' := [(4, .ref q9), (0, .ref (G.2.2.1 0)), (1, .int p1), (2, .int p2), (3, .ref (G.2.2.1 229))]) hx hb dL_net_13 hl (by decide) rfl (fun ls hl => ?_)
      refine lv_iconst (v := 1) hx hb dL_net_15 (by decide) ?_
      cases hf
      subst hQ
      exact g_yiret hC hW hr hlocks rfl rfl (Nat.le_of_ble_eq_true rfl) (Nat.le_of_ble_eq_true rfl) dL_net_16
    have hf := a_if_f hk0 hf
    by_cases hk1 : k9 = 3
    · have hf := a_if_t hk1 hf
      subst hk1
      refine vx_catch (name := g_xn 3) (E := g_xn 3) hown (pre := [⟨0, 10, 13, 13⟩]) (x := ⟨0, 10, 17, 17⟩) (suf := []) (hsplit := htab) (by intro z hz; rcases List.mem_cons.mp hz with rfl | hz; exact Or.inr ⟨by decide, g_xn 1, hts _ (by decide +kernel : Cond.classLink RL 13 (g_xn 1) ∈ wsW_net), hN0.2.1⟩; cases hz) (by decide) (by decide) (hts _ (by decide +kernel : Cond.classLink RL 17 (g_xn 3) ∈ wsW_net)) (va_Nw.use rfl (hX0.2.2.1 _ (by decide +kernel : Cond.castable (g_xn 3) (g_xn 3) ∈ g_xw))) hq9 hcv hcl ?_
      refine lv_astore (lv' := [(4, .ref q9), (0, .ref (G.2.2.1 0)), (1, .int p1), (2, .int p2), (3, .ref (G.2.2.1 229))]) hx hb dL_net_17 hl (by decide) rfl (fun ls hl => ?_)
      refine lv_iconst (v := 2) hx hb dL_net_19 (by decide) ?_
      cases hf
      subst hQ
      exact g_yiret hC hW hr hlocks rfl rfl (Nat.le_of_ble_eq_true rfl) (Nat.le_of_ble_eq_true rfl) dL_net_20
    have hf := a_if_f hk1 hf
    cases hf
  have hf := hfn _ hv9
  have hf := ob_inv1 hf
  refine lv_i2l (v := (r3).toInt64) hx hb dL_net_8 rfl ?_
  obtain ⟨m4, h9, hf⟩ := ob_inv hf
  refine g_llst hC hW zc_k229 zc_b229 zc_n229 h9 dL_net_9 (fun H locs hW => ?_)
  refine lv_goto (tgt := 21) hx hb dL_net_10 (by decide) ?_
  refine lv_iconst (v := 0) hx hb dL_net_21 (by decide) ?_
  cases hf
  subst hQ
  exact g_yiret hC hW hr hlocks rfl rfl (Nat.le_of_ble_eq_true rfl) (Nat.le_of_ble_eq_true rfl) dL_net_22
set_option maxRecDepth 20000 in
theorem gW_flow : GoodIn wsW_flow (wsV RL 67 RX9 yX9_flow wsX9_flow) := goodIn_app (goodIn_of _ (by decide +kernel)) (goodIn_sub (fun _ h => List.mem_cons_of_mem _ (List.mem_append_right _ h)) (by decide +kernel))
abbrev rmL_flow : Room := { frames := 8, cells := 3, slots := 18, locals := 134 }
set_option maxHeartbeats 4000000 in
set_option maxRecDepth 100000 in
theorem c_L_flow (l : Launch) (G : gG) (hst : l.stackTraces = false) {p1 : Int32} {p2 : Int32} {me : gM} {r0 : Int32} {m0 : gM} (hf : f_L_flow p1 p2 me = some (r0, m0)) : vx_Met l yL_flow wsW_flow rmL_flow (va_Pc [.ref (G.2.2.1 0), .int p1, .int p2, .ref (G.2.2.1 229)] (g_WY ZC G me)) (g_Qi ZC G r0 m0) (g_XN G) 3 18 (g_A ZC G) := by
  refine vx_ofWH (cc := cL_flow) (maxL := 5) (ret := (some .int)) (hh := [(0, 10, 13, 13), (0, 10, 17, 17)]) (by decide) rfl ?_
  intro p e s m args below meth c s₁ B hml hv
  obtain ⟨rfl, ⟨hW0, hX0⟩, hN0⟩ := hv
  have hC : CallFix p m c cL_flow 5 s ([.ref (G.2.2.1 0), .int p1, .int p2, .ref (G.2.2.1 229)] : List Value).toArray wsW_flow RL := ⟨B.exec, B.bytes, hml, findClass_of_methodNamed B.named, atoms_spec (ws := wsW_flow) B.pre⟩
  have hx := hC.1
  have hb := hC.2.1
  have hown := hC.2.2.2.1
  have hts := hC.2.2.2.2
  have hr := B.returns
  have hlocks := B.notSynchronized
  have hW := g_H_enter hW0
  have htab : c.exceptionTable.toList = tableOf [(0, 10, 13, 13), (0, 10, 17, 17)] := vx_table (x := yL_flow) B (hts _ List.mem_cons_self)
  have hl := lv_entry ([.ref (G.2.2.1 0), .int p1, .int p2, .ref (G.2.2.1 229)]) (n := 5) (Nat.le_of_ble_eq_true rfl)
  rw [lg_entry_eq]
  generalize (lg_sl ([.ref (G.2.2.1 0), .int p1, .int p2, .ref (G.2.2.1 229)]) ++ List.replicate (5 - (lg_sl ([.ref (G.2.2.1 0), .int p1, .int p2, .ref (G.2.2.1 229)])).length) Slot.unset).toArray = ls at hl ⊢
  have hl : lv_has ls 5 [(0, .ref (G.2.2.1 0)), (1, .int p1), (2, .int p2), (3, .ref (G.2.2.1 229))] := hl
  obtain ⟨Q, hQ⟩ : ∃ Q, Q = vx_MQ below (g_Qi ZC G r0 m0) (g_XN G) ([.ref (G.2.2.1 0), .int p1, .int p2, .ref (G.2.2.1 229)] : List Value).toArray s 3 18 (g_A ZC G) := ⟨_, rfl⟩
  refine g_goQ hQ ?_
  unfold f_L_flow at hf
  refine g_start hW (fun H locs hW => ?_)
  refine lv_aload_n hx hb dL_flow_0 rfl (lv_at hl 3 rfl) ?_
  refine lv_iconst (v := 0) hx hb dL_flow_1 (by decide) ?_
  refine lv_aload_n hx hb dL_flow_2 rfl (lv_at hl 0 rfl) ?_
  refine lv_iload_n hx hb dL_flow_3 rfl (lv_at hl 1 rfl) ?_
  refine lv_iload_n hx hb dL_flow_4 rfl (lv_at hl 2 rfl) ?_
  obtain ⟨v9, hg, hfx, hfn⟩ := os_inv hf
  refine g_cXVi hC hW hX0 (o := 0) (ci := 9) (As := [.int p1, .int p2]) (rest := [.int 0, .ref (G.2.2.1 229)]) zc_k0 zc_b0 rfl (c_X9_flow l G hst hg) (cwV 2 hts gW_flow rfl rfl rfl (by decide +kernel) ⟨(Nat.le_of_ble_eq_true rfl), (Nat.le_of_ble_eq_true rfl)⟩) rfl hl.1 rfl (Nat.le_of_ble_eq_true rfl) dL_flow_5 ⟨(Nat.le_of_ble_eq_true rfl), (Nat.le_of_ble_eq_true rfl)⟩ (fun k9 hk9 H locs q9 ce hW hq9 hcv hcl => ?_) (fun r3 hv9 H locs hW => ?_)
  · have hf := hfx _ hk9
    by_cases hk0 : k9 = 1
    · have hf := a_if_t hk0 hf
      subst hk0
      refine vx_catch (name := g_xn 1) (E := g_xn 1) hown (pre := []) (x := ⟨0, 10, 13, 13⟩) (suf := [⟨0, 10, 17, 17⟩]) (hsplit := htab) (fun z hz => by cases hz) (by decide) (by decide) (hts _ (by decide +kernel : Cond.classLink RL 13 (g_xn 1) ∈ wsW_flow)) (va_Nw.use rfl (hX0.2.2.1 _ (by decide +kernel : Cond.castable (g_xn 1) (g_xn 1) ∈ g_xw))) hq9 hcv hcl ?_
      refine lv_astore (lv' := [(4, .ref q9), (0, .ref (G.2.2.1 0)), (1, .int p1), (2, .int p2), (3, .ref (G.2.2.1 229))]) hx hb dL_flow_13 hl (by decide) rfl (fun ls hl => ?_)
      refine lv_iconst (v := 1) hx hb dL_flow_15 (by decide) ?_
      cases hf
      subst hQ
      exact g_yiret hC hW hr hlocks rfl rfl (Nat.le_of_ble_eq_true rfl) (Nat.le_of_ble_eq_true rfl) dL_flow_16
    have hf := a_if_f hk0 hf
    by_cases hk1 : k9 = 3
    · have hf := a_if_t hk1 hf
      subst hk1
      refine vx_catch (name := g_xn 3) (E := g_xn 3) hown (pre := [⟨0, 10, 13, 13⟩]) (x := ⟨0, 10, 17, 17⟩) (suf := []) (hsplit := htab) (by intro z hz; rcases List.mem_cons.mp hz with rfl | hz; exact Or.inr ⟨by decide, g_xn 1, hts _ (by decide +kernel : Cond.classLink RL 13 (g_xn 1) ∈ wsW_flow), hN0.2.1⟩; cases hz) (by decide) (by decide) (hts _ (by decide +kernel : Cond.classLink RL 17 (g_xn 3) ∈ wsW_flow)) (va_Nw.use rfl (hX0.2.2.1 _ (by decide +kernel : Cond.castable (g_xn 3) (g_xn 3) ∈ g_xw))) hq9 hcv hcl ?_
      refine lv_astore (lv' := [(4, .ref q9), (0, .ref (G.2.2.1 0)), (1, .int p1), (2, .int p2), (3, .ref (G.2.2.1 229))]) hx hb dL_flow_17 hl (by decide) rfl (fun ls hl => ?_)
      refine lv_iconst (v := 2) hx hb dL_flow_19 (by decide) ?_
      cases hf
      subst hQ
      exact g_yiret hC hW hr hlocks rfl rfl (Nat.le_of_ble_eq_true rfl) (Nat.le_of_ble_eq_true rfl) dL_flow_20
    have hf := a_if_f hk1 hf
    cases hf
  have hf := hfn _ hv9
  have hf := ob_inv1 hf
  refine lv_i2l (v := (r3).toInt64) hx hb dL_flow_8 rfl ?_
  obtain ⟨m4, h9, hf⟩ := ob_inv hf
  refine g_llst hC hW zc_k229 zc_b229 zc_n229 h9 dL_flow_9 (fun H locs hW => ?_)
  refine lv_goto (tgt := 21) hx hb dL_flow_10 (by decide) ?_
  refine lv_iconst (v := 0) hx hb dL_flow_21 (by decide) ?_
  cases hf
  subst hQ
  exact g_yiret hC hW hr hlocks rfl rfl (Nat.le_of_ble_eq_true rfl) (Nat.le_of_ble_eq_true rfl) dL_flow_22
set_option maxRecDepth 20000 in
theorem gW_taken : GoodIn wsW_taken (wsV RL 70 RX9 yX9_taken wsX9_taken) := goodIn_app (goodIn_of _ (by decide +kernel)) (goodIn_sub (fun _ h => List.mem_cons_of_mem _ (List.mem_append_right _ h)) (by decide +kernel))
abbrev rmL_taken : Room := { frames := 8, cells := 2, slots := 12, locals := 132 }
set_option maxHeartbeats 4000000 in
set_option maxRecDepth 100000 in
theorem c_L_taken (l : Launch) (G : gG) (hst : l.stackTraces = false) {p1 : Int32} {me : gM} {r0 : Int32} {m0 : gM} (hf : f_L_taken p1 me = some (r0, m0)) : vx_Met l yL_taken wsW_taken rmL_taken (va_Pc [.ref (G.2.2.1 0), .int p1, .ref (G.2.2.1 229)] (g_WY ZC G me)) (g_Qi ZC G r0 m0) (g_XN G) 2 12 (g_A ZC G) := by
  refine vx_ofWH (cc := cL_taken) (maxL := 4) (ret := (some .int)) (hh := [(0, 9, 12, 13), (0, 9, 15, 17)]) (by decide) rfl ?_
  intro p e s m args below meth c s₁ B hml hv
  obtain ⟨rfl, ⟨hW0, hX0⟩, hN0⟩ := hv
  have hC : CallFix p m c cL_taken 4 s ([.ref (G.2.2.1 0), .int p1, .ref (G.2.2.1 229)] : List Value).toArray wsW_taken RL := ⟨B.exec, B.bytes, hml, findClass_of_methodNamed B.named, atoms_spec (ws := wsW_taken) B.pre⟩
  have hx := hC.1
  have hb := hC.2.1
  have hown := hC.2.2.2.1
  have hts := hC.2.2.2.2
  have hr := B.returns
  have hlocks := B.notSynchronized
  have hW := g_H_enter hW0
  have htab : c.exceptionTable.toList = tableOf [(0, 9, 12, 13), (0, 9, 15, 17)] := vx_table (x := yL_taken) B (hts _ List.mem_cons_self)
  have hl := lv_entry ([.ref (G.2.2.1 0), .int p1, .ref (G.2.2.1 229)]) (n := 4) (Nat.le_of_ble_eq_true rfl)
  rw [lg_entry_eq]
  generalize (lg_sl ([.ref (G.2.2.1 0), .int p1, .ref (G.2.2.1 229)]) ++ List.replicate (4 - (lg_sl ([.ref (G.2.2.1 0), .int p1, .ref (G.2.2.1 229)])).length) Slot.unset).toArray = ls at hl ⊢
  have hl : lv_has ls 4 [(0, .ref (G.2.2.1 0)), (1, .int p1), (2, .ref (G.2.2.1 229))] := hl
  obtain ⟨Q, hQ⟩ : ∃ Q, Q = vx_MQ below (g_Qi ZC G r0 m0) (g_XN G) ([.ref (G.2.2.1 0), .int p1, .ref (G.2.2.1 229)] : List Value).toArray s 2 12 (g_A ZC G) := ⟨_, rfl⟩
  refine g_goQ hQ ?_
  unfold f_L_taken at hf
  refine g_start hW (fun H locs hW => ?_)
  refine lv_aload_n hx hb dL_taken_0 rfl (lv_at hl 2 rfl) ?_
  refine lv_iconst (v := 0) hx hb dL_taken_1 (by decide) ?_
  refine lv_aload_n hx hb dL_taken_2 rfl (lv_at hl 0 rfl) ?_
  refine lv_iload_n hx hb dL_taken_3 rfl (lv_at hl 1 rfl) ?_
  obtain ⟨v9, hg, hfx, hfn⟩ := os_inv hf
  refine g_cXVi hC hW hX0 (o := 0) (ci := 9) (As := [.int p1]) (rest := [.int 0, .ref (G.2.2.1 229)]) zc_k0 zc_b0 rfl (c_X9_taken l G hst hg) (cwV 1 hts gW_taken rfl rfl rfl (by decide +kernel) ⟨(Nat.le_of_ble_eq_true rfl), (Nat.le_of_ble_eq_true rfl)⟩) rfl hl.1 rfl (Nat.le_of_ble_eq_true rfl) dL_taken_4 ⟨(Nat.le_of_ble_eq_true rfl), (Nat.le_of_ble_eq_true rfl)⟩ (fun k9 hk9 H locs q9 ce hW hq9 hcv hcl => ?_) (fun r3 hv9 H locs hW => ?_)
  · have hf := hfx _ hk9
    by_cases hk0 : k9 = 1
    · have hf := a_if_t hk0 hf
      subst hk0
      refine vx_catch (name := g_xn 1) (E := g_xn 1) hown (pre := []) (x := ⟨0, 9, 12, 13⟩) (suf := [⟨0, 9, 15, 17⟩]) (hsplit := htab) (fun z hz => by cases hz) (by decide) (by decide) (hts _ (by decide +kernel : Cond.classLink RL 13 (g_xn 1) ∈ wsW_taken)) (va_Nw.use rfl (hX0.2.2.1 _ (by decide +kernel : Cond.castable (g_xn 1) (g_xn 1) ∈ g_xw))) hq9 hcv hcl ?_
      refine lv_astore_n (lv' := [(3, .ref q9), (0, .ref (G.2.2.1 0)), (1, .int p1), (2, .ref (G.2.2.1 229))]) hx hb dL_taken_12 rfl hl (by decide) rfl (fun ls hl => ?_)
      refine lv_iconst (v := 1) hx hb dL_taken_13 (by decide) ?_
      cases hf
      subst hQ
      exact g_yiret hC hW hr hlocks rfl rfl (Nat.le_of_ble_eq_true rfl) (Nat.le_of_ble_eq_true rfl) dL_taken_14
    have hf := a_if_f hk0 hf
    by_cases hk1 : k9 = 3
    · have hf := a_if_t hk1 hf
      subst hk1
      refine vx_catch (name := g_xn 3) (E := g_xn 3) hown (pre := [⟨0, 9, 12, 13⟩]) (x := ⟨0, 9, 15, 17⟩) (suf := []) (hsplit := htab) (by intro z hz; rcases List.mem_cons.mp hz with rfl | hz; exact Or.inr ⟨by decide, g_xn 1, hts _ (by decide +kernel : Cond.classLink RL 13 (g_xn 1) ∈ wsW_taken), hN0.2.1⟩; cases hz) (by decide) (by decide) (hts _ (by decide +kernel : Cond.classLink RL 17 (g_xn 3) ∈ wsW_taken)) (va_Nw.use rfl (hX0.2.2.1 _ (by decide +kernel : Cond.castable (g_xn 3) (g_xn 3) ∈ g_xw))) hq9 hcv hcl ?_
      refine lv_astore_n (lv' := [(3, .ref q9), (0, .ref (G.2.2.1 0)), (1, .int p1), (2, .ref (G.2.2.1 229))]) hx hb dL_taken_15 rfl hl (by decide) rfl (fun ls hl => ?_)
      refine lv_iconst (v := 2) hx hb dL_taken_16 (by decide) ?_
      cases hf
      subst hQ
      exact g_yiret hC hW hr hlocks rfl rfl (Nat.le_of_ble_eq_true rfl) (Nat.le_of_ble_eq_true rfl) dL_taken_17
    have hf := a_if_f hk1 hf
    cases hf
  have hf := hfn _ hv9
  have hf := ob_inv1 hf
  refine lv_i2l (v := (r3).toInt64) hx hb dL_taken_7 rfl ?_
  obtain ⟨m4, h9, hf⟩ := ob_inv hf
  refine g_llst hC hW zc_k229 zc_b229 zc_n229 h9 dL_taken_8 (fun H locs hW => ?_)
  refine lv_goto (tgt := 18) hx hb dL_taken_9 (by decide) ?_
  refine lv_iconst (v := 0) hx hb dL_taken_18 (by decide) ?_
  cases hf
  subst hQ
  exact g_yiret hC hW hr hlocks rfl rfl (Nat.le_of_ble_eq_true rfl) (Nat.le_of_ble_eq_true rfl) dL_taken_19
set_option maxRecDepth 20000 in
theorem gW_isTaken : GoodIn wsW_isTaken (wsV RL 73 RX9 yX9_isTaken wsX9_isTaken) := goodIn_app (goodIn_of _ (by decide +kernel)) (goodIn_sub (fun _ h => List.mem_cons_of_mem _ (List.mem_append_right _ h)) (by decide +kernel))
abbrev rmL_isTaken : Room := { frames := 8, cells := 2, slots := 12, locals := 132 }
set_option maxHeartbeats 4000000 in
set_option maxRecDepth 100000 in
theorem c_L_isTaken (l : Launch) (G : gG) (hst : l.stackTraces = false) {p1 : Int32} {me : gM} {r0 : Int32} {m0 : gM} (hf : f_L_isTaken p1 me = some (r0, m0)) : vx_Met l yL_isTaken wsW_isTaken rmL_isTaken (va_Pc [.ref (G.2.2.1 0), .int p1, .ref (G.2.2.1 229)] (g_WY ZC G me)) (g_Qi ZC G r0 m0) (g_XN G) 2 12 (g_A ZC G) := by
  refine vx_ofWH (cc := cL_isTaken) (maxL := 4) (ret := (some .int)) (hh := [(0, 16, 19, 13), (0, 16, 22, 17)]) (by decide) rfl ?_
  intro p e s m args below meth c s₁ B hml hv
  obtain ⟨rfl, ⟨hW0, hX0⟩, hN0⟩ := hv
  have hC : CallFix p m c cL_isTaken 4 s ([.ref (G.2.2.1 0), .int p1, .ref (G.2.2.1 229)] : List Value).toArray wsW_isTaken RL := ⟨B.exec, B.bytes, hml, findClass_of_methodNamed B.named, atoms_spec (ws := wsW_isTaken) B.pre⟩
  have hx := hC.1
  have hb := hC.2.1
  have hown := hC.2.2.2.1
  have hts := hC.2.2.2.2
  have hr := B.returns
  have hlocks := B.notSynchronized
  have hW := g_H_enter hW0
  have htab : c.exceptionTable.toList = tableOf [(0, 16, 19, 13), (0, 16, 22, 17)] := vx_table (x := yL_isTaken) B (hts _ List.mem_cons_self)
  have hl := lv_entry ([.ref (G.2.2.1 0), .int p1, .ref (G.2.2.1 229)]) (n := 4) (Nat.le_of_ble_eq_true rfl)
  rw [lg_entry_eq]
  generalize (lg_sl ([.ref (G.2.2.1 0), .int p1, .ref (G.2.2.1 229)]) ++ List.replicate (4 - (lg_sl ([.ref (G.2.2.1 0), .int p1, .ref (G.2.2.1 229)])).length) Slot.unset).toArray = ls at hl ⊢
  have hl : lv_has ls 4 [(0, .ref (G.2.2.1 0)), (1, .int p1), (2, .ref (G.2.2.1 229))] := hl
  obtain ⟨Q, hQ⟩ : ∃ Q, Q = vx_MQ below (g_Qi ZC G r0 m0) (g_XN G) ([.ref (G.2.2.1 0), .int p1, .ref (G.2.2.1 229)] : List Value).toArray s 2 12 (g_A ZC G) := ⟨_, rfl⟩
  refine g_goQ hQ ?_
  unfold f_L_isTaken at hf
  refine g_start hW (fun H locs hW => ?_)
  refine lv_aload_n hx hb dL_isTaken_0 rfl (lv_at hl 2 rfl) ?_
  refine lv_iconst (v := 0) hx hb dL_isTaken_1 (by decide) ?_
  refine lv_aload_n hx hb dL_isTaken_2 rfl (lv_at hl 0 rfl) ?_
  refine lv_iload_n hx hb dL_isTaken_3 rfl (lv_at hl 1 rfl) ?_
  obtain ⟨v9, hg, hfx, hfn⟩ := os_inv hf
  refine g_cXVi hC hW hX0 (o := 0) (ci := 9) (As := [.int p1]) (rest := [.int 0, .ref (G.2.2.1 229)]) zc_k0 zc_b0 rfl (c_X9_isTaken l G hst hg) (cwV 1 hts gW_isTaken rfl rfl rfl (by decide +kernel) ⟨(Nat.le_of_ble_eq_true rfl), (Nat.le_of_ble_eq_true rfl)⟩) rfl hl.1 rfl (Nat.le_of_ble_eq_true rfl) dL_isTaken_4 ⟨(Nat.le_of_ble_eq_true rfl), (Nat.le_of_ble_eq_true rfl)⟩ (fun k9 hk9 H locs q9 ce hW hq9 hcv hcl => ?_) (fun r3 hv9 H locs hW => ?_)
  · have hf := hfx _ hk9
    by_cases hk0 : k9 = 1
    · have hf := a_if_t hk0 hf
      subst hk0
      refine vx_catch (name := g_xn 1) (E := g_xn 1) hown (pre := []) (x := ⟨0, 16, 19, 13⟩) (suf := [⟨0, 16, 22, 17⟩]) (hsplit := htab) (fun z hz => by cases hz) (by decide) (by decide) (hts _ (by decide +kernel : Cond.classLink RL 13 (g_xn 1) ∈ wsW_isTaken)) (va_Nw.use rfl (hX0.2.2.1 _ (by decide +kernel : Cond.castable (g_xn 1) (g_xn 1) ∈ g_xw))) hq9 hcv hcl ?_
      refine lv_astore_n (lv' := [(3, .ref q9), (0, .ref (G.2.2.1 0)), (1, .int p1), (2, .ref (G.2.2.1 229))]) hx hb dL_isTaken_19 rfl hl (by decide) rfl (fun ls hl => ?_)
      refine lv_iconst (v := 1) hx hb dL_isTaken_20 (by decide) ?_
      cases hf
      subst hQ
      exact g_yiret hC hW hr hlocks rfl rfl (Nat.le_of_ble_eq_true rfl) (Nat.le_of_ble_eq_true rfl) dL_isTaken_21
    have hf := a_if_f hk0 hf
    by_cases hk1 : k9 = 3
    · have hf := a_if_t hk1 hf
      subst hk1
      refine vx_catch (name := g_xn 3) (E := g_xn 3) hown (pre := [⟨0, 16, 19, 13⟩]) (x := ⟨0, 16, 22, 17⟩) (suf := []) (hsplit := htab) (by intro z hz; rcases List.mem_cons.mp hz with rfl | hz; exact Or.inr ⟨by decide, g_xn 1, hts _ (by decide +kernel : Cond.classLink RL 13 (g_xn 1) ∈ wsW_isTaken), hN0.2.1⟩; cases hz) (by decide) (by decide) (hts _ (by decide +kernel : Cond.classLink RL 17 (g_xn 3) ∈ wsW_isTaken)) (va_Nw.use rfl (hX0.2.2.1 _ (by decide +kernel : Cond.castable (g_xn 3) (g_xn 3) ∈ g_xw))) hq9 hcv hcl ?_
      refine lv_astore_n (lv' := [(3, .ref q9), (0, .ref (G.2.2.1 0)), (1, .int p1), (2, .ref (G.2.2.1 229))]) hx hb dL_isTaken_22 rfl hl (by decide) rfl (fun ls hl => ?_)
      refine lv_iconst (v := 2) hx hb dL_isTaken_23 (by decide) ?_
      cases hf
      subst hQ
      exact g_yiret hC hW hr hlocks rfl rfl (Nat.le_of_ble_eq_true rfl) (Nat.le_of_ble_eq_true rfl) dL_isTaken_24
    have hf := a_if_f hk1 hf
    cases hf
  have hf := hfn _ hv9
  have hf := ob_inv1 hf
  obtain ⟨z5, hg, hf⟩ := ob_inv hf
  have hJ15 : ∀ (H : Heap) (locs : List Loc) (ls : Array Slot), g_H ZC G s H locs me → lv_has ls 4 [] → W p l e (headSpec wsW_isTaken rmL_isTaken).room s m ([.ref (G.2.2.1 0), .int p1, .ref (G.2.2.1 229)] : List Value).toArray below meth c H locs 2 12 Q (F0 m 15 ls [.long z5, .int 0, .ref (G.2.2.1 229)]) := by
    intro H locs ls hW hl
    obtain ⟨m6, h9, hf⟩ := ob_inv hf
    refine g_llst hC hW zc_k229 zc_b229 zc_n229 h9 dL_isTaken_15 (fun H locs hW => ?_)
    refine lv_goto (tgt := 25) hx hb dL_isTaken_16 (by decide) ?_
    refine lv_iconst (v := 0) hx hb dL_isTaken_25 (by decide) ?_
    cases hf
    subst hQ
    exact g_yiret hC hW hr hlocks rfl rfl (Nat.le_of_ble_eq_true rfl) (Nat.le_of_ble_eq_true rfl) dL_isTaken_26
  replace hf := hg
  refine lv_if_eq (tgt := 14) hx hb dL_isTaken_7 (by decide) (fun c4 => ?_) (fun c4 => ?_)
  · have hf := a_if_t c4 hf
    refine lv_lconst (v := 0) hx hb dL_isTaken_14 (by decide) ?_
    cases hf
    exact hJ15 H locs ls hW (lv_sub hl [] rfl)
  · have hf := a_if_f c4 hf
    refine lv_lconst (v := 1) hx hb dL_isTaken_10 (by decide) ?_
    refine lv_goto (tgt := 15) hx hb dL_isTaken_11 (by decide) ?_
    cases hf
    exact hJ15 H locs ls hW (lv_sub hl [] rfl)
set_option maxRecDepth 20000 in
theorem gW_gain : GoodIn wsW_gain (wsV RL 77 RX9 yX9_gain wsX9_gain) := goodIn_app (goodIn_of _ (by decide +kernel)) (goodIn_sub (fun _ h => List.mem_cons_of_mem _ (List.mem_append_right _ h)) (by decide +kernel))
abbrev rmL_gain : Room := { frames := 8, cells := 2, slots := 12, locals := 132 }
set_option maxHeartbeats 4000000 in
set_option maxRecDepth 100000 in
theorem c_L_gain (l : Launch) (G : gG) (hst : l.stackTraces = false) {p1 : Int32} {me : gM} {r0 : Int32} {m0 : gM} (hf : f_L_gain p1 me = some (r0, m0)) : vx_Met l yL_gain wsW_gain rmL_gain (va_Pc [.ref (G.2.2.1 0), .int p1, .ref (G.2.2.1 229)] (g_WY ZC G me)) (g_Qi ZC G r0 m0) (g_XN G) 2 12 (g_A ZC G) := by
  refine vx_ofWH (cc := cL_gain) (maxL := 4) (ret := (some .int)) (hh := [(0, 9, 12, 13), (0, 9, 15, 17)]) (by decide) rfl ?_
  intro p e s m args below meth c s₁ B hml hv
  obtain ⟨rfl, ⟨hW0, hX0⟩, hN0⟩ := hv
  have hC : CallFix p m c cL_gain 4 s ([.ref (G.2.2.1 0), .int p1, .ref (G.2.2.1 229)] : List Value).toArray wsW_gain RL := ⟨B.exec, B.bytes, hml, findClass_of_methodNamed B.named, atoms_spec (ws := wsW_gain) B.pre⟩
  have hx := hC.1
  have hb := hC.2.1
  have hown := hC.2.2.2.1
  have hts := hC.2.2.2.2
  have hr := B.returns
  have hlocks := B.notSynchronized
  have hW := g_H_enter hW0
  have htab : c.exceptionTable.toList = tableOf [(0, 9, 12, 13), (0, 9, 15, 17)] := vx_table (x := yL_gain) B (hts _ List.mem_cons_self)
  have hl := lv_entry ([.ref (G.2.2.1 0), .int p1, .ref (G.2.2.1 229)]) (n := 4) (Nat.le_of_ble_eq_true rfl)
  rw [lg_entry_eq]
  generalize (lg_sl ([.ref (G.2.2.1 0), .int p1, .ref (G.2.2.1 229)]) ++ List.replicate (4 - (lg_sl ([.ref (G.2.2.1 0), .int p1, .ref (G.2.2.1 229)])).length) Slot.unset).toArray = ls at hl ⊢
  have hl : lv_has ls 4 [(0, .ref (G.2.2.1 0)), (1, .int p1), (2, .ref (G.2.2.1 229))] := hl
  obtain ⟨Q, hQ⟩ : ∃ Q, Q = vx_MQ below (g_Qi ZC G r0 m0) (g_XN G) ([.ref (G.2.2.1 0), .int p1, .ref (G.2.2.1 229)] : List Value).toArray s 2 12 (g_A ZC G) := ⟨_, rfl⟩
  refine g_goQ hQ ?_
  unfold f_L_gain at hf
  refine g_start hW (fun H locs hW => ?_)
  refine lv_aload_n hx hb dL_gain_0 rfl (lv_at hl 2 rfl) ?_
  refine lv_iconst (v := 0) hx hb dL_gain_1 (by decide) ?_
  refine lv_aload_n hx hb dL_gain_2 rfl (lv_at hl 0 rfl) ?_
  refine lv_iload_n hx hb dL_gain_3 rfl (lv_at hl 1 rfl) ?_
  obtain ⟨v9, hg, hfx, hfn⟩ := os_inv hf
  refine g_cXVi hC hW hX0 (o := 0) (ci := 9) (As := [.int p1]) (rest := [.int 0, .ref (G.2.2.1 229)]) zc_k0 zc_b0 rfl (c_X9_gain l G hst hg) (cwV 1 hts gW_gain rfl rfl rfl (by decide +kernel) ⟨(Nat.le_of_ble_eq_true rfl), (Nat.le_of_ble_eq_true rfl)⟩) rfl hl.1 rfl (Nat.le_of_ble_eq_true rfl) dL_gain_4 ⟨(Nat.le_of_ble_eq_true rfl), (Nat.le_of_ble_eq_true rfl)⟩ (fun k9 hk9 H locs q9 ce hW hq9 hcv hcl => ?_) (fun r3 hv9 H locs hW => ?_)
  · have hf := hfx _ hk9
    by_cases hk0 : k9 = 1
    · have hf := a_if_t hk0 hf
      subst hk0
      refine vx_catch (name := g_xn 1) (E := g_xn 1) hown (pre := []) (x := ⟨0, 9, 12, 13⟩) (suf := [⟨0, 9, 15, 17⟩]) (hsplit := htab) (fun z hz => by cases hz) (by decide) (by decide) (hts _ (by decide +kernel : Cond.classLink RL 13 (g_xn 1) ∈ wsW_gain)) (va_Nw.use rfl (hX0.2.2.1 _ (by decide +kernel : Cond.castable (g_xn 1) (g_xn 1) ∈ g_xw))) hq9 hcv hcl ?_
      refine lv_astore_n (lv' := [(3, .ref q9), (0, .ref (G.2.2.1 0)), (1, .int p1), (2, .ref (G.2.2.1 229))]) hx hb dL_gain_12 rfl hl (by decide) rfl (fun ls hl => ?_)
      refine lv_iconst (v := 1) hx hb dL_gain_13 (by decide) ?_
      cases hf
      subst hQ
      exact g_yiret hC hW hr hlocks rfl rfl (Nat.le_of_ble_eq_true rfl) (Nat.le_of_ble_eq_true rfl) dL_gain_14
    have hf := a_if_f hk0 hf
    by_cases hk1 : k9 = 3
    · have hf := a_if_t hk1 hf
      subst hk1
      refine vx_catch (name := g_xn 3) (E := g_xn 3) hown (pre := [⟨0, 9, 12, 13⟩]) (x := ⟨0, 9, 15, 17⟩) (suf := []) (hsplit := htab) (by intro z hz; rcases List.mem_cons.mp hz with rfl | hz; exact Or.inr ⟨by decide, g_xn 1, hts _ (by decide +kernel : Cond.classLink RL 13 (g_xn 1) ∈ wsW_gain), hN0.2.1⟩; cases hz) (by decide) (by decide) (hts _ (by decide +kernel : Cond.classLink RL 17 (g_xn 3) ∈ wsW_gain)) (va_Nw.use rfl (hX0.2.2.1 _ (by decide +kernel : Cond.castable (g_xn 3) (g_xn 3) ∈ g_xw))) hq9 hcv hcl ?_
      refine lv_astore_n (lv' := [(3, .ref q9), (0, .ref (G.2.2.1 0)), (1, .int p1), (2, .ref (G.2.2.1 229))]) hx hb dL_gain_15 rfl hl (by decide) rfl (fun ls hl => ?_)
      refine lv_iconst (v := 2) hx hb dL_gain_16 (by decide) ?_
      cases hf
      subst hQ
      exact g_yiret hC hW hr hlocks rfl rfl (Nat.le_of_ble_eq_true rfl) (Nat.le_of_ble_eq_true rfl) dL_gain_17
    have hf := a_if_f hk1 hf
    cases hf
  have hf := hfn _ hv9
  have hf := ob_inv1 hf
  refine lv_i2l (v := (r3).toInt64) hx hb dL_gain_7 rfl ?_
  obtain ⟨m4, h9, hf⟩ := ob_inv hf
  refine g_llst hC hW zc_k229 zc_b229 zc_n229 h9 dL_gain_8 (fun H locs hW => ?_)
  refine lv_goto (tgt := 18) hx hb dL_gain_9 (by decide) ?_
  refine lv_iconst (v := 0) hx hb dL_gain_18 (by decide) ?_
  cases hf
  subst hQ
  exact g_yiret hC hW hr hlocks rfl rfl (Nat.le_of_ble_eq_true rfl) (Nat.le_of_ble_eq_true rfl) dL_gain_19
set_option maxRecDepth 20000 in
theorem gW_worthAnew : GoodIn wsW_worthAnew (wsV RL 80 RX9 yX9_worthAnew wsX9_worthAnew) := goodIn_app (goodIn_of _ (by decide +kernel)) (goodIn_sub (fun _ h => List.mem_cons_of_mem _ (List.mem_append_right _ h)) (by decide +kernel))
abbrev rmL_worthAnew : Room := { frames := 8, cells := 1, slots := 6, locals := 130 }
set_option maxHeartbeats 4000000 in
set_option maxRecDepth 100000 in
theorem c_L_worthAnew (l : Launch) (G : gG) (hst : l.stackTraces = false)  {me : gM} {r0 : Int32} {m0 : gM} (hf : f_L_worthAnew me = some (r0, m0)) : vx_Met l yL_worthAnew wsW_worthAnew rmL_worthAnew (va_Pc [.ref (G.2.2.1 0), .ref (G.2.2.1 229)] (g_WY ZC G me)) (g_Qi ZC G r0 m0) (g_XN G) 1 6 (g_A ZC G) := by
  refine vx_ofWH (cc := cL_worthAnew) (maxL := 3) (ret := (some .int)) (hh := [(0, 8, 11, 17)]) (by decide) rfl ?_
  intro p e s m args below meth c s₁ B hml hv
  obtain ⟨rfl, ⟨hW0, hX0⟩, hN0⟩ := hv
  have hC : CallFix p m c cL_worthAnew 3 s ([.ref (G.2.2.1 0), .ref (G.2.2.1 229)] : List Value).toArray wsW_worthAnew RL := ⟨B.exec, B.bytes, hml, findClass_of_methodNamed B.named, atoms_spec (ws := wsW_worthAnew) B.pre⟩
  have hx := hC.1
  have hb := hC.2.1
  have hown := hC.2.2.2.1
  have hts := hC.2.2.2.2
  have hr := B.returns
  have hlocks := B.notSynchronized
  have hW := g_H_enter hW0
  have htab : c.exceptionTable.toList = tableOf [(0, 8, 11, 17)] := vx_table (x := yL_worthAnew) B (hts _ List.mem_cons_self)
  have hl := lv_entry ([.ref (G.2.2.1 0), .ref (G.2.2.1 229)]) (n := 3) (Nat.le_of_ble_eq_true rfl)
  rw [lg_entry_eq]
  generalize (lg_sl ([.ref (G.2.2.1 0), .ref (G.2.2.1 229)]) ++ List.replicate (3 - (lg_sl ([.ref (G.2.2.1 0), .ref (G.2.2.1 229)])).length) Slot.unset).toArray = ls at hl ⊢
  have hl : lv_has ls 3 [(0, .ref (G.2.2.1 0)), (1, .ref (G.2.2.1 229))] := hl
  obtain ⟨Q, hQ⟩ : ∃ Q, Q = vx_MQ below (g_Qi ZC G r0 m0) (g_XN G) ([.ref (G.2.2.1 0), .ref (G.2.2.1 229)] : List Value).toArray s 1 6 (g_A ZC G) := ⟨_, rfl⟩
  refine g_goQ hQ ?_
  unfold f_L_worthAnew at hf
  refine g_start hW (fun H locs hW => ?_)
  refine lv_aload_n hx hb dL_worthAnew_0 rfl (lv_at hl 1 rfl) ?_
  refine lv_iconst (v := 0) hx hb dL_worthAnew_1 (by decide) ?_
  refine lv_aload_n hx hb dL_worthAnew_2 rfl (lv_at hl 0 rfl) ?_
  obtain ⟨v9, hg, hfx, hfn⟩ := os_inv hf
  refine g_cXVi hC hW hX0 (o := 0) (ci := 9) (As := []) (rest := [.int 0, .ref (G.2.2.1 229)]) zc_k0 zc_b0 rfl (c_X9_worthAnew l G hst hg) (cwV 0 hts gW_worthAnew rfl rfl rfl (by decide +kernel) ⟨(Nat.le_of_ble_eq_true rfl), (Nat.le_of_ble_eq_true rfl)⟩) rfl hl.1 rfl (Nat.le_of_ble_eq_true rfl) dL_worthAnew_3 ⟨(Nat.le_of_ble_eq_true rfl), (Nat.le_of_ble_eq_true rfl)⟩ (fun k9 hk9 H locs q9 ce hW hq9 hcv hcl => ?_) (fun r3 hv9 H locs hW => ?_)
  · have hf := hfx _ hk9
    by_cases hk0 : k9 = 3
    · have hf := a_if_t hk0 hf
      subst hk0
      refine vx_catch (name := g_xn 3) (E := g_xn 3) hown (pre := []) (x := ⟨0, 8, 11, 17⟩) (suf := []) (hsplit := htab) (fun z hz => by cases hz) (by decide) (by decide) (hts _ (by decide +kernel : Cond.classLink RL 17 (g_xn 3) ∈ wsW_worthAnew)) (va_Nw.use rfl (hX0.2.2.1 _ (by decide +kernel : Cond.castable (g_xn 3) (g_xn 3) ∈ g_xw))) hq9 hcv hcl ?_
      refine lv_astore_n (lv' := [(2, .ref q9), (0, .ref (G.2.2.1 0)), (1, .ref (G.2.2.1 229))]) hx hb dL_worthAnew_11 rfl hl (by decide) rfl (fun ls hl => ?_)
      refine lv_iconst (v := 1) hx hb dL_worthAnew_12 (by decide) ?_
      cases hf
      subst hQ
      exact g_yiret hC hW hr hlocks rfl rfl (Nat.le_of_ble_eq_true rfl) (Nat.le_of_ble_eq_true rfl) dL_worthAnew_13
    have hf := a_if_f hk0 hf
    cases hf
  have hf := hfn _ hv9
  have hf := ob_inv1 hf
  refine lv_i2l (v := (r3).toInt64) hx hb dL_worthAnew_6 rfl ?_
  obtain ⟨m4, h9, hf⟩ := ob_inv hf
  refine g_llst hC hW zc_k229 zc_b229 zc_n229 h9 dL_worthAnew_7 (fun H locs hW => ?_)
  refine lv_goto (tgt := 14) hx hb dL_worthAnew_8 (by decide) ?_
  refine lv_iconst (v := 0) hx hb dL_worthAnew_14 (by decide) ?_
  cases hf
  subst hQ
  exact g_yiret hC hW hr hlocks rfl rfl (Nat.le_of_ble_eq_true rfl) (Nat.le_of_ble_eq_true rfl) dL_worthAnew_15
set_option maxRecDepth 20000 in
theorem gW_given : GoodIn wsW_given (wsV RL 83 RX9 yX9_given wsX9_given) := goodIn_app (goodIn_of _ (by decide +kernel)) (goodIn_sub (fun _ h => List.mem_cons_of_mem _ (List.mem_append_right _ h)) (by decide +kernel))
abbrev rmL_given : Room := { frames := 8, cells := 2, slots := 12, locals := 132 }
set_option maxHeartbeats 4000000 in
set_option maxRecDepth 100000 in
theorem c_L_given (l : Launch) (G : gG) (hst : l.stackTraces = false) {p1 : Int32} {me : gM} {r0 : Int32} {m0 : gM} (hf : f_L_given p1 me = some (r0, m0)) : vx_Met l yL_given wsW_given rmL_given (va_Pc [.ref (G.2.2.1 0), .int p1, .ref (G.2.2.1 229)] (g_WY ZC G me)) (g_Qi ZC G r0 m0) (g_XN G) 2 12 (g_A ZC G) := by
  refine vx_ofWH (cc := cL_given) (maxL := 4) (ret := (some .int)) (hh := [(0, 9, 12, 13), (0, 9, 15, 17)]) (by decide) rfl ?_
  intro p e s m args below meth c s₁ B hml hv
  obtain ⟨rfl, ⟨hW0, hX0⟩, hN0⟩ := hv
  have hC : CallFix p m c cL_given 4 s ([.ref (G.2.2.1 0), .int p1, .ref (G.2.2.1 229)] : List Value).toArray wsW_given RL := ⟨B.exec, B.bytes, hml, findClass_of_methodNamed B.named, atoms_spec (ws := wsW_given) B.pre⟩
  have hx := hC.1
  have hb := hC.2.1
  have hown := hC.2.2.2.1
  have hts := hC.2.2.2.2
  have hr := B.returns
  have hlocks := B.notSynchronized
  have hW := g_H_enter hW0
  have htab : c.exceptionTable.toList = tableOf [(0, 9, 12, 13), (0, 9, 15, 17)] := vx_table (x := yL_given) B (hts _ List.mem_cons_self)
  have hl := lv_entry ([.ref (G.2.2.1 0), .int p1, .ref (G.2.2.1 229)]) (n := 4) (Nat.le_of_ble_eq_true rfl)
  rw [lg_entry_eq]
  generalize (lg_sl ([.ref (G.2.2.1 0), .int p1, .ref (G.2.2.1 229)]) ++ List.replicate (4 - (lg_sl ([.ref (G.2.2.1 0), .int p1, .ref (G.2.2.1 229)])).length) Slot.unset).toArray = ls at hl ⊢
  have hl : lv_has ls 4 [(0, .ref (G.2.2.1 0)), (1, .int p1), (2, .ref (G.2.2.1 229))] := hl
  obtain ⟨Q, hQ⟩ : ∃ Q, Q = vx_MQ below (g_Qi ZC G r0 m0) (g_XN G) ([.ref (G.2.2.1 0), .int p1, .ref (G.2.2.1 229)] : List Value).toArray s 2 12 (g_A ZC G) := ⟨_, rfl⟩
  refine g_goQ hQ ?_
  unfold f_L_given at hf
  refine g_start hW (fun H locs hW => ?_)
  refine lv_aload_n hx hb dL_given_0 rfl (lv_at hl 2 rfl) ?_
  refine lv_iconst (v := 0) hx hb dL_given_1 (by decide) ?_
  refine lv_aload_n hx hb dL_given_2 rfl (lv_at hl 0 rfl) ?_
  refine lv_iload_n hx hb dL_given_3 rfl (lv_at hl 1 rfl) ?_
  obtain ⟨v9, hg, hfx, hfn⟩ := os_inv hf
  refine g_cXVi hC hW hX0 (o := 0) (ci := 9) (As := [.int p1]) (rest := [.int 0, .ref (G.2.2.1 229)]) zc_k0 zc_b0 rfl (c_X9_given l G hst hg) (cwV 1 hts gW_given rfl rfl rfl (by decide +kernel) ⟨(Nat.le_of_ble_eq_true rfl), (Nat.le_of_ble_eq_true rfl)⟩) rfl hl.1 rfl (Nat.le_of_ble_eq_true rfl) dL_given_4 ⟨(Nat.le_of_ble_eq_true rfl), (Nat.le_of_ble_eq_true rfl)⟩ (fun k9 hk9 H locs q9 ce hW hq9 hcv hcl => ?_) (fun r3 hv9 H locs hW => ?_)
  · have hf := hfx _ hk9
    by_cases hk0 : k9 = 1
    · have hf := a_if_t hk0 hf
      subst hk0
      refine vx_catch (name := g_xn 1) (E := g_xn 1) hown (pre := []) (x := ⟨0, 9, 12, 13⟩) (suf := [⟨0, 9, 15, 17⟩]) (hsplit := htab) (fun z hz => by cases hz) (by decide) (by decide) (hts _ (by decide +kernel : Cond.classLink RL 13 (g_xn 1) ∈ wsW_given)) (va_Nw.use rfl (hX0.2.2.1 _ (by decide +kernel : Cond.castable (g_xn 1) (g_xn 1) ∈ g_xw))) hq9 hcv hcl ?_
      refine lv_astore_n (lv' := [(3, .ref q9), (0, .ref (G.2.2.1 0)), (1, .int p1), (2, .ref (G.2.2.1 229))]) hx hb dL_given_12 rfl hl (by decide) rfl (fun ls hl => ?_)
      refine lv_iconst (v := 1) hx hb dL_given_13 (by decide) ?_
      cases hf
      subst hQ
      exact g_yiret hC hW hr hlocks rfl rfl (Nat.le_of_ble_eq_true rfl) (Nat.le_of_ble_eq_true rfl) dL_given_14
    have hf := a_if_f hk0 hf
    by_cases hk1 : k9 = 3
    · have hf := a_if_t hk1 hf
      subst hk1
      refine vx_catch (name := g_xn 3) (E := g_xn 3) hown (pre := [⟨0, 9, 12, 13⟩]) (x := ⟨0, 9, 15, 17⟩) (suf := []) (hsplit := htab) (by intro z hz; rcases List.mem_cons.mp hz with rfl | hz; exact Or.inr ⟨by decide, g_xn 1, hts _ (by decide +kernel : Cond.classLink RL 13 (g_xn 1) ∈ wsW_given), hN0.2.1⟩; cases hz) (by decide) (by decide) (hts _ (by decide +kernel : Cond.classLink RL 17 (g_xn 3) ∈ wsW_given)) (va_Nw.use rfl (hX0.2.2.1 _ (by decide +kernel : Cond.castable (g_xn 3) (g_xn 3) ∈ g_xw))) hq9 hcv hcl ?_
      refine lv_astore_n (lv' := [(3, .ref q9), (0, .ref (G.2.2.1 0)), (1, .int p1), (2, .ref (G.2.2.1 229))]) hx hb dL_given_15 rfl hl (by decide) rfl (fun ls hl => ?_)
      refine lv_iconst (v := 2) hx hb dL_given_16 (by decide) ?_
      cases hf
      subst hQ
      exact g_yiret hC hW hr hlocks rfl rfl (Nat.le_of_ble_eq_true rfl) (Nat.le_of_ble_eq_true rfl) dL_given_17
    have hf := a_if_f hk1 hf
    cases hf
  have hf := hfn _ hv9
  have hf := ob_inv1 hf
  refine lv_i2l (v := (r3).toInt64) hx hb dL_given_7 rfl ?_
  obtain ⟨m4, h9, hf⟩ := ob_inv hf
  refine g_llst hC hW zc_k229 zc_b229 zc_n229 h9 dL_given_8 (fun H locs hW => ?_)
  refine lv_goto (tgt := 18) hx hb dL_given_9 (by decide) ?_
  refine lv_iconst (v := 0) hx hb dL_given_18 (by decide) ?_
  cases hf
  subst hQ
  exact g_yiret hC hW hr hlocks rfl rfl (Nat.le_of_ble_eq_true rfl) (Nat.le_of_ble_eq_true rfl) dL_given_19
set_option maxRecDepth 20000 in
theorem gW_left : GoodIn wsW_left (wsV RL 86 RX9 yX9_left wsX9_left) := goodIn_app (goodIn_of _ (by decide +kernel)) (goodIn_sub (fun _ h => List.mem_cons_of_mem _ (List.mem_append_right _ h)) (by decide +kernel))
abbrev rmL_left : Room := { frames := 8, cells := 1, slots := 6, locals := 132 }
set_option maxHeartbeats 4000000 in
set_option maxRecDepth 100000 in
theorem c_L_left (l : Launch) (G : gG) (hst : l.stackTraces = false) {p1 : Int32} {me : gM} {r0 : Int32} {m0 : gM} (hf : f_L_left p1 me = some (r0, m0)) : vx_Met l yL_left wsW_left rmL_left (va_Pc [.ref (G.2.2.1 0), .int p1, .ref (G.2.2.1 229)] (g_WY ZC G me)) (g_Qi ZC G r0 m0) (g_XN G) 1 6 (g_A ZC G) := by
  refine vx_ofWH (cc := cL_left) (maxL := 4) (ret := (some .int)) (hh := [(0, 9, 12, 13)]) (by decide) rfl ?_
  intro p e s m args below meth c s₁ B hml hv
  obtain ⟨rfl, ⟨hW0, hX0⟩, hN0⟩ := hv
  have hC : CallFix p m c cL_left 4 s ([.ref (G.2.2.1 0), .int p1, .ref (G.2.2.1 229)] : List Value).toArray wsW_left RL := ⟨B.exec, B.bytes, hml, findClass_of_methodNamed B.named, atoms_spec (ws := wsW_left) B.pre⟩
  have hx := hC.1
  have hb := hC.2.1
  have hown := hC.2.2.2.1
  have hts := hC.2.2.2.2
  have hr := B.returns
  have hlocks := B.notSynchronized
  have hW := g_H_enter hW0
  have htab : c.exceptionTable.toList = tableOf [(0, 9, 12, 13)] := vx_table (x := yL_left) B (hts _ List.mem_cons_self)
  have hl := lv_entry ([.ref (G.2.2.1 0), .int p1, .ref (G.2.2.1 229)]) (n := 4) (Nat.le_of_ble_eq_true rfl)
  rw [lg_entry_eq]
  generalize (lg_sl ([.ref (G.2.2.1 0), .int p1, .ref (G.2.2.1 229)]) ++ List.replicate (4 - (lg_sl ([.ref (G.2.2.1 0), .int p1, .ref (G.2.2.1 229)])).length) Slot.unset).toArray = ls at hl ⊢
  have hl : lv_has ls 4 [(0, .ref (G.2.2.1 0)), (1, .int p1), (2, .ref (G.2.2.1 229))] := hl
  obtain ⟨Q, hQ⟩ : ∃ Q, Q = vx_MQ below (g_Qi ZC G r0 m0) (g_XN G) ([.ref (G.2.2.1 0), .int p1, .ref (G.2.2.1 229)] : List Value).toArray s 1 6 (g_A ZC G) := ⟨_, rfl⟩
  refine g_goQ hQ ?_
  unfold f_L_left at hf
  refine g_start hW (fun H locs hW => ?_)
  refine lv_aload_n hx hb dL_left_0 rfl (lv_at hl 2 rfl) ?_
  refine lv_iconst (v := 0) hx hb dL_left_1 (by decide) ?_
  refine lv_aload_n hx hb dL_left_2 rfl (lv_at hl 0 rfl) ?_
  refine lv_iload_n hx hb dL_left_3 rfl (lv_at hl 1 rfl) ?_
  obtain ⟨v9, hg, hfx, hfn⟩ := os_inv hf
  refine g_cXVi hC hW hX0 (o := 0) (ci := 9) (As := [.int p1]) (rest := [.int 0, .ref (G.2.2.1 229)]) zc_k0 zc_b0 rfl (c_X9_left l G hst hg) (cwV 1 hts gW_left rfl rfl rfl (by decide +kernel) ⟨(Nat.le_of_ble_eq_true rfl), (Nat.le_of_ble_eq_true rfl)⟩) rfl hl.1 rfl (Nat.le_of_ble_eq_true rfl) dL_left_4 ⟨(Nat.le_of_ble_eq_true rfl), (Nat.le_of_ble_eq_true rfl)⟩ (fun k9 hk9 H locs q9 ce hW hq9 hcv hcl => ?_) (fun r3 hv9 H locs hW => ?_)
  · have hf := hfx _ hk9
    by_cases hk0 : k9 = 1
    · have hf := a_if_t hk0 hf
      subst hk0
      refine vx_catch (name := g_xn 1) (E := g_xn 1) hown (pre := []) (x := ⟨0, 9, 12, 13⟩) (suf := []) (hsplit := htab) (fun z hz => by cases hz) (by decide) (by decide) (hts _ (by decide +kernel : Cond.classLink RL 13 (g_xn 1) ∈ wsW_left)) (va_Nw.use rfl (hX0.2.2.1 _ (by decide +kernel : Cond.castable (g_xn 1) (g_xn 1) ∈ g_xw))) hq9 hcv hcl ?_
      refine lv_astore_n (lv' := [(3, .ref q9), (0, .ref (G.2.2.1 0)), (1, .int p1), (2, .ref (G.2.2.1 229))]) hx hb dL_left_12 rfl hl (by decide) rfl (fun ls hl => ?_)
      refine lv_iconst (v := 1) hx hb dL_left_13 (by decide) ?_
      cases hf
      subst hQ
      exact g_yiret hC hW hr hlocks rfl rfl (Nat.le_of_ble_eq_true rfl) (Nat.le_of_ble_eq_true rfl) dL_left_14
    have hf := a_if_f hk0 hf
    cases hf
  have hf := hfn _ hv9
  have hf := ob_inv1 hf
  refine lv_i2l (v := (r3).toInt64) hx hb dL_left_7 rfl ?_
  obtain ⟨m4, h9, hf⟩ := ob_inv hf
  refine g_llst hC hW zc_k229 zc_b229 zc_n229 h9 dL_left_8 (fun H locs hW => ?_)
  refine lv_goto (tgt := 15) hx hb dL_left_9 (by decide) ?_
  refine lv_iconst (v := 0) hx hb dL_left_15 (by decide) ?_
  cases hf
  subst hQ
  exact g_yiret hC hW hr hlocks rfl rfl (Nat.le_of_ble_eq_true rfl) (Nat.le_of_ble_eq_true rfl) dL_left_16
set_option maxRecDepth 20000 in
theorem gW_plan : GoodIn wsW_plan (wsV RL 89 RX9 yX9_plan wsX9_plan) := goodIn_app (goodIn_of _ (by decide +kernel)) (goodIn_sub (fun _ h => List.mem_cons_of_mem _ (List.mem_append_right _ h)) (by decide +kernel))
abbrev rmL_plan : Room := { frames := 8, cells := 4, slots := 24, locals := 135 }
set_option maxHeartbeats 4000000 in
set_option maxRecDepth 100000 in
theorem c_L_plan (l : Launch) (G : gG) (hst : l.stackTraces = false) {p1 : Int32} {p2 : Int32} {p3 : Int32} {p4 : Int32} {me : gM} {r0 : Int32} {m0 : gM} (hf : f_L_plan p1 p2 p3 p4 me = some (r0, m0)) : vx_Met l yL_plan wsW_plan rmL_plan (va_Pc [.ref (G.2.2.1 0), .int p1, .int p2, .int p3, .int p4, .ref (G.2.2.1 229)] (g_WY ZC G me)) (g_Qi ZC G r0 m0) (g_XN G) 4 24 (g_A ZC G) := by
  refine vx_ofWH (cc := cL_plan) (maxL := 7) (ret := (some .int)) (hh := [(0, 14, 17, 13)]) (by decide) rfl ?_
  intro p e s m args below meth c s₁ B hml hv
  obtain ⟨rfl, ⟨hW0, hX0⟩, hN0⟩ := hv
  have hC : CallFix p m c cL_plan 7 s ([.ref (G.2.2.1 0), .int p1, .int p2, .int p3, .int p4, .ref (G.2.2.1 229)] : List Value).toArray wsW_plan RL := ⟨B.exec, B.bytes, hml, findClass_of_methodNamed B.named, atoms_spec (ws := wsW_plan) B.pre⟩
  have hx := hC.1
  have hb := hC.2.1
  have hown := hC.2.2.2.1
  have hts := hC.2.2.2.2
  have hr := B.returns
  have hlocks := B.notSynchronized
  have hW := g_H_enter hW0
  have htab : c.exceptionTable.toList = tableOf [(0, 14, 17, 13)] := vx_table (x := yL_plan) B (hts _ List.mem_cons_self)
  have hl := lv_entry ([.ref (G.2.2.1 0), .int p1, .int p2, .int p3, .int p4, .ref (G.2.2.1 229)]) (n := 7) (Nat.le_of_ble_eq_true rfl)
  rw [lg_entry_eq]
  generalize (lg_sl ([.ref (G.2.2.1 0), .int p1, .int p2, .int p3, .int p4, .ref (G.2.2.1 229)]) ++ List.replicate (7 - (lg_sl ([.ref (G.2.2.1 0), .int p1, .int p2, .int p3, .int p4, .ref (G.2.2.1 229)])).length) Slot.unset).toArray = ls at hl ⊢
  have hl : lv_has ls 7 [(0, .ref (G.2.2.1 0)), (1, .int p1), (2, .int p2), (3, .int p3), (4, .int p4), (5, .ref (G.2.2.1 229))] := hl
  obtain ⟨Q, hQ⟩ : ∃ Q, Q = vx_MQ below (g_Qi ZC G r0 m0) (g_XN G) ([.ref (G.2.2.1 0), .int p1, .int p2, .int p3, .int p4, .ref (G.2.2.1 229)] : List Value).toArray s 4 24 (g_A ZC G) := ⟨_, rfl⟩
  refine g_goQ hQ ?_
  unfold f_L_plan at hf
  refine g_start hW (fun H locs hW => ?_)
  refine lv_aload hx hb dL_plan_0 (lv_at hl 5 rfl) ?_
  refine lv_iconst (v := 0) hx hb dL_plan_2 (by decide) ?_
  refine lv_aload_n hx hb dL_plan_3 rfl (lv_at hl 0 rfl) ?_
  refine lv_iload_n hx hb dL_plan_4 rfl (lv_at hl 1 rfl) ?_
  refine lv_iload_n hx hb dL_plan_5 rfl (lv_at hl 2 rfl) ?_
  refine lv_iload_n hx hb dL_plan_6 rfl (lv_at hl 3 rfl) ?_
  refine lv_iload hx hb dL_plan_7 (lv_at hl 4 rfl) ?_
  obtain ⟨v9, hg, hfx, hfn⟩ := os_inv hf
  refine g_cXVi hC hW hX0 (o := 0) (ci := 9) (As := [.int p1, .int p2, .int p3, .int p4]) (rest := [.int 0, .ref (G.2.2.1 229)]) zc_k0 zc_b0 rfl (c_X9_plan l G hst hg) (cwV 4 hts gW_plan rfl rfl rfl (by decide +kernel) ⟨(Nat.le_of_ble_eq_true rfl), (Nat.le_of_ble_eq_true rfl)⟩) rfl hl.1 rfl (Nat.le_of_ble_eq_true rfl) dL_plan_9 ⟨(Nat.le_of_ble_eq_true rfl), (Nat.le_of_ble_eq_true rfl)⟩ (fun k9 hk9 H locs q9 ce hW hq9 hcv hcl => ?_) (fun r3 hv9 H locs hW => ?_)
  · have hf := hfx _ hk9
    by_cases hk0 : k9 = 1
    · have hf := a_if_t hk0 hf
      subst hk0
      refine vx_catch (name := g_xn 1) (E := g_xn 1) hown (pre := []) (x := ⟨0, 14, 17, 13⟩) (suf := []) (hsplit := htab) (fun z hz => by cases hz) (by decide) (by decide) (hts _ (by decide +kernel : Cond.classLink RL 13 (g_xn 1) ∈ wsW_plan)) (va_Nw.use rfl (hX0.2.2.1 _ (by decide +kernel : Cond.castable (g_xn 1) (g_xn 1) ∈ g_xw))) hq9 hcv hcl ?_
      refine lv_astore (lv' := [(6, .ref q9), (0, .ref (G.2.2.1 0)), (1, .int p1), (2, .int p2), (3, .int p3), (4, .int p4), (5, .ref (G.2.2.1 229))]) hx hb dL_plan_17 hl (by decide) rfl (fun ls hl => ?_)
      refine lv_iconst (v := 1) hx hb dL_plan_19 (by decide) ?_
      cases hf
      subst hQ
      exact g_yiret hC hW hr hlocks rfl rfl (Nat.le_of_ble_eq_true rfl) (Nat.le_of_ble_eq_true rfl) dL_plan_20
    have hf := a_if_f hk0 hf
    cases hf
  have hf := hfn _ hv9
  have hf := ob_inv1 hf
  refine lv_i2l (v := (r3).toInt64) hx hb dL_plan_12 rfl ?_
  obtain ⟨m4, h9, hf⟩ := ob_inv hf
  refine g_llst hC hW zc_k229 zc_b229 zc_n229 h9 dL_plan_13 (fun H locs hW => ?_)
  refine lv_goto (tgt := 21) hx hb dL_plan_14 (by decide) ?_
  refine lv_iconst (v := 0) hx hb dL_plan_21 (by decide) ?_
  cases hf
  subst hQ
  exact g_yiret hC hW hr hlocks rfl rfl (Nat.le_of_ble_eq_true rfl) (Nat.le_of_ble_eq_true rfl) dL_plan_22
set_option maxRecDepth 20000 in
theorem gW_gap : GoodIn wsW_gap (wsV RL 93 RX9 yX9_gap wsX9_gap) := goodIn_app (goodIn_of _ (by decide +kernel)) (goodIn_sub (fun _ h => List.mem_cons_of_mem _ (List.mem_append_right _ h)) (by decide +kernel))
abbrev rmL_gap : Room := { frames := 8, cells := 2, slots := 12, locals := 133 }
set_option maxHeartbeats 4000000 in
set_option maxRecDepth 100000 in
theorem c_L_gap (l : Launch) (G : gG) (hst : l.stackTraces = false) {p1 : Int32} {p2 : Int32} {me : gM} {r0 : Int32} {m0 : gM} (hf : f_L_gap p1 p2 me = some (r0, m0)) : vx_Met l yL_gap wsW_gap rmL_gap (va_Pc [.ref (G.2.2.1 0), .int p1, .int p2, .ref (G.2.2.1 229)] (g_WY ZC G me)) (g_Qi ZC G r0 m0) (g_XN G) 2 12 (g_A ZC G) := by
  refine vx_ofWH (cc := cL_gap) (maxL := 5) (ret := (some .int)) (hh := [(0, 10, 13, 13)]) (by decide) rfl ?_
  intro p e s m args below meth c s₁ B hml hv
  obtain ⟨rfl, ⟨hW0, hX0⟩, hN0⟩ := hv
  have hC : CallFix p m c cL_gap 5 s ([.ref (G.2.2.1 0), .int p1, .int p2, .ref (G.2.2.1 229)] : List Value).toArray wsW_gap RL := ⟨B.exec, B.bytes, hml, findClass_of_methodNamed B.named, atoms_spec (ws := wsW_gap) B.pre⟩
  have hx := hC.1
  have hb := hC.2.1
  have hown := hC.2.2.2.1
  have hts := hC.2.2.2.2
  have hr := B.returns
  have hlocks := B.notSynchronized
  have hW := g_H_enter hW0
  have htab : c.exceptionTable.toList = tableOf [(0, 10, 13, 13)] := vx_table (x := yL_gap) B (hts _ List.mem_cons_self)
  have hl := lv_entry ([.ref (G.2.2.1 0), .int p1, .int p2, .ref (G.2.2.1 229)]) (n := 5) (Nat.le_of_ble_eq_true rfl)
  rw [lg_entry_eq]
  generalize (lg_sl ([.ref (G.2.2.1 0), .int p1, .int p2, .ref (G.2.2.1 229)]) ++ List.replicate (5 - (lg_sl ([.ref (G.2.2.1 0), .int p1, .int p2, .ref (G.2.2.1 229)])).length) Slot.unset).toArray = ls at hl ⊢
  have hl : lv_has ls 5 [(0, .ref (G.2.2.1 0)), (1, .int p1), (2, .int p2), (3, .ref (G.2.2.1 229))] := hl
  obtain ⟨Q, hQ⟩ : ∃ Q, Q = vx_MQ below (g_Qi ZC G r0 m0) (g_XN G) ([.ref (G.2.2.1 0), .int p1, .int p2, .ref (G.2.2.1 229)] : List Value).toArray s 2 12 (g_A ZC G) := ⟨_, rfl⟩
  refine g_goQ hQ ?_
  unfold f_L_gap at hf
  refine g_start hW (fun H locs hW => ?_)
  refine lv_aload_n hx hb dL_gap_0 rfl (lv_at hl 3 rfl) ?_
  refine lv_iconst (v := 0) hx hb dL_gap_1 (by decide) ?_
  refine lv_aload_n hx hb dL_gap_2 rfl (lv_at hl 0 rfl) ?_
  refine lv_iload_n hx hb dL_gap_3 rfl (lv_at hl 1 rfl) ?_
  refine lv_iload_n hx hb dL_gap_4 rfl (lv_at hl 2 rfl) ?_
  obtain ⟨v9, hg, hfx, hfn⟩ := os_inv hf
  refine g_cXVi hC hW hX0 (o := 0) (ci := 9) (As := [.int p1, .int p2]) (rest := [.int 0, .ref (G.2.2.1 229)]) zc_k0 zc_b0 rfl (c_X9_gap l G hst hg) (cwV 2 hts gW_gap rfl rfl rfl (by decide +kernel) ⟨(Nat.le_of_ble_eq_true rfl), (Nat.le_of_ble_eq_true rfl)⟩) rfl hl.1 rfl (Nat.le_of_ble_eq_true rfl) dL_gap_5 ⟨(Nat.le_of_ble_eq_true rfl), (Nat.le_of_ble_eq_true rfl)⟩ (fun k9 hk9 H locs q9 ce hW hq9 hcv hcl => ?_) (fun r3 hv9 H locs hW => ?_)
  · have hf := hfx _ hk9
    by_cases hk0 : k9 = 1
    · have hf := a_if_t hk0 hf
      subst hk0
      refine vx_catch (name := g_xn 1) (E := g_xn 1) hown (pre := []) (x := ⟨0, 10, 13, 13⟩) (suf := []) (hsplit := htab) (fun z hz => by cases hz) (by decide) (by decide) (hts _ (by decide +kernel : Cond.classLink RL 13 (g_xn 1) ∈ wsW_gap)) (va_Nw.use rfl (hX0.2.2.1 _ (by decide +kernel : Cond.castable (g_xn 1) (g_xn 1) ∈ g_xw))) hq9 hcv hcl ?_
      refine lv_astore (lv' := [(4, .ref q9), (0, .ref (G.2.2.1 0)), (1, .int p1), (2, .int p2), (3, .ref (G.2.2.1 229))]) hx hb dL_gap_13 hl (by decide) rfl (fun ls hl => ?_)
      refine lv_iconst (v := 1) hx hb dL_gap_15 (by decide) ?_
      cases hf
      subst hQ
      exact g_yiret hC hW hr hlocks rfl rfl (Nat.le_of_ble_eq_true rfl) (Nat.le_of_ble_eq_true rfl) dL_gap_16
    have hf := a_if_f hk0 hf
    cases hf
  have hf := hfn _ hv9
  have hf := ob_inv1 hf
  refine lv_i2l (v := (r3).toInt64) hx hb dL_gap_8 rfl ?_
  obtain ⟨m4, h9, hf⟩ := ob_inv hf
  refine g_llst hC hW zc_k229 zc_b229 zc_n229 h9 dL_gap_9 (fun H locs hW => ?_)
  refine lv_goto (tgt := 17) hx hb dL_gap_10 (by decide) ?_
  refine lv_iconst (v := 0) hx hb dL_gap_17 (by decide) ?_
  cases hf
  subst hQ
  exact g_yiret hC hW hr hlocks rfl rfl (Nat.le_of_ble_eq_true rfl) (Nat.le_of_ble_eq_true rfl) dL_gap_18
set_option maxRecDepth 20000 in
theorem gW_gapPrice : GoodIn wsW_gapPrice (wsV RL 96 RX9 yX9_gapPrice wsX9_gapPrice) := goodIn_app (goodIn_of _ (by decide +kernel)) (goodIn_sub (fun _ h => List.mem_cons_of_mem _ (List.mem_append_right _ h)) (by decide +kernel))
abbrev rmL_gapPrice : Room := { frames := 8, cells := 2, slots := 12, locals := 135 }
set_option maxHeartbeats 4000000 in
set_option maxRecDepth 100000 in
theorem c_L_gapPrice (l : Launch) (G : gG) (hst : l.stackTraces = false) {p1 : Int32} {p2 : Int32} {me : gM} {r0 : Int32} {m0 : gM} (hf : f_L_gapPrice p1 p2 me = some (r0, m0)) : vx_Met l yL_gapPrice wsW_gapPrice rmL_gapPrice (va_Pc [.ref (G.2.2.1 0), .int p1, .int p2, .ref (G.2.2.1 229)] (g_WY ZC G me)) (g_Qi ZC G r0 m0) (g_XN G) 2 12 (g_A ZC G) := by
  refine vx_ofWH (cc := cL_gapPrice) (maxL := 5) (ret := (some .int)) (hh := [(0, 10, 13, 13)]) (by decide) rfl ?_
  intro p e s m args below meth c s₁ B hml hv
  obtain ⟨rfl, ⟨hW0, hX0⟩, hN0⟩ := hv
  have hC : CallFix p m c cL_gapPrice 5 s ([.ref (G.2.2.1 0), .int p1, .int p2, .ref (G.2.2.1 229)] : List Value).toArray wsW_gapPrice RL := ⟨B.exec, B.bytes, hml, findClass_of_methodNamed B.named, atoms_spec (ws := wsW_gapPrice) B.pre⟩
  have hx := hC.1
  have hb := hC.2.1
  have hown := hC.2.2.2.1
  have hts := hC.2.2.2.2
  have hr := B.returns
  have hlocks := B.notSynchronized
  have hW := g_H_enter hW0
  have htab : c.exceptionTable.toList = tableOf [(0, 10, 13, 13)] := vx_table (x := yL_gapPrice) B (hts _ List.mem_cons_self)
  have hl := lv_entry ([.ref (G.2.2.1 0), .int p1, .int p2, .ref (G.2.2.1 229)]) (n := 5) (Nat.le_of_ble_eq_true rfl)
  rw [lg_entry_eq]
  generalize (lg_sl ([.ref (G.2.2.1 0), .int p1, .int p2, .ref (G.2.2.1 229)]) ++ List.replicate (5 - (lg_sl ([.ref (G.2.2.1 0), .int p1, .int p2, .ref (G.2.2.1 229)])).length) Slot.unset).toArray = ls at hl ⊢
  have hl : lv_has ls 5 [(0, .ref (G.2.2.1 0)), (1, .int p1), (2, .int p2), (3, .ref (G.2.2.1 229))] := hl
  obtain ⟨Q, hQ⟩ : ∃ Q, Q = vx_MQ below (g_Qi ZC G r0 m0) (g_XN G) ([.ref (G.2.2.1 0), .int p1, .int p2, .ref (G.2.2.1 229)] : List Value).toArray s 2 12 (g_A ZC G) := ⟨_, rfl⟩
  refine g_goQ hQ ?_
  unfold f_L_gapPrice at hf
  refine g_start hW (fun H locs hW => ?_)
  refine lv_aload_n hx hb dL_gapPrice_0 rfl (lv_at hl 3 rfl) ?_
  refine lv_iconst (v := 0) hx hb dL_gapPrice_1 (by decide) ?_
  refine lv_aload_n hx hb dL_gapPrice_2 rfl (lv_at hl 0 rfl) ?_
  refine lv_iload_n hx hb dL_gapPrice_3 rfl (lv_at hl 1 rfl) ?_
  refine lv_iload_n hx hb dL_gapPrice_4 rfl (lv_at hl 2 rfl) ?_
  obtain ⟨v9, hg, hfx, hfn⟩ := os_inv hf
  refine g_cXVi hC hW hX0 (o := 0) (ci := 9) (As := [.int p1, .int p2]) (rest := [.int 0, .ref (G.2.2.1 229)]) zc_k0 zc_b0 rfl (c_X9_gapPrice l G hst hg) (cwV 2 hts gW_gapPrice rfl rfl rfl (by decide +kernel) ⟨(Nat.le_of_ble_eq_true rfl), (Nat.le_of_ble_eq_true rfl)⟩) rfl hl.1 rfl (Nat.le_of_ble_eq_true rfl) dL_gapPrice_5 ⟨(Nat.le_of_ble_eq_true rfl), (Nat.le_of_ble_eq_true rfl)⟩ (fun k9 hk9 H locs q9 ce hW hq9 hcv hcl => ?_) (fun r3 hv9 H locs hW => ?_)
  · have hf := hfx _ hk9
    by_cases hk0 : k9 = 1
    · have hf := a_if_t hk0 hf
      subst hk0
      refine vx_catch (name := g_xn 1) (E := g_xn 1) hown (pre := []) (x := ⟨0, 10, 13, 13⟩) (suf := []) (hsplit := htab) (fun z hz => by cases hz) (by decide) (by decide) (hts _ (by decide +kernel : Cond.classLink RL 13 (g_xn 1) ∈ wsW_gapPrice)) (va_Nw.use rfl (hX0.2.2.1 _ (by decide +kernel : Cond.castable (g_xn 1) (g_xn 1) ∈ g_xw))) hq9 hcv hcl ?_
      refine lv_astore (lv' := [(4, .ref q9), (0, .ref (G.2.2.1 0)), (1, .int p1), (2, .int p2), (3, .ref (G.2.2.1 229))]) hx hb dL_gapPrice_13 hl (by decide) rfl (fun ls hl => ?_)
      refine lv_iconst (v := 1) hx hb dL_gapPrice_15 (by decide) ?_
      cases hf
      subst hQ
      exact g_yiret hC hW hr hlocks rfl rfl (Nat.le_of_ble_eq_true rfl) (Nat.le_of_ble_eq_true rfl) dL_gapPrice_16
    have hf := a_if_f hk0 hf
    cases hf
  have hf := hfn _ hv9
  have hf := ob_inv1 hf
  refine lv_i2l (v := (r3).toInt64) hx hb dL_gapPrice_8 rfl ?_
  obtain ⟨m4, h9, hf⟩ := ob_inv hf
  refine g_llst hC hW zc_k229 zc_b229 zc_n229 h9 dL_gapPrice_9 (fun H locs hW => ?_)
  refine lv_goto (tgt := 17) hx hb dL_gapPrice_10 (by decide) ?_
  refine lv_iconst (v := 0) hx hb dL_gapPrice_17 (by decide) ?_
  cases hf
  subst hQ
  exact g_yiret hC hW hr hlocks rfl rfl (Nat.le_of_ble_eq_true rfl) (Nat.le_of_ble_eq_true rfl) dL_gapPrice_18
set_option maxRecDepth 20000 in
theorem gW_bill : GoodIn wsW_bill (wsV RL 99 RX9 yX9_bill wsX9_bill) := goodIn_app (goodIn_of _ (by decide +kernel)) (goodIn_sub (fun _ h => List.mem_cons_of_mem _ (List.mem_append_right _ h)) (by decide +kernel))
abbrev rmL_bill : Room := { frames := 8, cells := 2, slots := 12, locals := 140 }
set_option maxHeartbeats 4000000 in
set_option maxRecDepth 100000 in
theorem c_L_bill (l : Launch) (G : gG) (hst : l.stackTraces = false) {p1 : Int32} {p2 : Int32} {me : gM} {r0 : Int32} {m0 : gM} (hf : f_L_bill p1 p2 me = some (r0, m0)) : vx_Met l yL_bill wsW_bill rmL_bill (va_Pc [.ref (G.2.2.1 0), .int p1, .int p2, .ref (G.2.2.1 229)] (g_WY ZC G me)) (g_Qi ZC G r0 m0) (g_XN G) 2 12 (g_A ZC G) := by
  refine vx_ofWH (cc := cL_bill) (maxL := 5) (ret := (some .int)) (hh := [(0, 10, 13, 13)]) (by decide) rfl ?_
  intro p e s m args below meth c s₁ B hml hv
  obtain ⟨rfl, ⟨hW0, hX0⟩, hN0⟩ := hv
  have hC : CallFix p m c cL_bill 5 s ([.ref (G.2.2.1 0), .int p1, .int p2, .ref (G.2.2.1 229)] : List Value).toArray wsW_bill RL := ⟨B.exec, B.bytes, hml, findClass_of_methodNamed B.named, atoms_spec (ws := wsW_bill) B.pre⟩
  have hx := hC.1
  have hb := hC.2.1
  have hown := hC.2.2.2.1
  have hts := hC.2.2.2.2
  have hr := B.returns
  have hlocks := B.notSynchronized
  have hW := g_H_enter hW0
  have htab : c.exceptionTable.toList = tableOf [(0, 10, 13, 13)] := vx_table (x := yL_bill) B (hts _ List.mem_cons_self)
  have hl := lv_entry ([.ref (G.2.2.1 0), .int p1, .int p2, .ref (G.2.2.1 229)]) (n := 5) (Nat.le_of_ble_eq_true rfl)
  rw [lg_entry_eq]
  generalize (lg_sl ([.ref (G.2.2.1 0), .int p1, .int p2, .ref (G.2.2.1 229)]) ++ List.replicate (5 - (lg_sl ([.ref (G.2.2.1 0), .int p1, .int p2, .ref (G.2.2.1 229)])).length) Slot.unset).toArray = ls at hl ⊢
  have hl : lv_has ls 5 [(0, .ref (G.2.2.1 0)), (1, .int p1), (2, .int p2), (3, .ref (G.2.2.1 229))] := hl
  obtain ⟨Q, hQ⟩ : ∃ Q, Q = vx_MQ below (g_Qi ZC G r0 m0) (g_XN G) ([.ref (G.2.2.1 0), .int p1, .int p2, .ref (G.2.2.1 229)] : List Value).toArray s 2 12 (g_A ZC G) := ⟨_, rfl⟩
  refine g_goQ hQ ?_
  unfold f_L_bill at hf
  refine g_start hW (fun H locs hW => ?_)
  refine lv_aload_n hx hb dL_bill_0 rfl (lv_at hl 3 rfl) ?_
  refine lv_iconst (v := 0) hx hb dL_bill_1 (by decide) ?_
  refine lv_aload_n hx hb dL_bill_2 rfl (lv_at hl 0 rfl) ?_
  refine lv_iload_n hx hb dL_bill_3 rfl (lv_at hl 1 rfl) ?_
  refine lv_iload_n hx hb dL_bill_4 rfl (lv_at hl 2 rfl) ?_
  obtain ⟨v9, hg, hfx, hfn⟩ := os_inv hf
  refine g_cXVi hC hW hX0 (o := 0) (ci := 9) (As := [.int p1, .int p2]) (rest := [.int 0, .ref (G.2.2.1 229)]) zc_k0 zc_b0 rfl (c_X9_bill l G hst hg) (cwV 2 hts gW_bill rfl rfl rfl (by decide +kernel) ⟨(Nat.le_of_ble_eq_true rfl), (Nat.le_of_ble_eq_true rfl)⟩) rfl hl.1 rfl (Nat.le_of_ble_eq_true rfl) dL_bill_5 ⟨(Nat.le_of_ble_eq_true rfl), (Nat.le_of_ble_eq_true rfl)⟩ (fun k9 hk9 H locs q9 ce hW hq9 hcv hcl => ?_) (fun r3 hv9 H locs hW => ?_)
  · have hf := hfx _ hk9
    by_cases hk0 : k9 = 1
    · have hf := a_if_t hk0 hf
      subst hk0
      refine vx_catch (name := g_xn 1) (E := g_xn 1) hown (pre := []) (x := ⟨0, 10, 13, 13⟩) (suf := []) (hsplit := htab) (fun z hz => by cases hz) (by decide) (by decide) (hts _ (by decide +kernel : Cond.classLink RL 13 (g_xn 1) ∈ wsW_bill)) (va_Nw.use rfl (hX0.2.2.1 _ (by decide +kernel : Cond.castable (g_xn 1) (g_xn 1) ∈ g_xw))) hq9 hcv hcl ?_
      refine lv_astore (lv' := [(4, .ref q9), (0, .ref (G.2.2.1 0)), (1, .int p1), (2, .int p2), (3, .ref (G.2.2.1 229))]) hx hb dL_bill_13 hl (by decide) rfl (fun ls hl => ?_)
      refine lv_iconst (v := 1) hx hb dL_bill_15 (by decide) ?_
      cases hf
      subst hQ
      exact g_yiret hC hW hr hlocks rfl rfl (Nat.le_of_ble_eq_true rfl) (Nat.le_of_ble_eq_true rfl) dL_bill_16
    have hf := a_if_f hk0 hf
    cases hf
  have hf := hfn _ hv9
  have hf := ob_inv1 hf
  refine lv_i2l (v := (r3).toInt64) hx hb dL_bill_8 rfl ?_
  obtain ⟨m4, h9, hf⟩ := ob_inv hf
  refine g_llst hC hW zc_k229 zc_b229 zc_n229 h9 dL_bill_9 (fun H locs hW => ?_)
  refine lv_goto (tgt := 17) hx hb dL_bill_10 (by decide) ?_
  refine lv_iconst (v := 0) hx hb dL_bill_17 (by decide) ?_
  cases hf
  subst hQ
  exact g_yiret hC hW hr hlocks rfl rfl (Nat.le_of_ble_eq_true rfl) (Nat.le_of_ble_eq_true rfl) dL_bill_18
set_option maxRecDepth 20000 in
theorem gW_settled : GoodIn wsW_settled (wsV RL 102 RX9 yX9_settled wsX9_settled) := goodIn_app (goodIn_of _ (by decide +kernel)) (goodIn_sub (fun _ h => List.mem_cons_of_mem _ (List.mem_append_right _ h)) (by decide +kernel))
abbrev rmL_settled : Room := { frames := 8, cells := 2, slots := 12, locals := 133 }
set_option maxHeartbeats 4000000 in
set_option maxRecDepth 100000 in
theorem c_L_settled (l : Launch) (G : gG) (hst : l.stackTraces = false) {p1 : Int32} {p2 : Int32} {me : gM} {r0 : Int32} {m0 : gM} (hf : f_L_settled p1 p2 me = some (r0, m0)) : vx_Met l yL_settled wsW_settled rmL_settled (va_Pc [.ref (G.2.2.1 0), .int p1, .int p2, .ref (G.2.2.1 229)] (g_WY ZC G me)) (g_Qi ZC G r0 m0) (g_XN G) 2 12 (g_A ZC G) := by
  refine vx_ofWH (cc := cL_settled) (maxL := 5) (ret := (some .int)) (hh := [(0, 10, 13, 13)]) (by decide) rfl ?_
  intro p e s m args below meth c s₁ B hml hv
  obtain ⟨rfl, ⟨hW0, hX0⟩, hN0⟩ := hv
  have hC : CallFix p m c cL_settled 5 s ([.ref (G.2.2.1 0), .int p1, .int p2, .ref (G.2.2.1 229)] : List Value).toArray wsW_settled RL := ⟨B.exec, B.bytes, hml, findClass_of_methodNamed B.named, atoms_spec (ws := wsW_settled) B.pre⟩
  have hx := hC.1
  have hb := hC.2.1
  have hown := hC.2.2.2.1
  have hts := hC.2.2.2.2
  have hr := B.returns
  have hlocks := B.notSynchronized
  have hW := g_H_enter hW0
  have htab : c.exceptionTable.toList = tableOf [(0, 10, 13, 13)] := vx_table (x := yL_settled) B (hts _ List.mem_cons_self)
  have hl := lv_entry ([.ref (G.2.2.1 0), .int p1, .int p2, .ref (G.2.2.1 229)]) (n := 5) (Nat.le_of_ble_eq_true rfl)
  rw [lg_entry_eq]
  generalize (lg_sl ([.ref (G.2.2.1 0), .int p1, .int p2, .ref (G.2.2.1 229)]) ++ List.replicate (5 - (lg_sl ([.ref (G.2.2.1 0), .int p1, .int p2, .ref (G.2.2.1 229)])).length) Slot.unset).toArray = ls at hl ⊢
  have hl : lv_has ls 5 [(0, .ref (G.2.2.1 0)), (1, .int p1), (2, .int p2), (3, .ref (G.2.2.1 229))] := hl
  obtain ⟨Q, hQ⟩ : ∃ Q, Q = vx_MQ below (g_Qi ZC G r0 m0) (g_XN G) ([.ref (G.2.2.1 0), .int p1, .int p2, .ref (G.2.2.1 229)] : List Value).toArray s 2 12 (g_A ZC G) := ⟨_, rfl⟩
  refine g_goQ hQ ?_
  unfold f_L_settled at hf
  refine g_start hW (fun H locs hW => ?_)
  refine lv_aload_n hx hb dL_settled_0 rfl (lv_at hl 3 rfl) ?_
  refine lv_iconst (v := 0) hx hb dL_settled_1 (by decide) ?_
  refine lv_aload_n hx hb dL_settled_2 rfl (lv_at hl 0 rfl) ?_
  refine lv_iload_n hx hb dL_settled_3 rfl (lv_at hl 1 rfl) ?_
  refine lv_iload_n hx hb dL_settled_4 rfl (lv_at hl 2 rfl) ?_
  obtain ⟨v9, hg, hfx, hfn⟩ := os_inv hf
  refine g_cXVi hC hW hX0 (o := 0) (ci := 9) (As := [.int p1, .int p2]) (rest := [.int 0, .ref (G.2.2.1 229)]) zc_k0 zc_b0 rfl (c_X9_settled l G hst hg) (cwV 2 hts gW_settled rfl rfl rfl (by decide +kernel) ⟨(Nat.le_of_ble_eq_true rfl), (Nat.le_of_ble_eq_true rfl)⟩) rfl hl.1 rfl (Nat.le_of_ble_eq_true rfl) dL_settled_5 ⟨(Nat.le_of_ble_eq_true rfl), (Nat.le_of_ble_eq_true rfl)⟩ (fun k9 hk9 H locs q9 ce hW hq9 hcv hcl => ?_) (fun r3 hv9 H locs hW => ?_)
  · have hf := hfx _ hk9
    by_cases hk0 : k9 = 1
    · have hf := a_if_t hk0 hf
      subst hk0
      refine vx_catch (name := g_xn 1) (E := g_xn 1) hown (pre := []) (x := ⟨0, 10, 13, 13⟩) (suf := []) (hsplit := htab) (fun z hz => by cases hz) (by decide) (by decide) (hts _ (by decide +kernel : Cond.classLink RL 13 (g_xn 1) ∈ wsW_settled)) (va_Nw.use rfl (hX0.2.2.1 _ (by decide +kernel : Cond.castable (g_xn 1) (g_xn 1) ∈ g_xw))) hq9 hcv hcl ?_
      refine lv_astore (lv' := [(4, .ref q9), (0, .ref (G.2.2.1 0)), (1, .int p1), (2, .int p2), (3, .ref (G.2.2.1 229))]) hx hb dL_settled_13 hl (by decide) rfl (fun ls hl => ?_)
      refine lv_iconst (v := 1) hx hb dL_settled_15 (by decide) ?_
      cases hf
      subst hQ
      exact g_yiret hC hW hr hlocks rfl rfl (Nat.le_of_ble_eq_true rfl) (Nat.le_of_ble_eq_true rfl) dL_settled_16
    have hf := a_if_f hk0 hf
    cases hf
  have hf := hfn _ hv9
  have hf := ob_inv1 hf
  refine lv_i2l (v := (r3).toInt64) hx hb dL_settled_8 rfl ?_
  obtain ⟨m4, h9, hf⟩ := ob_inv hf
  refine g_llst hC hW zc_k229 zc_b229 zc_n229 h9 dL_settled_9 (fun H locs hW => ?_)
  refine lv_goto (tgt := 17) hx hb dL_settled_10 (by decide) ?_
  refine lv_iconst (v := 0) hx hb dL_settled_17 (by decide) ?_
  cases hf
  subst hQ
  exact g_yiret hC hW hr hlocks rfl rfl (Nat.le_of_ble_eq_true rfl) (Nat.le_of_ble_eq_true rfl) dL_settled_18
set_option maxRecDepth 20000 in
theorem gW_account : GoodIn wsW_account (wsV RL 105 RX9 yX9_account wsX9_account) := goodIn_app (goodIn_of _ (by decide +kernel)) (goodIn_sub (fun _ h => List.mem_cons_of_mem _ (List.mem_append_right _ h)) (by decide +kernel))
abbrev rmL_account : Room := { frames := 8, cells := 1, slots := 6, locals := 132 }
set_option maxHeartbeats 4000000 in
set_option maxRecDepth 100000 in
theorem c_L_account (l : Launch) (G : gG) (hst : l.stackTraces = false) {p1 : Int32} {me : gM} {r0 : Int32} {m0 : gM} (hf : f_L_account p1 me = some (r0, m0)) : vx_Met l yL_account wsW_account rmL_account (va_Pc [.ref (G.2.2.1 0), .int p1, .ref (G.2.2.1 229)] (g_WY ZC G me)) (g_Qi ZC G r0 m0) (g_XN G) 1 6 (g_A ZC G) := by
  refine vx_ofWH (cc := cL_account) (maxL := 4) (ret := (some .int)) (hh := [(0, 9, 12, 13)]) (by decide) rfl ?_
  intro p e s m args below meth c s₁ B hml hv
  obtain ⟨rfl, ⟨hW0, hX0⟩, hN0⟩ := hv
  have hC : CallFix p m c cL_account 4 s ([.ref (G.2.2.1 0), .int p1, .ref (G.2.2.1 229)] : List Value).toArray wsW_account RL := ⟨B.exec, B.bytes, hml, findClass_of_methodNamed B.named, atoms_spec (ws := wsW_account) B.pre⟩
  have hx := hC.1
  have hb := hC.2.1
  have hown := hC.2.2.2.1
  have hts := hC.2.2.2.2
  have hr := B.returns
  have hlocks := B.notSynchronized
  have hW := g_H_enter hW0
  have htab : c.exceptionTable.toList = tableOf [(0, 9, 12, 13)] := vx_table (x := yL_account) B (hts _ List.mem_cons_self)
  have hl := lv_entry ([.ref (G.2.2.1 0), .int p1, .ref (G.2.2.1 229)]) (n := 4) (Nat.le_of_ble_eq_true rfl)
  rw [lg_entry_eq]
  generalize (lg_sl ([.ref (G.2.2.1 0), .int p1, .ref (G.2.2.1 229)]) ++ List.replicate (4 - (lg_sl ([.ref (G.2.2.1 0), .int p1, .ref (G.2.2.1 229)])).length) Slot.unset).toArray = ls at hl ⊢
  have hl : lv_has ls 4 [(0, .ref (G.2.2.1 0)), (1, .int p1), (2, .ref (G.2.2.1 229))] := hl
  obtain ⟨Q, hQ⟩ : ∃ Q, Q = vx_MQ below (g_Qi ZC G r0 m0) (g_XN G) ([.ref (G.2.2.1 0), .int p1, .ref (G.2.2.1 229)] : List Value).toArray s 1 6 (g_A ZC G) := ⟨_, rfl⟩
  refine g_goQ hQ ?_
  unfold f_L_account at hf
  refine g_start hW (fun H locs hW => ?_)
  refine lv_aload_n hx hb dL_account_0 rfl (lv_at hl 2 rfl) ?_
  refine lv_iconst (v := 0) hx hb dL_account_1 (by decide) ?_
  refine lv_aload_n hx hb dL_account_2 rfl (lv_at hl 0 rfl) ?_
  refine lv_iload_n hx hb dL_account_3 rfl (lv_at hl 1 rfl) ?_
  obtain ⟨v9, hg, hfx, hfn⟩ := os_inv hf
  refine g_cXVi hC hW hX0 (o := 0) (ci := 9) (As := [.int p1]) (rest := [.int 0, .ref (G.2.2.1 229)]) zc_k0 zc_b0 rfl (c_X9_account l G hst hg) (cwV 1 hts gW_account rfl rfl rfl (by decide +kernel) ⟨(Nat.le_of_ble_eq_true rfl), (Nat.le_of_ble_eq_true rfl)⟩) rfl hl.1 rfl (Nat.le_of_ble_eq_true rfl) dL_account_4 ⟨(Nat.le_of_ble_eq_true rfl), (Nat.le_of_ble_eq_true rfl)⟩ (fun k9 hk9 H locs q9 ce hW hq9 hcv hcl => ?_) (fun r3 hv9 H locs hW => ?_)
  · have hf := hfx _ hk9
    by_cases hk0 : k9 = 1
    · have hf := a_if_t hk0 hf
      subst hk0
      refine vx_catch (name := g_xn 1) (E := g_xn 1) hown (pre := []) (x := ⟨0, 9, 12, 13⟩) (suf := []) (hsplit := htab) (fun z hz => by cases hz) (by decide) (by decide) (hts _ (by decide +kernel : Cond.classLink RL 13 (g_xn 1) ∈ wsW_account)) (va_Nw.use rfl (hX0.2.2.1 _ (by decide +kernel : Cond.castable (g_xn 1) (g_xn 1) ∈ g_xw))) hq9 hcv hcl ?_
      refine lv_astore_n (lv' := [(3, .ref q9), (0, .ref (G.2.2.1 0)), (1, .int p1), (2, .ref (G.2.2.1 229))]) hx hb dL_account_12 rfl hl (by decide) rfl (fun ls hl => ?_)
      refine lv_iconst (v := 1) hx hb dL_account_13 (by decide) ?_
      cases hf
      subst hQ
      exact g_yiret hC hW hr hlocks rfl rfl (Nat.le_of_ble_eq_true rfl) (Nat.le_of_ble_eq_true rfl) dL_account_14
    have hf := a_if_f hk0 hf
    cases hf
  have hf := hfn _ hv9
  have hf := ob_inv1 hf
  refine lv_i2l (v := (r3).toInt64) hx hb dL_account_7 rfl ?_
  obtain ⟨m4, h9, hf⟩ := ob_inv hf
  refine g_llst hC hW zc_k229 zc_b229 zc_n229 h9 dL_account_8 (fun H locs hW => ?_)
  refine lv_goto (tgt := 15) hx hb dL_account_9 (by decide) ?_
  refine lv_iconst (v := 0) hx hb dL_account_15 (by decide) ?_
  cases hf
  subst hQ
  exact g_yiret hC hW hr hlocks rfl rfl (Nat.le_of_ble_eq_true rfl) (Nat.le_of_ble_eq_true rfl) dL_account_16
set_option maxRecDepth 20000 in
theorem gW_hasFailed : GoodIn wsW_hasFailed (wsV RL 108 RX9 yX9_hasFailed wsX9_hasFailed) := goodIn_app (goodIn_of _ (by decide +kernel)) (goodIn_sub (fun _ h => List.mem_cons_of_mem _ (List.mem_append_right _ h)) (by decide +kernel))
abbrev rmL_hasFailed : Room := { frames := 8, cells := 1, slots := 6, locals := 132 }
set_option maxHeartbeats 4000000 in
set_option maxRecDepth 100000 in
theorem c_L_hasFailed (l : Launch) (G : gG) (hst : l.stackTraces = false) {p1 : Int32} {me : gM} {r0 : Int32} {m0 : gM} (hf : f_L_hasFailed p1 me = some (r0, m0)) : vx_Met l yL_hasFailed wsW_hasFailed rmL_hasFailed (va_Pc [.ref (G.2.2.1 0), .int p1, .ref (G.2.2.1 229)] (g_WY ZC G me)) (g_Qi ZC G r0 m0) (g_XN G) 1 6 (g_A ZC G) := by
  refine vx_ofWH (cc := cL_hasFailed) (maxL := 4) (ret := (some .int)) (hh := [(0, 16, 19, 13)]) (by decide) rfl ?_
  intro p e s m args below meth c s₁ B hml hv
  obtain ⟨rfl, ⟨hW0, hX0⟩, hN0⟩ := hv
  have hC : CallFix p m c cL_hasFailed 4 s ([.ref (G.2.2.1 0), .int p1, .ref (G.2.2.1 229)] : List Value).toArray wsW_hasFailed RL := ⟨B.exec, B.bytes, hml, findClass_of_methodNamed B.named, atoms_spec (ws := wsW_hasFailed) B.pre⟩
  have hx := hC.1
  have hb := hC.2.1
  have hown := hC.2.2.2.1
  have hts := hC.2.2.2.2
  have hr := B.returns
  have hlocks := B.notSynchronized
  have hW := g_H_enter hW0
  have htab : c.exceptionTable.toList = tableOf [(0, 16, 19, 13)] := vx_table (x := yL_hasFailed) B (hts _ List.mem_cons_self)
  have hl := lv_entry ([.ref (G.2.2.1 0), .int p1, .ref (G.2.2.1 229)]) (n := 4) (Nat.le_of_ble_eq_true rfl)
  rw [lg_entry_eq]
  generalize (lg_sl ([.ref (G.2.2.1 0), .int p1, .ref (G.2.2.1 229)]) ++ List.replicate (4 - (lg_sl ([.ref (G.2.2.1 0), .int p1, .ref (G.2.2.1 229)])).length) Slot.unset).toArray = ls at hl ⊢
  have hl : lv_has ls 4 [(0, .ref (G.2.2.1 0)), (1, .int p1), (2, .ref (G.2.2.1 229))] := hl
  obtain ⟨Q, hQ⟩ : ∃ Q, Q = vx_MQ below (g_Qi ZC G r0 m0) (g_XN G) ([.ref (G.2.2.1 0), .int p1, .ref (G.2.2.1 229)] : List Value).toArray s 1 6 (g_A ZC G) := ⟨_, rfl⟩
  refine g_goQ hQ ?_
  unfold f_L_hasFailed at hf
  refine g_start hW (fun H locs hW => ?_)
  refine lv_aload_n hx hb dL_hasFailed_0 rfl (lv_at hl 2 rfl) ?_
  refine lv_iconst (v := 0) hx hb dL_hasFailed_1 (by decide) ?_
  refine lv_aload_n hx hb dL_hasFailed_2 rfl (lv_at hl 0 rfl) ?_
  refine lv_iload_n hx hb dL_hasFailed_3 rfl (lv_at hl 1 rfl) ?_
  obtain ⟨v9, hg, hfx, hfn⟩ := os_inv hf
  refine g_cXVi hC hW hX0 (o := 0) (ci := 9) (As := [.int p1]) (rest := [.int 0, .ref (G.2.2.1 229)]) zc_k0 zc_b0 rfl (c_X9_hasFailed l G hst hg) (cwV 1 hts gW_hasFailed rfl rfl rfl (by decide +kernel) ⟨(Nat.le_of_ble_eq_true rfl), (Nat.le_of_ble_eq_true rfl)⟩) rfl hl.1 rfl (Nat.le_of_ble_eq_true rfl) dL_hasFailed_4 ⟨(Nat.le_of_ble_eq_true rfl), (Nat.le_of_ble_eq_true rfl)⟩ (fun k9 hk9 H locs q9 ce hW hq9 hcv hcl => ?_) (fun r3 hv9 H locs hW => ?_)
  · have hf := hfx _ hk9
    by_cases hk0 : k9 = 1
    · have hf := a_if_t hk0 hf
      subst hk0
      refine vx_catch (name := g_xn 1) (E := g_xn 1) hown (pre := []) (x := ⟨0, 16, 19, 13⟩) (suf := []) (hsplit := htab) (fun z hz => by cases hz) (by decide) (by decide) (hts _ (by decide +kernel : Cond.classLink RL 13 (g_xn 1) ∈ wsW_hasFailed)) (va_Nw.use rfl (hX0.2.2.1 _ (by decide +kernel : Cond.castable (g_xn 1) (g_xn 1) ∈ g_xw))) hq9 hcv hcl ?_
      refine lv_astore_n (lv' := [(3, .ref q9), (0, .ref (G.2.2.1 0)), (1, .int p1), (2, .ref (G.2.2.1 229))]) hx hb dL_hasFailed_19 rfl hl (by decide) rfl (fun ls hl => ?_)
      refine lv_iconst (v := 1) hx hb dL_hasFailed_20 (by decide) ?_
      cases hf
      subst hQ
      exact g_yiret hC hW hr hlocks rfl rfl (Nat.le_of_ble_eq_true rfl) (Nat.le_of_ble_eq_true rfl) dL_hasFailed_21
    have hf := a_if_f hk0 hf
    cases hf
  have hf := hfn _ hv9
  have hf := ob_inv1 hf
  obtain ⟨z5, hg, hf⟩ := ob_inv hf
  have hJ15 : ∀ (H : Heap) (locs : List Loc) (ls : Array Slot), g_H ZC G s H locs me → lv_has ls 4 [] → W p l e (headSpec wsW_hasFailed rmL_hasFailed).room s m ([.ref (G.2.2.1 0), .int p1, .ref (G.2.2.1 229)] : List Value).toArray below meth c H locs 1 6 Q (F0 m 15 ls [.long z5, .int 0, .ref (G.2.2.1 229)]) := by
    intro H locs ls hW hl
    obtain ⟨m6, h9, hf⟩ := ob_inv hf
    refine g_llst hC hW zc_k229 zc_b229 zc_n229 h9 dL_hasFailed_15 (fun H locs hW => ?_)
    refine lv_goto (tgt := 22) hx hb dL_hasFailed_16 (by decide) ?_
    refine lv_iconst (v := 0) hx hb dL_hasFailed_22 (by decide) ?_
    cases hf
    subst hQ
    exact g_yiret hC hW hr hlocks rfl rfl (Nat.le_of_ble_eq_true rfl) (Nat.le_of_ble_eq_true rfl) dL_hasFailed_23
  replace hf := hg
  refine lv_if_eq (tgt := 14) hx hb dL_hasFailed_7 (by decide) (fun c4 => ?_) (fun c4 => ?_)
  · have hf := a_if_t c4 hf
    refine lv_lconst (v := 0) hx hb dL_hasFailed_14 (by decide) ?_
    cases hf
    exact hJ15 H locs ls hW (lv_sub hl [] rfl)
  · have hf := a_if_f c4 hf
    refine lv_lconst (v := 1) hx hb dL_hasFailed_10 (by decide) ?_
    refine lv_goto (tgt := 15) hx hb dL_hasFailed_11 (by decide) ?_
    cases hf
    exact hJ15 H locs ls hW (lv_sub hl [] rfl)
