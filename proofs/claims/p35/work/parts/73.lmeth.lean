def f_L_low (p0 : Int32) (p1 : Int32) : Option (Int32) :=
  ob (a_rm (p0 &&& 2147483647) p1) fun q1 =>
  some q1
def f_L_away (p0 : Int32) : Option (Int32) :=
  ob (if 0 ≤ p0 then
      some p0
    else
      some (-p0)) fun (z2 : Int32) =>
  some z2
def f_L_cleared_L100 (me : gM) (x13 : Int32) (x2 : Int32) : Nat → Int32 → Int32 → Option (Int32 × Int32)
  | 0, _, _ => none
  | n + 1, x24, x25 =>
    if 6 ≤ x25 then
      some (x24, x25)
    else
      ob (f_X9_day me) fun r29 =>
      ot (f_X9_plan r29 x25 x13 x2 me) fun r30 =>
      ob (some (x24 + r30)) fun (x31 : Int32) =>
      f_L_cleared_L100 me x13 x2 n x31 (x25 + 1)
def f_L_cleared_L50 (me : gM) (p1 : Int32) (x2 : Int32) : Nat → Int32 → Int32 → Option (Int32 × Int32)
  | 0, _, _ => none
  | n + 1, x12, x13 =>
    if 3 ≤ x13 then
      some (x12, x13)
    else
      if x12 = 0 then
        some (x12, x13)
      else
        ot (f_X9_flow x13 x2 me) fun r18 =>
        ob (f_L_away r18) fun r19 =>
        ob (if (3 * p1) < r19 then
            some 0
          else
            ot (f_X9_price x13 x2 me) fun r22 =>
            if r22 < 0 then
              some 0
            else
              some 1) fun (z21 : Int32) =>
        ob (f_L_cleared_L100 me x13 x2 f_fuel 0 0) fun t36 =>
        ob (some t36.1) fun y26 =>
        ob (some t36.2) fun y27 =>
        ob (if z21 = 0 then
            some 0
          else
            ot (f_X9_net x13 x2 me) fun r34 =>
            if y26 = r34 then
              some 1
            else
              some 0) fun (z33 : Int32) =>
        f_L_cleared_L50 me p1 x2 n z33 (x13 + 1)
def f_L_cleared_L5 (me : gM) (p1 : Int32) : Nat → Int32 → Int32 → Option (Int32 × Int32)
  | 0, _, _ => none
  | n + 1, x1, x2 =>
    if 4 ≤ x2 then
      some (x1, x2)
    else
      if x1 = 0 then
        some (x1, x2)
      else
        ot (f_X9_net 0 x2 me) fun r7 =>
        ot (f_X9_net 1 x2 me) fun r8 =>
        ot (f_X9_net 2 x2 me) fun r9 =>
        ob (if ((r7 + r8) + r9) = 0 then
            some 1
          else
            some 0) fun (z11 : Int32) =>
        ob (f_L_cleared_L50 me p1 x2 f_fuel z11 0) fun t43 =>
        ob (some t43.1) fun y14 =>
        ob (some t43.2) fun y15 =>
        ob (if y14 = 0 then
            some 0
          else
            ot (f_X9_flow 0 x2 me) fun r39 =>
            ot (f_X9_flow 1 x2 me) fun r40 =>
            ot (f_X9_flow 2 x2 me) fun r41 =>
            if (r39 + r40) = r41 then
              some 1
            else
              some 0) fun (z38 : Int32) =>
        f_L_cleared_L5 me p1 n z38 (x2 + 1)
def f_L_cleared_L205 (me : gM) (p2 : Int32) : Nat → Int32 → Int32 → Option (Int32 × Int32)
  | 0, _, _ => none
  | n + 1, x44, x45 =>
    if p2 ≤ x45 then
      some (x44, x45)
    else
      if x44 = 0 then
        some (x44, x45)
      else
        ot (f_X9_isTaken x45 me) fun r50 =>
        ob (if r50 = 0 then
            some 1
          else
            ot (f_X9_gain x45 me) fun r53 =>
            if r53 < 0 then
              some 0
            else
              some 1) fun (z52 : Int32) =>
        f_L_cleared_L205 me p2 n z52 (x45 + 1)
def f_L_cleared (p1 : Int32) (p2 : Int32) (me : gM) : Option (Int32) :=
  ob (f_L_cleared_L5 me p1 f_fuel 1 0) fun t57 =>
  ob (some t57.1) fun y3 =>
  ob (some t57.2) fun y4 =>
  ob (f_L_cleared_L205 me p2 f_fuel y3 0) fun t56 =>
  ob (some t56.1) fun y46 =>
  ob (some t56.2) fun y47 =>
  ob (a_zc y46) fun b55 =>
  some b55
def f_L_money_L7 (me : gM) : Nat → Int32 → Int32 → Option (Int32 × Int32)
  | 0, _, _ => none
  | n + 1, x2, x3 =>
    if 6 ≤ x3 then
      some (x2, x3)
    else
      ot (f_X9_account x3 me) fun r7 =>
      ob (some (x2 + r7)) fun (x8 : Int32) =>
      f_L_money_L7 me n x8 (x3 + 1)
def f_L_money (p1 : Int32) (me : gM) : Option (Int32) :=
  ob (f_X9_house me) fun r1 =>
  ob (f_L_money_L7 me f_fuel r1 0) fun t12 =>
  ob (some t12.1) fun y4 =>
  ob (some t12.2) fun y5 =>
  ob (if y4 = p1 then
      some 1
    else
      some 0) fun (z10 : Int32) =>
  ob (a_zc z10) fun b11 =>
  some b11
abbrev rmL_low : Room := { frames := 0, cells := 0, slots := 0, locals := 0 }
set_option maxHeartbeats 4000000 in
set_option maxRecDepth 100000 in
theorem c_L_low (l : Launch) (G : gG) {p0 : Int32} {p1 : Int32} {me : gM} {r0 : Int32}  (hf : f_L_low p0 p1 = some r0) : Met l yL_low wsL_low rmL_low (va_Pc [.int p0, .int p1] (g_W ZC G me)) (g_Qi ZC G r0 me) 0 0 (g_A ZC G) := by
  refine Met.ofW (cc := cL_low) (maxL := 2) (ret := (some .int)) (by decide) rfl ?_
  intro p e s m args below meth c s₁ B hml hv
  obtain ⟨rfl, hW0⟩ := hv
  have hC : CallFix p m c cL_low 2 s ([.int p0, .int p1] : List Value).toArray wsL_low RL := ⟨B.exec, B.bytes, hml, findClass_of_methodNamed B.named, atoms_spec (ws := wsL_low) B.pre⟩
  have hx := hC.1
  have hb := hC.2.1
  have hown := hC.2.2.2.1
  have hts := hC.2.2.2.2
  have hr := B.returns
  have hlocks := B.notSynchronized
  have hW := g_H_enter hW0
  have hl := lv_entry ([.int p0, .int p1]) (n := 2) (Nat.le_of_ble_eq_true rfl)
  rw [lg_entry_eq]
  generalize (lg_sl ([.int p0, .int p1]) ++ List.replicate (2 - (lg_sl ([.int p0, .int p1])).length) Slot.unset).toArray = ls at hl ⊢
  have hl : lv_has ls 2 [(0, .int p0), (1, .int p1)] := hl
  obtain ⟨Q, hQ⟩ : ∃ Q, Q = MQ below (g_Qi ZC G r0 me) ([.int p0, .int p1] : List Value).toArray s 0 0 (g_A ZC G) := ⟨_, rfl⟩
  refine g_goQ hQ ?_
  unfold f_L_low at hf
  refine g_start hW (fun H locs hW => ?_)
  refine lv_iload_n hx hb dL_low_0 rfl (lv_at hl 0 rfl) ?_
  refine lv_ldc (v := 2147483647) hx hb hown (hts _ (by decide +kernel : Cond.constant RL 7 (2147483647) ∈ wsL_low)) dL_low_1 ?_
  refine lv_iand hx hb dL_low_3 ?_
  refine lv_iload_n hx hb dL_low_4 rfl (lv_at hl 1 rfl) ?_
  obtain ⟨q1, h9, hf⟩ := ob_inv hf
  refine lv_irem hx hb dL_low_5 (a_rm_inv h9).1 ?_
  refine g_nmi (a_rm_inv h9).2 ?_
  cases hf
  subst hQ
  exact g_iret hC hW hr hlocks rfl rfl dL_low_6
abbrev rmL_away : Room := { frames := 0, cells := 0, slots := 0, locals := 0 }
set_option maxHeartbeats 4000000 in
set_option maxRecDepth 100000 in
theorem c_L_away (l : Launch) (G : gG) {p0 : Int32} {me : gM} {r0 : Int32}  (hf : f_L_away p0 = some r0) : Met l yL_away wsL_away rmL_away (va_Pc [.int p0] (g_W ZC G me)) (g_Qi ZC G r0 me) 0 0 (g_A ZC G) := by
  refine Met.ofW (cc := cL_away) (maxL := 1) (ret := (some .int)) (by decide) rfl ?_
  intro p e s m args below meth c s₁ B hml hv
  obtain ⟨rfl, hW0⟩ := hv
  have hC : CallFix p m c cL_away 1 s ([.int p0] : List Value).toArray wsL_away RL := ⟨B.exec, B.bytes, hml, findClass_of_methodNamed B.named, atoms_spec (ws := wsL_away) B.pre⟩
  have hx := hC.1
  have hb := hC.2.1
  have hown := hC.2.2.2.1
  have hts := hC.2.2.2.2
  have hr := B.returns
  have hlocks := B.notSynchronized
  have hW := g_H_enter hW0
  have hl := lv_entry ([.int p0]) (n := 1) (Nat.le_of_ble_eq_true rfl)
  rw [lg_entry_eq]
  generalize (lg_sl ([.int p0]) ++ List.replicate (1 - (lg_sl ([.int p0])).length) Slot.unset).toArray = ls at hl ⊢
  have hl : lv_has ls 1 [(0, .int p0)] := hl
  obtain ⟨Q, hQ⟩ : ∃ Q, Q = MQ below (g_Qi ZC G r0 me) ([.int p0] : List Value).toArray s 0 0 (g_A ZC G) := ⟨_, rfl⟩
  refine g_goQ hQ ?_
  unfold f_L_away at hf
  refine g_start hW (fun H locs hW => ?_)
  refine lv_iload_n hx hb dL_away_0 rfl (lv_at hl 0 rfl) ?_
  obtain ⟨z2, hg, hf⟩ := ob_inv hf
  have hJ10 : ∀ (H : Heap) (locs : List Loc) (ls : Array Slot), g_H ZC G s H locs me → lv_has ls 1 [] → W p l e (headSpec wsL_away rmL_away).room s m ([.int p0] : List Value).toArray below meth c H locs 0 0 Q (F0 m 10 ls [.int z2]) := by
    intro H locs ls hW hl
    cases hf
    subst hQ
    exact g_iret hC hW hr hlocks rfl rfl dL_away_10
  replace hf := hg
  refine lv_if_ge (tgt := 9) hx hb dL_away_1 (by decide) (fun c1 => ?_) (fun c1 => ?_)
  · have hf := a_if_t c1 hf
    refine lv_iload_n hx hb dL_away_9 rfl (lv_at hl 0 rfl) ?_
    cases hf
    exact hJ10 H locs ls hW (lv_sub hl [] rfl)
  · have hf := a_if_f c1 hf
    refine lv_iload_n hx hb dL_away_4 rfl (lv_at hl 0 rfl) ?_
    refine lv_ineg hx hb dL_away_5 ?_
    refine lv_goto (tgt := 10) hx hb dL_away_6 (by decide) ?_
    cases hf
    exact hJ10 H locs ls hW (lv_sub hl [] rfl)
abbrev rmL_cleared : Room := { frames := 8, cells := 0, slots := 0, locals := 135 }
set_option maxHeartbeats 4000000 in
set_option maxRecDepth 100000 in
theorem c_L_cleared (l : Launch) (G : gG) {p1 : Int32} {p2 : Int32} {me : gM} {r0 : Int32}  (hf : f_L_cleared p1 p2 me = some r0) : Met l yL_cleared wsL_cleared rmL_cleared (va_Pc [.ref (G.2.2.1 0), .int p1, .int p2] (g_W ZC G me)) (g_Qi ZC G r0 me) 0 0 (g_A ZC G) := by
  refine Met.ofW (cc := cL_cleared) (maxL := 8) (ret := (some .boolean)) (by decide) rfl ?_
  intro p e s m args below meth c s₁ B hml hv
  obtain ⟨rfl, hW0⟩ := hv
  have hC : CallFix p m c cL_cleared 8 s ([.ref (G.2.2.1 0), .int p1, .int p2] : List Value).toArray wsL_cleared RL := ⟨B.exec, B.bytes, hml, findClass_of_methodNamed B.named, atoms_spec (ws := wsL_cleared) B.pre⟩
  have hx := hC.1
  have hb := hC.2.1
  have hown := hC.2.2.2.1
  have hts := hC.2.2.2.2
  have hr := B.returns
  have hlocks := B.notSynchronized
  have hW := g_H_enter hW0
  have hl := lv_entry ([.ref (G.2.2.1 0), .int p1, .int p2]) (n := 8) (Nat.le_of_ble_eq_true rfl)
  rw [lg_entry_eq]
  generalize (lg_sl ([.ref (G.2.2.1 0), .int p1, .int p2]) ++ List.replicate (8 - (lg_sl ([.ref (G.2.2.1 0), .int p1, .int p2])).length) Slot.unset).toArray = ls at hl ⊢
  have hl : lv_has ls 8 [(0, .ref (G.2.2.1 0)), (1, .int p1), (2, .int p2)] := hl
  obtain ⟨Q, hQ⟩ : ∃ Q, Q = MQ below (g_Qi ZC G r0 me) ([.ref (G.2.2.1 0), .int p1, .int p2] : List Value).toArray s 0 0 (g_A ZC G) := ⟨_, rfl⟩
  refine g_goQ hQ ?_
  unfold f_L_cleared at hf
  refine g_start hW (fun H locs hW => ?_)
  refine lv_iconst (v := 1) hx hb dL_cleared_0 (by decide) ?_
  refine lv_istore_n (lv' := [(3, .int 1), (0, .ref (G.2.2.1 0)), (1, .int p1), (2, .int p2)]) hx hb dL_cleared_1 rfl hl (by decide) rfl (fun ls hl => ?_)
  refine lv_iconst (v := 0) hx hb dL_cleared_2 (by decide) ?_
  refine lv_istore (lv' := [(4, .int 0), (3, .int 1), (0, .ref (G.2.2.1 0)), (1, .int p1), (2, .int p2)]) hx hb dL_cleared_3 hl (by decide) rfl (fun ls hl => ?_)
  have hL5 : ∀ (n : Nat) (x1 : Int32) (x2 : Int32) (y3 : Int32) (y4 : Int32) (H : Heap) (locs : List Loc) (ls : Array Slot), f_L_cleared_L5 me p1 n x1 x2 = some (y3, y4) → g_H ZC G s H locs me → lv_has ls 8 [(0, .ref (G.2.2.1 0)), (1, .int p1), (2, .int p2), (3, .int x1), (4, .int x2)] → (∀ (H : Heap) (locs : List Loc) (ls : Array Slot), g_H ZC G s H locs me → lv_has ls 8 [(0, .ref (G.2.2.1 0)), (2, .int p2), (3, .int y3)] → W p l e (headSpec wsL_cleared rmL_cleared).room s m ([.ref (G.2.2.1 0), .int p1, .int p2] : List Value).toArray below meth c H locs 0 0 Q (F0 m 202 ls [])) → W p l e (headSpec wsL_cleared rmL_cleared).room s m ([.ref (G.2.2.1 0), .int p1, .int p2] : List Value).toArray below meth c H locs 0 0 Q (F0 m 5 ls []) := by
    intro n
    induction n with
    | zero =>
      intro x1 x2 y3 y4 H locs ls hf hW hl hE
      cases hf
    | succ n ih =>
      intro x1 x2 y3 y4 H locs ls hf hW hl hE
      rw [f_L_cleared_L5] at hf
      refine lv_iload hx hb dL_cleared_5 (lv_at hl 4 rfl) ?_
      refine lv_iconst (v := 4) hx hb dL_cleared_7 (by decide) ?_
      refine lv_icmp_ge (tgt := 202) hx hb dL_cleared_8 (by decide) (fun c5 => ?_) (fun c5 => ?_)
      · have hf := a_if_t c5 hf
        cases hf
        exact hE H locs ls hW (lv_sub hl [0, 2, 3] rfl)
      · have hf := a_if_f c5 hf
        refine lv_iload_n hx hb dL_cleared_11 rfl (lv_at hl 3 rfl) ?_
        refine lv_if_eq (tgt := 202) hx hb dL_cleared_12 (by decide) (fun c6 => ?_) (fun c6 => ?_)
        · have hf := a_if_t c6 hf
          cases hf
          exact hE H locs ls hW (lv_sub hl [0, 2, 3] rfl)
        · have hf := a_if_f c6 hf
          refine lv_aload_n hx hb dL_cleared_15 rfl (lv_at hl 0 rfl) ?_
          refine lv_iconst (v := 0) hx hb dL_cleared_16 (by decide) ?_
          refine lv_iload hx hb dL_cleared_17 (lv_at hl 4 rfl) ?_
          obtain ⟨r7, hg, hf⟩ := ot_inv hf
          refine g_cVi hC hW (o := 0) (ci := 9) (As := [.int 0, .int x2]) (rest := []) zc_k0 zc_b0 rfl (c0_X9_net l G  hg) (cwV 2 hts gL_cleared_X9_net rfl rfl rfl (by decide +kernel) ⟨Nat.le_of_ble_eq_true rfl, Nat.le_of_ble_eq_true rfl⟩) rfl hl.1 rfl (Nat.le_of_ble_eq_true rfl) dL_cleared_19 ⟨Nat.le_of_ble_eq_true rfl, Nat.le_of_ble_eq_true rfl⟩ (fun H locs hW => ?_)
          refine lv_aload_n hx hb dL_cleared_22 rfl (lv_at hl 0 rfl) ?_
          refine lv_iconst (v := 1) hx hb dL_cleared_23 (by decide) ?_
          refine lv_iload hx hb dL_cleared_24 (lv_at hl 4 rfl) ?_
          obtain ⟨r8, hg, hf⟩ := ot_inv hf
          refine g_cVi hC hW (o := 0) (ci := 9) (As := [.int 1, .int x2]) (rest := [.int r7]) zc_k0 zc_b0 rfl (c0_X9_net l G  hg) (cwV 2 hts gL_cleared_X9_net rfl rfl rfl (by decide +kernel) ⟨Nat.le_of_ble_eq_true rfl, Nat.le_of_ble_eq_true rfl⟩) rfl hl.1 rfl (Nat.le_of_ble_eq_true rfl) dL_cleared_26 ⟨Nat.le_of_ble_eq_true rfl, Nat.le_of_ble_eq_true rfl⟩ (fun H locs hW => ?_)
          refine lv_iadd hx hb dL_cleared_29 ?_
          refine lv_aload_n hx hb dL_cleared_30 rfl (lv_at hl 0 rfl) ?_
          refine lv_iconst (v := 2) hx hb dL_cleared_31 (by decide) ?_
          refine lv_iload hx hb dL_cleared_32 (lv_at hl 4 rfl) ?_
          obtain ⟨r9, hg, hf⟩ := ot_inv hf
          refine g_cVi hC hW (o := 0) (ci := 9) (As := [.int 2, .int x2]) (rest := [.int (r7 + r8)]) zc_k0 zc_b0 rfl (c0_X9_net l G  hg) (cwV 2 hts gL_cleared_X9_net rfl rfl rfl (by decide +kernel) ⟨Nat.le_of_ble_eq_true rfl, Nat.le_of_ble_eq_true rfl⟩) rfl hl.1 rfl (Nat.le_of_ble_eq_true rfl) dL_cleared_34 ⟨Nat.le_of_ble_eq_true rfl, Nat.le_of_ble_eq_true rfl⟩ (fun H locs hW => ?_)
          refine lv_iadd hx hb dL_cleared_37 ?_
          obtain ⟨z11, hg, hf⟩ := ob_inv hf
          have hJ46 : ∀ (H : Heap) (locs : List Loc) (ls : Array Slot), g_H ZC G s H locs me → lv_has ls 8 [(0, .ref (G.2.2.1 0)), (1, .int p1), (2, .int p2), (4, .int x2)] → W p l e (headSpec wsL_cleared rmL_cleared).room s m ([.ref (G.2.2.1 0), .int p1, .int p2] : List Value).toArray below meth c H locs 0 0 Q (F0 m 46 ls [.int z11]) := by
            intro H locs ls hW hl
            refine lv_istore_n (lv' := [(3, .int z11), (0, .ref (G.2.2.1 0)), (1, .int p1), (2, .int p2), (4, .int x2)]) hx hb dL_cleared_46 rfl hl (by decide) rfl (fun ls hl => ?_)
            refine lv_iconst (v := 0) hx hb dL_cleared_47 (by decide) ?_
            refine lv_istore (lv' := [(5, .int 0), (3, .int z11), (0, .ref (G.2.2.1 0)), (1, .int p1), (2, .int p2), (4, .int x2)]) hx hb dL_cleared_48 hl (by decide) rfl (fun ls hl => ?_)
            have hL50 : ∀ (n : Nat) (x12 : Int32) (x13 : Int32) (y14 : Int32) (y15 : Int32) (H : Heap) (locs : List Loc) (ls : Array Slot), f_L_cleared_L50 me p1 x2 n x12 x13 = some (y14, y15) → g_H ZC G s H locs me → lv_has ls 8 [(0, .ref (G.2.2.1 0)), (1, .int p1), (2, .int p2), (3, .int x12), (4, .int x2), (5, .int x13)] → (∀ (H : Heap) (locs : List Loc) (ls : Array Slot), g_H ZC G s H locs me → lv_has ls 8 [(0, .ref (G.2.2.1 0)), (1, .int p1), (2, .int p2), (3, .int y14), (4, .int x2)] → W p l e (headSpec wsL_cleared rmL_cleared).room s m ([.ref (G.2.2.1 0), .int p1, .int p2] : List Value).toArray below meth c H locs 0 0 Q (F0 m 161 ls [])) → W p l e (headSpec wsL_cleared rmL_cleared).room s m ([.ref (G.2.2.1 0), .int p1, .int p2] : List Value).toArray below meth c H locs 0 0 Q (F0 m 50 ls []) := by
              intro n
              induction n with
              | zero =>
                intro x12 x13 y14 y15 H locs ls hf hW hl hE
                cases hf
              | succ n ih =>
                intro x12 x13 y14 y15 H locs ls hf hW hl hE
                rw [f_L_cleared_L50] at hf
                refine lv_iload hx hb dL_cleared_50 (lv_at hl 5 rfl) ?_
                refine lv_iconst (v := 3) hx hb dL_cleared_52 (by decide) ?_
                refine lv_icmp_ge (tgt := 161) hx hb dL_cleared_53 (by decide) (fun c16 => ?_) (fun c16 => ?_)
                · have hf := a_if_t c16 hf
                  cases hf
                  exact hE H locs ls hW (lv_sub hl [0, 1, 2, 3, 4] rfl)
                · have hf := a_if_f c16 hf
                  refine lv_iload_n hx hb dL_cleared_56 rfl (lv_at hl 3 rfl) ?_
                  refine lv_if_eq (tgt := 161) hx hb dL_cleared_57 (by decide) (fun c17 => ?_) (fun c17 => ?_)
                  · have hf := a_if_t c17 hf
                    cases hf
                    exact hE H locs ls hW (lv_sub hl [0, 1, 2, 3, 4] rfl)
                  · have hf := a_if_f c17 hf
                    refine lv_aload_n hx hb dL_cleared_60 rfl (lv_at hl 0 rfl) ?_
                    refine lv_iload hx hb dL_cleared_61 (lv_at hl 5 rfl) ?_
                    refine lv_iload hx hb dL_cleared_63 (lv_at hl 4 rfl) ?_
                    obtain ⟨r18, hg, hf⟩ := ot_inv hf
                    refine g_cVi hC hW (o := 0) (ci := 9) (As := [.int x13, .int x2]) (rest := []) zc_k0 zc_b0 rfl (c0_X9_flow l G  hg) (cwV 2 hts gL_cleared_X9_flow rfl rfl rfl (by decide +kernel) ⟨Nat.le_of_ble_eq_true rfl, Nat.le_of_ble_eq_true rfl⟩) rfl hl.1 rfl (Nat.le_of_ble_eq_true rfl) dL_cleared_65 ⟨Nat.le_of_ble_eq_true rfl, Nat.le_of_ble_eq_true rfl⟩ (fun H locs hW => ?_)
                    obtain ⟨r19, hg, hf⟩ := ob_inv hf
                    refine g_cSi hC hW (As := [.int r18]) (rest := []) (c_L_away l G  hg) (va_cwS 1 hts gL_cleared_L_away rfl rfl rfl (by decide +kernel) ⟨Nat.le_of_ble_eq_true rfl, Nat.le_of_ble_eq_true rfl⟩) rfl hl.1 rfl (Nat.le_of_ble_eq_true rfl) dL_cleared_68 ⟨Nat.le_of_ble_eq_true rfl, Nat.le_of_ble_eq_true rfl⟩ (fun H locs hW => ?_)
                    refine lv_iconst (v := 3) hx hb dL_cleared_71 (by decide) ?_
                    refine lv_iload_n hx hb dL_cleared_72 rfl (lv_at hl 1 rfl) ?_
                    refine lv_imul hx hb dL_cleared_73 ?_
                    obtain ⟨z21, hg, hf⟩ := ob_inv hf
                    have hJ93 : ∀ (H : Heap) (locs : List Loc) (ls : Array Slot), g_H ZC G s H locs me → lv_has ls 8 [(0, .ref (G.2.2.1 0)), (1, .int p1), (2, .int p2), (4, .int x2), (5, .int x13)] → W p l e (headSpec wsL_cleared rmL_cleared).room s m ([.ref (G.2.2.1 0), .int p1, .int p2] : List Value).toArray below meth c H locs 0 0 Q (F0 m 93 ls [.int z21]) := by
                      intro H locs ls hW hl
                      refine lv_istore_n (lv' := [(3, .int z21), (0, .ref (G.2.2.1 0)), (1, .int p1), (2, .int p2), (4, .int x2), (5, .int x13)]) hx hb dL_cleared_93 rfl hl (by decide) rfl (fun ls hl => ?_)
                      refine lv_iconst (v := 0) hx hb dL_cleared_94 (by decide) ?_
                      refine lv_istore (lv' := [(6, .int 0), (3, .int z21), (0, .ref (G.2.2.1 0)), (1, .int p1), (2, .int p2), (4, .int x2), (5, .int x13)]) hx hb dL_cleared_95 hl (by decide) rfl (fun ls hl => ?_)
                      refine lv_iconst (v := 0) hx hb dL_cleared_97 (by decide) ?_
                      refine lv_istore (lv' := [(7, .int 0), (6, .int 0), (3, .int z21), (0, .ref (G.2.2.1 0)), (1, .int p1), (2, .int p2), (4, .int x2), (5, .int x13)]) hx hb dL_cleared_98 hl (by decide) rfl (fun ls hl => ?_)
                      have hL100 : ∀ (n : Nat) (x24 : Int32) (x25 : Int32) (y26 : Int32) (y27 : Int32) (H : Heap) (locs : List Loc) (ls : Array Slot), f_L_cleared_L100 me x13 x2 n x24 x25 = some (y26, y27) → g_H ZC G s H locs me → lv_has ls 8 [(0, .ref (G.2.2.1 0)), (1, .int p1), (2, .int p2), (3, .int z21), (4, .int x2), (5, .int x13), (6, .int x24), (7, .int x25)] → (∀ (H : Heap) (locs : List Loc) (ls : Array Slot), g_H ZC G s H locs me → lv_has ls 8 [(0, .ref (G.2.2.1 0)), (1, .int p1), (2, .int p2), (3, .int z21), (4, .int x2), (5, .int x13), (6, .int y26)] → W p l e (headSpec wsL_cleared rmL_cleared).room s m ([.ref (G.2.2.1 0), .int p1, .int p2] : List Value).toArray below meth c H locs 0 0 Q (F0 m 132 ls [])) → W p l e (headSpec wsL_cleared rmL_cleared).room s m ([.ref (G.2.2.1 0), .int p1, .int p2] : List Value).toArray below meth c H locs 0 0 Q (F0 m 100 ls []) := by
                        intro n
                        induction n with
                        | zero =>
                          intro x24 x25 y26 y27 H locs ls hf hW hl hE
                          cases hf
                        | succ n ih =>
                          intro x24 x25 y26 y27 H locs ls hf hW hl hE
                          rw [f_L_cleared_L100] at hf
                          refine lv_iload hx hb dL_cleared_100 (lv_at hl 7 rfl) ?_
                          refine lv_bipush (v := 6) hx hb dL_cleared_102 (by decide) ?_
                          refine lv_icmp_ge (tgt := 132) hx hb dL_cleared_104 (by decide) (fun c28 => ?_) (fun c28 => ?_)
                          · have hf := a_if_t c28 hf
                            cases hf
                            exact hE H locs ls hW (lv_sub hl [0, 1, 2, 3, 4, 5, 6] rfl)
                          · have hf := a_if_f c28 hf
                            refine lv_iload hx hb dL_cleared_107 (lv_at hl 6 rfl) ?_
                            refine lv_aload_n hx hb dL_cleared_109 rfl (lv_at hl 0 rfl) ?_
                            refine lv_aload_n hx hb dL_cleared_110 rfl (lv_at hl 0 rfl) ?_
                            obtain ⟨r29, hg, hf⟩ := ob_inv hf
                            refine g_cVi hC hW (o := 0) (ci := 9) (As := []) (rest := [.ref (G.2.2.1 0), .int x24]) zc_k0 zc_b0 rfl (c_X9_day l G  hg) (cwV 0 hts gL_cleared_X9_day rfl rfl rfl (by decide +kernel) ⟨Nat.le_of_ble_eq_true rfl, Nat.le_of_ble_eq_true rfl⟩) rfl hl.1 rfl (Nat.le_of_ble_eq_true rfl) dL_cleared_111 ⟨Nat.le_of_ble_eq_true rfl, Nat.le_of_ble_eq_true rfl⟩ (fun H locs hW => ?_)
                            refine lv_iload hx hb dL_cleared_114 (lv_at hl 7 rfl) ?_
                            refine lv_iload hx hb dL_cleared_116 (lv_at hl 5 rfl) ?_
                            refine lv_iload hx hb dL_cleared_118 (lv_at hl 4 rfl) ?_
                            obtain ⟨r30, hg, hf⟩ := ot_inv hf
                            refine g_cVi hC hW (o := 0) (ci := 9) (As := [.int r29, .int x25, .int x13, .int x2]) (rest := [.int x24]) zc_k0 zc_b0 rfl (c0_X9_plan l G  hg) (cwV 4 hts gL_cleared_X9_plan rfl rfl rfl (by decide +kernel) ⟨Nat.le_of_ble_eq_true rfl, Nat.le_of_ble_eq_true rfl⟩) rfl hl.1 rfl (Nat.le_of_ble_eq_true rfl) dL_cleared_120 ⟨Nat.le_of_ble_eq_true rfl, Nat.le_of_ble_eq_true rfl⟩ (fun H locs hW => ?_)
                            refine lv_iadd hx hb dL_cleared_123 ?_
                            obtain ⟨x31, h9, hf⟩ := ob_inv hf
                            refine g_nmi (Option.some.inj h9) ?_
                            refine lv_istore (lv' := [(6, .int x31), (0, .ref (G.2.2.1 0)), (1, .int p1), (2, .int p2), (3, .int z21), (4, .int x2), (5, .int x13), (7, .int x25)]) hx hb dL_cleared_124 hl (by decide) rfl (fun ls hl => ?_)
                            refine lv_iinc (v := (x25 + 1)) (lv' := [(7, .int (x25 + 1)), (6, .int x31), (0, .ref (G.2.2.1 0)), (1, .int p1), (2, .int p2), (3, .int z21), (4, .int x2), (5, .int x13)]) hx hb dL_cleared_126 hl (k := 7) rfl (congrArg (fun z => x25 + z) (by decide)) (by decide) rfl (fun ls hl => ?_)
                            refine lv_goto (tgt := 100) hx hb dL_cleared_129 (by decide) ?_
                            exact ih _ _ _ _ _ _ _ hf hW (lv_sub hl [2, 3, 4, 5, 6, 7, 1, 0] rfl) hE
                      obtain ⟨⟨y26, y27⟩, hg, hf⟩ := ob_inv hf
                      have hf := ob_inv2 hf
                      refine hL100 _ _ _ _ _ _ _ _ hg hW (lv_sub hl [3, 4, 5, 2, 6, 7, 1, 0] rfl) (fun H locs ls hW hl => ?_)
                      refine lv_iload_n hx hb dL_cleared_132 rfl (lv_at hl 3 rfl) ?_
                      obtain ⟨z33, hg, hf⟩ := ob_inv hf
                      have hJ154 : ∀ (H : Heap) (locs : List Loc) (ls : Array Slot), g_H ZC G s H locs me → lv_has ls 8 [(0, .ref (G.2.2.1 0)), (1, .int p1), (2, .int p2), (4, .int x2), (5, .int x13)] → W p l e (headSpec wsL_cleared rmL_cleared).room s m ([.ref (G.2.2.1 0), .int p1, .int p2] : List Value).toArray below meth c H locs 0 0 Q (F0 m 154 ls [.int z33]) := by
                        intro H locs ls hW hl
                        refine lv_istore_n (lv' := [(3, .int z33), (0, .ref (G.2.2.1 0)), (1, .int p1), (2, .int p2), (4, .int x2), (5, .int x13)]) hx hb dL_cleared_154 rfl hl (by decide) rfl (fun ls hl => ?_)
                        refine lv_iinc (v := (x13 + 1)) (lv' := [(5, .int (x13 + 1)), (3, .int z33), (0, .ref (G.2.2.1 0)), (1, .int p1), (2, .int p2), (4, .int x2)]) hx hb dL_cleared_155 hl (k := 5) rfl (congrArg (fun z => x13 + z) (by decide)) (by decide) rfl (fun ls hl => ?_)
                        refine lv_goto (tgt := 50) hx hb dL_cleared_158 (by decide) ?_
                        exact ih _ _ _ _ _ _ _ hf hW (lv_sub hl [2, 3, 4, 1, 5, 0] rfl) hE
                      replace hf := hg
                      refine lv_if_eq (tgt := 153) hx hb dL_cleared_133 (by decide) (fun c32 => ?_) (fun c32 => ?_)
                      · have hf := a_if_t c32 hf
                        refine lv_iconst (v := 0) hx hb dL_cleared_153 (by decide) ?_
                        cases hf
                        exact hJ154 H locs ls hW (lv_sub hl [0, 1, 2, 4, 5] rfl)
                      · have hf := a_if_f c32 hf
                        refine lv_iload hx hb dL_cleared_136 (lv_at hl 6 rfl) ?_
                        refine lv_aload_n hx hb dL_cleared_138 rfl (lv_at hl 0 rfl) ?_
                        refine lv_iload hx hb dL_cleared_139 (lv_at hl 5 rfl) ?_
                        refine lv_iload hx hb dL_cleared_141 (lv_at hl 4 rfl) ?_
                        obtain ⟨r34, hg, hf⟩ := ot_inv hf
                        refine g_cVi hC hW (o := 0) (ci := 9) (As := [.int x13, .int x2]) (rest := [.int y26]) zc_k0 zc_b0 rfl (c0_X9_net l G  hg) (cwV 2 hts gL_cleared_X9_net rfl rfl rfl (by decide +kernel) ⟨Nat.le_of_ble_eq_true rfl, Nat.le_of_ble_eq_true rfl⟩) rfl hl.1 rfl (Nat.le_of_ble_eq_true rfl) dL_cleared_143 ⟨Nat.le_of_ble_eq_true rfl, Nat.le_of_ble_eq_true rfl⟩ (fun H locs hW => ?_)
                        refine lv_icmp_ne (tgt := 153) hx hb dL_cleared_146 (by decide) (fun c35 => ?_) (fun c35 => ?_)
                        · have hf := a_if_f c35 hf
                          refine lv_iconst (v := 0) hx hb dL_cleared_153 (by decide) ?_
                          cases hf
                          exact hJ154 H locs ls hW (lv_sub hl [0, 1, 2, 4, 5] rfl)
                        · have hf := a_if_t c35 hf
                          refine lv_iconst (v := 1) hx hb dL_cleared_149 (by decide) ?_
                          refine lv_goto (tgt := 154) hx hb dL_cleared_150 (by decide) ?_
                          cases hf
                          exact hJ154 H locs ls hW (lv_sub hl [0, 1, 2, 4, 5] rfl)
                    replace hf := hg
                    refine lv_icmp_gt (tgt := 92) hx hb dL_cleared_74 (by decide) (fun c20 => ?_) (fun c20 => ?_)
                    · have hf := a_if_t c20 hf
                      refine lv_iconst (v := 0) hx hb dL_cleared_92 (by decide) ?_
                      cases hf
                      exact hJ93 H locs ls hW (lv_sub hl [0, 1, 2, 4, 5] rfl)
                    · have hf := a_if_f c20 hf
                      refine lv_aload_n hx hb dL_cleared_77 rfl (lv_at hl 0 rfl) ?_
                      refine lv_iload hx hb dL_cleared_78 (lv_at hl 5 rfl) ?_
                      refine lv_iload hx hb dL_cleared_80 (lv_at hl 4 rfl) ?_
                      obtain ⟨r22, hg, hf⟩ := ot_inv hf
                      refine g_cVi hC hW (o := 0) (ci := 9) (As := [.int x13, .int x2]) (rest := []) zc_k0 zc_b0 rfl (c0_X9_price l G  hg) (cwV 2 hts gL_cleared_X9_price rfl rfl rfl (by decide +kernel) ⟨Nat.le_of_ble_eq_true rfl, Nat.le_of_ble_eq_true rfl⟩) rfl hl.1 rfl (Nat.le_of_ble_eq_true rfl) dL_cleared_82 ⟨Nat.le_of_ble_eq_true rfl, Nat.le_of_ble_eq_true rfl⟩ (fun H locs hW => ?_)
                      refine lv_if_lt (tgt := 92) hx hb dL_cleared_85 (by decide) (fun c23 => ?_) (fun c23 => ?_)
                      · have hf := a_if_t c23 hf
                        refine lv_iconst (v := 0) hx hb dL_cleared_92 (by decide) ?_
                        cases hf
                        exact hJ93 H locs ls hW (lv_sub hl [0, 1, 2, 4, 5] rfl)
                      · have hf := a_if_f c23 hf
                        refine lv_iconst (v := 1) hx hb dL_cleared_88 (by decide) ?_
                        refine lv_goto (tgt := 93) hx hb dL_cleared_89 (by decide) ?_
                        cases hf
                        exact hJ93 H locs ls hW (lv_sub hl [0, 1, 2, 4, 5] rfl)
            obtain ⟨⟨y14, y15⟩, hg, hf⟩ := ob_inv hf
            have hf := ob_inv2 hf
            refine hL50 _ _ _ _ _ _ _ _ hg hW (lv_sub hl [2, 3, 4, 1, 5, 0] rfl) (fun H locs ls hW hl => ?_)
            refine lv_iload_n hx hb dL_cleared_161 rfl (lv_at hl 3 rfl) ?_
            obtain ⟨z38, hg, hf⟩ := ob_inv hf
            have hJ195 : ∀ (H : Heap) (locs : List Loc) (ls : Array Slot), g_H ZC G s H locs me → lv_has ls 8 [(0, .ref (G.2.2.1 0)), (1, .int p1), (2, .int p2), (4, .int x2)] → W p l e (headSpec wsL_cleared rmL_cleared).room s m ([.ref (G.2.2.1 0), .int p1, .int p2] : List Value).toArray below meth c H locs 0 0 Q (F0 m 195 ls [.int z38]) := by
              intro H locs ls hW hl
              refine lv_istore_n (lv' := [(3, .int z38), (0, .ref (G.2.2.1 0)), (1, .int p1), (2, .int p2), (4, .int x2)]) hx hb dL_cleared_195 rfl hl (by decide) rfl (fun ls hl => ?_)
              refine lv_iinc (v := (x2 + 1)) (lv' := [(4, .int (x2 + 1)), (3, .int z38), (0, .ref (G.2.2.1 0)), (1, .int p1), (2, .int p2)]) hx hb dL_cleared_196 hl (k := 4) rfl (congrArg (fun z => x2 + z) (by decide)) (by decide) rfl (fun ls hl => ?_)
              refine lv_goto (tgt := 5) hx hb dL_cleared_199 (by decide) ?_
              exact ih _ _ _ _ _ _ _ hf hW (lv_sub hl [2, 3, 4, 1, 0] rfl) hE
            replace hf := hg
            refine lv_if_eq (tgt := 194) hx hb dL_cleared_162 (by decide) (fun c37 => ?_) (fun c37 => ?_)
            · have hf := a_if_t c37 hf
              refine lv_iconst (v := 0) hx hb dL_cleared_194 (by decide) ?_
              cases hf
              exact hJ195 H locs ls hW (lv_sub hl [0, 1, 2, 4] rfl)
            · have hf := a_if_f c37 hf
              refine lv_aload_n hx hb dL_cleared_165 rfl (lv_at hl 0 rfl) ?_
              refine lv_iconst (v := 0) hx hb dL_cleared_166 (by decide) ?_
              refine lv_iload hx hb dL_cleared_167 (lv_at hl 4 rfl) ?_
              obtain ⟨r39, hg, hf⟩ := ot_inv hf
              refine g_cVi hC hW (o := 0) (ci := 9) (As := [.int 0, .int x2]) (rest := []) zc_k0 zc_b0 rfl (c0_X9_flow l G  hg) (cwV 2 hts gL_cleared_X9_flow rfl rfl rfl (by decide +kernel) ⟨Nat.le_of_ble_eq_true rfl, Nat.le_of_ble_eq_true rfl⟩) rfl hl.1 rfl (Nat.le_of_ble_eq_true rfl) dL_cleared_169 ⟨Nat.le_of_ble_eq_true rfl, Nat.le_of_ble_eq_true rfl⟩ (fun H locs hW => ?_)
              refine lv_aload_n hx hb dL_cleared_172 rfl (lv_at hl 0 rfl) ?_
              refine lv_iconst (v := 1) hx hb dL_cleared_173 (by decide) ?_
              refine lv_iload hx hb dL_cleared_174 (lv_at hl 4 rfl) ?_
              obtain ⟨r40, hg, hf⟩ := ot_inv hf
              refine g_cVi hC hW (o := 0) (ci := 9) (As := [.int 1, .int x2]) (rest := [.int r39]) zc_k0 zc_b0 rfl (c0_X9_flow l G  hg) (cwV 2 hts gL_cleared_X9_flow rfl rfl rfl (by decide +kernel) ⟨Nat.le_of_ble_eq_true rfl, Nat.le_of_ble_eq_true rfl⟩) rfl hl.1 rfl (Nat.le_of_ble_eq_true rfl) dL_cleared_176 ⟨Nat.le_of_ble_eq_true rfl, Nat.le_of_ble_eq_true rfl⟩ (fun H locs hW => ?_)
              refine lv_iadd hx hb dL_cleared_179 ?_
              refine lv_aload_n hx hb dL_cleared_180 rfl (lv_at hl 0 rfl) ?_
              refine lv_iconst (v := 2) hx hb dL_cleared_181 (by decide) ?_
              refine lv_iload hx hb dL_cleared_182 (lv_at hl 4 rfl) ?_
              obtain ⟨r41, hg, hf⟩ := ot_inv hf
              refine g_cVi hC hW (o := 0) (ci := 9) (As := [.int 2, .int x2]) (rest := [.int (r39 + r40)]) zc_k0 zc_b0 rfl (c0_X9_flow l G  hg) (cwV 2 hts gL_cleared_X9_flow rfl rfl rfl (by decide +kernel) ⟨Nat.le_of_ble_eq_true rfl, Nat.le_of_ble_eq_true rfl⟩) rfl hl.1 rfl (Nat.le_of_ble_eq_true rfl) dL_cleared_184 ⟨Nat.le_of_ble_eq_true rfl, Nat.le_of_ble_eq_true rfl⟩ (fun H locs hW => ?_)
              refine lv_icmp_ne (tgt := 194) hx hb dL_cleared_187 (by decide) (fun c42 => ?_) (fun c42 => ?_)
              · have hf := a_if_f c42 hf
                refine lv_iconst (v := 0) hx hb dL_cleared_194 (by decide) ?_
                cases hf
                exact hJ195 H locs ls hW (lv_sub hl [0, 1, 2, 4] rfl)
              · have hf := a_if_t c42 hf
                refine lv_iconst (v := 1) hx hb dL_cleared_190 (by decide) ?_
                refine lv_goto (tgt := 195) hx hb dL_cleared_191 (by decide) ?_
                cases hf
                exact hJ195 H locs ls hW (lv_sub hl [0, 1, 2, 4] rfl)
          replace hf := hg
          refine lv_if_ne (tgt := 45) hx hb dL_cleared_38 (by decide) (fun c10 => ?_) (fun c10 => ?_)
          · have hf := a_if_f c10 hf
            refine lv_iconst (v := 0) hx hb dL_cleared_45 (by decide) ?_
            cases hf
            exact hJ46 H locs ls hW (lv_sub hl [0, 1, 2, 4] rfl)
          · have hf := a_if_t c10 hf
            refine lv_iconst (v := 1) hx hb dL_cleared_41 (by decide) ?_
            refine lv_goto (tgt := 46) hx hb dL_cleared_42 (by decide) ?_
            cases hf
            exact hJ46 H locs ls hW (lv_sub hl [0, 1, 2, 4] rfl)
  obtain ⟨⟨y3, y4⟩, hg, hf⟩ := ob_inv hf
  have hf := ob_inv2 hf
  refine hL5 _ _ _ _ _ _ _ _ hg hW (lv_sub hl [2, 3, 4, 1, 0] rfl) (fun H locs ls hW hl => ?_)
  refine lv_iconst (v := 0) hx hb dL_cleared_202 (by decide) ?_
  refine lv_istore (lv' := [(4, .int 0), (0, .ref (G.2.2.1 0)), (2, .int p2), (3, .int y3)]) hx hb dL_cleared_203 hl (by decide) rfl (fun ls hl => ?_)
  have hL205 : ∀ (n : Nat) (x44 : Int32) (x45 : Int32) (y46 : Int32) (y47 : Int32) (H : Heap) (locs : List Loc) (ls : Array Slot), f_L_cleared_L205 me p2 n x44 x45 = some (y46, y47) → g_H ZC G s H locs me → lv_has ls 8 [(0, .ref (G.2.2.1 0)), (2, .int p2), (3, .int x44), (4, .int x45)] → (∀ (H : Heap) (locs : List Loc) (ls : Array Slot), g_H ZC G s H locs me → lv_has ls 8 [(3, .int y46)] → W p l e (headSpec wsL_cleared rmL_cleared).room s m ([.ref (G.2.2.1 0), .int p1, .int p2] : List Value).toArray below meth c H locs 0 0 Q (F0 m 245 ls [])) → W p l e (headSpec wsL_cleared rmL_cleared).room s m ([.ref (G.2.2.1 0), .int p1, .int p2] : List Value).toArray below meth c H locs 0 0 Q (F0 m 205 ls []) := by
    intro n
    induction n with
    | zero =>
      intro x44 x45 y46 y47 H locs ls hf hW hl hE
      cases hf
    | succ n ih =>
      intro x44 x45 y46 y47 H locs ls hf hW hl hE
      rw [f_L_cleared_L205] at hf
      refine lv_iload hx hb dL_cleared_205 (lv_at hl 3 rfl) ?_
      refine lv_iload_n hx hb dL_cleared_207 rfl (lv_at hl 1 rfl) ?_
      refine lv_icmp_ge (tgt := 245) hx hb dL_cleared_208 (by decide) (fun c48 => ?_) (fun c48 => ?_)
      · have hf := a_if_t c48 hf
        cases hf
        exact hE H locs ls hW (lv_sub hl [2] rfl)
      · have hf := a_if_f c48 hf
        refine lv_iload_n hx hb dL_cleared_211 rfl (lv_at hl 2 rfl) ?_
        refine lv_if_eq (tgt := 245) hx hb dL_cleared_212 (by decide) (fun c49 => ?_) (fun c49 => ?_)
        · have hf := a_if_t c49 hf
          cases hf
          exact hE H locs ls hW (lv_sub hl [2] rfl)
        · have hf := a_if_f c49 hf
          refine lv_aload_n hx hb dL_cleared_215 rfl (lv_at hl 0 rfl) ?_
          refine lv_iload hx hb dL_cleared_216 (lv_at hl 3 rfl) ?_
          obtain ⟨r50, hg, hf⟩ := ot_inv hf
          refine g_cVi hC hW (o := 0) (ci := 9) (As := [.int x45]) (rest := []) zc_k0 zc_b0 rfl (c0_X9_isTaken l G  hg) (cwV 1 hts gL_cleared_X9_isTaken rfl rfl rfl (by decide +kernel) ⟨Nat.le_of_ble_eq_true rfl, Nat.le_of_ble_eq_true rfl⟩) rfl hl.1 rfl (Nat.le_of_ble_eq_true rfl) dL_cleared_218 ⟨Nat.le_of_ble_eq_true rfl, Nat.le_of_ble_eq_true rfl⟩ (fun H locs hW => ?_)
          obtain ⟨z52, hg, hf⟩ := ob_inv hf
          have hJ238 : ∀ (H : Heap) (locs : List Loc) (ls : Array Slot), g_H ZC G s H locs me → lv_has ls 8 [(0, .ref (G.2.2.1 0)), (2, .int p2), (4, .int x45)] → W p l e (headSpec wsL_cleared rmL_cleared).room s m ([.ref (G.2.2.1 0), .int p1, .int p2] : List Value).toArray below meth c H locs 0 0 Q (F0 m 238 ls [.int z52]) := by
            intro H locs ls hW hl
            refine lv_istore_n (lv' := [(3, .int z52), (0, .ref (G.2.2.1 0)), (2, .int p2), (4, .int x45)]) hx hb dL_cleared_238 rfl hl (by decide) rfl (fun ls hl => ?_)
            refine lv_iinc (v := (x45 + 1)) (lv' := [(4, .int (x45 + 1)), (3, .int z52), (0, .ref (G.2.2.1 0)), (2, .int p2)]) hx hb dL_cleared_239 hl (k := 3) rfl (congrArg (fun z => x45 + z) (by decide)) (by decide) rfl (fun ls hl => ?_)
            refine lv_goto (tgt := 205) hx hb dL_cleared_242 (by decide) ?_
            exact ih _ _ _ _ _ _ _ hf hW (lv_sub hl [2, 3, 1, 0] rfl) hE
          replace hf := hg
          refine lv_if_eq (tgt := 233) hx hb dL_cleared_221 (by decide) (fun c51 => ?_) (fun c51 => ?_)
          · have hf := a_if_t c51 hf
            refine lv_iconst (v := 1) hx hb dL_cleared_233 (by decide) ?_
            refine lv_goto (tgt := 238) hx hb dL_cleared_234 (by decide) ?_
            cases hf
            exact hJ238 H locs ls hW (lv_sub hl [0, 1, 3] rfl)
          · have hf := a_if_f c51 hf
            refine lv_aload_n hx hb dL_cleared_224 rfl (lv_at hl 0 rfl) ?_
            refine lv_iload hx hb dL_cleared_225 (lv_at hl 3 rfl) ?_
            obtain ⟨r53, hg, hf⟩ := ot_inv hf
            refine g_cVi hC hW (o := 0) (ci := 9) (As := [.int x45]) (rest := []) zc_k0 zc_b0 rfl (c0_X9_gain l G  hg) (cwV 1 hts gL_cleared_X9_gain rfl rfl rfl (by decide +kernel) ⟨Nat.le_of_ble_eq_true rfl, Nat.le_of_ble_eq_true rfl⟩) rfl hl.1 rfl (Nat.le_of_ble_eq_true rfl) dL_cleared_227 ⟨Nat.le_of_ble_eq_true rfl, Nat.le_of_ble_eq_true rfl⟩ (fun H locs hW => ?_)
            refine lv_if_lt (tgt := 237) hx hb dL_cleared_230 (by decide) (fun c54 => ?_) (fun c54 => ?_)
            · have hf := a_if_t c54 hf
              refine lv_iconst (v := 0) hx hb dL_cleared_237 (by decide) ?_
              cases hf
              exact hJ238 H locs ls hW (lv_sub hl [0, 1, 3] rfl)
            · have hf := a_if_f c54 hf
              refine lv_iconst (v := 1) hx hb dL_cleared_233 (by decide) ?_
              refine lv_goto (tgt := 238) hx hb dL_cleared_234 (by decide) ?_
              cases hf
              exact hJ238 H locs ls hW (lv_sub hl [0, 1, 3] rfl)
  obtain ⟨⟨y46, y47⟩, hg, hf⟩ := ob_inv hf
  have hf := ob_inv2 hf
  refine hL205 _ _ _ _ _ _ _ _ hg hW (lv_sub hl [1, 2, 3, 0] rfl) (fun H locs ls hW hl => ?_)
  refine lv_iload_n hx hb dL_cleared_245 rfl (lv_at hl 0 rfl) ?_
  obtain ⟨b55, h9, hf⟩ := ob_inv hf
  obtain ⟨h9, hn9⟩ := a_zc_inv h9
  refine g_nmi h9 ?_
  cases hf
  subst hQ
  exact g_zret hC hW hr hlocks hn9 rfl rfl dL_cleared_246
abbrev rmL_money : Room := { frames := 8, cells := 0, slots := 0, locals := 132 }
set_option maxHeartbeats 4000000 in
set_option maxRecDepth 100000 in
theorem c_L_money (l : Launch) (G : gG) {p1 : Int32} {me : gM} {r0 : Int32}  (hf : f_L_money p1 me = some r0) : Met l yL_money wsL_money rmL_money (va_Pc [.ref (G.2.2.1 0), .int p1] (g_W ZC G me)) (g_Qi ZC G r0 me) 0 0 (g_A ZC G) := by
  refine Met.ofW (cc := cL_money) (maxL := 4) (ret := (some .boolean)) (by decide) rfl ?_
  intro p e s m args below meth c s₁ B hml hv
  obtain ⟨rfl, hW0⟩ := hv
  have hC : CallFix p m c cL_money 4 s ([.ref (G.2.2.1 0), .int p1] : List Value).toArray wsL_money RL := ⟨B.exec, B.bytes, hml, findClass_of_methodNamed B.named, atoms_spec (ws := wsL_money) B.pre⟩
  have hx := hC.1
  have hb := hC.2.1
  have hown := hC.2.2.2.1
  have hts := hC.2.2.2.2
  have hr := B.returns
  have hlocks := B.notSynchronized
  have hW := g_H_enter hW0
  have hl := lv_entry ([.ref (G.2.2.1 0), .int p1]) (n := 4) (Nat.le_of_ble_eq_true rfl)
  rw [lg_entry_eq]
  generalize (lg_sl ([.ref (G.2.2.1 0), .int p1]) ++ List.replicate (4 - (lg_sl ([.ref (G.2.2.1 0), .int p1])).length) Slot.unset).toArray = ls at hl ⊢
  have hl : lv_has ls 4 [(0, .ref (G.2.2.1 0)), (1, .int p1)] := hl
  obtain ⟨Q, hQ⟩ : ∃ Q, Q = MQ below (g_Qi ZC G r0 me) ([.ref (G.2.2.1 0), .int p1] : List Value).toArray s 0 0 (g_A ZC G) := ⟨_, rfl⟩
  refine g_goQ hQ ?_
  unfold f_L_money at hf
  refine g_start hW (fun H locs hW => ?_)
  refine lv_aload_n hx hb dL_money_0 rfl (lv_at hl 0 rfl) ?_
  obtain ⟨r1, hg, hf⟩ := ob_inv hf
  refine g_cVi hC hW (o := 0) (ci := 9) (As := []) (rest := []) zc_k0 zc_b0 rfl (c_X9_house l G  hg) (cwV 0 hts gL_money_X9_house rfl rfl rfl (by decide +kernel) ⟨Nat.le_of_ble_eq_true rfl, Nat.le_of_ble_eq_true rfl⟩) rfl hl.1 rfl (Nat.le_of_ble_eq_true rfl) dL_money_1 ⟨Nat.le_of_ble_eq_true rfl, Nat.le_of_ble_eq_true rfl⟩ (fun H locs hW => ?_)
  refine lv_istore_n (lv' := [(2, .int r1), (0, .ref (G.2.2.1 0)), (1, .int p1)]) hx hb dL_money_4 rfl hl (by decide) rfl (fun ls hl => ?_)
  refine lv_iconst (v := 0) hx hb dL_money_5 (by decide) ?_
  refine lv_istore_n (lv' := [(3, .int 0), (2, .int r1), (0, .ref (G.2.2.1 0)), (1, .int p1)]) hx hb dL_money_6 rfl hl (by decide) rfl (fun ls hl => ?_)
  have hL7 : ∀ (n : Nat) (x2 : Int32) (x3 : Int32) (y4 : Int32) (y5 : Int32) (H : Heap) (locs : List Loc) (ls : Array Slot), f_L_money_L7 me n x2 x3 = some (y4, y5) → g_H ZC G s H locs me → lv_has ls 4 [(0, .ref (G.2.2.1 0)), (1, .int p1), (2, .int x2), (3, .int x3)] → (∀ (H : Heap) (locs : List Loc) (ls : Array Slot), g_H ZC G s H locs me → lv_has ls 4 [(1, .int p1), (2, .int y4)] → W p l e (headSpec wsL_money rmL_money).room s m ([.ref (G.2.2.1 0), .int p1] : List Value).toArray below meth c H locs 0 0 Q (F0 m 27 ls [])) → W p l e (headSpec wsL_money rmL_money).room s m ([.ref (G.2.2.1 0), .int p1] : List Value).toArray below meth c H locs 0 0 Q (F0 m 7 ls []) := by
    intro n
    induction n with
    | zero =>
      intro x2 x3 y4 y5 H locs ls hf hW hl hE
      cases hf
    | succ n ih =>
      intro x2 x3 y4 y5 H locs ls hf hW hl hE
      rw [f_L_money_L7] at hf
      refine lv_iload_n hx hb dL_money_7 rfl (lv_at hl 3 rfl) ?_
      refine lv_bipush (v := 6) hx hb dL_money_8 (by decide) ?_
      refine lv_icmp_ge (tgt := 27) hx hb dL_money_10 (by decide) (fun c6 => ?_) (fun c6 => ?_)
      · have hf := a_if_t c6 hf
        cases hf
        exact hE H locs ls hW (lv_sub hl [1, 2] rfl)
      · have hf := a_if_f c6 hf
        refine lv_iload_n hx hb dL_money_13 rfl (lv_at hl 2 rfl) ?_
        refine lv_aload_n hx hb dL_money_14 rfl (lv_at hl 0 rfl) ?_
        refine lv_iload_n hx hb dL_money_15 rfl (lv_at hl 3 rfl) ?_
        obtain ⟨r7, hg, hf⟩ := ot_inv hf
        refine g_cVi hC hW (o := 0) (ci := 9) (As := [.int x3]) (rest := [.int x2]) zc_k0 zc_b0 rfl (c0_X9_account l G  hg) (cwV 1 hts gL_money_X9_account rfl rfl rfl (by decide +kernel) ⟨Nat.le_of_ble_eq_true rfl, Nat.le_of_ble_eq_true rfl⟩) rfl hl.1 rfl (Nat.le_of_ble_eq_true rfl) dL_money_16 ⟨Nat.le_of_ble_eq_true rfl, Nat.le_of_ble_eq_true rfl⟩ (fun H locs hW => ?_)
        refine lv_iadd hx hb dL_money_19 ?_
        obtain ⟨x8, h9, hf⟩ := ob_inv hf
        refine g_nmi (Option.some.inj h9) ?_
        refine lv_istore_n (lv' := [(2, .int x8), (0, .ref (G.2.2.1 0)), (1, .int p1), (3, .int x3)]) hx hb dL_money_20 rfl hl (by decide) rfl (fun ls hl => ?_)
        refine lv_iinc (v := (x3 + 1)) (lv' := [(3, .int (x3 + 1)), (2, .int x8), (0, .ref (G.2.2.1 0)), (1, .int p1)]) hx hb dL_money_21 hl (k := 3) rfl (congrArg (fun z => x3 + z) (by decide)) (by decide) rfl (fun ls hl => ?_)
        refine lv_goto (tgt := 7) hx hb dL_money_24 (by decide) ?_
        exact ih _ _ _ _ _ _ _ hf hW (lv_sub hl [2, 3, 1, 0] rfl) hE
  obtain ⟨⟨y4, y5⟩, hg, hf⟩ := ob_inv hf
  have hf := ob_inv2 hf
  refine hL7 _ _ _ _ _ _ _ _ hg hW (lv_sub hl [2, 3, 1, 0] rfl) (fun H locs ls hW hl => ?_)
  refine lv_iload_n hx hb dL_money_27 rfl (lv_at hl 1 rfl) ?_
  refine lv_iload_n hx hb dL_money_28 rfl (lv_at hl 0 rfl) ?_
  obtain ⟨z10, hg, hf⟩ := ob_inv hf
  have hJ37 : ∀ (H : Heap) (locs : List Loc) (ls : Array Slot), g_H ZC G s H locs me → lv_has ls 4 [] → W p l e (headSpec wsL_money rmL_money).room s m ([.ref (G.2.2.1 0), .int p1] : List Value).toArray below meth c H locs 0 0 Q (F0 m 37 ls [.int z10]) := by
    intro H locs ls hW hl
    obtain ⟨b11, h9, hf⟩ := ob_inv hf
    obtain ⟨h9, hn9⟩ := a_zc_inv h9
    refine g_nmi h9 ?_
    cases hf
    subst hQ
    exact g_zret hC hW hr hlocks hn9 rfl rfl dL_money_37
  replace hf := hg
  refine lv_icmp_ne (tgt := 36) hx hb dL_money_29 (by decide) (fun c9 => ?_) (fun c9 => ?_)
  · have hf := a_if_f c9 hf
    refine lv_iconst (v := 0) hx hb dL_money_36 (by decide) ?_
    cases hf
    exact hJ37 H locs ls hW (lv_sub hl [] rfl)
  · have hf := a_if_t c9 hf
    refine lv_iconst (v := 1) hx hb dL_money_32 (by decide) ?_
    refine lv_goto (tgt := 37) hx hb dL_money_33 (by decide) ?_
    cases hf
    exact hJ37 H locs ls hW (lv_sub hl [] rfl)
