def f_X6_allows (p1 : Int32) (p2 : Int32) (p3 : Int32) (me : gM) : Option (Int32) :=
  ob (a_ld 3 3 0 me) fun v1 =>
  ob (if (3 * v1) < (a_abs (p1 - p2)) then
      some 0
    else
      ob (a_ld 3 3 1 me) fun v4 =>
      if (3 * v4) < (a_abs (p2 - p3)) then
        some 0
      else
        ob (a_ld 3 3 2 me) fun v6 =>
        if (3 * v6) < (a_abs (p1 - p3)) then
          some 0
        else
          some 1) fun (z3 : Int32) =>
  ob (a_zc z3) fun b8 =>
  some b8
abbrev rmX6_allows : Room := { frames := 1, cells := 0, slots := 0, locals := 21 }
set_option maxHeartbeats 4000000 in
set_option maxRecDepth 100000 in
theorem c_X6_allows (l : Launch) (G : gG) {p1 : Int32} {p2 : Int32} {p3 : Int32} {me : gM} {r0 : Int32}  (hf : f_X6_allows p1 p2 p3 me = some r0) : Met l yX6_allows wsX6_allows rmX6_allows (va_Pc [.ref (G.2.2.1 2), .int p1, .int p2, .int p3] (g_W ZC G me)) (g_Qi ZC G r0 me) 0 0 (g_A ZC G) := by
  refine Met.ofW (cc := cX6_allows) (maxL := 4) (ret := (some .boolean)) (by decide) rfl ?_
  intro p e s m args below meth c s₁ B hml hv
  obtain ⟨rfl, hW0⟩ := hv
  have hC : CallFix p m c cX6_allows 4 s ([.ref (G.2.2.1 2), .int p1, .int p2, .int p3] : List Value).toArray wsX6_allows RX6 := ⟨B.exec, B.bytes, hml, findClass_of_methodNamed B.named, atoms_spec (ws := wsX6_allows) B.pre⟩
  have hx := hC.1
  have hb := hC.2.1
  have hown := hC.2.2.2.1
  have hts := hC.2.2.2.2
  have hr := B.returns
  have hlocks := B.notSynchronized
  have hW := g_H_enter hW0
  have hi6 : ∀ w ∈ wsX60, w ∈ wsX6_allows := by decide +kernel
  have hl := lv_entry ([.ref (G.2.2.1 2), .int p1, .int p2, .int p3]) (n := 4) (Nat.le_of_ble_eq_true rfl)
  rw [lg_entry_eq]
  generalize (lg_sl ([.ref (G.2.2.1 2), .int p1, .int p2, .int p3]) ++ List.replicate (4 - (lg_sl ([.ref (G.2.2.1 2), .int p1, .int p2, .int p3])).length) Slot.unset).toArray = ls at hl ⊢
  have hl : lv_has ls 4 [(0, .ref (G.2.2.1 2)), (1, .int p1), (2, .int p2), (3, .int p3)] := hl
  obtain ⟨Q, hQ⟩ : ∃ Q, Q = MQ below (g_Qi ZC G r0 me) ([.ref (G.2.2.1 2), .int p1, .int p2, .int p3] : List Value).toArray s 0 0 (g_A ZC G) := ⟨_, rfl⟩
  refine g_goQ hQ ?_
  unfold f_X6_allows at hf
  refine g_start hW (fun H locs hW => ?_)
  refine lv_iload_n hx hb dX6_allows_0 rfl (lv_at hl 1 rfl) ?_
  refine lv_iload_n hx hb dX6_allows_1 rfl (lv_at hl 2 rfl) ?_
  refine lv_isub hx hb dX6_allows_2 ?_
  refine g_abs hC hl.1 (by decide +kernel) (by decide +kernel) (by decide +kernel) (by decide +kernel) (Nat.le_of_ble_eq_true rfl) (Nat.le_of_ble_eq_true rfl) (Nat.le_of_ble_eq_true rfl) (Nat.le_of_ble_eq_true rfl) dX6_allows_3 ?_
  refine lv_iconst (v := 3) hx hb dX6_allows_6 (by decide) ?_
  refine lv_aload_n hx hb dX6_allows_7 rfl (lv_at hl 0 rfl) ?_
  refine g_getr hC hW (o := 2) (ci := 6) (k := 0) zc_k2 zc_b2 rfl hi6 (by decide) rfl (t := 3) zc_r2_0 (by decide +kernel) dX6_allows_8 ?_
  refine lv_iconst (v := 0) hx hb dX6_allows_11 (by decide) ?_
  obtain ⟨v1, h9, hf⟩ := ob_inv hf
  refine g_ild hC hW zc_k3 zc_b3 zc_n3 h9 dX6_allows_12 ?_
  refine lv_imul hx hb dX6_allows_13 ?_
  obtain ⟨z3, hg, hf⟩ := ob_inv hf
  have hJ56 : ∀ (H : Heap) (locs : List Loc) (ls : Array Slot), g_H ZC G s H locs me → lv_has ls 4 [] → W p l e (headSpec wsX6_allows rmX6_allows).room s m ([.ref (G.2.2.1 2), .int p1, .int p2, .int p3] : List Value).toArray below meth c H locs 0 0 Q (F0 m 56 ls [.int z3]) := by
    intro H locs ls hW hl
    obtain ⟨b8, h9, hf⟩ := ob_inv hf
    obtain ⟨h9, hn9⟩ := a_zc_inv h9
    refine g_nmi h9 ?_
    cases hf
    subst hQ
    exact g_zret hC hW hr hlocks hn9 rfl rfl dX6_allows_56
  replace hf := hg
  refine lv_icmp_gt (tgt := 55) hx hb dX6_allows_14 (by decide) (fun c2 => ?_) (fun c2 => ?_)
  · have hf := a_if_t c2 hf
    refine lv_iconst (v := 0) hx hb dX6_allows_55 (by decide) ?_
    cases hf
    exact hJ56 H locs ls hW (lv_sub hl [] rfl)
  · have hf := a_if_f c2 hf
    refine lv_iload_n hx hb dX6_allows_17 rfl (lv_at hl 2 rfl) ?_
    refine lv_iload_n hx hb dX6_allows_18 rfl (lv_at hl 3 rfl) ?_
    refine lv_isub hx hb dX6_allows_19 ?_
    refine g_abs hC hl.1 (by decide +kernel) (by decide +kernel) (by decide +kernel) (by decide +kernel) (Nat.le_of_ble_eq_true rfl) (Nat.le_of_ble_eq_true rfl) (Nat.le_of_ble_eq_true rfl) (Nat.le_of_ble_eq_true rfl) dX6_allows_20 ?_
    refine lv_iconst (v := 3) hx hb dX6_allows_23 (by decide) ?_
    refine lv_aload_n hx hb dX6_allows_24 rfl (lv_at hl 0 rfl) ?_
    refine g_getr hC hW (o := 2) (ci := 6) (k := 0) zc_k2 zc_b2 rfl hi6 (by decide) rfl (t := 3) zc_r2_0 (by decide +kernel) dX6_allows_25 ?_
    refine lv_iconst (v := 1) hx hb dX6_allows_28 (by decide) ?_
    obtain ⟨v4, h9, hf⟩ := ob_inv hf
    refine g_ild hC hW zc_k3 zc_b3 zc_n3 h9 dX6_allows_29 ?_
    refine lv_imul hx hb dX6_allows_30 ?_
    refine lv_icmp_gt (tgt := 55) hx hb dX6_allows_31 (by decide) (fun c5 => ?_) (fun c5 => ?_)
    · have hf := a_if_t c5 hf
      refine lv_iconst (v := 0) hx hb dX6_allows_55 (by decide) ?_
      cases hf
      exact hJ56 H locs ls hW (lv_sub hl [] rfl)
    · have hf := a_if_f c5 hf
      refine lv_iload_n hx hb dX6_allows_34 rfl (lv_at hl 1 rfl) ?_
      refine lv_iload_n hx hb dX6_allows_35 rfl (lv_at hl 3 rfl) ?_
      refine lv_isub hx hb dX6_allows_36 ?_
      refine g_abs hC hl.1 (by decide +kernel) (by decide +kernel) (by decide +kernel) (by decide +kernel) (Nat.le_of_ble_eq_true rfl) (Nat.le_of_ble_eq_true rfl) (Nat.le_of_ble_eq_true rfl) (Nat.le_of_ble_eq_true rfl) dX6_allows_37 ?_
      refine lv_iconst (v := 3) hx hb dX6_allows_40 (by decide) ?_
      refine lv_aload_n hx hb dX6_allows_41 rfl (lv_at hl 0 rfl) ?_
      refine g_getr hC hW (o := 2) (ci := 6) (k := 0) zc_k2 zc_b2 rfl hi6 (by decide) rfl (t := 3) zc_r2_0 (by decide +kernel) dX6_allows_42 ?_
      refine lv_iconst (v := 2) hx hb dX6_allows_45 (by decide) ?_
      obtain ⟨v6, h9, hf⟩ := ob_inv hf
      refine g_ild hC hW zc_k3 zc_b3 zc_n3 h9 dX6_allows_46 ?_
      refine lv_imul hx hb dX6_allows_47 ?_
      refine lv_icmp_gt (tgt := 55) hx hb dX6_allows_48 (by decide) (fun c7 => ?_) (fun c7 => ?_)
      · have hf := a_if_t c7 hf
        refine lv_iconst (v := 0) hx hb dX6_allows_55 (by decide) ?_
        cases hf
        exact hJ56 H locs ls hW (lv_sub hl [] rfl)
      · have hf := a_if_f c7 hf
        refine lv_iconst (v := 1) hx hb dX6_allows_51 (by decide) ?_
        refine lv_goto (tgt := 56) hx hb dX6_allows_52 (by decide) ?_
        cases hf
        exact hJ56 H locs ls hW (lv_sub hl [] rfl)
