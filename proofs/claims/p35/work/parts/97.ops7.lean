theorem isT_0 (mm : gM) : f_X10_isThere 0 mm = some (0, thM mm 1) := by
  have h := thM_0 mm 1
  have e : g_up mm 0 (upd (mm 0) 67 1) = thM mm 1 := rfl
  unfold f_X10_isThere
  rw [if_pos rfl, ob_some, e, ob_some, h, if_neg (by decide)]
  rfl
theorem isT_b {mm : gM} (h1 : mm 0 1 = 0) : f_X10_isThere 1 mm = some (0, thM mm 2) := by
  have h := thM_0 mm 2
  have e : g_up mm 0 (upd (mm 0) 67 2) = thM mm 2 := rfl
  unfold f_X10_isThere
  rw [if_neg (by decide), if_pos h1, ob_some, e, ob_some, h, if_neg (by decide)]
  rfl
theorem isT_1 {mm : gM} (h1 : ¬ mm 0 1 = 0) : f_X10_isThere 1 mm = some (1, thM mm 0) := by
  have h := thM_0 mm 0
  have e : g_up mm 0 (upd (mm 0) 67 0) = thM mm 0 := rfl
  unfold f_X10_isThere
  rw [if_neg (by decide), if_neg h1, ob_some, e, ob_some, h, if_pos rfl]
  rfl
theorem fin_get {mc mm : gM} {fL fM : Option (Int32 × gM)} {r : Int32} (hR : RelG mc mm) (h1 : fL = some (0, g_up mc 229 (upd (mc 229) 0 r))) (h2 : fM = some (r, thM mm 0)) : opOK fL fM := fin_ret (thM_R hR 0) h1 h2 (thM_0 mm 0)
theorem op_price : l_op_15 RelG := by
  intro mc mm p1 p2 hR
  show opOK (f_Q_price p1 p2 mc) (f_X10_price p1 p2 mm)
  obtain ⟨d, st, l, n, M, nb, TO, GR, na, MA, no, MO, hA⟩ := id hR
  obtain ⟨a1, a2, a3, a4, a5, a6, a7, a8, a9, a10, a11, a12⟩ := id hA
  obtain ⟨hd9, hst1, hd1, hd2, hs1, hs2⟩ := id a1
  rcases chk_zone p1 with ⟨v0, l0, e0, x0, y0⟩ | ⟨x0, y0⟩
  rotate_left
  · have hX : f_X9_price p1 p2 mc = some (.inl 1) := by
      unfold f_X9_price
      simp only [x0, ox_r, ox_l]
    refine fin_thr (z := 1) hR (by decide) (by unfold f_Q_price; rw [hX]; rfl) ⟨0, ?_⟩
    unfold f_X10_price
    simp only [y0, ob_sm, i00, i10, if_true, isT_0]
  rcases chk_hour p2 with ⟨v1, l1, e1, x1, y1⟩ | ⟨x1, y1⟩
  rotate_left
  · have hX : f_X9_price p1 p2 mc = some (.inl 1) := by
      unfold f_X9_price
      simp only [x0, x1, ox_r, ox_l]
    refine fin_thr (z := 1) hR (by decide) (by unfold f_Q_price; rw [hX]; rfl) ⟨0, ?_⟩
    unfold f_X10_price
    simp only [y0, y1, ob_sm, i00, i10, if_true, isT_0]
  subst e0
  subst e1
  have hst01 : st = 0 ∨ st = 1 := by omega
  rcases hst01 with s0 | s1
  · have z1 : ¬ mc 0 9 = 1 := by rw [hs1, s0]; decide
    have z2 : mm 0 1 = 0 := by rw [hs2, s0]; rfl
    have hX : f_X9_price (iI (v0 : Nat)) (iI (v1 : Nat)) mc = some (.inl 3) := by
      unfold f_X9_price f_X9_checkState
      simp only [x0, x1, ob_sm, ox_r, ox_l, if_neg z1, i00, if_true]
    refine fin_thr (z := 2) hR (by decide) (by unfold f_Q_price; rw [hX]; rfl) ⟨0, ?_⟩
    unfold f_X10_price
    simp only [y0, y1, ob_sm, i00, i10, if_true, isT_b z2]
  have z1 : mc 0 9 = 1 := by rw [hs1, s1]; rfl
  have z2 : ¬ mm 0 1 = 0 := by rw [hs2, s1]; decide
  have t0 : thM mm 0 0 0 = iI (d : Nat) := by rw [thM_k _ _ (by decide)]; exact hd2
  have hrf : a_rf 10 69 16 (mc 0 8) = some (69 + 16 * d) := by rw [hd1, a_rfI (by omega) (by omega) (by omega), Int.toNat_natCast]
  have hd : d < 10 := by omega
  have hX : f_X9_price (iI (v0 : Nat)) (iI (v1 : Nat)) mc = some (.inr (mm 41 (12 * d + (4 * v0 + v1)))) := by
    unfold f_X9_price f_X9_checkState
    simp only [x0, x1, ox_r, ox_l, ob_sm, if_pos z1, i10, hrf, sp_spot]
    rw [a_ldI (by omega) (by omega) (by omega), ob_some, show (((v0 : Nat) : Int) * 4 + (v1 : Nat)).toNat = 4 * v0 + v1 by omega, (a9 d hd).1 _ (by omega)]
  refine fin_get (r := mm 41 (12 * d + (4 * v0 + v1))) hR (by unfold f_Q_price; rw [hX, os_r2, ob_some, a_lst0, ob_some]) ?_
  unfold f_X10_price
  simp only [y0, y1, ob_sm, i10, isT_1 z2, t0]
  rw [iL_12, iL_4, iI_mul, iI_mul, iI_add, iI_add, a_ldI (by omega) (by omega) (by omega), ob_some, ob_some, show ((12 : Int) * (d : Nat) + 4 * (v0 : Nat) + (v1 : Nat)).toNat = 12 * d + (4 * v0 + v1) by omega, thM_c _ _ (by decide)]
theorem op_net : l_op_16 RelG := by
  intro mc mm p1 p2 hR
  show opOK (f_Q_net p1 p2 mc) (f_X10_net p1 p2 mm)
  obtain ⟨d, st, l, n, M, nb, TO, GR, na, MA, no, MO, hA⟩ := id hR
  obtain ⟨a1, a2, a3, a4, a5, a6, a7, a8, a9, a10, a11, a12⟩ := id hA
  obtain ⟨hd9, hst1, hd1, hd2, hs1, hs2⟩ := id a1
  rcases chk_zone p1 with ⟨v0, l0, e0, x0, y0⟩ | ⟨x0, y0⟩
  rotate_left
  · have hX : f_X9_net p1 p2 mc = some (.inl 1) := by
      unfold f_X9_net
      simp only [x0, ox_r, ox_l]
    refine fin_thr (z := 1) hR (by decide) (by unfold f_Q_net; rw [hX]; rfl) ⟨0, ?_⟩
    unfold f_X10_net
    simp only [y0, ob_sm, i00, i10, if_true, isT_0]
  rcases chk_hour p2 with ⟨v1, l1, e1, x1, y1⟩ | ⟨x1, y1⟩
  rotate_left
  · have hX : f_X9_net p1 p2 mc = some (.inl 1) := by
      unfold f_X9_net
      simp only [x0, x1, ox_r, ox_l]
    refine fin_thr (z := 1) hR (by decide) (by unfold f_Q_net; rw [hX]; rfl) ⟨0, ?_⟩
    unfold f_X10_net
    simp only [y0, y1, ob_sm, i00, i10, if_true, isT_0]
  subst e0
  subst e1
  have hst01 : st = 0 ∨ st = 1 := by omega
  rcases hst01 with s0 | s1
  · have z1 : ¬ mc 0 9 = 1 := by rw [hs1, s0]; decide
    have z2 : mm 0 1 = 0 := by rw [hs2, s0]; rfl
    have hX : f_X9_net (iI (v0 : Nat)) (iI (v1 : Nat)) mc = some (.inl 3) := by
      unfold f_X9_net f_X9_checkState
      simp only [x0, x1, ob_sm, ox_r, ox_l, if_neg z1, i00, if_true]
    refine fin_thr (z := 2) hR (by decide) (by unfold f_Q_net; rw [hX]; rfl) ⟨0, ?_⟩
    unfold f_X10_net
    simp only [y0, y1, ob_sm, i00, i10, if_true, isT_b z2]
  have z1 : mc 0 9 = 1 := by rw [hs1, s1]; rfl
  have z2 : ¬ mm 0 1 = 0 := by rw [hs2, s1]; decide
  have t0 : thM mm 0 0 0 = iI (d : Nat) := by rw [thM_k _ _ (by decide)]; exact hd2
  have hrf : a_rf 10 69 16 (mc 0 8) = some (69 + 16 * d) := by rw [hd1, a_rfI (by omega) (by omega) (by omega), Int.toNat_natCast]
  have hd : d < 10 := by omega
  have hX : f_X9_net (iI (v0 : Nat)) (iI (v1 : Nat)) mc = some (.inr (mm 48 (4 * v0 + v1))) := by
    unfold f_X9_net f_X9_checkState
    simp only [x0, x1, ox_r, ox_l, ob_sm, if_pos z1, i10, hrf, sp_spot]
    rw [a_ldI (by omega) (by omega) (by omega), ob_some, show (((v0 : Nat) : Int) * 4 + (v1 : Nat)).toNat = 4 * v0 + v1 by omega, (a8 s1).1 _ (by omega)]
  refine fin_get (r := mm 48 (4 * v0 + v1)) hR (by unfold f_Q_net; rw [hX, os_r2, ob_some, a_lst0, ob_some]) ?_
  unfold f_X10_net
  simp only [y0, y1, ob_sm, i10, isT_1 z2]
  rw [iL_4, iI_mul, iI_add, a_ldI (by omega) (by omega) (by omega), ob_some, ob_some, show ((4 : Int) * (v0 : Nat) + (v1 : Nat)).toNat = 4 * v0 + v1 by omega, thM_c _ _ (by decide)]
def lbF2 (v : Nat) : Nat := if v = 1 then 1 else 0
def leF2 (v : Nat) : Nat := if v = 0 then 1 else 2
theorem tb_le : ∀ v, v < 3 → f_X9_lineBegin (iI (v : Nat)) = some (iI (lbF2 v : Nat)) ∧ f_X9_lineEnd (iI (v : Nat)) = some (iI (leF2 v : Nat)) ∧ lbF2 v < 3 ∧ leF2 v < 3 ∧ (if iI (v : Nat) = 1 then (some 4 : Option Int32) else some 0) = some (iI ((4 * lbF2 v : Nat) : Int)) ∧ (if iI (v : Nat) = 0 then (some 4 : Option Int32) else some 8) = some (iI ((4 * leF2 v : Nat) : Int)) := by decide +kernel
theorem op_flow : l_op_17 RelG := by
  intro mc mm p1 p2 hR
  show opOK (f_Q_flow p1 p2 mc) (f_X10_flow p1 p2 mm)
  obtain ⟨d, st, l, n, M, nb, TO, GR, na, MA, no, MO, hA⟩ := id hR
  obtain ⟨a1, a2, a3, a4, a5, a6, a7, a8, a9, a10, a11, a12⟩ := id hA
  obtain ⟨hd9, hst1, hd1, hd2, hs1, hs2⟩ := id a1
  rcases chk_line p1 with ⟨v0, l0, e0, x0, y0⟩ | ⟨x0, y0⟩
  rotate_left
  · have hX : f_X9_flow p1 p2 mc = some (.inl 1) := by
      unfold f_X9_flow
      simp only [x0, ox_r, ox_l]
    refine fin_thr (z := 1) hR (by decide) (by unfold f_Q_flow; rw [hX]; rfl) ⟨0, ?_⟩
    unfold f_X10_flow
    simp only [y0, ob_sm, i00, i10, if_true, isT_0]
  rcases chk_hour p2 with ⟨v1, l1, e1, x1, y1⟩ | ⟨x1, y1⟩
  rotate_left
  · have hX : f_X9_flow p1 p2 mc = some (.inl 1) := by
      unfold f_X9_flow
      simp only [x0, x1, ox_r, ox_l]
    refine fin_thr (z := 1) hR (by decide) (by unfold f_Q_flow; rw [hX]; rfl) ⟨0, ?_⟩
    unfold f_X10_flow
    simp only [y0, y1, ob_sm, i00, i10, if_true, isT_0]
  subst e0
  subst e1
  have hst01 : st = 0 ∨ st = 1 := by omega
  rcases hst01 with s0 | s1
  · have z1 : ¬ mc 0 9 = 1 := by rw [hs1, s0]; decide
    have z2 : mm 0 1 = 0 := by rw [hs2, s0]; rfl
    have hX : f_X9_flow (iI (v0 : Nat)) (iI (v1 : Nat)) mc = some (.inl 3) := by
      unfold f_X9_flow f_X9_checkState
      simp only [x0, x1, ob_sm, ox_r, ox_l, if_neg z1, i00, if_true]
    refine fin_thr (z := 2) hR (by decide) (by unfold f_Q_flow; rw [hX]; rfl) ⟨0, ?_⟩
    unfold f_X10_flow
    simp only [y0, y1, ob_sm, i00, i10, if_true, isT_b z2]
  have z1 : mc 0 9 = 1 := by rw [hs1, s1]; rfl
  have z2 : ¬ mm 0 1 = 0 := by rw [hs2, s1]; decide
  have t0 : thM mm 0 0 0 = iI (d : Nat) := by rw [thM_k _ _ (by decide)]; exact hd2
  have hrf : a_rf 10 69 16 (mc 0 8) = some (69 + 16 * d) := by rw [hd1, a_rfI (by omega) (by omega) (by omega), Int.toNat_natCast]
  have hd : d < 10 := by omega
  obtain ⟨g1, g2, g3, g4, g5, g6⟩ := tb_le v0 l0
  have hX : f_X9_flow (iI (v0 : Nat)) (iI (v1 : Nat)) mc = some (.inr (mm 48 (4 * lbF2 v0 + v1) - mm 48 (4 * leF2 v0 + v1))) := by
    unfold f_X9_flow f_X9_checkState
    simp only [x0, x1, ox_r, ox_l, ob_sm, if_pos z1, i10, hrf, g1, g2, sp_spot]
    rw [a_ldI (by omega) (by omega) (by omega), ob_some, a_ldI (by omega) (by omega) (by omega), ob_some, show (((lbF2 v0 : Nat) : Int) * 4 + (v1 : Nat)).toNat = 4 * lbF2 v0 + v1 by omega, show (((leF2 v0 : Nat) : Int) * 4 + (v1 : Nat)).toNat = 4 * leF2 v0 + v1 by omega, (a8 s1).1 _ (by omega), (a8 s1).1 _ (by omega)]
  refine fin_get (r := mm 48 (4 * lbF2 v0 + v1) - mm 48 (4 * leF2 v0 + v1)) hR (by unfold f_Q_flow; rw [hX, os_r2, ob_some, a_lst0, ob_some]) ?_
  unfold f_X10_flow
  simp only [y0, y1, ob_sm, i10, isT_1 z2, g5, g6]
  rw [iI_add, iI_add, a_ldI (by omega) (by omega) (by omega), ob_some, a_ldI (by omega) (by omega) (by omega), ob_some, thM_c _ _ (by decide)]
  rfl
theorem op_taken : l_op_18 RelG := by
  intro mc mm p1 hR
  show opOK (f_Q_taken p1 mc) (f_X10_taken p1 mm)
  obtain ⟨d, st, l, n, M, nb, TO, GR, na, MA, no, MO, hA⟩ := id hR
  obtain ⟨a1, a2, a3, a4, a5, a6, a7, a8, a9, a10, a11, a12⟩ := id hA
  obtain ⟨hd9, hst1, hd1, hd2, hs1, hs2⟩ := id a1
  obtain ⟨b1, b2, b3, b4⟩ := id a4
  have hn40 := b1.1
  rcases chk_cnt p1 b1.2.1 b2 (by omega) with ⟨v0, l0, e0, x0, y0⟩ | ⟨x0, y0⟩
  rotate_left
  · have hX : f_X9_taken p1 mc = some (.inl 1) := by
      unfold f_X9_taken
      simp only [x0, ox_r, ox_l]
    refine fin_thr (z := 1) hR (by decide) (by unfold f_Q_taken; rw [hX]; rfl) ⟨0, ?_⟩
    unfold f_X10_taken
    simp only [y0, ob_sm, i00, i10, if_true, isT_0]
  subst e0
  have hst01 : st = 0 ∨ st = 1 := by omega
  rcases hst01 with s0 | s1
  · have z1 : ¬ mc 0 9 = 1 := by rw [hs1, s0]; decide
    have z2 : mm 0 1 = 0 := by rw [hs2, s0]; rfl
    have hX : f_X9_taken (iI (v0 : Nat)) mc = some (.inl 3) := by
      unfold f_X9_taken f_X9_checkState
      simp only [x0, ob_sm, ox_r, ox_l, if_neg z1, i00, if_true]
    refine fin_thr (z := 2) hR (by decide) (by unfold f_Q_taken; rw [hX]; rfl) ⟨0, ?_⟩
    unfold f_X10_taken
    simp only [y0, ob_sm, i00, i10, if_true, isT_b z2]
  have z1 : mc 0 9 = 1 := by rw [hs1, s1]; rfl
  have z2 : ¬ mm 0 1 = 0 := by rw [hs2, s1]; decide
  have t0 : thM mm 0 0 0 = iI (d : Nat) := by rw [thM_k _ _ (by decide)]; exact hd2
  have hrf : a_rf 10 69 16 (mc 0 8) = some (69 + 16 * d) := by rw [hd1, a_rfI (by omega) (by omega) (by omega), Int.toNat_natCast]
  have hd : d < 10 := by omega
  have hX : f_X9_taken (iI (v0 : Nat)) mc = some (.inr (mm 11 v0)) := by
    unfold f_X9_taken f_X9_checkState
    simp only [x0, ox_r, ox_l, ob_sm, if_pos z1, i10]
    rw [sp_used (by rw [oln4]; omega) (by rw [oln4]; omega), ob_some]
    exact congrArg some (congrArg Sum.inr (b4 s1 v0 l0).1)
  refine fin_get (r := mm 11 v0) hR (by unfold f_Q_taken; rw [hX, os_r2, ob_some, a_lst0, ob_some]) ?_
  unfold f_X10_taken
  simp only [y0, ob_sm, i10, isT_1 z2]
  rw [a_ldI (by omega) (by omega) (by omega), ob_some, ob_some, Int.toNat_natCast, thM_c _ _ (by decide)]
theorem op_given : l_op_22 RelG := by
  intro mc mm p1 hR
  show opOK (f_Q_given p1 mc) (f_X10_given p1 mm)
  obtain ⟨d, st, l, n, M, nb, TO, GR, na, MA, no, MO, hA⟩ := id hR
  obtain ⟨a1, a2, a3, a4, a5, a6, a7, a8, a9, a10, a11, a12⟩ := id hA
  obtain ⟨hd9, hst1, hd1, hd2, hs1, hs2⟩ := id a1
  obtain ⟨b1, b2, b3, b4⟩ := id a6
  have hn40 := b1.2.1
  rcases chk_cnt p1 b1.1 b2.1 (by omega) with ⟨v0, l0, e0, x0, y0⟩ | ⟨x0, y0⟩
  rotate_left
  · have hX : f_X9_given p1 mc = some (.inl 1) := by
      unfold f_X9_given
      simp only [x0, ox_r, ox_l]
    refine fin_thr (z := 1) hR (by decide) (by unfold f_Q_given; rw [hX]; rfl) ⟨0, ?_⟩
    unfold f_X10_given
    simp only [y0, ob_sm, i00, i10, if_true, isT_0]
  subst e0
  have hst01 : st = 0 ∨ st = 1 := by omega
  rcases hst01 with s0 | s1
  · have z1 : ¬ mc 0 9 = 1 := by rw [hs1, s0]; decide
    have z2 : mm 0 1 = 0 := by rw [hs2, s0]; rfl
    have hX : f_X9_given (iI (v0 : Nat)) mc = some (.inl 3) := by
      unfold f_X9_given f_X9_checkState
      simp only [x0, ob_sm, ox_r, ox_l, if_neg z1, i00, if_true]
    refine fin_thr (z := 2) hR (by decide) (by unfold f_Q_given; rw [hX]; rfl) ⟨0, ?_⟩
    unfold f_X10_given
    simp only [y0, ob_sm, i00, i10, if_true, isT_b z2]
  have z1 : mc 0 9 = 1 := by rw [hs1, s1]; rfl
  have z2 : ¬ mm 0 1 = 0 := by rw [hs2, s1]; decide
  have t0 : thM mm 0 0 0 = iI (d : Nat) := by rw [thM_k _ _ (by decide)]; exact hd2
  have hrf : a_rf 10 69 16 (mc 0 8) = some (69 + 16 * d) := by rw [hd1, a_rfI (by omega) (by omega) (by omega), Int.toNat_natCast]
  have hd : d < 10 := by omega
  have hX : f_X9_given (iI (v0 : Nat)) mc = some (.inr (mm 26 v0)) := by
    unfold f_X9_given f_X9_checkState
    simp only [x0, ox_r, ox_l, ob_sm, if_pos z1, i10]
    rw [sp_used (by rw [oln45]; omega) (by rw [oln45]; omega), ob_some]
    exact congrArg some (congrArg Sum.inr (b4 s1 v0 l0))
  refine fin_get (r := mm 26 v0) hR (by unfold f_Q_given; rw [hX, os_r2, ob_some, a_lst0, ob_some]) ?_
  unfold f_X10_given
  simp only [y0, ob_sm, i10, isT_1 z2]
  rw [a_ldI (by omega) (by omega) (by omega), ob_some, ob_some, Int.toNat_natCast, thM_c _ _ (by decide)]
theorem op_gain : l_op_20 RelG := by
  intro mc mm p1 hR
  show opOK (f_Q_gain p1 mc) (f_X10_gain p1 mm)
  obtain ⟨d, st, l, n, M, nb, TO, GR, na, MA, no, MO, hA⟩ := id hR
  obtain ⟨a1, a2, a3, a4, a5, a6, a7, a8, a9, a10, a11, a12⟩ := id hA
  obtain ⟨hd9, hst1, hd1, hd2, hs1, hs2⟩ := id a1
  obtain ⟨b1, b2, w13, w14, w15, w16, w17, w18, b9⟩ := id a5
  have hnb5 := b1.2.1.1
  rcases chk_cnt p1 b1.1 b2.1 (by omega) with ⟨v0, l0, e0, x0, y0⟩ | ⟨x0, y0⟩
  rotate_left
  · have hX : f_X9_gain p1 mc = some (.inl 1) := by
      unfold f_X9_gain
      simp only [x0, ox_r, ox_l]
    refine fin_thr (z := 1) hR (by decide) (by unfold f_Q_gain; rw [hX]; rfl) ⟨0, ?_⟩
    unfold f_X10_gain
    simp only [y0, ob_sm, i00, i10, if_true, isT_0]
  subst e0
  have hst01 : st = 0 ∨ st = 1 := by omega
  rcases hst01 with s0 | s1
  · have z1 : ¬ mc 0 9 = 1 := by rw [hs1, s0]; decide
    have z2 : mm 0 1 = 0 := by rw [hs2, s0]; rfl
    have hX : f_X9_gain (iI (v0 : Nat)) mc = some (.inl 3) := by
      unfold f_X9_gain f_X9_checkState
      simp only [x0, ob_sm, ox_r, ox_l, if_neg z1, i00, if_true]
    refine fin_thr (z := 2) hR (by decide) (by unfold f_Q_gain; rw [hX]; rfl) ⟨0, ?_⟩
    unfold f_X10_gain
    simp only [y0, ob_sm, i00, i10, if_true, isT_b z2]
  have z1 : mc 0 9 = 1 := by rw [hs1, s1]; rfl
  have z2 : ¬ mm 0 1 = 0 := by rw [hs2, s1]; decide
  have t0 : thM mm 0 0 0 = iI (d : Nat) := by rw [thM_k _ _ (by decide)]; exact hd2
  have hrf : a_rf 10 69 16 (mc 0 8) = some (69 + 16 * d) := by rw [hd1, a_rfI (by omega) (by omega) (by omega), Int.toNat_natCast]
  have hd : d < 10 := by omega
  have hk3 : blkM (thM mm 0) nb TO GR := blkM_fr b2 (thM_k _ _ (by decide)) (fun c c1 c2 => thM_c _ _ (by omega))
  have hX : f_X9_gain (iI (v0 : Nat)) mc = some (.inr (gnS (mc (69 + 16 * d + 1)) (mc 15) (mc 16) (mc 17) (mc 18) v0)) := by
    unfold f_X9_gain f_X9_checkState
    simp only [x0, ox_r, ox_l, ob_sm, if_pos z1, i10, hrf]
    rw [sp_gainBy b1 l0, ob_some]
  refine fin_get (r := gnS (mc (69 + 16 * d + 1)) (mc 15) (mc 16) (mc 17) (mc 18) v0) hR (by unfold f_Q_gain; rw [hX, os_r2, ob_some, a_lst0, ob_some]) ?_
  have e12 : (12 : Int32) * iI (d : Nat) = iI ((12 * d : Nat) : Int) := by rw [iL_12, iI_mul]; rfl
  unfold f_X10_gain
  simp only [y0, ob_sm, i10, isT_1 z2, t0, e12]
  rw [sp_gainM hk3 l0 (fr := 12 * d) (n2 := 120) (by omega) (by omega), ob_some, ob_some]
  congr 2
  rw [thM_c _ _ (by decide), thM_c _ _ (by decide), thM_c _ _ (by decide), thM_c _ _ (by decide), thM_c _ _ (by decide), w14, w15, w16, w17]
  refine gnS_congr b1.2.1 l0 (fun z hz h hh => ?_)
  exact ((a9 d hd).1 _ (by omega)).symm
theorem op_left : l_op_23 RelG := by
  intro mc mm p1 hR
  show opOK (f_Q_left p1 mc) (f_X10_left p1 mm)
  obtain ⟨d, st, l, n, M, nb, TO, GR, na, MA, no, MO, hA⟩ := id hR
  obtain ⟨a1, a2, a3, a4, a5, a6, a7, a8, a9, a10, a11, a12⟩ := id hA
  obtain ⟨hd9, hst1, hd1, hd2, hs1, hs2⟩ := id a1
  obtain ⟨b1, b2, b3, ⟨w27, w28, w29, w30, w31, w32⟩, b5, b6, b7⟩ := id a7
  rcases chk_cnt p1 b1 b2 (by omega) with ⟨v0, l0, e0, x0, y0⟩ | ⟨x0, y0⟩
  rotate_left
  · have hX : f_X9_left p1 mc = some (.inl 1) := by
      unfold f_X9_left
      simp only [x0, ox_r, ox_l]
    refine fin_thr (z := 1) hR (by decide) (by unfold f_Q_left; rw [hX]; rfl) ⟨0, ?_⟩
    unfold f_X10_left
    have h1 := thM_0 mm 1
    unfold thM at h1
    simp only [y0, ob_sm, i00, i10, if_true, h1]
    rfl
  subst e0
  have hX : f_X9_left (iI (v0 : Nat)) mc = some (.inr (mc 62 v0)) := by
    unfold f_X9_left
    simp only [x0, ox_r, ox_l]
    rw [a_ldI (by omega) (by omega) (by omega), ob_some, Int.toNat_natCast]
  refine fin_get (r := mc 62 v0) hR (by unfold f_Q_left; rw [hX, os_r2, ob_some, a_lst0, ob_some]) ?_
  have h1 := thM_0 mm 0
  have e : g_up mm 0 (upd (mm 0) 67 0) = thM mm 0 := rfl
  unfold f_X10_left
  simp only [y0, ob_sm, i10, e, h1, i00, if_true]
  rw [a_ldI (by omega) (by omega) (by omega), ob_some, ob_some, Int.toNat_natCast, thM_c _ _ (by decide), w32]
theorem op_plan : l_op_24 RelG := by
  intro mc mm p1 p2 p3 p4 hR
  show opOK (f_Q_plan p1 p2 p3 p4 mc) (f_X10_plan p1 p2 p3 p4 mm)
  obtain ⟨d, st, l, n, M, nb, TO, GR, na, MA, no, MO, hA⟩ := id hR
  obtain ⟨a1, a2, a3, a4, a5, a6, a7, a8, a9, a10, a11, a12⟩ := id hA
  obtain ⟨hd9, hst1, hd1, hd2, hs1, hs2⟩ := id a1
  rcases chk_idx p1 (ct := mc 0 8 + 1) (hi := mm 0 0) (d + 1) (by rw [hd1, iI_succ]) (by rw [hd2]; congr 1; omega) (by omega) with ⟨v0, l0, e0, x0, y0⟩ | ⟨x0, y0⟩
  rotate_left
  · have hX : f_X9_plan p1 p2 p3 p4 mc = some (.inl 1) := by
      unfold f_X9_plan
      simp only [x0, ox_r, ox_l]
    refine fin_thr (z := 1) hR (by decide) (by unfold f_Q_plan; rw [hX]; rfl) ⟨0, ?_⟩
    unfold f_X10_plan
    have h1 := thM_0 mm 1
    unfold thM at h1
    simp only [y0, ob_sm, i00, i10, if_true, h1]
    rfl
  rcases chk_firm p2 with ⟨v1, l1, e1, x1, y1⟩ | ⟨x1, y1⟩
  rotate_left
  · have hX : f_X9_plan p1 p2 p3 p4 mc = some (.inl 1) := by
      unfold f_X9_plan
      simp only [x0, x1, ox_r, ox_l]
    refine fin_thr (z := 1) hR (by decide) (by unfold f_Q_plan; rw [hX]; rfl) ⟨0, ?_⟩
    unfold f_X10_plan
    have h1 := thM_0 mm 1
    unfold thM at h1
    simp only [y0, y1, ob_sm, i00, i10, if_true, h1]
    rfl
  rcases chk_zone p3 with ⟨v2, l2, e2, x2, y2⟩ | ⟨x2, y2⟩
  rotate_left
  · have hX : f_X9_plan p1 p2 p3 p4 mc = some (.inl 1) := by
      unfold f_X9_plan
      simp only [x0, x1, x2, ox_r, ox_l]
    refine fin_thr (z := 1) hR (by decide) (by unfold f_Q_plan; rw [hX]; rfl) ⟨0, ?_⟩
    unfold f_X10_plan
    have h1 := thM_0 mm 1
    unfold thM at h1
    simp only [y0, y1, y2, ob_sm, i00, i10, if_true, h1]
    rfl
  rcases chk_hour p4 with ⟨v3, l3, e3, x3, y3⟩ | ⟨x3, y3⟩
  rotate_left
  · have hX : f_X9_plan p1 p2 p3 p4 mc = some (.inl 1) := by
      unfold f_X9_plan
      simp only [x0, x1, x2, x3, ox_r, ox_l]
    refine fin_thr (z := 1) hR (by decide) (by unfold f_Q_plan; rw [hX]; rfl) ⟨0, ?_⟩
    unfold f_X10_plan
    have h1 := thM_0 mm 1
    unfold thM at h1
    simp only [y0, y1, y2, y3, ob_sm, i00, i10, if_true, h1]
    rfl
  subst e0
  subst e1
  subst e2
  subst e3
  have hv : v0 < 10 := by omega
  have hX : f_X9_plan (iI (v0 : Nat)) (iI (v1 : Nat)) (iI (v2 : Nat)) (iI (v3 : Nat)) mc = some (.inr (mc (69 + 16 * v0 + 3) (12 * v1 + 4 * v2 + v3))) := by
    unfold f_X9_plan
    simp only [x0, x1, x2, x3, ox_r, ox_l]
    rw [a_rfI (by omega) (by omega) (by omega), ob_some, sp_place, ob_some, a_ldI (by omega) (by omega) (by omega), ob_some, Int.toNat_natCast, Int.toNat_natCast]
  refine fin_get (r := mc (69 + 16 * v0 + 3) (12 * v1 + 4 * v2 + v3)) hR (by unfold f_Q_plan; rw [hX, os_r2, ob_some, a_lst0, ob_some]) ?_
  have h1 := thM_0 mm 0
  have e : g_up mm 0 (upd (mm 0) 67 0) = thM mm 0 := rfl
  unfold f_X10_plan
  simp only [y0, y1, y2, y3, ob_sm, i10, e, h1, i00, if_true]
  rw [sp_placeM, ob_some, a_ldI (by omega) (by omega) (by omega), ob_some, ob_some, Int.toNat_natCast, thM_c _ _ (by decide), (a9 v0 hv).2.1.1 _ (by omega)]
theorem op_account : l_op_29 RelG := by
  intro mc mm p1 hR
  show opOK (f_Q_account p1 mc) (f_X10_account p1 mm)
  obtain ⟨d, st, l, n, M, nb, TO, GR, na, MA, no, MO, hA⟩ := id hR
  obtain ⟨a1, a2, a3, a4, a5, a6, a7, a8, a9, a10, a11, a12⟩ := id hA
  obtain ⟨hd9, hst1, hd1, hd2, hs1, hs2⟩ := id a1
  rcases chk_firm p1 with ⟨v0, l0, e0, x0, y0⟩ | ⟨x0, y0⟩
  rotate_left
  · have hX : f_X9_account p1 mc = some (.inl 1) := by
      unfold f_X9_account
      simp only [x0, ox_r, ox_l]
    refine fin_thr (z := 1) hR (by decide) (by unfold f_Q_account; rw [hX]; rfl) ⟨0, ?_⟩
    unfold f_X10_account
    have h1 := thM_0 mm 1
    unfold thM at h1
    simp only [y0, ob_sm, i00, i10, if_true, h1]
    rfl
  subst e0
  have hX : f_X9_account (iI (v0 : Nat)) mc = some (.inr (mc 66 v0)) := by
    unfold f_X9_account
    simp only [x0, ox_r, ox_l]
    rw [a_ldI (by omega) (by omega) (by omega), ob_some, Int.toNat_natCast]
  refine fin_get (r := mc 66 v0) hR (by unfold f_Q_account; rw [hX, os_r2, ob_some, a_lst0, ob_some]) ?_
  have h1 := thM_0 mm 0
  have e : g_up mm 0 (upd (mm 0) 67 0) = thM mm 0 := rfl
  unfold f_X10_account
  simp only [y0, ob_sm, i10, e, h1, i00, if_true]
  rw [a_ldI (by omega) (by omega) (by omega), ob_some, ob_some, Int.toNat_natCast, thM_c _ _ (by decide), a2.1]
theorem op_day : l_op_13 RelG := by
  intro mc mm hR
  obtain ⟨d, st, l, n, M, nb, TO, GR, na, MA, no, MO, hA⟩ := id hR
  obtain ⟨hd9, hst1, hd1, hd2, hs1, hs2⟩ := id hA.1
  refine ⟨_, thM mm 0, rfl, ?_, thM_R hR 0⟩
  unfold f_X10_day
  have e : g_up mm 0 (upd (mm 0) 67 0) = thM mm 0 := rfl
  rw [ob_some, e, thM_k _ _ (by decide), hd2, hd1]
theorem op_phase : l_op_14 RelG := by
  intro mc mm hR
  obtain ⟨d, st, l, n, M, nb, TO, GR, na, MA, no, MO, hA⟩ := id hR
  obtain ⟨hd9, hst1, hd1, hd2, hs1, hs2⟩ := id hA.1
  refine ⟨_, thM mm 0, rfl, ?_, thM_R hR 0⟩
  unfold f_X10_phase
  have e : g_up mm 0 (upd (mm 0) 67 0) = thM mm 0 := rfl
  rw [ob_some, e, thM_k _ _ (by decide), hs2, hs1]
theorem op_house : l_op_31 RelG := by
  intro mc mm hR
  obtain ⟨d, st, l, n, M, nb, TO, GR, na, MA, no, MO, hA⟩ := id hR
  refine ⟨_, thM mm 0, rfl, ?_, thM_R hR 0⟩
  unfold f_X10_house
  have e : g_up mm 0 (upd (mm 0) 67 0) = thM mm 0 := rfl
  rw [ob_some, e, thM_k _ _ (by decide), hA.2.1.2.2.2.2]
