theorem op_block : l_op_3 RelG := by
  intro mc mm p1 p2 p3 p4 p5 p6 hz hR
  show opOK (f_Q_block p1 p2 p3 p4 p5 p6 mc) (f_X10_block p1 p2 p3 p4 p5 p6 mm)
  obtain ⟨d, st, l, n, M, nb, TO, GR, na, MA, no, MO, hA⟩ := id hR
  obtain ⟨a1, a2, a3, a4, a5, a6, a7, a8, a9, a10, a11, a12⟩ := id hA
  obtain ⟨hd9, hst1, hd1, hd2, hs1, hs2⟩ := id a1
  rcases chk_firm p1 with ⟨v0, l0, e0, x0, y0⟩ | ⟨x0, y0⟩
  rotate_left
  · have hX : f_X9_block p1 p2 p3 p4 p5 p6 mc = some (.inl 1) := by
      unfold f_X9_block
      simp only [x0, ox_r, ox_l]
    refine fin_thr (z := 1) hR (by decide) (by unfold f_Q_block; rw [hX]; rfl) ?_
    unfold f_X10_block
    rw [y0, ob_some]
    exact thr_M2 (z := 1) (by simp only [y0, ob_sm, i10, i01, i00, i11, if_true, if_false]) (by decide) (by decide)
  rcases chk_zone p2 with ⟨v1, l1, e1, x1, y1⟩ | ⟨x1, y1⟩
  rotate_left
  · have hX : f_X9_block p1 p2 p3 p4 p5 p6 mc = some (.inl 1) := by
      unfold f_X9_block
      simp only [x0, x1, ox_r, ox_l]
    refine fin_thr (z := 1) hR (by decide) (by unfold f_Q_block; rw [hX]; rfl) ?_
    unfold f_X10_block
    rw [y0, ob_some]
    exact thr_M2 (z := 1) (by simp only [y0, y1, ob_sm, i10, i01, i00, i11, if_true, if_false]) (by decide) (by decide)
  rcases chk_rng p3 (lo := 1) (hi := 15) (1) (15) rfl rfl (by omega) (by omega) with ⟨x2, y2, r2⟩ | ⟨x2, y2⟩
  rotate_left
  · have hX : f_X9_block p1 p2 p3 p4 p5 p6 mc = some (.inl 2) := by
      unfold f_X9_block
      simp only [x0, x1, x2, ox_r, ox_l]
    refine fin_thr (z := 2) hR (by decide) (by unfold f_Q_block; rw [hX]; rfl) ?_
    unfold f_X10_block
    rw [y0, ob_some]
    exact thr_M2 (z := 2) (by simp only [y0, y1, y2, ob_sm, i10, i01, i00, i11, if_true, if_false]) (by decide) (by decide)
  rcases chk_rng p5 (lo := 0) (hi := 200) (0) (200) rfl rfl (by omega) (by omega) with ⟨x3, y3, r3⟩ | ⟨x3, y3⟩
  rotate_left
  · have hX : f_X9_block p1 p2 p3 p4 p5 p6 mc = some (.inl 2) := by
      unfold f_X9_block
      simp only [x0, x1, x2, x3, ox_r, ox_l]
    refine fin_thr (z := 2) hR (by decide) (by unfold f_Q_block; rw [hX]; rfl) ?_
    unfold f_X10_block
    rw [y0, ob_some]
    exact thr_M2 (z := 2) (by simp only [y0, y1, y2, y3, ob_sm, i10, i01, i00, i11, if_true, if_false]) (by decide) (by decide)
  rcases chk_rng p6 (lo := 1) (hi := 10) (1) (10) rfl rfl (by omega) (by omega) with ⟨x4, y4, r4⟩ | ⟨x4, y4⟩
  rotate_left
  · have hX : f_X9_block p1 p2 p3 p4 p5 p6 mc = some (.inl 2) := by
      unfold f_X9_block
      simp only [x0, x1, x2, x3, x4, ox_r, ox_l]
    refine fin_thr (z := 2) hR (by decide) (by unfold f_Q_block; rw [hX]; rfl) ?_
    unfold f_X10_block
    rw [y0, ob_some]
    exact thr_M2 (z := 2) (by simp only [y0, y1, y2, y3, y4, ob_sm, i10, i01, i00, i11, if_true, if_false]) (by decide) (by decide)
  have hst01 : st = 0 ∨ st = 1 := by omega
  subst e0
  obtain ⟨w2, w3, w4, w68, w6⟩ := id a2
  obtain ⟨b1, b2, w13, w14, w15, w16, w17, w18, b9⟩ := id a5
  have hnb5 := b1.2.1.1
  have l68 : a_ld 6 68 (iI (v0 : Nat)) mc = some (mc 68 v0) := by rw [a_ldI (by omega) (by omega) (by omega), Int.toNat_natCast]
  have n4 : a_ld 6 4 (iI (v0 : Nat)) (thM mm 0) = some (mc 68 v0) := by rw [a_ldI (by omega) (by omega) (by omega), Int.toNat_natCast, thM_c _ _ (by decide), w4]
  have t1 : thM mm 0 0 1 = mm 0 1 := thM_k _ _ (by decide)
  have t7 : thM mm 0 0 16 = mm 0 16 := thM_k _ _ (by decide)
  have c13 : mc 13 8 = iI (nb : Nat) := b1.1
  have m16 : mm 0 16 = iI (nb : Nat) := b2.1
  have hthr : f_X9_block (iI (v0 : Nat)) p2 p3 p4 p5 p6 mc = some (.inl 3) → (if mc 68 v0 = 1 then some (3 : Int32) else if thM mm 0 0 1 = 1 then some 3 else if thM mm 0 0 16 = 5 then some 3 else some 0) = some 3 → opOK (f_Q_block (iI (v0 : Nat)) p2 p3 p4 p5 p6 mc) (f_X10_block (iI (v0 : Nat)) p2 p3 p4 p5 p6 mm) := by
    intro hX hV
    refine fin_thr (z := 3) hR (by decide) (by unfold f_Q_block; rw [hX]; rfl) ⟨0, ?_⟩
    unfold f_X10_block
    rw [y0, ob_some, go_M2 (w := mc 68 v0) (z := 3) (by simp only [y1, y2, y3, y4, ob_sm, i10]) n4 hV, if_neg (by decide)]
  by_cases c0 : mc 68 v0 = 0
  · have c1 : ¬ mc 68 v0 = 1 := by rw [c0]; decide
    rcases hst01 with s0 | s1
    · have z1 : mc 0 9 = 0 := by rw [hs1, s0]; rfl
      have z2 : ¬ mm 0 1 = 1 := by rw [hs2, s0]; decide
      by_cases hn : nb < 5
      · have z7 : ¬ mm 0 16 = 5 := by rw [m16, iL_5, iI_eqP (by omega) (by omega) (by omega) (by omega)]; omega
        have z8 : ¬ 5 ≤ mc 13 8 := by rw [c13, iL_5, iI_leP (by omega) (by omega) (by omega) (by omega)]; omega
        have z9 : mc 13 8 < 5 := by rw [c13, iL_5, iI_ltP (by omega) (by omega) (by omega) (by omega)]; omega
        have hCC : ∃ mc2, f_X9_block (iI (v0 : Nat)) p2 p3 p4 p5 p6 mc = some (.inr (iI (nb : Nat), mc2)) ∧ (∀ c, (c < 13 ∨ 21 < c) → mc2 c = mc c) ∧ mc2 13 = upd (mc 13) 8 (iI ((nb + 1 : Nat) : Int)) ∧ mc2 14 = upd (mc 14) nb (iI (v0 : Nat)) ∧ mc2 15 = upd (mc 15) nb p2 ∧ mc2 16 = upd (mc 16) nb p3 ∧ mc2 17 = upd (mc 17) nb p4 ∧ mc2 18 = upd (mc 18) nb p5 ∧ mc2 19 = upd (mc 19) nb p6 ∧ mc2 20 = upd (mc 20) nb (-1) ∧ mc2 21 = upd (mc 21) nb (-1) := by
          unfold f_X9_block f_X9_checkState f_X2_add
          simp only [x0, x1, x2, x3, x4, ox_r, ox_l, ob_sm, l68, if_pos c0, if_pos z1, if_neg z8, if_pos z9, i10]
          simp (disch := omega) only [c13, a_zst_st hz, ob_sm, a_stI, g_up_ne, Int.toNat_natCast]
          refine ⟨_, congrArg some (congrArg Sum.inr (Prod.ext rfl rfl)), ?_, ?_, ?_, ?_, ?_, ?_, ?_, ?_, ?_, ?_⟩
          · intro c h1
            simp (disch := omega) only [g_up_ne]
          · simp (disch := omega) only [g_up_at, iI_succ]
          · simp (disch := omega) only [g_up_at, g_up_ne]
          · simp (disch := omega) only [g_up_at, g_up_ne]
          · simp (disch := omega) only [g_up_at, g_up_ne]
          · simp (disch := omega) only [g_up_at, g_up_ne]
          · simp (disch := omega) only [g_up_at, g_up_ne]
          · simp (disch := omega) only [g_up_at, g_up_ne]
          · simp (disch := omega) only [g_up_at, g_up_ne]
          · simp (disch := omega) only [g_up_at, g_up_ne]
        have hMM : ∃ mm2, f_X10_block (iI (v0 : Nat)) p2 p3 p4 p5 p6 mm = some (iI (nb : Nat), mm2) ∧ mm2 0 67 = 0 ∧ (∀ c, c ≠ 0 → (c < 13 ∨ 20 < c) → mm2 c = mm c) ∧ (∀ k, k ≠ 67 → k ≠ 16 → mm2 0 k = mm 0 k) ∧ mm2 0 16 = iI ((nb + 1 : Nat) : Int) ∧ mm2 13 = upd (mm 13) nb (iI (v0 : Nat)) ∧ mm2 14 = upd (mm 14) nb p2 ∧ mm2 15 = upd (mm 15) nb p3 ∧ mm2 16 = upd (mm 16) nb p4 ∧ mm2 17 = upd (mm 17) nb p5 ∧ mm2 18 = upd (mm 18) nb p6 ∧ mm2 19 = upd (mm 19) nb 0 ∧ mm2 20 = upd (mm 20) nb 0 := by
          unfold f_X10_block
          have ez : ∀ {α : Type} (G : Int32 → Option α), ob (if p4 = 0 then some 0 else some 1) G = G p4 := by
            intro α G
            rcases hz with q | q
            · rw [if_pos q, ob_some, q]
            · rw [if_neg (by rw [q]; decide), ob_some, q]
          rw [y0, ob_some, go_M2 (w := mc 68 v0) (z := 0) (by simp only [y1, y2, y3, y4, ob_sm, i10]) n4 (by simp only [if_neg c1, t1, t7, if_neg z2, if_neg z7]), if_pos (by decide)]
          simp (disch := omega) only [t7, m16, ez, ob_sm, a_stI, g_up_ne, Int.toNat_natCast, thM_c]
          refine ⟨_, congrArg some (Prod.ext ?_ rfl), ?_, ?_, ?_, ?_, ?_, ?_, ?_, ?_, ?_, ?_, ?_, ?_⟩
          · simp (disch := omega) only [g_up_at, g_up_ne, updA, t7, m16, if_true, iL_1, iI_add, iI_sub]
            congr 1
            omega
          · simp (disch := omega) only [g_up_at, g_up_ne, updA, thM_0, if_neg]
          · intro c h0 h1
            simp (disch := omega) only [g_up_ne, thM_c]
          · intro k h1 h2
            simp (disch := omega) only [g_up_at, g_up_ne, updA, if_neg, thM_k]
          · simp (disch := omega) only [g_up_at, g_up_ne, updA, t7, m16, if_true, iI_succ]
          · simp (disch := omega) only [g_up_at, g_up_ne, thM_c]
          · simp (disch := omega) only [g_up_at, g_up_ne, thM_c]
          · simp (disch := omega) only [g_up_at, g_up_ne, thM_c]
          · simp (disch := omega) only [g_up_at, g_up_ne, thM_c]
          · simp (disch := omega) only [g_up_at, g_up_ne, thM_c]
          · simp (disch := omega) only [g_up_at, g_up_ne, thM_c]
          · simp (disch := omega) only [g_up_at, g_up_ne, thM_c]
          · simp (disch := omega) only [g_up_at, g_up_ne, thM_c]
        obtain ⟨mc2, hX, hc, g13, g14, g15, g16, g17, g18, g19, g20, g21⟩ := hCC
        obtain ⟨mm2, q1, q2, hm, h0, q3, q13, q14, q15, q16, q17, q18, q19, q20⟩ := hMM
        refine fin_ret (r := iI (nb : Nat)) (mc2 := mc2) (mm2 := mm2) ?_ (by unfold f_Q_block; rw [hX, os_r2, ob_some, ob_some, a_lst0, ob_some]) q1 q2
        have hTO : ∀ k, k < nb + 1 → -1 ≤ (if k = nb then (-1 : Int) else TO k) ∧ (if k = nb then (-1 : Int) else TO k) < k ∧ -1 ≤ (if k = nb then (-1 : Int) else GR k) ∧ (if k = nb then (-1 : Int) else GR k) ≤ 2 := by
          intro k hk
          by_cases w : k = nb
          · rw [if_pos w, if_pos w]; omega
          · rw [if_neg w, if_neg w]
            obtain ⟨_, u1, u2, u3, u4, _⟩ := b1.2.2 k (by omega)
            exact ⟨u1, u2, u3, u4⟩
        have hbR : blkR (mc2 15) (mc2 16) (mc2 17) (mc2 18) (mc2 19) (nb + 1) := by
          refine ⟨by omega, fun k hk => ?_⟩
          rw [g15, g16, g17, g18, g19, updA, updA, updA, updA, updA]
          by_cases w : k = nb
          · rw [if_pos w, if_pos w, if_pos w, if_pos w, if_pos w, e1]
            exact ⟨rg_iI (by omega) (by omega) (by omega) (by omega), r2, hz, r3, r4⟩
          · rw [if_neg w, if_neg w, if_neg w, if_neg w, if_neg w]
            exact b1.2.1.2 k (by omega)
        have hfr : ∀ k, k < nb + 1 → rg (mc2 14 k) 0 5 := by
          intro k hk
          rw [g14, updA]
          by_cases w : k = nb
          · rw [if_pos w]; exact rg_iI (by omega) (by omega) (by omega) (by omega)
          · rw [if_neg w]; exact (b1.2.2 k (by omega)).1
        have v13 : mm2 13 = mc2 14 := by rw [q13, g14, w13]
        have v14 : mm2 14 = mc2 15 := by rw [q14, g15, w14]
        have v15 : mm2 15 = mc2 16 := by rw [q15, g16, w15]
        have v16 : mm2 16 = mc2 17 := by rw [q16, g17, w16]
        have v17 : mm2 17 = mc2 18 := by rw [q17, g18, w17]
        have v18 : mm2 18 = mc2 19 := by rw [q18, g19, w18]
        refine ⟨d, st, l, n, M, nb + 1, (fun k => if k = nb then -1 else TO k), (fun k => if k = nb then -1 else GR k), na, MA, no, MO, rDay_fr a1 (by rw [hc 0 (by omega)]) (by rw [hc 0 (by omega)]) (h0 0 (by omega) (by omega)) (h0 1 (by omega) (by omega)), rAcc_fr a2 (fun c _ _ => hc c (by omega)) (fun c _ _ => hm c (by omega) (by omega)) (h0 6 (by omega) (by omega)), rLim_fr a3 (hc 3 (by omega)) (hm 1 (by omega) (by omega)), rBid_fr a4 (fun c _ _ => hc c (by omega)) (h0 7 (by omega) (by omega)) (fun c _ _ => hm c (by omega) (by omega)), ⟨⟨by rw [g13, updA, if_pos rfl], hbR, fun k hk => ?_⟩, ⟨q3, by rw [v14, v15, v16, v17, v18]; exact hbR, fun k hk => ?_⟩, v13, v14, v15, v16, v17, v18, fun h9 => absurd h9 (by omega)⟩, rAsk_fr a6 (fun c _ _ => hc c (by omega)) (h0 26 (by omega) (by omega)) (fun c _ _ => hm c (by omega) (by omega)), rOff_fr a7 (fun c _ _ => hc c (by omega)) (h0 33 (by omega) (by omega)) (fun c _ _ => hm c (by omega) (by omega)), fun h9 => absurd h9 (by omega), fun j hj => rDy_fr (a9 j hj) (fun c _ _ _ => hc c (by omega)) (fun c _ _ => hm c (by omega) (by omega)), rPB_fr a10 (fun j hj => hc _ (by omega)) (by omega), rAid_fr a11 (fun j hj c _ _ => hc c (by omega)) (fun c _ _ => hm c (by omega) (by omega)), rScr_fr a12 (fun c _ _ => hc c (by omega)) (fun c _ _ => hm c (by omega) (by omega))⟩
        · refine ⟨hfr k hk, (hTO k hk).1, (hTO k hk).2.1, (hTO k hk).2.2.1, (hTO k hk).2.2.2, ?_, ?_⟩
          · rw [g20, updA]
            show _ = iI (if k = nb then (-1 : Int) else TO k)
            by_cases w : k = nb
            · rw [if_pos w, if_pos w]; rfl
            · rw [if_neg w, if_neg w]; exact (b1.2.2 k (by omega)).2.2.2.2.2.1
          · rw [g21, updA]
            show _ = iI (if k = nb then (-1 : Int) else GR k)
            by_cases w : k = nb
            · rw [if_pos w, if_pos w]; rfl
            · rw [if_neg w, if_neg w]; exact (b1.2.2 k (by omega)).2.2.2.2.2.2
        · refine ⟨by rw [v13]; exact hfr k hk, (hTO k hk).1, (hTO k hk).2.1, (hTO k hk).2.2.1, (hTO k hk).2.2.2, ?_, ?_⟩
          · rw [q19, updA]
            show _ = iI ((if k = nb then (-1 : Int) else TO k) + 1)
            by_cases w : k = nb
            · rw [if_pos w, if_pos w]; rfl
            · rw [if_neg w, if_neg w]; exact (b2.2.2 k (by omega)).2.2.2.2.2.1
          · rw [q20, updA]
            show _ = iI ((if k = nb then (-1 : Int) else GR k) + 1)
            by_cases w : k = nb
            · rw [if_pos w, if_pos w]; rfl
            · rw [if_neg w, if_neg w]; exact (b2.2.2 k (by omega)).2.2.2.2.2.2
      · have z7 : mm 0 16 = 5 := by rw [m16, iL_5]; congr 1; omega
        have z8 : 5 ≤ mc 13 8 := by rw [c13, iL_5, iI_leP (by omega) (by omega) (by omega) (by omega)]; omega
        refine hthr ?_ (by rw [if_neg c1, t1, if_neg z2, t7, if_pos z7])
        unfold f_X9_block f_X9_checkState
        simp only [x0, x1, x2, x3, x4, ox_r, ox_l, ob_sm, l68, if_pos c0, if_pos z1, if_pos z8, i00, if_true]
    · have z1 : ¬ mc 0 9 = 0 := by rw [hs1, s1]; decide
      have z2 : mm 0 1 = 1 := by rw [hs2, s1]; rfl
      refine hthr ?_ (by rw [if_neg c1, t1, if_pos z2])
      unfold f_X9_block f_X9_checkState
      simp only [x0, x1, x2, x3, x4, ox_r, ox_l, ob_sm, l68, if_pos c0, if_neg z1, i00, if_true]
  · have c1 : mc 68 v0 = 1 := (w68 v0 l0).resolve_left c0
    refine hthr ?_ (by rw [if_pos c1])
    unfold f_X9_block f_X9_checkState
    simp only [x0, x1, x2, x3, x4, ox_r, ox_l, ob_sm, l68, if_neg c0, i00, if_true]
theorem op_ask : l_op_5 RelG := by
  intro mc mm p1 p2 p3 p4 p5 hR
  show opOK (f_Q_ask p1 p2 p3 p4 p5 mc) (f_X10_ask p1 p2 p3 p4 p5 mm)
  obtain ⟨d, st, l, n, M, nb, TO, GR, na, MA, no, MO, hA⟩ := id hR
  obtain ⟨a1, a2, a3, a4, a5, a6, a7, a8, a9, a10, a11, a12⟩ := id hA
  obtain ⟨hd9, hst1, hd1, hd2, hs1, hs2⟩ := id a1
  rcases chk_firm p1 with ⟨v0, l0, e0, x0, y0⟩ | ⟨x0, y0⟩
  rotate_left
  · have hX : f_X9_ask p1 p2 p3 p4 p5 mc = some (.inl 1) := by
      unfold f_X9_ask
      simp only [x0, ox_r, ox_l]
    refine fin_thr (z := 1) hR (by decide) (by unfold f_Q_ask; rw [hX]; rfl) ?_
    unfold f_X10_ask
    rw [y0, ob_some]
    exact thr_M2 (z := 1) (by simp only [y0, ob_sm, i10, i01, i00, i11, if_true, if_false]) (by decide) (by decide)
  rcases chk_zone p2 with ⟨v1, l1, e1, x1, y1⟩ | ⟨x1, y1⟩
  rotate_left
  · have hX : f_X9_ask p1 p2 p3 p4 p5 mc = some (.inl 1) := by
      unfold f_X9_ask
      simp only [x0, x1, ox_r, ox_l]
    refine fin_thr (z := 1) hR (by decide) (by unfold f_Q_ask; rw [hX]; rfl) ?_
    unfold f_X10_ask
    rw [y0, ob_some]
    exact thr_M2 (z := 1) (by simp only [y0, y1, ob_sm, i10, i01, i00, i11, if_true, if_false]) (by decide) (by decide)
  rcases chk_zone p3 with ⟨v2, l2, e2, x2, y2⟩ | ⟨x2, y2⟩
  rotate_left
  · have hX : f_X9_ask p1 p2 p3 p4 p5 mc = some (.inl 1) := by
      unfold f_X9_ask
      simp only [x0, x1, x2, ox_r, ox_l]
    refine fin_thr (z := 1) hR (by decide) (by unfold f_Q_ask; rw [hX]; rfl) ?_
    unfold f_X10_ask
    rw [y0, ob_some]
    exact thr_M2 (z := 1) (by simp only [y0, y1, y2, ob_sm, i10, i01, i00, i11, if_true, if_false]) (by decide) (by decide)
  by_cases q3 : p2 = p3
  · have hX : f_X9_ask p1 p2 p3 p4 p5 mc = some (.inl 2) := by
      unfold f_X9_ask
      simp only [x0, x1, x2, ox_r, ox_l, if_pos q3]
    refine fin_thr (z := 2) hR (by decide) (by unfold f_Q_ask; rw [hX]; rfl) ?_
    unfold f_X10_ask
    rw [y0, ob_some]
    exact thr_M2 (z := 2) (by simp only [y0, y1, y2, if_pos q3, ob_sm, i10, i01, i00, i11, if_true, if_false]) (by decide) (by decide)
  rcases chk_rng p4 (lo := 1) (hi := 10) (1) (10) rfl rfl (by omega) (by omega) with ⟨x4, y4, r4⟩ | ⟨x4, y4⟩
  rotate_left
  · have hX : f_X9_ask p1 p2 p3 p4 p5 mc = some (.inl 2) := by
      unfold f_X9_ask
      simp only [x0, x1, x2, if_neg q3, x4, ox_r, ox_l]
    refine fin_thr (z := 2) hR (by decide) (by unfold f_Q_ask; rw [hX]; rfl) ?_
    unfold f_X10_ask
    rw [y0, ob_some]
    exact thr_M2 (z := 2) (by simp only [y0, y1, y2, if_neg q3, y4, ob_sm, i10, i01, i00, i11, if_true, if_false]) (by decide) (by decide)
  rcases chk_rng p5 (lo := 0) (hi := 500) (0) (500) rfl rfl (by omega) (by omega) with ⟨x5, y5, r5⟩ | ⟨x5, y5⟩
  rotate_left
  · have hX : f_X9_ask p1 p2 p3 p4 p5 mc = some (.inl 2) := by
      unfold f_X9_ask
      simp only [x0, x1, x2, if_neg q3, x4, x5, ox_r, ox_l]
    refine fin_thr (z := 2) hR (by decide) (by unfold f_Q_ask; rw [hX]; rfl) ?_
    unfold f_X10_ask
    rw [y0, ob_some]
    exact thr_M2 (z := 2) (by simp only [y0, y1, y2, if_neg q3, y4, y5, ob_sm, i10, i01, i00, i11, if_true, if_false]) (by decide) (by decide)
  have hst01 : st = 0 ∨ st = 1 := by omega
  have q3ne : p2 ≠ p3 := q3
  subst e0
  obtain ⟨w2, w3, w4, w68, w6⟩ := id a2
  obtain ⟨b1, ⟨b2, w21, w22, w23, w24, w25⟩, b3, b4⟩ := id a6
  have hn20 := b1.2.1
  have l68 : a_ld 6 68 (iI (v0 : Nat)) mc = some (mc 68 v0) := by rw [a_ldI (by omega) (by omega) (by omega), Int.toNat_natCast]
  have n4 : a_ld 6 4 (iI (v0 : Nat)) (thM mm 0) = some (mc 68 v0) := by rw [a_ldI (by omega) (by omega) (by omega), Int.toNat_natCast, thM_c _ _ (by decide), w4]
  have hrm := sp_hasRoom (o := 45) b1.1 (by omega) (by rw [oln45]; omega)
  rw [oln45] at hrm
  have t1 : thM mm 0 0 1 = mm 0 1 := thM_k _ _ (by decide)
  have t7 : thM mm 0 0 26 = mm 0 26 := thM_k _ _ (by decide)
  have hthr : f_X9_ask (iI (v0 : Nat)) p2 p3 p4 p5 mc = some (.inl 3) → (if mc 68 v0 = 1 then some (3 : Int32) else if thM mm 0 0 1 = 1 then some 3 else if thM mm 0 0 26 = 20 then some 3 else some 0) = some 3 → opOK (f_Q_ask (iI (v0 : Nat)) p2 p3 p4 p5 mc) (f_X10_ask (iI (v0 : Nat)) p2 p3 p4 p5 mm) := by
    intro hX hV
    refine fin_thr (z := 3) hR (by decide) (by unfold f_Q_ask; rw [hX]; rfl) ⟨0, ?_⟩
    unfold f_X10_ask
    rw [y0, ob_some, go_M2 (w := mc 68 v0) (z := 3) (by simp only [y1, y2, if_neg q3, y4, y5, ob_sm, i10]) n4 hV, if_neg (by decide)]
  by_cases c0 : mc 68 v0 = 0
  · have c1 : ¬ mc 68 v0 = 1 := by rw [c0]; decide
    rcases hst01 with s0 | s1
    · have z1 : mc 0 9 = 0 := by rw [hs1, s0]; rfl
      have z2 : ¬ mm 0 1 = 1 := by rw [hs2, s0]; decide
      by_cases hn : na < 20
      · have z7 : ¬ mm 0 26 = 20 := by rw [b2, iL_20, iI_eqP (by omega) (by omega) (by omega) (by omega)]; omega
        rw [if_pos hn] at hrm
        obtain ⟨rr, er, M2, g1, g2, g3, g4, g5, g6, g7, g8, g9, g10, g11⟩ := sp_add (o := 45) (p1 := iI (v0 : Nat)) (p2 := p2) (p3 := 0) (p4 := 1) (p5 := p5) (p6 := p4) (B := 500) (M := MA) (m := mc) (by rw [oln45]; omega) (show na < f_oln 45 by rw [oln45]; exact hn) (by omega) b1.1 (fun k hk => (b1.2.2.2 k hk).2.2.2.2.1) r5 (Or.inr rfl) b1.2.2.1
        obtain ⟨r1, m9⟩ := rr
        have g1 : r1 = iI (na : Nat) := g1
        subst g1
        obtain ⟨mc2, emc⟩ : ∃ m, m = g_up m9 54 (upd (m9 54) na p3) := ⟨_, rfl⟩
        have f9 : ∀ c, c ≠ 54 → mc2 c = m9 c := fun c hc => by rw [emc, g_up_ne _ _ hc]
        have hc : ∀ c, (c < 45 ∨ 54 < c) → mc2 c = mc c := fun c hc => by rw [f9 c (by omega)]; exact g2 c (by omega)
        have hX : f_X9_ask (iI (v0 : Nat)) p2 p3 p4 p5 mc = some (.inr (iI (na : Nat), mc2)) := by
          have hne : ¬ iI (na : Nat) = -1 := by rw [iL_1, iI_neg, iI_eqP (by omega) (by omega) (by omega) (by omega)]; omega
          have s54 : a_st 20 54 (iI (na : Nat)) p3 m9 = some mc2 := by rw [a_stI (by omega) (by omega) (by omega), Int.toNat_natCast, ← emc]
          unfold f_X9_ask f_X9_checkState f_X1_add
          simp only [x0, x1, x2, if_neg q3, x4, x5, ox_r, ox_l, ob_sm, l68, if_pos c0, if_pos z1, hrm, i10, er, if_neg hne, s54]
        have hMM : ∃ mm2, f_X10_ask (iI (v0 : Nat)) p2 p3 p4 p5 mm = some (iI (na : Nat), mm2) ∧ mm2 0 67 = 0 ∧ (∀ c, c ≠ 0 → (c < 21 ∨ 25 < c) → mm2 c = mm c) ∧ (∀ k, k ≠ 67 → k ≠ 26 → mm2 0 k = mm 0 k) ∧ mm2 0 26 = iI ((na + 1 : Nat) : Int) ∧ mm2 21 = upd (mm 21) na (iI (v0 : Nat)) ∧ mm2 22 = upd (mm 22) na p2 ∧ mm2 23 = upd (mm 23) na p3 ∧ mm2 24 = upd (mm 24) na p4 ∧ mm2 25 = upd (mm 25) na p5 := by
          unfold f_X10_ask
          rw [y0, ob_some, go_M2 (w := mc 68 v0) (z := 0) (by simp only [y1, y2, if_neg q3, y4, y5, ob_sm, i10]) n4 (by simp only [if_neg c1, t1, t7, if_neg z2, if_neg z7]), if_pos (by decide)]
          simp (disch := omega) only [t7, b2, ob_sm, a_stI, g_up_ne, Int.toNat_natCast, thM_c]
          refine ⟨_, congrArg some (Prod.ext ?_ rfl), ?_, ?_, ?_, ?_, ?_, ?_, ?_, ?_, ?_⟩
          · simp (disch := omega) only [g_up_at, g_up_ne, updA, t7, b2, if_true, iL_1, iI_add, iI_sub]
            congr 1
            omega
          · simp (disch := omega) only [g_up_at, g_up_ne, updA, thM_0, if_neg]
          · intro c h0 h1
            simp (disch := omega) only [g_up_ne, thM_c]
          · intro k h1 h2
            simp (disch := omega) only [g_up_at, g_up_ne, updA, if_neg, thM_k]
          · simp (disch := omega) only [g_up_at, g_up_ne, updA, t7, b2, if_true, iI_succ]
          · simp (disch := omega) only [g_up_at, g_up_ne, thM_c]
          · simp (disch := omega) only [g_up_at, g_up_ne, thM_c]
          · simp (disch := omega) only [g_up_at, g_up_ne, thM_c]
          · simp (disch := omega) only [g_up_at, g_up_ne, thM_c]
          · simp (disch := omega) only [g_up_at, g_up_ne, thM_c]
        obtain ⟨mm2, q1, q2, hm, h0, q3, q21, q22, q23, q24, q25⟩ := hMM
        have k45 : mc2 45 = upd (mc 45) 8 (iI ((na + 1 : Nat) : Int)) := by rw [f9 45 (by decide)]; exact g3
        have k46 : mc2 46 = upd (mc 46) na (iI (v0 : Nat)) := by rw [f9 46 (by decide)]; exact g4
        have k47 : mc2 47 = upd (mc 47) na p2 := by rw [f9 47 (by decide)]; exact g5
        have k49 : mc2 49 = upd (mc 49) na 1 := by rw [f9 49 (by decide)]; exact g7
        have k50 : mc2 50 = upd (mc 50) na p5 := by rw [f9 50 (by decide)]; exact g8
        have k51 : mc2 51 = upd (mc 51) na p4 := by rw [f9 51 (by decide)]; exact g9
        have k52 : mc2 52 = upd (mc 52) na p4 := by rw [f9 52 (by decide)]; exact g10
        have k54 : mc2 54 = upd (mc 54) na p3 := by rw [emc, g_up_at, show m9 54 = mc 54 from g2 54 (by omega)]
        refine fin_ret (r := iI (na : Nat)) (mc2 := mc2) (mm2 := mm2) ?_ (by unfold f_Q_ask; rw [hX, os_r2, ob_some, ob_some, a_lst0, ob_some]) q1 q2
        refine ⟨d, st, l, n, M, nb, TO, GR, na + 1, M2, no, MO, rDay_fr a1 (by rw [hc 0 (by omega)]) (by rw [hc 0 (by omega)]) (h0 0 (by omega) (by omega)) (h0 1 (by omega) (by omega)), rAcc_fr a2 (fun c _ _ => hc c (by omega)) (fun c _ _ => hm c (by omega) (by omega)) (h0 6 (by omega) (by omega)), rLim_fr a3 (hc 3 (by omega)) (hm 1 (by omega) (by omega)), rBid_fr a4 (fun c _ _ => hc c (by omega)) (h0 7 (by omega) (by omega)) (fun c _ _ => hm c (by omega) (by omega)), rBlk_fr a5 (fun c _ _ => hc c (by omega)) (h0 16 (by omega) (by omega)) (h0 25 (by omega) (by omega)) (fun c _ _ => hm c (by omega) (by omega)), ⟨⟨by rw [k45, updA, if_pos rfl], by omega, ?_, ?_⟩, ⟨q3, by rw [q21, k46, w21], by rw [q22, k47, w22], by rw [q23, k54, w23], by rw [q24, k51, w24], by rw [q25, k50, w25]⟩, fun _ k hk => ?_, fun h9 => absurd h9 (by omega)⟩, rOff_fr a7 (fun c _ _ => hc c (by omega)) (h0 33 (by omega) (by omega)) (fun c _ _ => hm c (by omega) (by omega)), fun h9 => absurd h9 (by omega), fun j hj => rDy_fr (a9 j hj) (fun c _ _ _ => hc c (by omega)) (fun c _ _ => hm c (by omega) (by omega)), rPB_fr a10 (fun j hj => hc _ (by omega)) (by omega), rAid_fr a11 (fun j hj c _ _ => hc c (by omega)) (fun c _ _ => hm c (by omega) (by omega)), rScr_fr a12 (fun c _ _ => hc c (by omega)) (fun c _ _ => hm c (by omega) (by omega))⟩
        · refine Mer_congr g11 (fun k _ => ?_) (fun i _ => by rw [f9 53 (by decide)])
          unfold keyO
          rw [f9 (45 + 4) (by decide), f9 (45 + 5) (by decide)]
        · intro k hk
          rw [k46, k47, k54, k49, k50, k51, updA, updA, updA, updA, updA, updA]
          by_cases w : k = na
          · rw [if_pos w, if_pos w, if_pos w, if_pos w, if_pos w, if_pos w]
            exact ⟨rg_iI (by omega) (by omega) (by omega) (by omega), by rw [e1]; exact rg_iI (by omega) (by omega) (by omega) (by omega), by rw [e2]; exact rg_iI (by omega) (by omega) (by omega) (by omega), rfl, r5, r4, q3ne⟩
          · rw [if_neg w, if_neg w, if_neg w, if_neg w, if_neg w, if_neg w]
            exact b1.2.2.2 k (by omega)
        · rw [k52, k51, updA, updA]
          by_cases w : k = na
          · rw [if_pos w, if_pos w]
          · rw [if_neg w, if_neg w]
            exact b3 s0 k (by omega)
      · have z7 : mm 0 26 = 20 := by rw [b2, iL_20]; congr 1; omega
        rw [if_neg hn] at hrm
        refine hthr ?_ (by rw [if_neg c1, t1, if_neg z2, t7, if_pos z7])
        unfold f_X9_ask f_X9_checkState
        simp only [x0, x1, x2, if_neg q3, x4, x5, ox_r, ox_l, ob_sm, l68, if_pos c0, if_pos z1, hrm, i00, if_true]
    · have z1 : ¬ mc 0 9 = 0 := by rw [hs1, s1]; decide
      have z2 : mm 0 1 = 1 := by rw [hs2, s1]; rfl
      refine hthr ?_ (by rw [if_neg c1, t1, if_pos z2])
      unfold f_X9_ask f_X9_checkState
      simp only [x0, x1, x2, if_neg q3, x4, x5, ox_r, ox_l, ob_sm, l68, if_pos c0, if_neg z1, i00, if_true]
  · have c1 : mc 68 v0 = 1 := (w68 v0 l0).resolve_left c0
    refine hthr ?_ (by rw [if_pos c1])
    unfold f_X9_ask f_X9_checkState
    simp only [x0, x1, x2, if_neg q3, x4, x5, ox_r, ox_l, ob_sm, l68, if_neg c0, i00, if_true]
theorem op_clear : l_op_6 RelG := by
  intro mc mm hR
  show opOK (f_Q_clear mc) (f_X10_clear mm)
  obtain ⟨d, st, l, n, M, nb, TO, GR, na, MA, no, MO, hA⟩ := id hR
  obtain ⟨hd9, hst1, hd1, hd2, hs1, hs2⟩ := id hA.1
  have hst01 : st = 0 ∨ st = 1 := by omega
  rcases hst01 with s0 | s1
  · subst s0
    obtain ⟨r, mc2, mm2, q1, q2, q3, q4⟩ := sim_clear hA
    exact fin_ret (r := r) (mc2 := mc2) (mm2 := mm2) ⟨d, 1, l, n, M, nb, TO, GR, na, MA, no, MO, q4⟩ (by unfold f_Q_clear; rw [q1, os_r2, ob_some, ob_some, a_lst0, ob_some]) q2 q3
  · have z1 : ¬ mc 0 9 = 0 := by rw [hs1, s1]; decide
    have z2 : mm 0 1 = 1 := by rw [hs2, s1]; rfl
    have hX : f_X9_clear mc = some (.inl 3) := by
      unfold f_X9_clear f_X9_checkState
      simp only [ox_r, ox_l, ob_sm, if_neg z1, i00, if_true]
    refine fin_thr (z := 1) hR (by decide) (by unfold f_Q_clear; rw [hX]; rfl) ?_
    unfold f_X10_clear
    exact thr_M (z := 1) (by rw [if_pos z2]) (by decide)
