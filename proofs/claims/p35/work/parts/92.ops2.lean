theorem op_setLimit : l_op_1 RelG := by
  intro mc mm p1 p2 hR
  show opOK (f_Q_setLimit p1 p2 mc) (f_X10_setLimit p1 p2 mm)
  obtain ⟨d, st, l, n, M, nb, TO, GR, na, MA, no, MO, hA⟩ := id hR
  obtain ⟨a1, a2, a3, a4, a5, a6, a7, a8, a9, a10, a11, a12⟩ := id hA
  obtain ⟨hd9, hst1, hd1, hd2, hs1, hs2⟩ := id a1
  rcases chk_line p1 with ⟨v0, l0, e0, x0, y0⟩ | ⟨x0, y0⟩
  rotate_left
  · have hX : f_X9_setLimit p1 p2 mc = some (.inl 1) := by
      unfold f_X9_setLimit
      simp only [x0, ox_r, ox_l]
    refine fin_thr (z := 1) hR (by decide) (by unfold f_Q_setLimit; rw [hX]; rfl) ?_
    unfold f_X10_setLimit
    rw [y0, ob_some]
    exact thr_M (z := 1) (by simp only [y0, ob_sm, i10, i01, i00, i11, if_true, if_false]) (by decide)
  rcases chk_rng p2 (lo := 0) (hi := 10) (0) (10) rfl rfl (by omega) (by omega) with ⟨x1, y1, r1⟩ | ⟨x1, y1⟩
  rotate_left
  · have hX : f_X9_setLimit p1 p2 mc = some (.inl 2) := by
      unfold f_X9_setLimit
      simp only [x0, x1, ox_r, ox_l]
    refine fin_thr (z := 2) hR (by decide) (by unfold f_Q_setLimit; rw [hX]; rfl) ?_
    unfold f_X10_setLimit
    rw [y0, ob_some]
    exact thr_M (z := 2) (by simp only [y0, y1, ob_sm, i10, i01, i00, i11, if_true, if_false]) (by decide)
  have hst01 : st = 0 ∨ st = 1 := by omega
  subst e0
  rcases hst01 with s0 | s1
  · have z1 : mc 0 9 = 0 := by rw [hs1, s0]; rfl
    have z2 : ¬ mm 0 1 = 1 := by rw [hs2, s0]; decide
    obtain ⟨mc2, emc⟩ : ∃ m, m = g_up mc 3 (upd (mc 3) v0 p2) := ⟨_, rfl⟩
    obtain ⟨mm2, emm⟩ : ∃ m, m = g_up (thM mm 0) 1 (upd (mm 1) v0 p2) := ⟨_, rfl⟩
    have hc : ∀ c, c ≠ 3 → mc2 c = mc c := fun c h1 => by rw [emc, g_up_ne _ _ h1]
    have hm : ∀ c, c ≠ 0 → c ≠ 1 → mm2 c = mm c := fun c h0 h1 => by rw [emm, g_up_ne _ _ h1, thM_c _ _ h0]
    have h0 : ∀ k, k ≠ 67 → mm2 0 k = mm 0 k := fun k hk => by rw [emm, g_up_ne _ _ (by decide), thM_k _ _ hk]
    have hX : f_X9_setLimit (iI (v0 : Nat)) p2 mc = some (.inr (mc 3 v0, mc2)) := by
      unfold f_X9_setLimit f_X9_checkState
      simp only [x0, x1, ox_r, ox_l, ob_sm, if_pos z1, i10]
      rw [a_ldI (by omega) (by omega) (by omega), ob_some, Int.toNat_natCast, a_stI (by omega) (by omega) (by omega), ob_some, Int.toNat_natCast, ← emc]
    refine fin_ret (r := mc 3 v0) (mc2 := mc2) (mm2 := mm2) ?_ (by unfold f_Q_setLimit; rw [hX, os_r2, ob_some, ob_some, a_lst0, ob_some]) ?_ ?_
    · refine ⟨d, st, (fun k => if k = v0 then p2.toInt else l k), n, M, nb, TO, GR, na, MA, no, MO, rDay_fr a1 (by rw [hc 0 (by omega)]) (by rw [hc 0 (by omega)]) (h0 0 (by omega)) (h0 1 (by omega)), rAcc_fr a2 (fun c _ _ => hc c (by omega)) (fun c _ _ => hm c (by omega) (by omega)) (h0 6 (by omega)), ⟨?_, ?_⟩, rBid_fr a4 (fun c _ _ => hc c (by omega)) (h0 7 (by omega)) (fun c _ _ => hm c (by omega) (by omega)), rBlk_fr a5 (fun c _ _ => hc c (by omega)) (h0 16 (by omega)) (h0 25 (by omega)) (fun c _ _ => hm c (by omega) (by omega)), rAsk_fr a6 (fun c _ _ => hc c (by omega)) (h0 26 (by omega)) (fun c _ _ => hm c (by omega) (by omega)), rOff_fr a7 (fun c _ _ => hc c (by omega)) (h0 33 (by omega)) (fun c _ _ => hm c (by omega) (by omega)), fun h9 => absurd h9 (by omega), fun j hj => rDy_fr (a9 j hj) (fun c _ _ _ => hc c (by omega)) (fun c _ _ => hm c (by omega) (by omega)), rPB_fr a10 (fun j hj => hc _ (by omega)) (by omega), rAid_fr a11 (fun j hj c _ _ => hc c (by omega)) (fun c _ _ => hm c (by omega) (by omega)), rScr_fr a12 (fun c _ _ => hc c (by omega)) (fun c _ _ => hm c (by omega) (by omega))⟩
      · intro k hk
        rw [emc, g_up_at, updA]
        show _ = iI (if k = v0 then p2.toInt else l k) ∧ 0 ≤ (if k = v0 then p2.toInt else l k) ∧ (if k = v0 then p2.toInt else l k) ≤ 10
        by_cases w : k = v0
        · rw [if_pos w, if_pos w, iI_of]; exact ⟨rfl, r1.1, r1.2⟩
        · rw [if_neg w, if_neg w]; exact a3.1 k hk
      · intro k hk
        rw [emm, g_up_at, updA]
        show _ = iI (if k = v0 then p2.toInt else l k) ∧ 0 ≤ (if k = v0 then p2.toInt else l k) ∧ (if k = v0 then p2.toInt else l k) ≤ 10
        by_cases w : k = v0
        · rw [if_pos w, if_pos w, iI_of]; exact ⟨rfl, r1.1, r1.2⟩
        · rw [if_neg w, if_neg w]; exact a3.2 k hk
    · unfold f_X10_setLimit
      rw [y0, ob_some, go_M (by simp only [y1, ob_sm, if_neg z2, i10])]
      rw [a_ldI (by omega) (by omega) (by omega), ob_some, Int.toNat_natCast, thM_c _ _ (show (1 : Nat) ≠ 0 by decide), a_stI (by omega) (by omega) (by omega), ob_some, Int.toNat_natCast, thM_c _ _ (show (1 : Nat) ≠ 0 by decide), ← emm, (a3.1 v0 l0).1, (a3.2 v0 l0).1]
    · rw [emm, g_up_ne _ _ (by decide), thM_0]
  · have z1 : ¬ mc 0 9 = 0 := by rw [hs1, s1]; decide
    have z2 : mm 0 1 = 1 := by rw [hs2, s1]; rfl
    have hX : f_X9_setLimit (iI (v0 : Nat)) p2 mc = some (.inl 3) := by
      unfold f_X9_setLimit f_X9_checkState
      simp only [x0, x1, ox_r, ox_l, ob_sm, if_neg z1, i00, if_true]
    refine fin_thr (z := 3) hR (by decide) (by unfold f_Q_setLimit; rw [hX]; rfl) ?_
    unfold f_X10_setLimit
    rw [y0, ob_some]
    exact thr_M (z := 3) (by simp only [y1, ob_sm, if_pos z2, i10]) (by decide)
theorem op_bid : l_op_2 RelG := by
  intro mc mm p1 p2 p3 p4 p5 p6 hz hR
  show opOK (f_Q_bid p1 p2 p3 p4 p5 p6 mc) (f_X10_bid p1 p2 p3 p4 p5 p6 mm)
  obtain ⟨d, st, l, n, M, nb, TO, GR, na, MA, no, MO, hA⟩ := id hR
  obtain ⟨a1, a2, a3, a4, a5, a6, a7, a8, a9, a10, a11, a12⟩ := id hA
  obtain ⟨hd9, hst1, hd1, hd2, hs1, hs2⟩ := id a1
  rcases chk_firm p1 with ⟨v0, l0, e0, x0, y0⟩ | ⟨x0, y0⟩
  rotate_left
  · have hX : f_X9_bid p1 p2 p3 p4 p5 p6 mc = some (.inl 1) := by
      unfold f_X9_bid
      simp only [x0, ox_r, ox_l]
    refine fin_thr (z := 1) hR (by decide) (by unfold f_Q_bid; rw [hX]; rfl) ?_
    unfold f_X10_bid
    rw [y0, ob_some]
    exact thr_M2 (z := 1) (by simp only [y0, ob_sm, i10, i01, i00, i11, if_true, if_false]) (by decide) (by decide)
  rcases chk_zone p2 with ⟨v1, l1, e1, x1, y1⟩ | ⟨x1, y1⟩
  rotate_left
  · have hX : f_X9_bid p1 p2 p3 p4 p5 p6 mc = some (.inl 1) := by
      unfold f_X9_bid
      simp only [x0, x1, ox_r, ox_l]
    refine fin_thr (z := 1) hR (by decide) (by unfold f_Q_bid; rw [hX]; rfl) ?_
    unfold f_X10_bid
    rw [y0, ob_some]
    exact thr_M2 (z := 1) (by simp only [y0, y1, ob_sm, i10, i01, i00, i11, if_true, if_false]) (by decide) (by decide)
  rcases chk_hour p3 with ⟨v2, l2, e2, x2, y2⟩ | ⟨x2, y2⟩
  rotate_left
  · have hX : f_X9_bid p1 p2 p3 p4 p5 p6 mc = some (.inl 1) := by
      unfold f_X9_bid
      simp only [x0, x1, x2, ox_r, ox_l]
    refine fin_thr (z := 1) hR (by decide) (by unfold f_Q_bid; rw [hX]; rfl) ?_
    unfold f_X10_bid
    rw [y0, ob_some]
    exact thr_M2 (z := 1) (by simp only [y0, y1, y2, ob_sm, i10, i01, i00, i11, if_true, if_false]) (by decide) (by decide)
  rcases chk_rng p5 (lo := 0) (hi := 200) (0) (200) rfl rfl (by omega) (by omega) with ⟨x3, y3, r3⟩ | ⟨x3, y3⟩
  rotate_left
  · have hX : f_X9_bid p1 p2 p3 p4 p5 p6 mc = some (.inl 2) := by
      unfold f_X9_bid
      simp only [x0, x1, x2, x3, ox_r, ox_l]
    refine fin_thr (z := 2) hR (by decide) (by unfold f_Q_bid; rw [hX]; rfl) ?_
    unfold f_X10_bid
    rw [y0, ob_some]
    exact thr_M2 (z := 2) (by simp only [y0, y1, y2, y3, ob_sm, i10, i01, i00, i11, if_true, if_false]) (by decide) (by decide)
  rcases chk_rng p6 (lo := 1) (hi := 10) (1) (10) rfl rfl (by omega) (by omega) with ⟨x4, y4, r4⟩ | ⟨x4, y4⟩
  rotate_left
  · have hX : f_X9_bid p1 p2 p3 p4 p5 p6 mc = some (.inl 2) := by
      unfold f_X9_bid
      simp only [x0, x1, x2, x3, x4, ox_r, ox_l]
    refine fin_thr (z := 2) hR (by decide) (by unfold f_Q_bid; rw [hX]; rfl) ?_
    unfold f_X10_bid
    rw [y0, ob_some]
    exact thr_M2 (z := 2) (by simp only [y0, y1, y2, y3, y4, ob_sm, i10, i01, i00, i11, if_true, if_false]) (by decide) (by decide)
  have hst01 : st = 0 ∨ st = 1 := by omega
  subst e0
  obtain ⟨w2, w3, w4, w68, w6⟩ := id a2
  obtain ⟨b1, b2, b3, b4⟩ := id a4
  have hn40 := b1.1
  have l68 : a_ld 6 68 (iI (v0 : Nat)) mc = some (mc 68 v0) := by rw [a_ldI (by omega) (by omega) (by omega), Int.toNat_natCast]
  have n4 : a_ld 6 4 (iI (v0 : Nat)) (thM mm 0) = some (mc 68 v0) := by rw [a_ldI (by omega) (by omega) (by omega), Int.toNat_natCast, thM_c _ _ (by decide), w4]
  have hrm := sp_hasRoom (o := 4) b1.2.1 (by omega) (by rw [oln4]; omega)
  rw [oln4] at hrm
  have t1 : thM mm 0 0 1 = mm 0 1 := thM_k _ _ (by decide)
  have t7 : thM mm 0 0 7 = mm 0 7 := thM_k _ _ (by decide)
  have hthr : f_X9_bid (iI (v0 : Nat)) p2 p3 p4 p5 p6 mc = some (.inl 3) → (if mc 68 v0 = 1 then some (3 : Int32) else if thM mm 0 0 1 = 1 then some 3 else if thM mm 0 0 7 = 40 then some 3 else some 0) = some 3 → opOK (f_Q_bid (iI (v0 : Nat)) p2 p3 p4 p5 p6 mc) (f_X10_bid (iI (v0 : Nat)) p2 p3 p4 p5 p6 mm) := by
    intro hX hV
    refine fin_thr (z := 3) hR (by decide) (by unfold f_Q_bid; rw [hX]; rfl) ⟨0, ?_⟩
    unfold f_X10_bid
    rw [y0, ob_some, go_M2 (w := mc 68 v0) (z := 3) (by simp only [y1, y2, y3, y4, ob_sm, i10]) n4 hV, if_neg (by decide)]
  by_cases c0 : mc 68 v0 = 0
  · have c1 : ¬ mc 68 v0 = 1 := by rw [c0]; decide
    rcases hst01 with s0 | s1
    · have z1 : mc 0 9 = 0 := by rw [hs1, s0]; rfl
      have z2 : ¬ mm 0 1 = 1 := by rw [hs2, s0]; decide
      by_cases hn : n < 40
      · have z7 : ¬ mm 0 7 = 40 := by rw [b2, iL_40, iI_eqP (by omega) (by omega) (by omega) (by omega)]; omega
        rw [if_pos hn] at hrm
        obtain ⟨rr, er, M2, g1, g2, g3, g4, g5, g6, g7, g8, g9, g10, g11⟩ := sp_add (o := 4) (p1 := iI (v0 : Nat)) (p2 := p2) (p3 := p3) (p4 := p4) (p5 := p5) (p6 := p6) (B := 200) (M := M) (m := mc) (by rw [oln4]; omega) (show n < f_oln 4 by rw [oln4]; exact hn) (by omega) b1.2.1 (fun k hk => (b1.2.2.2 k hk).2.2.2.2.1) r3 hz b1.2.2.1
        obtain ⟨r1, mc2⟩ := rr
        have g1 : r1 = iI (n : Nat) := g1
        subst g1
        have hX : f_X9_bid (iI (v0 : Nat)) p2 p3 p4 p5 p6 mc = some (.inr (iI (n : Nat), mc2)) := by
          unfold f_X9_bid f_X9_checkState
          simp only [x0, x1, x2, x3, x4, ox_r, ox_l, ob_sm, l68, if_pos c0, if_pos z1, hrm, i10, er]
        have hMM : ∃ mm2, f_X10_bid (iI (v0 : Nat)) p2 p3 p4 p5 p6 mm = some (iI (n : Nat), mm2) ∧ mm2 0 67 = 0 ∧ (∀ c, c ≠ 0 → (c < 5 ∨ 10 < c) → mm2 c = mm c) ∧ (∀ k, k ≠ 67 → k ≠ 7 → mm2 0 k = mm 0 k) ∧ mm2 0 7 = iI ((n + 1 : Nat) : Int) ∧ mm2 5 = upd (mm 5) n (iI (v0 : Nat)) ∧ mm2 6 = upd (mm 6) n p2 ∧ mm2 7 = upd (mm 7) n p3 ∧ mm2 8 = upd (mm 8) n p4 ∧ mm2 9 = upd (mm 9) n p5 ∧ mm2 10 = upd (mm 10) n p6 := by
          unfold f_X10_bid
          have ez : ∀ {α : Type} (G : Int32 → Option α), ob (if p4 = 0 then some 0 else some 1) G = G p4 := by
            intro α G
            rcases hz with q | q
            · rw [if_pos q, ob_some, q]
            · rw [if_neg (by rw [q]; decide), ob_some, q]
          rw [y0, ob_some, go_M2 (w := mc 68 v0) (z := 0) (by simp only [y1, y2, y3, y4, ob_sm, i10]) n4 (by simp only [if_neg c1, t1, t7, if_neg z2, if_neg z7]), if_pos (by decide)]
          simp (disch := omega) only [t7, b2, ez, ob_sm, a_stI, g_up_ne, Int.toNat_natCast, thM_c]
          refine ⟨_, congrArg some (Prod.ext ?_ rfl), ?_, ?_, ?_, ?_, ?_, ?_, ?_, ?_, ?_, ?_⟩
          · simp (disch := omega) only [g_up_at, g_up_ne, updA, t7, b2, if_true, iL_1, iI_add, iI_sub]
            congr 1
            omega
          · simp (disch := omega) only [g_up_at, g_up_ne, updA, thM_0, if_neg]
          · intro c h0 h1
            simp (disch := omega) only [g_up_ne, thM_c]
          · intro k h1 h2
            simp (disch := omega) only [g_up_at, g_up_ne, updA, if_neg, thM_k]
          · simp (disch := omega) only [g_up_at, g_up_ne, updA, t7, b2, if_true, iI_succ]
          · simp (disch := omega) only [g_up_at, g_up_ne, thM_c]
          · simp (disch := omega) only [g_up_at, g_up_ne, thM_c]
          · simp (disch := omega) only [g_up_at, g_up_ne, thM_c]
          · simp (disch := omega) only [g_up_at, g_up_ne, thM_c]
          · simp (disch := omega) only [g_up_at, g_up_ne, thM_c]
          · simp (disch := omega) only [g_up_at, g_up_ne, thM_c]
        obtain ⟨mm2, q1, q2, hm', h0', q3, q5, q6, q7, q8, q9, q10⟩ := hMM
        have hc : ∀ c, (c < 4 ∨ 12 < c) → mc2 c = mc c := g2
        have hm : ∀ c, c ≠ 0 → (c < 5 ∨ 10 < c) → mm2 c = mm c := hm'
        have h0 : ∀ k, k ≠ 67 → k ≠ 7 → mm2 0 k = mm 0 k := h0'
        have g4 : mc2 5 = upd (mc 5) n (iI (v0 : Nat)) := g4
        have g5 : mc2 6 = upd (mc 6) n p2 := g5
        have g6 : mc2 7 = upd (mc 7) n p3 := g6
        have g7 : mc2 8 = upd (mc 8) n p4 := g7
        have g8 : mc2 9 = upd (mc 9) n p5 := g8
        have g9 : mc2 10 = upd (mc 10) n p6 := g9
        refine fin_ret (r := iI (n : Nat)) (mc2 := mc2) (mm2 := mm2) ?_ (by unfold f_Q_bid; rw [hX, os_r2, ob_some, ob_some, a_lst0, ob_some]) q1 q2
        refine ⟨d, st, l, n + 1, M2, nb, TO, GR, na, MA, no, MO, rDay_fr a1 (by rw [hc 0 (by omega)]) (by rw [hc 0 (by omega)]) (h0 0 (by omega) (by omega)) (h0 1 (by omega) (by omega)), rAcc_fr a2 (fun c _ _ => hc c (by omega)) (fun c _ _ => hm c (by omega) (by omega)) (h0 6 (by omega) (by omega)), rLim_fr a3 (hc 3 (by omega)) (hm 1 (by omega) (by omega)), ⟨⟨by omega, ?_, g11, ?_⟩, q3, ?_, fun h9 => absurd h9 (by omega)⟩, rBlk_fr a5 (fun c _ _ => hc c (by omega)) (h0 16 (by omega) (by omega)) (h0 25 (by omega) (by omega)) (fun c _ _ => hm c (by omega) (by omega)), rAsk_fr a6 (fun c _ _ => hc c (by omega)) (h0 26 (by omega) (by omega)) (fun c _ _ => hm c (by omega) (by omega)), rOff_fr a7 (fun c _ _ => hc c (by omega)) (h0 33 (by omega) (by omega)) (fun c _ _ => hm c (by omega) (by omega)), rNet_fr a8 (hc _ (by omega)) (hc 3 (by omega)) (hm 48 (by omega) (by omega)), fun j hj => rDy_fr (a9 j hj) (fun c _ _ _ => hc c (by omega)) (fun c _ _ => hm c (by omega) (by omega)), rPB_fr a10 (fun j hj => hc _ (by omega)) (by omega), rAid_fr a11 (fun j hj c _ _ => hc c (by omega)) (fun c _ _ => hm c (by omega) (by omega)), rScr_fr a12 (fun c _ _ => hc c (by omega)) (fun c _ _ => hm c (by omega) (by omega))⟩
        · have g3 : mc2 4 = upd (mc 4) 8 (iI ((n + 1 : Nat) : Int)) := g3
          rw [g3, updA, if_pos rfl]
        · intro k hk
          rw [g4, g5, g6, g7, g8, g9, updA, updA, updA, updA, updA, updA]
          by_cases w : k = n
          · rw [if_pos w, if_pos w, if_pos w, if_pos w, if_pos w, if_pos w, e1, e2]
            exact ⟨rg_iI (by omega) (by omega) (by omega) (by omega), rg_iI (by omega) (by omega) (by omega) (by omega), rg_iI (by omega) (by omega) (by omega) (by omega), hz, r3, r4⟩
          · rw [if_neg w, if_neg w, if_neg w, if_neg w, if_neg w, if_neg w]
            exact b1.2.2.2 k (by omega)
        · intro c c1 c2
          have h6 : c = 5 ∨ c = 6 ∨ c = 7 ∨ c = 8 ∨ c = 9 ∨ c = 10 := by omega
          rcases h6 with h | h | h | h | h | h
          · rw [h, q5, g4, b3 5 (by decide) (by decide)]
          · rw [h, q6, g5, b3 6 (by decide) (by decide)]
          · rw [h, q7, g6, b3 7 (by decide) (by decide)]
          · rw [h, q8, g7, b3 8 (by decide) (by decide)]
          · rw [h, q9, g8, b3 9 (by decide) (by decide)]
          · rw [h, q10, g9, b3 10 (by decide) (by decide)]
      · have z7 : mm 0 7 = 40 := by rw [b2, iL_40]; congr 1; omega
        rw [if_neg hn] at hrm
        refine hthr ?_ (by rw [if_neg c1, t1, if_neg z2, t7, if_pos z7])
        unfold f_X9_bid f_X9_checkState
        simp only [x0, x1, x2, x3, x4, ox_r, ox_l, ob_sm, l68, if_pos c0, if_pos z1, hrm, i00, if_true]
    · have z1 : ¬ mc 0 9 = 0 := by rw [hs1, s1]; decide
      have z2 : mm 0 1 = 1 := by rw [hs2, s1]; rfl
      refine hthr ?_ (by rw [if_neg c1, t1, if_pos z2])
      unfold f_X9_bid f_X9_checkState
      simp only [x0, x1, x2, x3, x4, ox_r, ox_l, ob_sm, l68, if_pos c0, if_neg z1, i00, if_true]
  · have c1 : mc 68 v0 = 1 := (w68 v0 l0).resolve_left c0
    refine hthr ?_ (by rw [if_pos c1])
    unfold f_X9_bid f_X9_checkState
    simp only [x0, x1, x2, x3, x4, ox_r, ox_l, ob_sm, l68, if_neg c0, i00, if_true]
