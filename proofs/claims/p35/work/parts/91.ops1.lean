theorem op_deposit : l_op_0 RelG := by
  intro mc mm p1 p2 hR
  show opOK (f_Q_deposit p1 p2 mc) (f_X10_deposit p1 p2 mm)
  obtain ⟨d, st, l, n, M, nb, TO, GR, na, MA, no, MO, hA⟩ := id hR
  obtain ⟨a1, a2, a3, a4, a5, a6, a7, a8, a9, a10, a11, a12⟩ := id hA
  obtain ⟨hd9, hst1, hd1, hd2, hs1, hs2⟩ := id a1
  rcases chk_firm p1 with ⟨v0, l0, e0, x0, y0⟩ | ⟨x0, y0⟩
  rotate_left
  · have hX : f_X9_deposit p1 p2 mc = some (.inl 1) := by
      unfold f_X9_deposit
      simp only [x0, ox_r, ox_l]
    refine fin_thr (z := 1) hR (by decide) (by unfold f_Q_deposit; rw [hX]; rfl) ?_
    unfold f_X10_deposit
    rw [y0, ob_some]
    exact thr_M (z := 1) (by simp only [y0, ob_sm, i10, i01, i00, i11, if_true, if_false]) (by decide)
  rcases chk_rng p2 (lo := 1) (hi := 100000) (1) (100000) rfl rfl (by omega) (by omega) with ⟨x1, y1, r1⟩ | ⟨x1, y1⟩
  rotate_left
  · have hX : f_X9_deposit p1 p2 mc = some (.inl 2) := by
      unfold f_X9_deposit
      simp only [x0, x1, ox_r, ox_l]
    refine fin_thr (z := 2) hR (by decide) (by unfold f_Q_deposit; rw [hX]; rfl) ?_
    unfold f_X10_deposit
    rw [y0, ob_some]
    exact thr_M (z := 2) (by simp only [y0, y1, ob_sm, i10, i01, i00, i11, if_true, if_false]) (by decide)
  subst e0
  obtain ⟨w2, w3, w4, w68, w6⟩ := id a2
  have l68 : a_ld 6 68 (iI (v0 : Nat)) mc = some (mc 68 v0) := by rw [a_ldI (by omega) (by omega) (by omega), Int.toNat_natCast]
  have l67 : a_ld 6 67 (iI (v0 : Nat)) mc = some (mc 67 v0) := by rw [a_ldI (by omega) (by omega) (by omega), Int.toNat_natCast]
  have n4 : a_ld 6 4 (iI (v0 : Nat)) mm = some (mc 68 v0) := by rw [a_ldI (by omega) (by omega) (by omega), Int.toNat_natCast, w4]
  have n3 : a_ld 6 3 (iI (v0 : Nat)) mm = some (mc 67 v0) := by rw [a_ldI (by omega) (by omega) (by omega), Int.toNat_natCast, w3]
  by_cases c0 : mc 68 v0 = 0
  · have c1 : ¬ mc 68 v0 = 1 := by rw [c0]; decide
    by_cases cs : 10000000 < mc 67 v0 + p2
    · have cs2 : ¬ mc 67 v0 + p2 ≤ 10000000 := fun h => i32_not_le.2 cs h
      have hX : f_X9_deposit (iI (v0 : Nat)) p2 mc = some (.inl 3) := by
        unfold f_X9_deposit f_X9_checkState
        simp only [x0, x1, ox_r, ox_l, l68, l67, ob_sm, if_pos c0, if_pos cs, if_true]
      refine fin_thr (z := 3) hR (by decide) (by unfold f_Q_deposit; rw [hX]; rfl) ?_
      unfold f_X10_deposit
      rw [y0, ob_some]
      exact thr_M (z := 3) (by simp only [y1, ob_sm, n4, n3, if_neg c1, if_neg cs2, i10, i01, i00, i11, if_true, if_false]) (by decide)
    · have cs2 : mc 67 v0 + p2 ≤ 10000000 := by
        by_cases h : mc 67 v0 + p2 ≤ 10000000
        · exact h
        · exact absurd (i32_not_le.1 h) cs
      obtain ⟨mc2, emc⟩ : ∃ m, m = g_up (g_up mc 67 (upd (mc 67) v0 (mc 67 v0 + p2))) 66 (upd (mc 66) v0 (mc 66 v0 + p2)) := ⟨_, rfl⟩
      obtain ⟨mm2, emm⟩ : ∃ m, m = g_up (g_up (thM mm 0) 3 (upd (mm 3) v0 (mm 3 v0 + p2))) 2 (upd (mm 2) v0 (mm 2 v0 + p2)) := ⟨_, rfl⟩
      have hc : ∀ c, c ≠ 66 → c ≠ 67 → mc2 c = mc c := fun c h1 h2 => by rw [emc, g_up_ne _ _ h1, g_up_ne _ _ h2]
      have hm : ∀ c, c ≠ 0 → c ≠ 2 → c ≠ 3 → mm2 c = mm c := fun c h0 h1 h2 => by rw [emm, g_up_ne _ _ h1, g_up_ne _ _ h2, thM_c _ _ h0]
      have h0 : ∀ k, k ≠ 67 → mm2 0 k = mm 0 k := fun k hk => by rw [emm, g_up_ne _ _ (by decide), g_up_ne _ _ (by decide), thM_k _ _ hk]
      have hX : f_X9_deposit (iI (v0 : Nat)) p2 mc = some (.inr (mc 66 v0 + p2, mc2)) := by
        unfold f_X9_deposit f_X9_checkState
        simp only [x0, x1, ox_r, ox_l, l68, l67, ob_sm, if_pos c0, if_neg cs, if_false]
        rw [if_neg (by decide), ox_r, a_stI (by omega) (by omega) (by omega), ob_some, Int.toNat_natCast, a_ldI (by omega) (by omega) (by omega), ob_some, Int.toNat_natCast, g_up_ne _ _ (show (66 : Nat) ≠ 67 by decide), a_stI (by omega) (by omega) (by omega), ob_some, Int.toNat_natCast, g_up_ne _ _ (show (66 : Nat) ≠ 67 by decide), a_ldI (by omega) (by omega) (by omega), ob_some, Int.toNat_natCast, g_up_at, updA, if_pos rfl, ← emc]
      refine fin_ret (r := mc 66 v0 + p2) (mc2 := mc2) (mm2 := mm2) ?_ (by unfold f_Q_deposit; rw [hX, os_r2, ob_some, ob_some, a_lst0, ob_some]) ?_ ?_
      · refine ⟨d, st, l, n, M, nb, TO, GR, na, MA, no, MO, rDay_fr a1 (by rw [hc 0 (by omega) (by omega)]) (by rw [hc 0 (by omega) (by omega)]) (h0 0 (by omega)) (h0 1 (by omega)), ?_, rLim_fr a3 (hc 3 (by omega) (by omega)) (hm 1 (by omega) (by omega) (by omega)), rBid_fr a4 (fun c _ _ => hc c (by omega) (by omega)) (h0 7 (by omega)) (fun c _ _ => hm c (by omega) (by omega) (by omega)), rBlk_fr a5 (fun c _ _ => hc c (by omega) (by omega)) (h0 16 (by omega)) (h0 25 (by omega)) (fun c _ _ => hm c (by omega) (by omega) (by omega)), rAsk_fr a6 (fun c _ _ => hc c (by omega) (by omega)) (h0 26 (by omega)) (fun c _ _ => hm c (by omega) (by omega) (by omega)), rOff_fr a7 (fun c _ _ => hc c (by omega) (by omega)) (h0 33 (by omega)) (fun c _ _ => hm c (by omega) (by omega) (by omega)), rNet_fr a8 (hc _ (by omega) (by omega)) (hc 3 (by omega) (by omega)) (hm 48 (by omega) (by omega) (by omega)), fun j hj => rDy_fr (a9 j hj) (fun c _ _ _ => hc c (by omega) (by omega)) (fun c _ _ => hm c (by omega) (by omega) (by omega)), rPB_fr a10 (fun j hj => hc _ (by omega) (by omega)) (by omega), rAid_fr a11 (fun j hj c _ _ => hc c (by omega) (by omega)) (fun c _ _ => hm c (by omega) (by omega) (by omega)), rScr_fr a12 (fun c _ _ => hc c (by omega) (by omega)) (fun c _ _ => hm c (by omega) (by omega) (by omega))⟩
        refine ⟨?_, ?_, by rw [hm 4 (by omega) (by omega) (by omega), hc 68 (by omega) (by omega)]; exact w4, by rw [hc 68 (by omega) (by omega)]; exact w68, by rw [h0 6 (by omega), hc 65 (by omega) (by omega)]; exact w6⟩
        · rw [emm, emc, g_up_at, g_up_at, w2]
        · rw [emm, emc, g_up_ne _ _ (show (3 : Nat) ≠ 2 by decide), g_up_at, g_up_ne _ _ (show (67 : Nat) ≠ 66 by decide), g_up_at, w3]
      · unfold f_X10_deposit
        rw [y0, ob_some, go_M (by simp only [y1, ob_sm, n4, n3, if_neg c1, if_pos cs2, i10, i01, i00, i11, if_true, if_false])]
        rw [a_ldI (by omega) (by omega) (by omega), ob_some, Int.toNat_natCast, thM_c _ _ (show (3 : Nat) ≠ 0 by decide), a_stI (by omega) (by omega) (by omega), ob_some, Int.toNat_natCast, thM_c _ _ (show (3 : Nat) ≠ 0 by decide), a_ldI (by omega) (by omega) (by omega), ob_some, Int.toNat_natCast, g_up_ne _ _ (show (2 : Nat) ≠ 3 by decide), thM_c _ _ (show (2 : Nat) ≠ 0 by decide), a_stI (by omega) (by omega) (by omega), ob_some, Int.toNat_natCast, g_up_ne _ _ (show (2 : Nat) ≠ 3 by decide), thM_c _ _ (show (2 : Nat) ≠ 0 by decide), a_ldI (by omega) (by omega) (by omega), ob_some, Int.toNat_natCast, g_up_at, updA, if_pos rfl, ← emm, w2]
      · rw [emm, g_up_ne _ _ (by decide), g_up_ne _ _ (by decide), thM_0]
  · have c1 : mc 68 v0 = 1 := (w68 v0 l0).resolve_left c0
    have hX : f_X9_deposit (iI (v0 : Nat)) p2 mc = some (.inl 3) := by
      unfold f_X9_deposit f_X9_checkState
      simp only [x0, x1, ox_r, ox_l, l68, ob_sm, if_neg c0, if_true]
    refine fin_thr (z := 3) hR (by decide) (by unfold f_Q_deposit; rw [hX]; rfl) ?_
    unfold f_X10_deposit
    rw [y0, ob_some]
    exact thr_M (z := 3) (by simp only [y1, ob_sm, n4, if_pos c1, i10, i01, i00, i11, if_true, if_false]) (by decide)
