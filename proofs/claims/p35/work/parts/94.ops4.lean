theorem fin_thrV {mc mm : gM} {fL : Option (Int32 × gM)} {fM : Option gM} {z : Int32} (hR : RelG mc mm) (h1 : fL = some (z, mc)) (h2 : fM = some (thM mm z)) : ∃ (k : Int32) (mc2 mm2 : gM), fL = some (k, mc2) ∧ fM = some mm2 ∧ f_X10_thrown mm2 = some k ∧ RelG mc2 mm2 := by
  refine ⟨z, mc, thM mm z, h1, h2, ?_, thM_R hR z⟩
  show some (thM mm z 0 67) = some z
  rw [thM_0]
theorem thr_MV {Z : Option Int32} {z : Int32} {me : gM} {Y : gM → Option gM} (hz : Z = some z) (h1 : z ≠ 0) : (ob Z fun (z3 : Int32) => ob (some (g_up me 0 (upd (me 0) 67 z3))) fun m9 => ob (if (m9 0 67) = 0 then Y m9 else some m9) fun (m11 : gM) => some m11) = some (thM me z) := by
  have h := thM_0 me z
  unfold thM at h
  rw [hz, ob_some, ob_some, h, if_neg h1, ob_some]
  rfl
theorem go_MV {Z : Option Int32} {me : gM} {Y : gM → Option gM} (hz : Z = some 0) : (ob Z fun (z3 : Int32) => ob (some (g_up me 0 (upd (me 0) 67 z3))) fun m9 => ob (if (m9 0 67) = 0 then Y m9 else some m9) fun (m11 : gM) => some m11) = ob (Y (thM me 0)) fun m11 => some m11 := by
  have h := thM_0 me 0
  unfold thM at h
  rw [hz, ob_some, ob_some, h, if_pos rfl]
  rfl
theorem op_link : l_op_4 RelG := by
  intro mc mm p1 p2 p3 hR
  obtain ⟨d, st, l, n, M, nb, TO, GR, na, MA, no, MO, hA⟩ := id hR
  obtain ⟨a1, a2, a3, a4, a5, a6, a7, a8, a9, a10, a11, a12⟩ := id hA
  obtain ⟨hd9, hst1, hd1, hd2, hs1, hs2⟩ := id a1
  have hst01 : st = 0 ∨ st = 1 := by omega
  obtain ⟨b1, b2, w13, w14, w15, w16, w17, w18, b9⟩ := id a5
  have hnb5 := b1.2.1.1
  rcases chk_cnt p1 b1.1 b2.1 (by omega) with ⟨v0, l0, e0, x0, y0⟩ | ⟨x0, y0⟩
  rotate_left
  · refine fin_thrV (z := 1) hR (by unfold f_Q_link; rw [show f_X9_link p1 p2 p3 mc = some (.inl 1) from by unfold f_X9_link; simp only [x0, ox_l]]; rfl) ?_
    unfold f_X10_link
    rw [y0, ob_some]
    exact thr_MV (by simp only [i00, if_true]) (by decide)
  rcases chk_rng p2 (lo := -1) (hi := p1 - 1) (-1) ((v0 : Nat) - 1) rfl (by rw [e0, iL_1, iI_sub]) (by omega) (by omega) with ⟨x1, y1, r1⟩ | ⟨x1, y1⟩
  rotate_left
  · refine fin_thrV (z := 2) hR (by unfold f_Q_link; rw [show f_X9_link p1 p2 p3 mc = some (.inl 2) from by unfold f_X9_link; simp only [x0, x1, ox_l, ox_r]]; rfl) ?_
    unfold f_X10_link
    rw [y0, ob_some]
    exact thr_MV (by simp only [y1, ob_sm, i10, i00, if_true]) (by decide)
  rcases chk_rng p3 (lo := -1) (hi := 2) (-1) 2 rfl rfl (by omega) (by omega) with ⟨x2, y2, r2⟩ | ⟨x2, y2⟩
  rotate_left
  · refine fin_thrV (z := 2) hR (by unfold f_Q_link; rw [show f_X9_link p1 p2 p3 mc = some (.inl 2) from by unfold f_X9_link; simp only [x0, x1, x2, ox_l, ox_r]]; rfl) ?_
    unfold f_X10_link
    rw [y0, ob_some]
    exact thr_MV (by simp only [y1, y2, ob_sm, i10, i00, if_true]) (by decide)
  subst e0
  rcases hst01 with s0 | s1
  · have z1 : mc 0 9 = 0 := by rw [hs1, s0]; rfl
    have z2 : ¬ mm 0 1 = 1 := by rw [hs2, s0]; decide
    obtain ⟨mc2, emc⟩ : ∃ m, m = g_up (g_up mc 20 (upd (mc 20) v0 p2)) 21 (upd (mc 21) v0 p3) := ⟨_, rfl⟩
    obtain ⟨mm2, emm⟩ : ∃ m, m = g_up (g_up (thM mm 0) 19 (upd (mm 19) v0 (p2 + 1))) 20 (upd (mm 20) v0 (p3 + 1)) := ⟨_, rfl⟩
    have hc : ∀ c, c ≠ 20 → c ≠ 21 → mc2 c = mc c := fun c h1 h2 => by rw [emc, g_up_ne _ _ h2, g_up_ne _ _ h1]
    have hm : ∀ c, c ≠ 0 → c ≠ 19 → c ≠ 20 → mm2 c = mm c := fun c h0 h1 h2 => by rw [emm, g_up_ne _ _ h2, g_up_ne _ _ h1, thM_c _ _ h0]
    have h0 : ∀ k, k ≠ 67 → mm2 0 k = mm 0 k := fun k hk => by rw [emm, g_up_ne _ _ (by decide), g_up_ne _ _ (by decide), thM_k _ _ hk]
    have hX : f_X9_link (iI (v0 : Nat)) p2 p3 mc = some (.inr mc2) := by
      unfold f_X9_link f_X9_checkState
      simp only [x0, x1, x2, ox_r, ox_l, ob_sm, if_pos z1, i10]
      rw [a_stI (by omega) (by omega) (by omega), ob_some, Int.toNat_natCast, a_stI (by omega) (by omega) (by omega), ob_some, Int.toNat_natCast, g_up_ne _ _ (show (21 : Nat) ≠ 20 by decide), ← emc]
    have hY : f_X10_link (iI (v0 : Nat)) p2 p3 mm = some mm2 := by
      unfold f_X10_link
      rw [y0, ob_some, go_MV (by simp only [y1, y2, ob_sm, if_neg z2, i10])]
      rw [a_stI (by omega) (by omega) (by omega), ob_some, Int.toNat_natCast, thM_c _ _ (show (19 : Nat) ≠ 0 by decide), a_stI (by omega) (by omega) (by omega), ob_some, ob_some, Int.toNat_natCast, g_up_ne _ _ (show (20 : Nat) ≠ 19 by decide), thM_c _ _ (show (20 : Nat) ≠ 0 by decide), ← emm]
    refine ⟨0, mc2, mm2, by unfold f_Q_link; rw [hX, os_r2, ob_some], hY, ?_, ?_⟩
    · show some (mm2 0 67) = some 0
      rw [emm, g_up_ne _ _ (by decide), g_up_ne _ _ (by decide), thM_0]
    · have hTO : ∀ k, k < nb → -1 ≤ (if k = v0 then p2.toInt else TO k) ∧ (if k = v0 then p2.toInt else TO k) < k ∧ -1 ≤ (if k = v0 then p3.toInt else GR k) ∧ (if k = v0 then p3.toInt else GR k) ≤ 2 := by
        intro k hk
        unfold rg at r1 r2
        by_cases w : k = v0
        · rw [if_pos w, if_pos w]; omega
        · rw [if_neg w, if_neg w]
          obtain ⟨_, u1, u2, u3, u4, _⟩ := b1.2.2 k (by omega)
          exact ⟨u1, u2, u3, u4⟩
      have k20 : mc2 20 = upd (mc 20) v0 p2 := by rw [emc, g_up_ne _ _ (by decide), g_up_at]
      have k21 : mc2 21 = upd (mc 21) v0 p3 := by rw [emc, g_up_at]
      have j19 : mm2 19 = upd (mm 19) v0 (p2 + 1) := by rw [emm, g_up_ne _ _ (by decide), g_up_at]
      have j20 : mm2 20 = upd (mm 20) v0 (p3 + 1) := by rw [emm, g_up_at]
      have hp : ∀ x : Int32, x + 1 = iI (x.toInt + 1) := fun x => by
        have e := iI_of x
        calc x + 1 = iI x.toInt + iI 1 := by rw [e, iL_1]
          _ = _ := iI_add _ _
      refine ⟨d, st, l, n, M, nb, (fun k => if k = v0 then p2.toInt else TO k), (fun k => if k = v0 then p3.toInt else GR k), na, MA, no, MO, rDay_fr a1 (by rw [hc 0 (by omega) (by omega)]) (by rw [hc 0 (by omega) (by omega)]) (h0 0 (by omega)) (h0 1 (by omega)), rAcc_fr a2 (fun c _ _ => hc c (by omega) (by omega)) (fun c _ _ => hm c (by omega) (by omega) (by omega)) (h0 6 (by omega)), rLim_fr a3 (hc 3 (by omega) (by omega)) (hm 1 (by omega) (by omega) (by omega)), rBid_fr a4 (fun c _ _ => hc c (by omega) (by omega)) (h0 7 (by omega)) (fun c _ _ => hm c (by omega) (by omega) (by omega)), ⟨⟨?_, ?_, fun k hk => ?_⟩, ⟨?_, ?_, fun k hk => ?_⟩, ?_⟩, rAsk_fr a6 (fun c _ _ => hc c (by omega) (by omega)) (h0 26 (by omega)) (fun c _ _ => hm c (by omega) (by omega) (by omega)), rOff_fr a7 (fun c _ _ => hc c (by omega) (by omega)) (h0 33 (by omega)) (fun c _ _ => hm c (by omega) (by omega) (by omega)), fun h9 => absurd h9 (by omega), fun j hj => rDy_fr (a9 j hj) (fun c _ _ _ => hc c (by omega) (by omega)) (fun c _ _ => hm c (by omega) (by omega) (by omega)), rPB_fr a10 (fun j hj => hc _ (by omega) (by omega)) (by omega), rAid_fr a11 (fun j hj c _ _ => hc c (by omega) (by omega)) (fun c _ _ => hm c (by omega) (by omega) (by omega)), rScr_fr a12 (fun c _ _ => hc c (by omega) (by omega)) (fun c _ _ => hm c (by omega) (by omega) (by omega))⟩
      · rw [hc 13 (by decide) (by decide)]; exact b1.1
      · rw [hc 15 (by decide) (by decide), hc 16 (by decide) (by decide), hc 17 (by decide) (by decide), hc 18 (by decide) (by decide), hc 19 (by decide) (by decide)]; exact b1.2.1
      · obtain ⟨u0, _, _, _, _, u5, u6⟩ := b1.2.2 k hk
        refine ⟨by rw [hc 14 (by decide) (by decide)]; exact u0, (hTO k hk).1, (hTO k hk).2.1, (hTO k hk).2.2.1, (hTO k hk).2.2.2, ?_, ?_⟩
        · rw [k20, updA]
          show _ = iI (if k = v0 then p2.toInt else TO k)
          by_cases w : k = v0
          · rw [if_pos w, if_pos w, iI_of]
          · rw [if_neg w, if_neg w]; exact u5
        · rw [k21, updA]
          show _ = iI (if k = v0 then p3.toInt else GR k)
          by_cases w : k = v0
          · rw [if_pos w, if_pos w, iI_of]
          · rw [if_neg w, if_neg w]; exact u6
      · rw [h0 16 (by decide)]; exact b2.1
      · rw [hm 14 (by decide) (by decide) (by decide), hm 15 (by decide) (by decide) (by decide), hm 16 (by decide) (by decide) (by decide), hm 17 (by decide) (by decide) (by decide), hm 18 (by decide) (by decide) (by decide)]; exact b2.2.1
      · obtain ⟨u0, _, _, _, _, u5, u6⟩ := b2.2.2 k hk
        refine ⟨by rw [hm 13 (by decide) (by decide) (by decide)]; exact u0, (hTO k hk).1, (hTO k hk).2.1, (hTO k hk).2.2.1, (hTO k hk).2.2.2, ?_, ?_⟩
        · rw [j19, updA]
          show _ = iI ((if k = v0 then p2.toInt else TO k) + 1)
          by_cases w : k = v0
          · rw [if_pos w, if_pos w, hp]
          · rw [if_neg w, if_neg w]; exact u5
        · rw [j20, updA]
          show _ = iI ((if k = v0 then p3.toInt else GR k) + 1)
          by_cases w : k = v0
          · rw [if_pos w, if_pos w, hp]
          · rw [if_neg w, if_neg w]; exact u6
      · rw [hm 13 (by decide) (by decide) (by decide), hm 14 (by decide) (by decide) (by decide), hm 15 (by decide) (by decide) (by decide), hm 16 (by decide) (by decide) (by decide), hm 17 (by decide) (by decide) (by decide), hm 18 (by decide) (by decide) (by decide), hc 14 (by decide) (by decide), hc 15 (by decide) (by decide), hc 16 (by decide) (by decide), hc 17 (by decide) (by decide), hc 18 (by decide) (by decide), hc 19 (by decide) (by decide)]
        exact ⟨w13, w14, w15, w16, w17, w18, fun h9 => absurd h9 (by omega)⟩
  · have z1 : ¬ mc 0 9 = 0 := by rw [hs1, s1]; decide
    have z2 : mm 0 1 = 1 := by rw [hs2, s1]; rfl
    have hX : f_X9_link (iI (v0 : Nat)) p2 p3 mc = some (.inl 3) := by
      unfold f_X9_link f_X9_checkState
      simp only [x0, x1, x2, ox_r, ox_l, ob_sm, if_neg z1, i00, if_true]
    refine fin_thrV (z := 3) hR (by unfold f_Q_link; rw [hX]; rfl) ?_
    unfold f_X10_link
    rw [y0, ob_some]
    exact thr_MV (by simp only [y1, y2, ob_sm, if_pos z2, i10]) (by decide)
theorem op_takeBack : l_op_8 RelG := by
  intro mc mm p1 hR
  show opOK (f_Q_takeBack p1 mc) (f_X10_takeBack p1 mm)
  obtain ⟨d, st, l, n, M, nb, TO, GR, na, MA, no, MO, hA⟩ := id hR
  obtain ⟨a1, a2, a3, a4, a5, a6, a7, a8, a9, a10, a11, a12⟩ := id hA
  obtain ⟨hd9, hst1, hd1, hd2, hs1, hs2⟩ := id a1
  obtain ⟨b1, b2, b3, ⟨w27, w28, w29, w30, w31, w32⟩, b5, b6, b7⟩ := id a7
  rcases chk_cnt p1 b1 b2 (by omega) with ⟨v0, l0, e0, x0, y0⟩ | ⟨x0, y0⟩
  rotate_left
  · have hX : f_X9_takeBack p1 mc = some (.inl 1) := by
      unfold f_X9_takeBack
      simp only [x0, ox_r, ox_l]
    refine fin_thr (z := 1) hR (by decide) (by unfold f_Q_takeBack; rw [hX]; rfl) ?_
    unfold f_X10_takeBack
    rw [y0, ob_some]
    exact thr_M (z := 1) (by simp only [y0, ob_sm, i10, i01, i00, i11, if_true, if_false]) (by decide)
  subst e0
  have hr := (b6 v0 l0).2.2.2.2.2
  have l62 : a_ld 60 62 (iI (v0 : Nat)) mc = some (mc 62 v0) := by rw [a_ldI (by omega) (by omega) (by omega), Int.toNat_natCast]
  have n32 : a_ld 60 32 (iI (v0 : Nat)) mm = some (mc 62 v0) := by rw [a_ldI (by omega) (by omega) (by omega), Int.toNat_natCast, w32]
  by_cases c0 : mc 62 v0 ≤ 0
  · have c1 : mc 62 v0 = 0 := by
      rw [le0'] at c0
      have h1 := hr.1
      rw [← iI_of (mc 62 v0), show (mc 62 v0).toInt = 0 by omega]
      rfl
    have hX : f_X9_takeBack (iI (v0 : Nat)) mc = some (.inl 3) := by
      unfold f_X9_takeBack f_X9_checkState
      simp only [x0, ox_r, ox_l, l62, ob_sm, if_pos c0, i00, if_true]
    refine fin_thr (z := 2) hR (by decide) (by unfold f_Q_takeBack; rw [hX]; rfl) ?_
    unfold f_X10_takeBack
    rw [y0, ob_some]
    exact thr_M (z := 2) (by simp only [ob_sm, n32, if_pos c1, i10]) (by decide)
  · have c1 : ¬ mc 62 v0 = 0 := fun h => c0 (by rw [h]; decide)
    obtain ⟨mc2, emc⟩ : ∃ m, m = g_up mc 62 (upd (mc 62) v0 0) := ⟨_, rfl⟩
    obtain ⟨mm2, emm⟩ : ∃ m, m = g_up (thM mm 0) 32 (upd (mm 32) v0 0) := ⟨_, rfl⟩
    have hc : ∀ c, c ≠ 62 → mc2 c = mc c := fun c h1 => by rw [emc, g_up_ne _ _ h1]
    have hm : ∀ c, c ≠ 0 → c ≠ 32 → mm2 c = mm c := fun c h0 h1 => by rw [emm, g_up_ne _ _ h1, thM_c _ _ h0]
    have h0 : ∀ k, k ≠ 67 → mm2 0 k = mm 0 k := fun k hk => by rw [emm, g_up_ne _ _ (by decide), thM_k _ _ hk]
    have hX : f_X9_takeBack (iI (v0 : Nat)) mc = some (.inr (mc 62 v0, mc2)) := by
      unfold f_X9_takeBack f_X9_checkState
      simp only [x0, ox_r, ox_l, l62, ob_sm, if_neg c0, i10]
      rw [a_stI (by omega) (by omega) (by omega), ob_some, Int.toNat_natCast, ← emc]
    refine fin_ret (r := mc 62 v0) (mc2 := mc2) (mm2 := mm2) ?_ (by unfold f_Q_takeBack; rw [hX, os_r2, ob_some, ob_some, a_lst0, ob_some]) ?_ ?_
    · refine ⟨d, st, l, n, M, nb, TO, GR, na, MA, no, MO, rDay_fr a1 (by rw [hc 0 (by omega)]) (by rw [hc 0 (by omega)]) (h0 0 (by omega)) (h0 1 (by omega)), rAcc_fr a2 (fun c _ _ => hc c (by omega)) (fun c _ _ => hm c (by omega) (by omega)) (h0 6 (by omega)), rLim_fr a3 (hc 3 (by omega)) (hm 1 (by omega) (by omega)), rBid_fr a4 (fun c _ _ => hc c (by omega)) (h0 7 (by omega)) (fun c _ _ => hm c (by omega) (by omega)), rBlk_fr a5 (fun c _ _ => hc c (by omega)) (h0 16 (by omega)) (h0 25 (by omega)) (fun c _ _ => hm c (by omega) (by omega)), rAsk_fr a6 (fun c _ _ => hc c (by omega)) (h0 26 (by omega)) (fun c _ _ => hm c (by omega) (by omega)), ⟨?_, ?_, b3, ?_, ?_, ?_, b7⟩, rNet_fr a8 (hc _ (by omega)) (hc 3 (by omega)) (hm 48 (by omega) (by omega)), fun j hj => rDy_fr (a9 j hj) (fun c _ _ _ => hc c (by omega)) (fun c _ _ => hm c (by omega) (by omega)), rPB_fr a10 (fun j hj => hc _ (by omega)) (by omega), rAid_fr a11 (fun j hj c _ _ => hc c (by omega)) (fun c _ _ => hm c (by omega) (by omega)), rScr_fr a12 (fun c _ _ => hc c (by omega)) (fun c _ _ => hm c (by omega) (by omega))⟩
      · rw [hc 55 (by decide)]; exact b1
      · rw [h0 33 (by decide)]; exact b2
      · rw [hm 27 (by decide) (by decide), hm 28 (by decide) (by decide), hm 29 (by decide) (by decide), hm 30 (by decide) (by decide), hm 31 (by decide) (by decide), hc 56 (by decide), hc 57 (by decide), hc 58 (by decide), hc 59 (by decide), hc 60 (by decide)]
        exact ⟨w27, w28, w29, w30, w31, by rw [emm, emc, g_up_at, g_up_at, w32]⟩
      · refine Mer_congr b5 (fun k _ => ?_) (fun i _ => by rw [hc 63 (by decide)])
        unfold keyO
        rw [hc (55 + 4) (by decide), hc (55 + 5) (by decide)]
      · intro k hk
        obtain ⟨u1, u2, u3, u4, u5, u6⟩ := b6 k hk
        rw [hc 56 (by decide), hc 57 (by decide), hc 58 (by decide), hc 59 (by decide), hc 60 (by decide), emc, g_up_at, updA]
        refine ⟨u1, u2, u3, u4, u5, ?_⟩
        by_cases w : k = v0
        · rw [if_pos w]
          exact rg_iI (v := 0) (by omega) (by omega) (by omega) (by omega)
        · rw [if_neg w]; exact u6
    · unfold f_X10_takeBack
      rw [y0, ob_some, go_M (by simp only [ob_sm, n32, if_neg c1, i10])]
      rw [a_ldI (by omega) (by omega) (by omega), ob_some, Int.toNat_natCast, thM_c _ _ (show (32 : Nat) ≠ 0 by decide), a_stI (by omega) (by omega) (by omega), ob_some, Int.toNat_natCast, thM_c _ _ (show (32 : Nat) ≠ 0 by decide), ← emm, w32]
    · rw [emm, g_up_ne _ _ (by decide), thM_0]
theorem op_close : l_op_10 RelG := by
  intro mc mm hR
  show opOK (f_Q_close mc) (f_X10_close mm)
  obtain ⟨d, st, l, n, M, nb, TO, GR, na, MA, no, MO, hA⟩ := id hR
  obtain ⟨a1, a2, a3, a4, a5, a6, a7, a8, a9, a10, a11, a12⟩ := id hA
  obtain ⟨hd9, hst1, hd1, hd2, hs1, hs2⟩ := id a1
  have hst01 : st = 0 ∨ st = 1 := by omega
  have hthr : f_X9_close mc = some (.inl 3) → (if mm 0 1 = 0 then some (1 : Int32) else if mm 0 0 = 9 then some 1 else some 0) = some 1 → opOK (f_Q_close mc) (f_X10_close mm) := by
    intro hX hV
    refine fin_thr (z := 1) hR (by decide) (by unfold f_Q_close; rw [hX]; rfl) ?_
    unfold f_X10_close
    exact thr_M (z := 1) hV (by decide)
  rcases hst01 with s0 | s1
  · have z1 : ¬ mc 0 9 = 1 := by rw [hs1, s0]; decide
    have z2 : mm 0 1 = 0 := by rw [hs2, s0]; rfl
    refine hthr ?_ (by rw [if_pos z2])
    unfold f_X9_close f_X9_checkState
    simp only [ox_r, ox_l, ob_sm, if_neg z1, i00, if_true]
  · have z1 : mc 0 9 = 1 := by rw [hs1, s1]; rfl
    have z2 : ¬ mm 0 1 = 0 := by rw [hs2, s1]; decide
    by_cases c9 : d = 9
    · have z3 : 9 ≤ mc 0 8 := by rw [hd1, iL_9, iI_leP (by omega) (by omega) (by omega) (by omega)]; omega
      have z4 : mm 0 0 = 9 := by rw [hd2, c9]; rfl
      refine hthr ?_ (by rw [if_neg z2, if_pos z4])
      unfold f_X9_close f_X9_checkState
      simp only [ox_r, ox_l, ob_sm, if_pos z1, if_pos z3, i00, if_true]
    · have hdx : d + 1 ≤ 9 ∧ d < d + 1 ∧ d + 1 < 10 ∧ (0 : Nat) ≤ 1 := by omega
      have z3 : ¬ 9 ≤ mc 0 8 := by rw [hd1, iL_9, iI_leP (by omega) (by omega) (by omega) (by omega)]; omega
      have z4 : ¬ mm 0 0 = 9 := by rw [hd2, iL_9, iI_eqP (by omega) (by omega) (by omega) (by omega)]; omega
      have hCC : ∃ mc2, f_X9_close mc = some (.inr (iI ((d + 1 : Nat) : Int), mc2)) ∧ (∀ c, c ≠ 0 → c ≠ 4 → c ≠ 13 → c ≠ 45 → c ≠ 55 → mc2 c = mc c) ∧ mc2 0 8 = iI ((d + 1 : Nat) : Int) ∧ mc2 0 9 = 0 ∧ mc2 4 8 = 0 ∧ mc2 13 8 = 0 ∧ mc2 45 8 = 0 ∧ mc2 55 8 = 0 := by
        unfold f_X9_close f_X9_checkState
        simp only [ox_r, ox_l, ob_sm, if_pos z1, if_neg z3, i10]
        refine ⟨_, congrArg some (congrArg Sum.inr (Prod.ext ?_ rfl)), ?_, ?_, ?_, ?_, ?_, ?_, ?_⟩
        · simp (disch := omega) only [g_up_at, g_up_ne, updA, hd1, if_true, if_neg, iI_succ]
        · intro c h1 h2 h3 h4 h5
          simp (disch := omega) only [g_up_ne]
        · simp (disch := omega) only [g_up_at, g_up_ne, updA, hd1, if_true, if_neg, iI_succ]
        · simp (disch := omega) only [g_up_at, g_up_ne, updA, if_true, if_neg]
        · simp (disch := omega) only [g_up_at, g_up_ne, updA, if_true, if_neg]
        · simp (disch := omega) only [g_up_at, g_up_ne, updA, if_true, if_neg]
        · simp (disch := omega) only [g_up_at, g_up_ne, updA, if_true, if_neg]
        · simp (disch := omega) only [g_up_at, g_up_ne, updA, if_true, if_neg]
      have t0 : thM mm 0 0 0 = iI (d : Nat) := by rw [thM_k _ _ (by decide)]; exact hd2
      have hMM : ∃ mm2, f_X10_close mm = some (iI ((d + 1 : Nat) : Int), mm2) ∧ mm2 0 67 = 0 ∧ (∀ c, c ≠ 0 → mm2 c = mm c) ∧ (∀ k, k ≠ 0 → k ≠ 1 → k ≠ 7 → k ≠ 16 → k ≠ 26 → k ≠ 33 → k ≠ 67 → mm2 0 k = mm 0 k) ∧ mm2 0 0 = iI ((d + 1 : Nat) : Int) ∧ mm2 0 1 = 0 ∧ mm2 0 7 = 0 ∧ mm2 0 16 = 0 ∧ mm2 0 26 = 0 ∧ mm2 0 33 = 0 := by
        unfold f_X10_close
        rw [go_M (by rw [if_neg z2, if_neg z4])]
        simp only [ob_sm]
        refine ⟨_, congrArg some (Prod.ext ?_ rfl), ?_, ?_, ?_, ?_, ?_, ?_, ?_, ?_, ?_⟩
        · simp (disch := omega) only [g_up_at, updA, t0, if_true, if_neg, iI_succ]
        · simp (disch := omega) only [g_up_at, updA, if_neg, thM_0]
        · intro c h0
          simp (disch := omega) only [g_up_ne, thM_c]
        · intro k h1 h2 h3 h4 h5 h6 h7
          simp (disch := omega) only [g_up_at, updA, if_neg, thM_k]
        · simp (disch := omega) only [g_up_at, updA, t0, if_true, if_neg, iI_succ]
        · simp (disch := omega) only [g_up_at, updA, if_true, if_neg]
        · simp (disch := omega) only [g_up_at, updA, if_true, if_neg]
        · simp (disch := omega) only [g_up_at, updA, if_true, if_neg]
        · simp (disch := omega) only [g_up_at, updA, if_true, if_neg]
        · simp (disch := omega) only [g_up_at, updA, if_true, if_neg]
      obtain ⟨mc2, hX, hc, k1, k2, k3, k4, k5, k6⟩ := hCC
      obtain ⟨mm2, q1, q2, hm, h0, j1, j2, j3, j4, j5, j6⟩ := hMM
      refine fin_ret (r := iI ((d + 1 : Nat) : Int)) (mc2 := mc2) (mm2 := mm2) ?_ (by unfold f_Q_close; rw [hX, os_r2, ob_some, ob_some, a_lst0, ob_some]) q1 q2
      obtain ⟨b1, b2, w13, w14, w15, w16, w17, w18, b9⟩ := id a5
      obtain ⟨c1, ⟨c2, w21, w22, w23, w24, w25⟩, c3, c4⟩ := id a6
      obtain ⟨o1, o2, o3, ⟨w27, w28, w29, w30, w31, w32⟩, o5, o6, o7⟩ := id a7
      refine ⟨d + 1, 0, l, 0, [], 0, TO, GR, 0, [], 0, [], ⟨hdx.1, hdx.2.2.2, k1, j1, k2, j2⟩, rAcc_fr a2 (fun c _ _ => hc c (by omega) (by omega) (by omega) (by omega) (by omega)) (fun c _ _ => hm c (by omega)) (h0 6 (by omega) (by omega) (by omega) (by omega) (by omega) (by omega) (by omega)), rLim_fr a3 (hc 3 (by omega) (by omega) (by omega) (by omega) (by omega)) (hm 1 (by omega)), ⟨⟨by omega, k3, Mer_0 _ _, fun k hk => absurd hk (by omega)⟩, j3, fun c h1 h2 => by rw [hm c (by omega), hc c (by omega) (by omega) (by omega) (by omega) (by omega)]; exact a4.2.2.1 c h1 h2, fun h9 => absurd h9 (by omega)⟩, ⟨⟨k4, ⟨by omega, fun k hk => absurd hk (by omega)⟩, fun k hk => absurd hk (by omega)⟩, ⟨j4, ⟨by omega, fun k hk => absurd hk (by omega)⟩, fun k hk => absurd hk (by omega)⟩, ?_⟩, ⟨⟨k5, by omega, Mer_0 _ _, fun k hk => absurd hk (by omega)⟩, ⟨j5, ?_⟩, fun _ k hk => absurd hk (by omega), fun h9 => absurd h9 (by omega)⟩, ⟨k6, j6, by omega, ?_, Mer_0 _ _, fun k hk => absurd hk (by omega), fun _ => rfl⟩, fun h9 => absurd h9 (by omega), fun j hj => ?_, ⟨?_, fun h9 => absurd h9 (by omega), fun _ => ?_, fun j x1 x2 => ?_⟩, rAid_fr a11 (fun j hj c _ _ => hc c (by omega) (by omega) (by omega) (by omega) (by omega)) (fun c _ _ => hm c (by omega)), rScr_fr a12 (fun c _ _ => hc c (by omega) (by omega) (by omega) (by omega) (by omega)) (fun c _ _ => hm c (by omega))⟩
      · rw [hm 13 (by decide), hm 14 (by decide), hm 15 (by decide), hm 16 (by decide), hm 17 (by decide), hm 18 (by decide), hc 14 (by decide) (by decide) (by decide) (by decide) (by decide), hc 15 (by decide) (by decide) (by decide) (by decide) (by decide), hc 16 (by decide) (by decide) (by decide) (by decide) (by decide), hc 17 (by decide) (by decide) (by decide) (by decide) (by decide), hc 18 (by decide) (by decide) (by decide) (by decide) (by decide), hc 19 (by decide) (by decide) (by decide) (by decide) (by decide)]
        exact ⟨w13, w14, w15, w16, w17, w18, fun h9 => absurd h9 (by omega)⟩
      · rw [hm 21 (by decide), hm 22 (by decide), hm 23 (by decide), hm 24 (by decide), hm 25 (by decide), hc 46 (by decide) (by decide) (by decide) (by decide) (by decide), hc 47 (by decide) (by decide) (by decide) (by decide) (by decide), hc 54 (by decide) (by decide) (by decide) (by decide) (by decide), hc 51 (by decide) (by decide) (by decide) (by decide) (by decide), hc 50 (by decide) (by decide) (by decide) (by decide) (by decide)]
        exact ⟨w21, w22, w23, w24, w25⟩
      · rw [hm 27 (by decide), hm 28 (by decide), hm 29 (by decide), hm 30 (by decide), hm 31 (by decide), hm 32 (by decide), hc 56 (by decide) (by decide) (by decide) (by decide) (by decide), hc 57 (by decide) (by decide) (by decide) (by decide) (by decide), hc 58 (by decide) (by decide) (by decide) (by decide) (by decide), hc 59 (by decide) (by decide) (by decide) (by decide) (by decide), hc 60 (by decide) (by decide) (by decide) (by decide) (by decide), hc 62 (by decide) (by decide) (by decide) (by decide) (by decide)]
        exact ⟨w27, w28, w29, w30, w31, w32⟩
      · have h9 := rDy_fr (a9 j hj) (mc2 := mc2) (mm2 := mm2) (fun c _ _ _ => hc c (by omega) (by omega) (by omega) (by omega) (by omega)) (fun c _ _ => hm c (by omega))
        exact ⟨h9.1, h9.2.1, h9.2.2.1, fun hh => h9.2.2.2.1 (by omega), h9.2.2.2.2⟩
      · intro j hj i hi
        rw [hc _ (by omega) (by omega) (by omega) (by omega) (by omega)]
        exact a10.1 j hj i hi
      · intro i hi
        rw [hc _ (by omega) (by omega) (by omega) (by omega) (by omega)]
        exact a10.2.2.2 (d + 1) hdx.2.1 hdx.2.2.1 i hi
      · intro i hi
        rw [hc _ (by omega) (by omega) (by omega) (by omega) (by omega)]
        exact a10.2.2.2 j (by omega) (by omega) i hi
