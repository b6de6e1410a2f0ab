theorem sp_place (f z h : Nat) : f_X9_placeOf (iI (f : Nat)) (iI (z : Nat)) (iI (h : Nat)) = some (iI ((12 * f + 4 * z + h : Nat) : Int)) := by
  unfold f_X9_placeOf
  rw [sp_spot, ob_some, iL_3, iL_4, iI_mul, iI_mul, iI_add]
  congr 2
  omega
theorem sp_placeM (d f z h : Nat) : f_X10_placeOf (iI (d : Nat)) (iI (f : Nat)) (iI (z : Nat)) (iI (h : Nat)) = some (iI ((72 * d + (12 * f + 4 * z + h) : Nat) : Int)) := by
  unfold f_X10_placeOf
  rw [iL_72, iL_12, iL_4, iI_mul, iI_mul, iI_mul, iI_add, iI_add, iI_add]
  congr 2
  omega
def gpM (mm : gM) (i : Nat) : Int32 := if mm 44 i = 1 then mm 43 i - mm 42 i else 0
theorem sp_gapOfM {mm : gM} {j f z h : Nat} (hj : j < 10) (hf : f < 6) (hz : z < 3) (hh : h < 4) : f_X10_gapOf (iI (j : Nat)) (iI (f : Nat)) (iI (z : Nat)) (iI (h : Nat)) mm = some (gpM mm (72 * j + (12 * f + 4 * z + h))) := by
  unfold f_X10_gapOf gpM
  rw [sp_placeM, ob_some, a_ldI (by omega) (by omega) (by omega), a_ldI (by omega) (by omega) (by omega), a_ldI (by omega) (by omega) (by omega), Int.toNat_natCast, ob_some]
  by_cases c : mm 44 (72 * j + (12 * f + 4 * z + h)) = 1
  · rw [if_pos c, if_pos c, ob_some, ob_some, ob_some]
  · rw [if_neg c, if_neg c, ob_some]
theorem idx72 {j j2 i i2 : Nat} (h : i < 72) (h2 : i2 < 72) (e : j ≠ j2) : 72 * j + i ≠ 72 * j2 + i2 := by omega
theorem op_read : l_op_11 RelG := by
  intro mc mm p1 p2 p3 p4 p5 hR
  show opOK (f_Q_read p1 p2 p3 p4 p5 mc) (f_X10_read p1 p2 p3 p4 p5 mm)
  obtain ⟨d, st, l, n, M, nb, TO, GR, na, MA, no, MO, hA⟩ := id hR
  obtain ⟨a1, a2, a3, a4, a5, a6, a7, a8, a9, a10, a11, a12⟩ := id hA
  obtain ⟨hd9, hst1, hd1, hd2, hs1, hs2⟩ := id a1
  rcases chk_closed p1 hd1 hd2 (by omega) with ⟨v0, l0, e0, x0, y0⟩ | ⟨x0, y0⟩
  rotate_left
  · have hX : f_X9_read p1 p2 p3 p4 p5 mc = some (.inl 1) := by
      unfold f_X9_read
      simp only [x0, ox_r, ox_l]
    refine fin_thr (z := 1) hR (by decide) (by unfold f_Q_read; rw [hX]; rfl) ?_
    unfold f_X10_read
    rw [y0, ob_some]
    exact thr_M (z := 1) (by simp only [y0, ob_sm, i10, i01, i00, i11, if_true, if_false]) (by decide)
  rcases chk_firm p2 with ⟨v1, l1, e1, x1, y1⟩ | ⟨x1, y1⟩
  rotate_left
  · have hX : f_X9_read p1 p2 p3 p4 p5 mc = some (.inl 1) := by
      unfold f_X9_read
      simp only [x0, x1, ox_r, ox_l]
    refine fin_thr (z := 1) hR (by decide) (by unfold f_Q_read; rw [hX]; rfl) ?_
    unfold f_X10_read
    rw [y0, ob_some]
    exact thr_M (z := 1) (by simp only [y0, y1, ob_sm, i10, i01, i00, i11, if_true, if_false]) (by decide)
  rcases chk_zone p3 with ⟨v2, l2, e2, x2, y2⟩ | ⟨x2, y2⟩
  rotate_left
  · have hX : f_X9_read p1 p2 p3 p4 p5 mc = some (.inl 1) := by
      unfold f_X9_read
      simp only [x0, x1, x2, ox_r, ox_l]
    refine fin_thr (z := 1) hR (by decide) (by unfold f_Q_read; rw [hX]; rfl) ?_
    unfold f_X10_read
    rw [y0, ob_some]
    exact thr_M (z := 1) (by simp only [y0, y1, y2, ob_sm, i10, i01, i00, i11, if_true, if_false]) (by decide)
  rcases chk_hour p4 with ⟨v3, l3, e3, x3, y3⟩ | ⟨x3, y3⟩
  rotate_left
  · have hX : f_X9_read p1 p2 p3 p4 p5 mc = some (.inl 1) := by
      unfold f_X9_read
      simp only [x0, x1, x2, x3, ox_r, ox_l]
    refine fin_thr (z := 1) hR (by decide) (by unfold f_Q_read; rw [hX]; rfl) ?_
    unfold f_X10_read
    rw [y0, ob_some]
    exact thr_M (z := 1) (by simp only [y0, y1, y2, y3, ob_sm, i10, i01, i00, i11, if_true, if_false]) (by decide)
  rcases chk_rng p5 (lo := (-200)) (hi := 200) ((-200)) (200) rfl rfl (by omega) (by omega) with ⟨x4, y4, r4⟩ | ⟨x4, y4⟩
  rotate_left
  · have hX : f_X9_read p1 p2 p3 p4 p5 mc = some (.inl 2) := by
      unfold f_X9_read
      simp only [x0, x1, x2, x3, x4, ox_r, ox_l]
    refine fin_thr (z := 2) hR (by decide) (by unfold f_Q_read; rw [hX]; rfl) ?_
    unfold f_X10_read
    rw [y0, ob_some]
    exact thr_M (z := 2) (by simp only [y0, y1, y2, y3, y4, ob_sm, i10, i01, i00, i11, if_true, if_false]) (by decide)
  subst e0
  subst e1
  subst e2
  subst e3
  have hv10 : v0 < 10 := by omega
  have hi : 12 * v1 + 4 * v2 + v3 < 72 := by omega
  obtain ⟨g1, g2, g3, g4, g5, g6, g7⟩ := a9 v0 hv10
  generalize hI : 12 * v1 + 4 * v2 + v3 = i at *
  have hpl := sp_place v1 v2 v3
  have hpm := sp_placeM v0 v1 v2 v3
  rw [hI] at hpl hpm
  obtain ⟨mc2, emc⟩ : ∃ m, m = g_up mc (69 + 16 * v0 + 4) (upd (mc (69 + 16 * v0 + 4)) i (p5 - mc (69 + 16 * v0 + 3) i)) := ⟨_, rfl⟩
  obtain ⟨mm2, emm⟩ : ∃ m, m = g_up (g_up (thM mm 0) 43 (upd (mm 43) (72 * v0 + i) p5)) 44 (upd (mm 44) (72 * v0 + i) 1) := ⟨_, rfl⟩
  have hc : ∀ c, c ≠ 69 + 16 * v0 + 4 → mc2 c = mc c := fun c h1 => by rw [emc, g_up_ne _ _ h1]
  have hm : ∀ c, c ≠ 0 → c ≠ 43 → c ≠ 44 → mm2 c = mm c := fun c h0 h1 h2 => by rw [emm, g_up_ne _ _ h2, g_up_ne _ _ h1, thM_c _ _ h0]
  have h0 : ∀ k, k ≠ 67 → mm2 0 k = mm 0 k := fun k hk => by rw [emm, g_up_ne _ _ (by decide), g_up_ne _ _ (by decide), thM_k _ _ hk]
  have j43 : mm2 43 = upd (mm 43) (72 * v0 + i) p5 := by rw [emm, g_up_ne _ _ (by decide), g_up_at]
  have j44 : mm2 44 = upd (mm 44) (72 * v0 + i) 1 := by rw [emm, g_up_at]
  have k4 : mc2 (69 + 16 * v0 + 4) = upd (mc (69 + 16 * v0 + 4)) i (p5 - mc (69 + 16 * v0 + 3) i) := by rw [emc, g_up_at]
  have hX : f_X9_read (iI (v0 : Nat)) (iI (v1 : Nat)) (iI (v2 : Nat)) (iI (v3 : Nat)) p5 mc = some (.inr (p5 - mc (69 + 16 * v0 + 3) i, mc2)) := by
    unfold f_X9_read
    simp only [x0, x1, x2, x3, x4, ox_r, ox_l]
    rw [a_rfI (by omega) (by omega) (by omega), ob_some, Int.toNat_natCast, hpl, ob_some, a_ldI (by omega) (by omega) (by omega), ob_some, Int.toNat_natCast, a_stI (by omega) (by omega) (by omega), ob_some, Int.toNat_natCast, a_ldI (by omega) (by omega) (by omega), ob_some, Int.toNat_natCast, g_up_at, updA, if_pos rfl, ← emc]
  refine fin_ret (r := p5 - mc (69 + 16 * v0 + 3) i) (mc2 := mc2) (mm2 := mm2) ?_ (by unfold f_Q_read; rw [hX, os_r2, ob_some, ob_some, a_lst0, ob_some]) ?_ ?_
  · refine ⟨d, st, l, n, M, nb, TO, GR, na, MA, no, MO, rDay_fr a1 (by rw [hc 0 (by omega)]) (by rw [hc 0 (by omega)]) (h0 0 (by omega)) (h0 1 (by omega)), rAcc_fr a2 (fun c _ _ => hc c (by omega)) (fun c _ _ => hm c (by omega) (by omega) (by omega)) (h0 6 (by omega)), rLim_fr a3 (hc 3 (by omega)) (hm 1 (by omega) (by omega) (by omega)), rBid_fr a4 (fun c _ _ => hc c (by omega)) (h0 7 (by omega)) (fun c _ _ => hm c (by omega) (by omega) (by omega)), rBlk_fr a5 (fun c _ _ => hc c (by omega)) (h0 16 (by omega)) (h0 25 (by omega)) (fun c _ _ => hm c (by omega) (by omega) (by omega)), rAsk_fr a6 (fun c _ _ => hc c (by omega)) (h0 26 (by omega)) (fun c _ _ => hm c (by omega) (by omega) (by omega)), rOff_fr a7 (fun c _ _ => hc c (by omega)) (h0 33 (by omega)) (fun c _ _ => hm c (by omega) (by omega) (by omega)), rNet_fr a8 (hc _ (by omega)) (hc 3 (by omega)) (hm 48 (by omega) (by omega) (by omega)), fun j hj => ?_, rPB_fr a10 (fun j hj => hc _ (by omega)) (by omega), rAid_fr a11 (fun j hj c _ _ => hc c (by omega)) (fun c _ _ => hm c (by omega) (by omega) (by omega)), rScr_fr a12 (fun c _ _ => hc c (by omega)) (fun c _ _ => hm c (by omega) (by omega) (by omega))⟩
    by_cases hjv : j = v0
    · subst hjv
      refine ⟨fun k hk => by rw [hc _ (by omega), hm 41 (by decide) (by decide) (by decide)]; exact g1 k hk, ⟨fun k hk => by rw [hc _ (by omega), hm 42 (by decide) (by decide) (by decide)]; exact g2.1 k hk, fun k hk => by rw [hc _ (by omega), hm 45 (by decide) (by decide) (by decide)]; exact g2.2 k hk⟩, fun k hk => ?_, fun hh => absurd hh (by omega), fun k hk => by rw [hc _ (by omega), hm 46 (by decide) (by decide) (by decide)]; exact g5 k hk, by rw [hc _ (by omega), hm 47 (by decide) (by decide) (by decide)]; exact g6, fun k hk => ?_⟩
      · rw [k4, j44, j43, hm 42 (by decide) (by decide) (by decide), updA, updA, updA]
        by_cases w : k = i
        · rw [if_pos w, if_pos (show 72 * j + k = 72 * j + i by omega), if_pos rfl, if_pos (show 72 * j + k = 72 * j + i by omega), w, g2.1 i hi]
        · rw [if_neg w, if_neg (show ¬ 72 * j + k = 72 * j + i by omega), if_neg (show ¬ 72 * j + k = 72 * j + i by omega)]
          exact g3 k hk
      · rw [k4, updA]
        by_cases w : k = i
        · rw [if_pos w]
          have hp := a10.1 j hj i hi
          obtain ⟨a, ea, a1', a2'⟩ := rg_ex hp
          obtain ⟨b, eb, b1', b2'⟩ := rg_ex r4
          rw [ea, eb, iI_sub]
          exact rg_iI (by omega) (by omega) (by omega) (by omega)
        · rw [if_neg w]
          exact g7 k hk
    · obtain ⟨u1, u2, u3, u4, u5, u6, u7⟩ := a9 j hj
      refine ⟨fun k hk => by rw [hc _ (by omega), hm 41 (by decide) (by decide) (by decide)]; exact u1 k hk, ⟨fun k hk => by rw [hc _ (by omega), hm 42 (by decide) (by decide) (by decide)]; exact u2.1 k hk, fun k hk => by rw [hc _ (by omega), hm 45 (by decide) (by decide) (by decide)]; exact u2.2 k hk⟩, fun k hk => ?_, fun hh k hk => ?_, fun k hk => by rw [hc _ (by omega), hm 46 (by decide) (by decide) (by decide)]; exact u5 k hk, by rw [hc _ (by omega), hm 47 (by decide) (by decide) (by decide)]; exact u6, fun k hk => by rw [hc _ (by omega)]; exact u7 k hk⟩
      · rw [hc _ (by omega), j44, j43, hm 42 (by decide) (by decide) (by decide), updA, updA, if_neg (idx72 hk hi hjv), if_neg (idx72 hk hi hjv)]
        exact u3 k hk
      · rw [j44, updA, if_neg (idx72 hk hi hjv)]
        exact u4 hh k hk
  · unfold f_X10_read
    rw [y0, ob_some, go_M (by simp only [y1, y2, y3, y4, ob_sm, i10])]
    rw [hpm, ob_some, a_stI (by omega) (by omega) (by omega), ob_some, Int.toNat_natCast, thM_c _ _ (show (43 : Nat) ≠ 0 by decide), ob_some, a_stI (by omega) (by omega) (by omega), ob_some, Int.toNat_natCast, g_up_ne _ _ (show (44 : Nat) ≠ 43 by decide), thM_c _ _ (show (44 : Nat) ≠ 0 by decide), ← emm, sp_gapOfM hv10 l1 l2 l3, ob_some, hI]
    unfold gpM
    rw [j44, j43, hm 42 (by decide) (by decide) (by decide), updA, updA, if_pos rfl, if_pos rfl, if_pos rfl, g2.1 i hi]
  · rw [emm, g_up_ne _ _ (by decide), g_up_ne _ _ (by decide), thM_0]
theorem oln_aid : ∀ d, d < 10 → f_oln (69 + 16 * d + 7) = 30 := by decide +kernel
theorem idx30 {j j2 i i2 : Nat} (h : i < 30) (h2 : i2 < 30) (e : j ≠ j2) : 30 * j + i ≠ 30 * j2 + i2 := by omega
theorem op_aid : l_op_9 RelG := by
  intro mc mm p1 p2 p3 p4 p5 hz hR
  show opOK (f_Q_aid p1 p2 p3 p4 p5 mc) (f_X10_aid p1 p2 p3 p4 p5 mm)
  obtain ⟨d, st, l, n, M, nb, TO, GR, na, MA, no, MO, hA⟩ := id hR
  obtain ⟨a1, a2, a3, a4, a5, a6, a7, a8, a9, a10, a11, a12⟩ := id hA
  obtain ⟨hd9, hst1, hd1, hd2, hs1, hs2⟩ := id a1
  rcases chk_firm p1 with ⟨v0, l0, e0, x0, y0⟩ | ⟨x0, y0⟩
  rotate_left
  · have hX : f_X9_aid p1 p2 p3 p4 p5 mc = some (.inl 1) := by
      unfold f_X9_aid
      simp only [x0, ox_r, ox_l]
    refine fin_thr (z := 1) hR (by decide) (by unfold f_Q_aid; rw [hX]; rfl) ?_
    unfold f_X10_aid
    rw [y0, ob_some]
    exact thr_M (z := 1) (by simp only [y0, ob_sm, i10, i01, i00, i11, if_true, if_false]) (by decide)
  rcases chk_hour p2 with ⟨v1, l1, e1, x1, y1⟩ | ⟨x1, y1⟩
  rotate_left
  · have hX : f_X9_aid p1 p2 p3 p4 p5 mc = some (.inl 1) := by
      unfold f_X9_aid
      simp only [x0, x1, ox_r, ox_l]
    refine fin_thr (z := 1) hR (by decide) (by unfold f_Q_aid; rw [hX]; rfl) ?_
    unfold f_X10_aid
    rw [y0, ob_some]
    exact thr_M (z := 1) (by simp only [y0, y1, ob_sm, i10, i01, i00, i11, if_true, if_false]) (by decide)
  rcases chk_rng p4 (lo := 0) (hi := 300) (0) (300) rfl rfl (by omega) (by omega) with ⟨x2, y2, r2⟩ | ⟨x2, y2⟩
  rotate_left
  · have hX : f_X9_aid p1 p2 p3 p4 p5 mc = some (.inl 2) := by
      unfold f_X9_aid
      simp only [x0, x1, x2, ox_r, ox_l]
    refine fin_thr (z := 2) hR (by decide) (by unfold f_Q_aid; rw [hX]; rfl) ?_
    unfold f_X10_aid
    rw [y0, ob_some]
    exact thr_M (z := 2) (by simp only [y0, y1, y2, ob_sm, i10, i01, i00, i11, if_true, if_false]) (by decide)
  rcases chk_rng p5 (lo := 1) (hi := 10) (1) (10) rfl rfl (by omega) (by omega) with ⟨x3, y3, r3⟩ | ⟨x3, y3⟩
  rotate_left
  · have hX : f_X9_aid p1 p2 p3 p4 p5 mc = some (.inl 2) := by
      unfold f_X9_aid
      simp only [x0, x1, x2, x3, ox_r, ox_l]
    refine fin_thr (z := 2) hR (by decide) (by unfold f_Q_aid; rw [hX]; rfl) ?_
    unfold f_X10_aid
    rw [y0, ob_some]
    exact thr_M (z := 2) (by simp only [y0, y1, y2, y3, ob_sm, i10, i01, i00, i11, if_true, if_false]) (by decide)
  subst e0
  subst e1
  have hd : d < 10 := by omega
  obtain ⟨w2, w3, w4, w68, w6⟩ := id a2
  obtain ⟨ka, MD, u1, u2, u3, u4, u5⟩ := a11 d hd
  have hln := oln_aid d hd
  have l68 : a_ld 6 68 (iI (v0 : Nat)) mc = some (mc 68 v0) := by rw [a_ldI (by omega) (by omega) (by omega), Int.toNat_natCast]
  have n4 : a_ld 6 4 (iI (v0 : Nat)) mm = some (mc 68 v0) := by rw [a_ldI (by omega) (by omega) (by omega), Int.toNat_natCast, w4]
  have n34 : a_ld 10 34 (mm 0 0) mm = some (iI (ka : Nat)) := by rw [hd2, a_ldI (by omega) (by omega) (by omega), Int.toNat_natCast, u2]
  have hrf : a_rf 10 69 16 (mc 0 8) = some (69 + 16 * d) := by rw [hd1, a_rfI (by omega) (by omega) (by omega), Int.toNat_natCast]
  have hrm := sp_hasRoom (o := 69 + 16 * d + 7) u1 (by omega) (by rw [hln]; omega)
  rw [hln] at hrm
  have hthr : f_X9_aid (iI (v0 : Nat)) (iI (v1 : Nat)) p3 p4 p5 mc = some (.inl 3) → (if mc 68 v0 = 1 then some (3 : Int32) else if iI (ka : Nat) = 30 then some 3 else some 0) = some 3 → opOK (f_Q_aid (iI (v0 : Nat)) (iI (v1 : Nat)) p3 p4 p5 mc) (f_X10_aid (iI (v0 : Nat)) (iI (v1 : Nat)) p3 p4 p5 mm) := by
    intro hX hV
    refine fin_thr (z := 3) hR (by decide) (by unfold f_Q_aid; rw [hX]; rfl) ?_
    unfold f_X10_aid
    rw [y0, ob_some]
    exact thr_M (z := 3) (by simp only [y1, y2, y3, ob_sm, i10, n4, n34]; exact hV) (by decide)
  by_cases c0 : mc 68 v0 = 0
  · have c1 : ¬ mc 68 v0 = 1 := by rw [c0]; decide
    by_cases hn : ka < 30
    · have z7 : ¬ iI (ka : Nat) = 30 := by rw [iL_30, iI_eqP (by omega) (by omega) (by omega) (by omega)]; omega
      rw [if_pos hn] at hrm
      obtain ⟨z8, ez8, hz8, hzz⟩ : ∃ z8 : Int32, (∀ {α : Type} (G : Int32 → Option α), ob (if p3 = 0 then some 1 else some 0) G = G z8) ∧ (z8 = 0 ∨ z8 = 1) ∧ ((z8 = 0 ∧ p3 = 1) ∨ (z8 = 1 ∧ p3 = 0)) := by
        rcases hz with q | q
        · exact ⟨1, fun G => by rw [if_pos q, ob_some], Or.inr rfl, Or.inr ⟨rfl, q⟩⟩
        · exact ⟨0, fun G => by rw [if_neg (by rw [q]; decide), ob_some], Or.inl rfl, Or.inl ⟨rfl, q⟩⟩
      obtain ⟨rr, er, M2, g1, g2, g3, g4, g5, g6, g7, g8, g9, g10, g11⟩ := sp_add (o := 69 + 16 * d + 7) (p1 := iI (v0 : Nat)) (p2 := 0) (p3 := iI (v1 : Nat)) (p4 := z8) (p5 := p4) (p6 := p5) (B := 300) (M := MD) (m := mc) (by rw [hln]; omega) (show ka < f_oln (69 + 16 * d + 7) by rw [hln]; exact hn) (by omega) u1 (fun k hk => (u5 k hk).2.2.2.1) r2 hz8 u4
      obtain ⟨rv, mc2⟩ := rr
      have g1 : rv = iI (ka : Nat) := g1
      subst g1
      have hX : f_X9_aid (iI (v0 : Nat)) (iI (v1 : Nat)) p3 p4 p5 mc = some (.inr (iI (ka : Nat), mc2)) := by
        unfold f_X9_aid f_X9_checkState
        simp only [x0, x1, x2, x3, ox_r, ox_l, hrf, ob_sm, l68, if_pos c0, hrm, i10, ez8, er]
      have t0 : thM mm 0 0 0 = iI (d : Nat) := by rw [thM_k _ _ (by decide)]; exact hd2
      have hMM : ∃ mm2, f_X10_aid (iI (v0 : Nat)) (iI (v1 : Nat)) p3 p4 p5 mm = some (iI (ka : Nat), mm2) ∧ mm2 0 67 = 0 ∧ (∀ c, c ≠ 0 → (c < 34 ∨ 39 < c) → mm2 c = mm c) ∧ (∀ k, k ≠ 67 → mm2 0 k = mm 0 k) ∧ mm2 34 = upd (mm 34) d (iI ((ka + 1 : Nat) : Int)) ∧ mm2 35 = upd (mm 35) (30 * d + ka) (iI (v0 : Nat)) ∧ mm2 36 = upd (mm 36) (30 * d + ka) (iI (v1 : Nat)) ∧ mm2 37 = upd (mm 37) (30 * d + ka) p3 ∧ mm2 38 = upd (mm 38) (30 * d + ka) p4 ∧ mm2 39 = upd (mm 39) (30 * d + ka) p5 := by
        unfold f_X10_aid
        have ez : ∀ {α : Type} (G : Int32 → Option α), ob (if p3 = 0 then some 0 else some 1) G = G p3 := by
          intro α G
          rcases hz with q | q
          · rw [if_pos q, ob_some, q]
          · rw [if_neg (by rw [q]; decide), ob_some, q]
        have e30 : (30 : Int32) * iI (d : Nat) + iI (ka : Nat) = iI ((30 * d + ka : Nat) : Int) := by
          rw [iL_30, iI_mul, iI_add]
          rfl
        rw [y0, ob_some, go_M (by simp only [y1, y2, y3, ob_sm, i10, n4, n34, if_neg c1, if_neg z7])]
        rw [t0, a_ldI (by omega) (by omega) (by omega), ob_some, Int.toNat_natCast, thM_c _ _ (show (34 : Nat) ≠ 0 by decide), u2, e30]
        generalize hat : 30 * d + ka = at9 at *
        have hat3 : at9 < 300 := by omega
        simp (disch := omega) only [ob_sm, a_stI, ez, Int.toNat_natCast, g_up_ne, thM_c, t0]
        rw [a_ldI (by omega) (by omega) (by omega)]
        simp (disch := omega) only [ob_sm, Int.toNat_natCast, g_up_ne, thM_c, a_stI, u2, t0]
        rw [a_ldI (by omega) (by omega) (by omega)]
        simp (disch := omega) only [ob_sm, Int.toNat_natCast, g_up_at, updA, if_true]
        refine ⟨_, congrArg some (Prod.ext ?_ rfl), ?_, ?_, ?_, ?_, ?_, ?_, ?_, ?_, ?_⟩
        · show iI (ka : Nat) + 1 - 1 = iI (ka : Nat)
          rw [iL_1, iI_add, iI_sub]
          congr 1
          omega
        · simp (disch := omega) only [g_up_ne, thM_0]
        · intro c h0 h1
          simp (disch := omega) only [g_up_ne, thM_c]
        · intro k h1
          simp (disch := omega) only [g_up_ne, thM_k]
        · simp (disch := omega) only [g_up_at, iI_succ]
        · simp (disch := omega) only [g_up_at, g_up_ne]
        · simp (disch := omega) only [g_up_at, g_up_ne]
        · simp (disch := omega) only [g_up_at, g_up_ne]
        · simp (disch := omega) only [g_up_at, g_up_ne]
        · simp (disch := omega) only [g_up_at, g_up_ne]
      obtain ⟨mm2, q1, q2, hm, h0, q34, q35, q36, q37, q38, q39⟩ := hMM
      have hc : ∀ c, (c < 69 + 16 * d + 7 ∨ 69 + 16 * d + 7 + 8 < c) → mc2 c = mc c := g2
      refine fin_ret (r := iI (ka : Nat)) (mc2 := mc2) (mm2 := mm2) ?_ (by unfold f_Q_aid; rw [hX, os_r2, ob_some, ob_some, a_lst0, ob_some]) q1 q2
      refine ⟨d, st, l, n, M, nb, TO, GR, na, MA, no, MO, rDay_fr a1 (by rw [hc 0 (by omega)]) (by rw [hc 0 (by omega)]) (h0 0 (by omega)) (h0 1 (by omega)), rAcc_fr a2 (fun c _ _ => hc c (by omega)) (fun c _ _ => hm c (by omega) (by omega)) (h0 6 (by omega)), rLim_fr a3 (hc 3 (by omega)) (hm 1 (by omega) (by omega)), rBid_fr a4 (fun c _ _ => hc c (by omega)) (h0 7 (by omega)) (fun c _ _ => hm c (by omega) (by omega)), rBlk_fr a5 (fun c _ _ => hc c (by omega)) (h0 16 (by omega)) (h0 25 (by omega)) (fun c _ _ => hm c (by omega) (by omega)), rAsk_fr a6 (fun c _ _ => hc c (by omega)) (h0 26 (by omega)) (fun c _ _ => hm c (by omega) (by omega)), rOff_fr a7 (fun c _ _ => hc c (by omega)) (h0 33 (by omega)) (fun c _ _ => hm c (by omega) (by omega)), rNet_fr a8 (hc _ (by omega)) (hc 3 (by omega)) (hm 48 (by omega) (by omega)), fun j hj => rDy_fr (a9 j hj) (fun c _ _ _ => hc c (by omega)) (fun c _ _ => hm c (by omega) (by omega)), rPB_fr a10 (fun j hj => hc _ (by omega)) (by omega), fun j hj => ?_, rScr_fr a12 (fun c _ _ => hc c (by omega)) (fun c _ _ => hm c (by omega) (by omega))⟩
      by_cases hjd : j = d
      · subst hjd
        have g3 : mc2 (69 + 16 * j + 7) = upd (mc (69 + 16 * j + 7)) 8 (iI ((ka + 1 : Nat) : Int)) := g3
        have g4 : mc2 (69 + 16 * j + 7 + 1) = upd (mc (69 + 16 * j + 7 + 1)) ka (iI (v0 : Nat)) := g4
        have g6 : mc2 (69 + 16 * j + 7 + 3) = upd (mc (69 + 16 * j + 7 + 3)) ka (iI (v1 : Nat)) := g6
        have g7 : mc2 (69 + 16 * j + 7 + 4) = upd (mc (69 + 16 * j + 7 + 4)) ka z8 := g7
        have g8 : mc2 (69 + 16 * j + 7 + 5) = upd (mc (69 + 16 * j + 7 + 5)) ka p4 := g8
        have g9 : mc2 (69 + 16 * j + 7 + 6) = upd (mc (69 + 16 * j + 7 + 6)) ka p5 := g9
        refine ⟨ka + 1, M2, by rw [g3, updA, if_pos rfl], by rw [q34, updA, if_pos rfl], by omega, g11, fun k hk => ?_⟩
        rw [g4, g6, g7, g8, g9, q35, q36, q37, q38, q39, updA, updA, updA, updA, updA, updA, updA, updA, updA, updA]
        by_cases w : k = ka
        · have w2 : 30 * j + k = 30 * j + ka := by rw [w]
          rw [if_pos w, if_pos w2, if_pos w, if_pos w2, if_pos w, if_pos w2, if_pos w, if_pos w2, if_pos w, if_pos w2]
          exact ⟨⟨rfl, rfl, hzz, rfl, rfl⟩, rg_iI (by omega) (by omega) (by omega) (by omega), rg_iI (by omega) (by omega) (by omega) (by omega), r2, r3⟩
        · have w2 : ¬ 30 * j + k = 30 * j + ka := by omega
          rw [if_neg w, if_neg w2, if_neg w, if_neg w2, if_neg w, if_neg w2, if_neg w, if_neg w2, if_neg w, if_neg w2]
          exact u5 k (by omega)
      · obtain ⟨kb, MB, s1, s2, s3, s4, s5⟩ := a11 j hj
        refine ⟨kb, MB, by rw [hc _ (by omega)]; exact s1, by rw [q34, updA, if_neg hjd]; exact s2, s3, ?_, fun k hk => ?_⟩
        · refine Mer_congr s4 (fun k _ => ?_) (fun i _ => by rw [hc _ (by omega)])
          unfold keyO
          rw [hc _ (by omega), hc _ (by omega)]
        · have w2 : ¬ 30 * j + k = 30 * d + ka := idx30 (by omega) hn hjd
          rw [hc _ (by omega), hc _ (by omega), hc _ (by omega), hc _ (by omega), hc _ (by omega), q35, q36, q37, q38, q39, updA, updA, updA, updA, updA, if_neg w2, if_neg w2, if_neg w2, if_neg w2, if_neg w2]
          exact s5 k hk
    · have z7 : iI (ka : Nat) = 30 := by rw [iL_30]; congr 1; omega
      rw [if_neg hn] at hrm
      refine hthr ?_ (by rw [if_neg c1, if_pos z7])
      unfold f_X9_aid f_X9_checkState
      simp only [x0, x1, x2, x3, ox_r, ox_l, hrf, ob_sm, l68, if_pos c0, hrm, i00, if_true]
  · have c1 : mc 68 v0 = 1 := (w68 v0 l0).resolve_left c0
    refine hthr ?_ (by rw [if_pos c1])
    unfold f_X9_aid f_X9_checkState
    simp only [x0, x1, x2, x3, ox_r, ox_l, hrf, ob_sm, l68, if_neg c0, i00, if_true]
