theorem sp_zeroL {m : gM} : T (f_X10_offer_L186 f_fuel 0 m) (fun t => ∃ row, t.2 = g_up m 33 row ∧ ∀ k, k < 60 → row k = 0) := by
  refine T_run2 (f_X10_offer_L186) (fun k x m2 => x = iI (k : Nat) ∧ ∃ row, m2 = g_up m 33 row ∧ ∀ i, i < k → row i = 0) _ 60 0 _ _ ⟨rfl, m 33, by rw [g_upE _ _ _ rfl], fun i hi => absurd hi (by omega)⟩ (Nat.zero_le _) (by omega) ?_
  intro k x m2 f hI hk hcont
  obtain ⟨e, row, e2, h1⟩ := hI
  subst e
  subst e2
  unfold f_X10_offer_L186
  have h6 : (60 ≤ iI (k : Nat)) = ((60 : Int) ≤ (k : Nat)) := by rw [iL_60, iI_leP (by omega) (by omega) (by omega) (by omega)]
  by_cases c : (60 : Int) ≤ k
  · rw [if_pos (by rw [h6]; exact c)]
    have e : k = 60 := by omega
    subst e
    exact T_some ⟨row, rfl, h1⟩
  · rw [if_neg (by rw [h6]; exact c), a_stI (by omega) (by omega) (by omega), ob_some, Int.toNat_natCast, g_up_at, g_up2]
    refine hcont (by omega) _ _ ⟨iI_succ k, _, rfl, ?_⟩
    intro i hi
    rw [updA]
    by_cases q : i = k
    · rw [if_pos q]
    · rw [if_neg q]; exact h1 i (by omega)
theorem alw_aFl {a b c : Int32} {m : gM} (h : f_X6_allows a b c m = some 1) : aFl (m 3 0) (m 3 1) (m 3 2) a b c := by
  by_cases q : aFl (m 3 0) (m 3 1) (m 3 2) a b c
  · exact q
  · have h2 := (sp_alwG (a := a) (b := b) (c := c) (m := m)).2 q
    rw [h] at h2
    exact absurd (Option.some.inj h2) (by decide)
theorem op_offer : l_op_7 RelG := by
  intro mc mm p1 p2 p3 p4 p5 p6 hz hR
  show opOK (f_Q_offer p1 p2 p3 p4 p5 p6 mc) (f_X10_offer p1 p2 p3 p4 p5 p6 mm)
  obtain ⟨d, st, l, n, M, nb, TO, GR, na, MA, no, MO, hA⟩ := id hR
  obtain ⟨a1, a2, a3, a4, a5, a6, a7, a8, a9, a10, a11, a12⟩ := id hA
  obtain ⟨hd9, hst1, hd1, hd2, hs1, hs2⟩ := id a1
  rcases chk_firm p1 with ⟨v0, l0, e0, x0, y0⟩ | ⟨x0, y0⟩
  rotate_left
  · have hX : f_X9_offer p1 p2 p3 p4 p5 p6 mc = some (.inl 1) := by
      unfold f_X9_offer
      simp only [x0, ox_r, ox_l]
    refine fin_thr (z := 1) hR (by decide) (by unfold f_Q_offer; rw [hX]; rfl) ?_
    unfold f_X10_offer
    rw [y0, ob_some]
    exact thr_M2 (z := 1) (by simp only [y0, ob_sm, i10, i01, i00, i11, if_true, if_false]) (by decide) (by decide)
  rcases chk_zone p2 with ⟨v1, l1, e1, x1, y1⟩ | ⟨x1, y1⟩
  rotate_left
  · have hX : f_X9_offer p1 p2 p3 p4 p5 p6 mc = some (.inl 1) := by
      unfold f_X9_offer
      simp only [x0, x1, ox_r, ox_l]
    refine fin_thr (z := 1) hR (by decide) (by unfold f_Q_offer; rw [hX]; rfl) ?_
    unfold f_X10_offer
    rw [y0, ob_some]
    exact thr_M2 (z := 1) (by simp only [y0, y1, ob_sm, i10, i01, i00, i11, if_true, if_false]) (by decide) (by decide)
  rcases chk_hour p3 with ⟨v2, l2, e2, x2, y2⟩ | ⟨x2, y2⟩
  rotate_left
  · have hX : f_X9_offer p1 p2 p3 p4 p5 p6 mc = some (.inl 1) := by
      unfold f_X9_offer
      simp only [x0, x1, x2, ox_r, ox_l]
    refine fin_thr (z := 1) hR (by decide) (by unfold f_Q_offer; rw [hX]; rfl) ?_
    unfold f_X10_offer
    rw [y0, ob_some]
    exact thr_M2 (z := 1) (by simp only [y0, y1, y2, ob_sm, i10, i01, i00, i11, if_true, if_false]) (by decide) (by decide)
  rcases chk_rng p5 (lo := 0) (hi := 300) (0) (300) rfl rfl (by omega) (by omega) with ⟨x3, y3, r3⟩ | ⟨x3, y3⟩
  rotate_left
  · have hX : f_X9_offer p1 p2 p3 p4 p5 p6 mc = some (.inl 2) := by
      unfold f_X9_offer
      simp only [x0, x1, x2, x3, ox_r, ox_l]
    refine fin_thr (z := 2) hR (by decide) (by unfold f_Q_offer; rw [hX]; rfl) ?_
    unfold f_X10_offer
    rw [y0, ob_some]
    exact thr_M2 (z := 2) (by simp only [y0, y1, y2, y3, ob_sm, i10, i01, i00, i11, if_true, if_false]) (by decide) (by decide)
  rcases chk_rng p6 (lo := 1) (hi := 10) (1) (10) rfl rfl (by omega) (by omega) with ⟨x4, y4, r4⟩ | ⟨x4, y4⟩
  rotate_left
  · have hX : f_X9_offer p1 p2 p3 p4 p5 p6 mc = some (.inl 2) := by
      unfold f_X9_offer
      simp only [x0, x1, x2, x3, x4, ox_r, ox_l]
    refine fin_thr (z := 2) hR (by decide) (by unfold f_Q_offer; rw [hX]; rfl) ?_
    unfold f_X10_offer
    rw [y0, ob_some]
    exact thr_M2 (z := 2) (by simp only [y0, y1, y2, y3, y4, ob_sm, i10, i01, i00, i11, if_true, if_false]) (by decide) (by decide)
  have hst01 : st = 0 ∨ st = 1 := by omega
  subst e0
  have hd : d < 10 := by omega
  obtain ⟨w2, w3, w4, w68, w6⟩ := id a2
  obtain ⟨b1, b2, b3, ⟨w27, w28, w29, w30, w31, w32⟩, b5, b6, b7⟩ := id a7
  have l68 : a_ld 6 68 (iI (v0 : Nat)) mc = some (mc 68 v0) := by rw [a_ldI (by omega) (by omega) (by omega), Int.toNat_natCast]
  have n4 : a_ld 6 4 (iI (v0 : Nat)) (thM mm 0) = some (mc 68 v0) := by rw [a_ldI (by omega) (by omega) (by omega), Int.toNat_natCast, thM_c _ _ (by decide), w4]
  have hrm := sp_hasRoom (o := 55) b1 (by omega) (by rw [oln55]; omega)
  rw [oln55] at hrm
  have t1 : thM mm 0 0 1 = mm 0 1 := thM_k _ _ (by decide)
  have t7 : thM mm 0 0 33 = mm 0 33 := thM_k _ _ (by decide)
  have hthr : f_X9_offer (iI (v0 : Nat)) p2 p3 p4 p5 p6 mc = some (.inl 3) → (if mc 68 v0 = 1 then some (3 : Int32) else if thM mm 0 0 1 = 0 then some 3 else if thM mm 0 0 33 = 60 then some 3 else some 0) = some 3 → opOK (f_Q_offer (iI (v0 : Nat)) p2 p3 p4 p5 p6 mc) (f_X10_offer (iI (v0 : Nat)) p2 p3 p4 p5 p6 mm) := by
    intro hX hV
    refine fin_thr (z := 3) hR (by decide) (by unfold f_Q_offer; rw [hX]; rfl) ⟨0, ?_⟩
    unfold f_X10_offer
    rw [y0, ob_some, go_M2 (w := mc 68 v0) (z := 3) (by simp only [y1, y2, y3, y4, ob_sm, i10]) n4 hV, if_neg (by decide)]
  by_cases c0 : mc 68 v0 = 0
  · have c1 : ¬ mc 68 v0 = 1 := by rw [c0]; decide
    rcases hst01 with s0 | s1
    · have z1 : ¬ mc 0 9 = 1 := by rw [hs1, s0]; decide
      have z2 : mm 0 1 = 0 := by rw [hs2, s0]; rfl
      refine hthr ?_ (by rw [if_neg c1, t1, if_pos z2])
      unfold f_X9_offer f_X9_checkState
      simp only [x0, x1, x2, x3, x4, ox_r, ox_l, ob_sm, l68, if_pos c0, if_neg z1, i00, if_true]
    · have z1 : mc 0 9 = 1 := by rw [hs1, s1]; rfl
      have z2 : ¬ mm 0 1 = 0 := by rw [hs2, s1]; decide
      by_cases hn : no < 60
      · have z7 : ¬ mm 0 33 = 60 := by rw [b2, iL_60, iI_eqP (by omega) (by omega) (by omega) (by omega)]; omega
        rw [if_pos hn] at hrm
        obtain ⟨rr, er, M2, g1, g2, g3, g4, g5, g6, g7, g8, g9, g10, g11⟩ := sp_add (o := 55) (p1 := iI (v0 : Nat)) (p2 := p2) (p3 := p3) (p4 := p4) (p5 := p5) (p6 := p6) (B := 300) (M := MO) (m := mc) (by rw [oln55]; omega) (show no < f_oln 55 by rw [oln55]; exact hn) (by omega) b1 (fun k hk => (b6 k hk).2.2.2.2.1) r3 hz b5
        obtain ⟨r1, m8⟩ := rr
        have g1 : r1 = iI (no : Nat) := g1
        subst g1
        have c8 : ∀ c, (c < 55 ∨ 63 < c) → m8 c = mc c := g2
        have g3 : m8 55 = upd (mc 55) 8 (iI ((no + 1 : Nat) : Int)) := g3
        have g4 : m8 56 = upd (mc 56) no (iI (v0 : Nat)) := g4
        have g5 : m8 57 = upd (mc 57) no p2 := g5
        have g6 : m8 58 = upd (mc 58) no p3 := g6
        have g7 : m8 59 = upd (mc 59) no p4 := g7
        have g8 : m8 60 = upd (mc 60) no p5 := g8
        have g10 : m8 62 = upd (mc 62) no p6 := g10
        have g11 : Mer (no + 1) (keyO m8 55) (m8 63) M2 := g11
        -- the reference up to the trading
        obtain ⟨m31, e31⟩ : ∃ m31, m31 = g_up (g_up (g_up (g_up (g_up (g_up (g_up (thM mm 0) 0 (upd (thM mm 0 0) 33 (iI ((no + 1 : Nat) : Int)))) 27 (upd (mm 27) no (iI (v0 : Nat)))) 28 (upd (mm 28) no p2)) 29 (upd (mm 29) no p3)) 30 (upd (mm 30) no p4)) 31 (upd (mm 31) no p5)) 32 (upd (mm 32) no p6) := ⟨_, rfl⟩
        have hMM : f_X10_offer (iI (v0 : Nat)) p2 p3 p4 p5 p6 mm = ob (f_X10_offer_L186 f_fuel 0 m31) fun t50 => ob (some t50.1) fun y34 => ob (some t50.2) fun m35 => ob (f_X10_restFor (iI (no : Nat)) m35) fun r38 => ob (f_X10_offer_L215 (iI (no : Nat)) f_fuel r38 m35) fun t49 => ob (some t49.1) fun y41 => ob (some t49.2) fun m42 => some (iI (no : Nat), m42) := by
          unfold f_X10_offer
          have ez : ∀ {α : Type} (G : Int32 → Option α), ob (if p4 = 0 then some 0 else some 1) G = G p4 := by
            intro α G
            rcases hz with q | q
            · rw [if_pos q, ob_some, q]
            · rw [if_neg (by rw [q]; decide), ob_some, q]
          rw [y0, ob_some, go_M2 (w := mc 68 v0) (z := 0) (by simp only [y1, y2, y3, y4, ob_sm, i10]) n4 (by simp only [if_neg c1, t1, t7, if_neg z2, if_neg z7]), if_pos (by decide), ob_some, ob_some, t7, b2, iI_succ]
          rw [a_stI (by omega) (by omega) (by omega), ob_some, a_stI (by omega) (by omega) (by omega), ob_some, a_stI (by omega) (by omega) (by omega), ob_some, ez, a_stI (by omega) (by omega) (by omega), ob_some, a_stI (by omega) (by omega) (by omega), ob_some, a_stI (by omega) (by omega) (by omega), ob_some, Int.toNat_natCast]
          simp (disch := omega) only [g_up_ne, thM_c]
          rw [← e31]
        obtain ⟨t50, f50, row, e35, hrow⟩ := sp_zeroL (m := m31)
        obtain ⟨y34, m35⟩ := t50
        have e35 : m35 = g_up m31 33 row := e35
        have f35 : ∀ c, c ≠ 0 → (c < 27 ∨ 33 < c) → m35 c = mm c := fun c h0 h1 => by
          rw [e35, e31]
          simp (disch := omega) only [g_up_ne, thM_c]
        have f350 : ∀ k, k ≠ 33 → k ≠ 67 → m35 0 k = mm 0 k := fun k h1 h2 => by
          rw [e35, e31]
          simp (disch := omega) only [g_up_at, g_up_ne, updA, if_neg, thM_k]
        have m3533 : m35 0 33 = iI ((no + 1 : Nat) : Int) := by
          rw [e35, e31]
          simp (disch := omega) only [g_up_at, g_up_ne, updA, if_true]
        have m3567 : m35 0 67 = 0 := by
          rw [e35, e31]
          simp (disch := omega) only [g_up_at, g_up_ne, updA, if_neg, thM_0]
        have j27 : m35 27 = upd (mm 27) no (iI (v0 : Nat)) := by rw [e35, e31]; simp (disch := omega) only [g_up_at, g_up_ne]
        have j28 : m35 28 = upd (mm 28) no p2 := by rw [e35, e31]; simp (disch := omega) only [g_up_at, g_up_ne]
        have j29 : m35 29 = upd (mm 29) no p3 := by rw [e35, e31]; simp (disch := omega) only [g_up_at, g_up_ne]
        have j30 : m35 30 = upd (mm 30) no p4 := by rw [e35, e31]; simp (disch := omega) only [g_up_at, g_up_ne]
        have j31 : m35 31 = upd (mm 31) no p5 := by rw [e35, e31]; simp (disch := omega) only [g_up_at, g_up_ne]
        have j32 : m35 32 = upd (mm 32) no p6 := by rw [e35, e31]; simp (disch := omega) only [g_up_at, g_up_ne]
        have j33 : m35 33 = row := by rw [e35, g_up_at]
        have hlim : ∀ k, k < 3 → m8 3 k = m35 1 k := fun k hk => by
          rw [c8 3 (by omega), f35 1 (by decide) (by omega), (a3.1 k hk).1, (a3.2 k hk).1]
        obtain ⟨net1, net2⟩ := a8 s1
        have hO : ofR (no + 1) m8 m35 := by
          refine ⟨by omega, ⟨by rw [j27, g4, w27], by rw [j28, g5, w28], by rw [j29, g6, w29], by rw [j30, g7, w30], by rw [j31, g8, w31], by rw [j32, g10, w32]⟩, fun k hk => ?_⟩
          rw [g4, g5, g6, g7, g8, g10, updA, updA, updA, updA, updA, updA]
          by_cases w : k = no
          · rw [if_pos w, if_pos w, if_pos w, if_pos w, if_pos w, if_pos w, e1, e2]
            exact ⟨rg_iI (by omega) (by omega) (by omega) (by omega), rg_iI (by omega) (by omega) (by omega) (by omega), rg_iI (by omega) (by omega) (by omega) (by omega), hz, r3, ⟨by have := r4.1; omega, r4.2⟩⟩
          · rw [if_neg w, if_neg w, if_neg w, if_neg w, if_neg w, if_neg w]
            exact b6 k (by omega)
        have hT : tI d (no + 1) m8 m35 := by
          refine ⟨hd, by rw [c8 0 (by omega)]; exact hd1, by rw [f350 0 (by decide) (by decide)]; exact hd2, hO, ⟨fun i hi => by rw [c8 _ (by omega), f35 48 (by decide) (by omega)]; exact net1 i hi, fun h hh => ?_, hlim⟩, ⟨fun i hi => by rw [c8 _ (by omega), f35 42 (by decide) (by omega)]; exact (a9 d hd).2.1.1 i hi, fun i hi => by rw [c8 _ (by omega), f35 45 (by decide) (by omega)]; exact (a9 d hd).2.1.2 i hi⟩⟩
          have h2 := alw_aFl (net2 h hh)
          rw [← hlim 0 (by decide), ← hlim 1 (by decide), ← hlim 2 (by decide), c8 3 (by omega), f35 48 (by decide) (by omega)]
          exact h2
        have hB : pB d (600 + 1200 * (no : Nat)) m8 := fun i hi => by rw [c8 _ (by omega)]; exact a10.2.1 s1 i hi
        have hrest := sp_restFor (E := (M2.drop 0).filter (el m8 no)) hO (show no < no + 1 by omega) (by rw [List.drop_zero]; exact g11.2.1.filter _) (fun k => by
          rw [List.drop_zero, List.mem_filter, g11.2.2.1, j33]
          constructor
          · intro ⟨x, y⟩
            have hkc : k ≠ no := fun e => by rw [e, el_self] at y; cases y
            exact ⟨by omega, hrow k (by omega), y⟩
          · intro ⟨x, _, y⟩
            exact ⟨by omega, y⟩)
        obtain ⟨yy, m10, y2', m42, s2, s3, s4, s5, s6, s7⟩ := trade_loop (c := no) (N := no + 1) rfl g11 (by rw [g3, updA, if_pos rfl]) (no + 1) 0 (by omega) f_fuel f_fuel m8 m35 (600 + 1200 * (no : Nat)) (by show no + 1 < 100000; omega) (by show no + 1 < 100000; omega) hT (fun c _ _ _ _ => rfl) hB (by omega) (fun k hk => absurd hk (by simp)) (fun k hk => by
          rw [List.drop_zero] at hk
          have := (g11.2.2.1 k).1 hk
          rw [j33]
          exact hrow k (by omega))
        have hX : f_X9_offer (iI (v0 : Nat)) p2 p3 p4 p5 p6 mc = some (.inr (iI (no : Nat), m10)) := by
          have hta : f_X9_tradeAll (iI (no : Nat)) m8 = some m10 := by
            unfold f_X9_tradeAll
            rw [show f_X9_tradeAll_L2 (iI (no : Nat)) f_fuel 0 m8 = some (yy, m10) from s2]
            rfl
          unfold f_X9_offer f_X9_checkState
          simp only [x0, x1, x2, x3, x4, ox_r, ox_l, ob_sm, l68, if_pos c0, if_pos z1, hrm, i10, er, hta]
        obtain ⟨_, h10, h420, ⟨_, o2, o3⟩, ⟨n1, n2, n3⟩, hE10⟩ := s4
        have C : ∀ c, (c < 55 ∨ 63 < c) → c ≠ 69 + 16 * d + 2 → c ≠ 69 + 16 * d + 3 → c ≠ 69 + 16 * d + 5 → m10 c = mc c := fun c h1 h2 h3 h4 => by rw [s6 c (by omega) h2 h3 h4, c8 c h1]
        have D : ∀ c, c ≠ 0 → (c < 27 ∨ 33 < c) → c ≠ 42 → c ≠ 45 → c ≠ 48 → m42 c = mm c := fun c h0 h1 h2 h3 h4 => by rw [s7.1 c (by omega) (by omega) h2 h3 h4, f35 c h0 h1]
        have D0 : ∀ k, k ≠ 33 → k ≠ 67 → m42 0 k = mm 0 k := fun k h1 h2 => by rw [s7.1 0 (by decide) (by decide) (by decide) (by decide) (by decide), f350 k h1 h2]
        have hoc : ∀ c, 55 ≤ c → c ≤ 63 → c ≠ 62 → m10 c = m8 c := fun c h1 h2 h3 => s6 c h3 (by omega) (by omega) (by omega)
        refine fin_ret (r := iI (no : Nat)) (mc2 := m10) (mm2 := m42) ?_ (by unfold f_Q_offer; rw [hX, os_r2, ob_some, ob_some, a_lst0, ob_some]) ?_ ?_
        · refine ⟨d, st, l, n, M, nb, TO, GR, na, MA, no + 1, M2, rDay_fr a1 (by rw [C 0 (by omega) (by omega) (by omega) (by omega)]) (by rw [C 0 (by omega) (by omega) (by omega) (by omega)]) (D0 0 (by decide) (by decide)) (D0 1 (by decide) (by decide)), rAcc_fr a2 (fun c _ _ => C c (by omega) (by omega) (by omega) (by omega)) (fun c _ _ => D c (by omega) (by omega) (by omega) (by omega) (by omega)) (D0 6 (by decide) (by decide)), rLim_fr a3 (C 3 (by omega) (by omega) (by omega) (by omega)) (D 1 (by omega) (by omega) (by omega) (by omega) (by omega)), rBid_fr a4 (fun c _ _ => C c (by omega) (by omega) (by omega) (by omega)) (D0 7 (by decide) (by decide)) (fun c _ _ => D c (by omega) (by omega) (by omega) (by omega) (by omega)), rBlk_fr a5 (fun c _ _ => C c (by omega) (by omega) (by omega) (by omega)) (D0 16 (by decide) (by decide)) (D0 25 (by decide) (by decide)) (fun c _ _ => D c (by omega) (by omega) (by omega) (by omega) (by omega)), rAsk_fr a6 (fun c _ _ => C c (by omega) (by omega) (by omega) (by omega)) (D0 26 (by decide) (by decide)) (fun c _ _ => D c (by omega) (by omega) (by omega) (by omega) (by omega)), ⟨by rw [hoc 55 (by decide) (by decide) (by decide), g3, updA, if_pos rfl], by rw [s7.1 0 (by decide) (by decide) (by decide) (by decide) (by decide)]; exact m3533, by omega, o2, ?_, o3, fun h9 => absurd h9 (by omega)⟩, ?_, ?_, ?_, rAid_fr a11 (fun j hj c _ _ => C c (by omega) (by omega) (by omega) (by omega)) (fun c _ _ => D c (by omega) (by omega) (by omega) (by omega) (by omega)), rScr_fr a12 (fun c _ _ => C c (by omega) (by omega) (by omega) (by omega)) (fun c _ _ => D c (by omega) (by omega) (by omega) (by omega) (by omega))⟩
          · refine Mer_congr g11 (fun k _ => ?_) (fun i _ => by rw [hoc 63 (by decide) (by decide) (by decide)])
            unfold keyO
            rw [hoc (55 + 4) (by decide) (by decide) (by decide), hoc (55 + 5) (by decide) (by decide) (by decide)]
          · intro _
            refine ⟨n1, fun h hh => ?_⟩
            refine (sp_alwG (m := m10)).1 ?_
            rw [n3 0 (by decide), n3 1 (by decide), n3 2 (by decide)]
            exact n2 h hh
          · intro j hj
            by_cases hjd : j = d
            · subst hjd
              obtain ⟨u1, u2, u3, u4, u5, u6, u7⟩ := a9 j hj
              have u44 := u4 (Nat.le_refl _)
              refine ⟨fun i hi => by rw [C _ (by omega) (by omega) (by omega) (by omega), D 41 (by decide) (by omega) (by decide) (by decide) (by decide)]; exact u1 i hi, hE10, fun i hi => ?_, fun _ i hi => by rw [D 44 (by decide) (by omega) (by decide) (by decide) (by decide)]; exact u44 i hi, fun i hi => by rw [C _ (by omega) (by omega) (by omega) (by omega), D 46 (by decide) (by omega) (by decide) (by decide) (by decide)]; exact u5 i hi, by rw [C _ (by omega) (by omega) (by omega) (by omega), D 47 (by decide) (by omega) (by decide) (by decide) (by decide)]; exact u6, fun i hi => by rw [C _ (by omega) (by omega) (by omega) (by omega)]; exact u7 i hi⟩
              have h3 := u3 i hi
              rw [u44 i hi, if_neg (by decide)] at h3
              rw [C _ (by omega) (by omega) (by omega) (by omega), D 44 (by decide) (by omega) (by decide) (by decide) (by decide), u44 i hi, if_neg (by decide)]
              exact h3
            · refine rDy_fr2 (a9 j hj) (fun c x1 x2 x3 => C c (by omega) (by omega) (by omega) (by omega)) (fun c x1 x2 x3 => D c (by omega) (by omega) (by omega) (by omega) (by omega)) (fun i hi => by rw [D 41 (by decide) (by omega) (by decide) (by decide) (by decide)]) (fun i hi => ?_) (fun i hi => ?_)
              · rw [s7.2.1 _ (by omega), f35 42 (by decide) (by omega)]
              · rw [s7.2.2 _ (by omega), f35 45 (by decide) (by omega)]
          · have hoth : ∀ j B, j < 10 → j ≠ d → pB j B mc → pB j B m10 := by
              intro j B hj hjd hp i hi
              rw [C _ (by omega) (by omega) (by omega) (by omega)]
              exact hp i hi
            refine ⟨fun j hj => ?_, fun _ => pB_up s5 (by omega), fun h9 => absurd h9 (by omega), fun j x1 x2 => hoth j _ x2 (by omega) (a10.2.2.2 j x1 x2)⟩
            by_cases hjd : j = d
            · subst hjd
              exact pB_up s5 (by omega)
            · exact hoth j _ hj hjd (a10.1 j hj)
        · rw [hMM, f50, ob_some, ob_some, ob_some, hrest, ob_some, s3, ob_some, ob_some, ob_some]
        · rw [s7.1 0 (by decide) (by decide) (by decide) (by decide) (by decide)]
          exact m3567
      · have z7 : mm 0 33 = 60 := by rw [b2, iL_60]; congr 1; omega
        rw [if_neg hn] at hrm
        refine hthr ?_ (by rw [if_neg c1, t1, if_neg z2, t7, if_pos z7])
        unfold f_X9_offer f_X9_checkState
        simp only [x0, x1, x2, x3, x4, ox_r, ox_l, ob_sm, l68, if_pos c0, if_pos z1, hrm, i00, if_true]
  · have c1 : mc 68 v0 = 1 := (w68 v0 l0).resolve_left c0
    refine hthr ?_ (by rw [if_pos c1])
    unfold f_X9_offer f_X9_checkState
    simp only [x0, x1, x2, x3, x4, ox_r, ox_l, ob_sm, l68, if_neg c0, i00, if_true]
