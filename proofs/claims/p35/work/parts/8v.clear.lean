theorem tk_le {U : Nat → Nat} : ∀ {L : List Nat} {q k : Nat}, tk U L q k ≤ U k
  | [], _, _ => Nat.zero_le _
  | a :: L, q, k => by
    show (if k = a then min (U a) q else tk U L (q - min (U a) q) k) ≤ U k
    by_cases c : k = a
    · rw [if_pos c, c]; omega
    · rw [if_neg c]; exact tk_le
theorem tkA_le (l : Nat → Int) (m0 : gM) (M : List Nat) (nb c k : Nat) : tkA l m0 M nb c k ≤ uU m0 k := by
  unfold tkA tkv
  by_cases q : m0 8 k = 0
  · rw [if_pos q]; exact tk_le
  · rw [if_neg q]; exact tk_le
theorem spot12 {P : Nat → Prop} (h : ∀ z, z < 3 → ∀ h, h < 4 → P (4 * z + h)) : ∀ i, i < 12 → P i := by
  intro i hi
  have := h (i / 4) (by omega) (i % 4) (by omega)
  rw [show 4 * (i / 4) + i % 4 = i by omega] at this
  exact this
theorem rDy_fr2 {d j : Nat} {mc mm mc2 mm2 : gM} (h : rDy d j mc mm) (hc : ∀ c, 69 + 16 * j ≤ c → c ≤ 69 + 16 * j + 6 → c ≠ 69 + 16 * j + 2 → mc2 c = mc c) (hm : ∀ c, 43 ≤ c → c ≤ 47 → c ≠ 45 → mm2 c = mm c) (h41 : ∀ i, i < 12 → mm2 41 (12 * j + i) = mm 41 (12 * j + i)) (h42 : ∀ i, i < 72 → mm2 42 (72 * j + i) = mm 42 (72 * j + i)) (h45 : ∀ i, i < 6 → mm2 45 (6 * j + i) = mm 45 (6 * j + i)) : rDy d j mc2 mm2 := by
  obtain ⟨a1, a2, a3, a4, a5, a6, a7⟩ := h
  have e1 := hc (69 + 16 * j + 1) (by omega) (by omega) (by omega)
  have e3 := hc (69 + 16 * j + 3) (by omega) (by omega) (by omega)
  have e4 := hc (69 + 16 * j + 4) (by omega) (by omega) (by omega)
  have e5 := hc (69 + 16 * j + 5) (by omega) (by omega) (by omega)
  have e6 := hc (69 + 16 * j + 6) (by omega) (by omega) (by omega)
  have e0 := hc (69 + 16 * j) (by omega) (by omega) (by omega)
  refine ⟨fun i hi => by rw [e1, h41 i hi]; exact a1 i hi, ⟨fun i hi => by rw [e3, h42 i hi]; exact a2.1 i hi, fun i hi => by rw [e5, h45 i hi]; exact a2.2 i hi⟩, fun i hi => by rw [e4, hm 44 (by decide) (by decide) (by decide), hm 43 (by decide) (by decide) (by decide), h42 i hi]; exact a3 i hi, ?_, ?_, ?_, ?_⟩
  · rw [hm 44 (by decide) (by decide) (by decide)]; exact a4
  · rw [e6, hm 46 (by decide) (by decide) (by decide)]; exact a5
  · rw [e0, hm 47 (by decide) (by decide) (by decide)]; exact a6
  · rw [e4]; exact a7
theorem sim_clear {d : Nat} {l : Nat → Int} {n : Nat} {M : List Nat} {nb : Nat} {TO GR : Nat → Int} {na : Nat} {MA : List Nat} {no : Nat} {MO : List Nat} {mc mm : gM} (hR : RelA d 0 l n M nb TO GR na MA no MO mc mm) : ∃ r mc2 mm2, f_X9_clear mc = some (.inr (r, mc2)) ∧ f_X10_clear mm = some (r, mm2) ∧ mm2 0 67 = 0 ∧ RelA d 1 l n M nb TO GR na MA no MO mc2 mm2 := by
  obtain ⟨a1, a2, a3, a4, a5, a6, a7, a8, a9, a10, a11, a12⟩ := id hR
  obtain ⟨hd9, _, hd1, hd2, hs1, hs2⟩ := id a1
  have hd : d < 10 := by omega
  have hDc : cDat mc l n M nb TO GR := ⟨a3.1, a4.1, a5.1⟩
  have hlr : ∀ k, k < 3 → 0 ≤ l k ∧ l k ≤ 10 := fun k hk => (a3.1 k hk).2
  have hnb : nb ≤ 5 := a5.1.2.1.1
  obtain ⟨hch1, hch32, _, hchp⟩ := cho_ok hDc
  obtain ⟨m4, e4, k1, k2, k3, k4, k5, k6⟩ := sp_clearDay hDc a12.1 (o := 69 + 16 * d) (by omega)
  -- the reference up to the takes
  obtain ⟨m3, e3⟩ : ∃ m3, m3 = g_up mm 0 (upd (mm 0) 67 0) := ⟨_, rfl⟩
  have f3 : ∀ c, c ≠ 0 → m3 c = mm c := fun c hc => by rw [e3, g_up_ne _ _ hc]
  have f30 : ∀ k, k ≠ 67 → m3 0 k = mm 0 k := fun k hk => by rw [e3, g_up_at, updA, if_neg hk]
  have hR3 : RelA d 0 l n M nb TO GR na MA no MO mc m3 := RelA_fr hR (fun c _ => rfl) (fun c hc _ => f3 c hc) f30
  obtain ⟨b1, b2, b3, b4, b5, b6, b7, b8, b9, b10, b11, b12⟩ := id hR3
  have hc0 : ∀ h z, crvOk (lsF mc M h z) (lbF mc M h z) := fun h z => crv_of hDc.2.1 _ _
  have hcv : ∀ z h, crvOk (cz m3 M z h 0) (cz m3 M z h 1) := by
    intro z h
    rw [(cz_frM b4.2.2.1).2, (cz_frM b4.2.2.1).2]
    exact crv_of hDc.2.1 z h
  obtain ⟨t8, g8, w1, w2, w3, w4, w5⟩ := sp_weighAllM (m0 := mc) (m := m3) hc0 hcv (bidsM_of b4) b4.2.2.1 b12.2.1 b12.2.2
  obtain ⟨x8, m8⟩ := t8
  have w1 : ∀ z, z < 3 → ∀ h, h < 4 → Wm m8 (4 * z + h) (lsF mc M h z) (lbF mc M h z) := w1
  have w2 : ∀ c, c ≠ 0 → c ≠ 12 → c ≠ 49 → c ≠ 50 → c ≠ 51 → c ≠ 52 → m8 c = m3 c := w2
  have w3 : ∀ k, k ≠ 58 → k ≠ 59 → m8 0 k = m3 0 k := w3
  have w4 : m8 49 0 = iI 0 := w4
  have w5 : m8 50 0 = iI 0 := w5
  obtain ⟨m18, e18⟩ : ∃ m18, m18 = g_up m8 0 (upd (m8 0) 25 0) := ⟨_, rfl⟩
  have f18 : ∀ c, c ≠ 0 → m18 c = m8 c := fun c hc => by rw [e18, g_up_ne _ _ hc]
  have f180 : ∀ k, k ≠ 25 → m18 0 k = m8 0 k := fun k hk => by rw [e18, g_up_at, updA, if_neg hk]
  have hE18 : eqR mc m18 := by
    refine ⟨fun c c1 c2 => ?_, ?_⟩
    · rw [f18 c (by omega), w2 c (by omega) (by omega) (by omega) (by omega) (by omega) (by omega)]
      exact b4.2.2.1 c c1 c2
    · rw [f18 14 (by decide), w2 14 (by decide) (by decide) (by decide) (by decide) (by decide) (by decide), f18 15 (by decide), w2 15 (by decide) (by decide) (by decide) (by decide) (by decide) (by decide), f18 16 (by decide), w2 16 (by decide) (by decide) (by decide) (by decide) (by decide) (by decide), f18 17 (by decide), w2 17 (by decide) (by decide) (by decide) (by decide) (by decide) (by decide), f18 18 (by decide), w2 18 (by decide) (by decide) (by decide) (by decide) (by decide) (by decide)]
      exact ⟨b5.2.2.2.1, b5.2.2.2.2.1, b5.2.2.2.2.2.1, b5.2.2.2.2.2.2.1, b5.2.2.2.2.2.2.2.1⟩
  have hM18 : mDat mc m18 l n M nb TO GR := by
    refine ⟨?_, bidsM_fr (bidsM_of b4) (by rw [f180 7 (by decide), w3 7 (by decide) (by decide)]) (fun c c1 c2 => by rw [f18 c (by omega), w2 c (by omega) (by omega) (by omega) (by omega) (by omega) (by omega)]), blkM_fr b5.2.1 (by rw [f180 16 (by decide), w3 16 (by decide) (by decide)]) (fun c c1 c2 => by rw [f18 c (by omega), w2 c (by omega) (by omega) (by omega) (by omega) (by omega) (by omega)]), hE18, fun z hz h hh => Wm_fr (w1 z hz h hh) (f18 51 (by decide)) (f18 52 (by decide))⟩
    unfold limM
    rw [f18 1 (by decide), w2 1 (by decide) (by decide) (by decide) (by decide) (by decide) (by decide)]
    exact b3.2
  obtain ⟨t24, g24, v1, v2, v3, v4⟩ := sp_setsM hDc hM18
  obtain ⟨y22, y23, m24⟩ := t24
  have v1 : y22 = vlS l mc M nb (cho l mc M nb TO GR) := v1
  have v2 : m24 0 25 = iI (cho l mc M nb TO GR : Nat) := v2
  have v3 : ∀ c, c ≠ 0 → c ≠ 53 → c ≠ 54 → c ≠ 55 → m24 c = m18 c := v3
  have v4 : ∀ k, k ≠ 25 → k ≠ 65 → k ≠ 66 → m24 0 k = m18 0 k := v4
  have hM24 : mDat mc m24 l n M nb TO GR := mDat_fr hM18 (v4 7 (by decide) (by decide) (by decide)) (v4 16 (by decide) (by decide) (by decide)) (fun c c0 _ _ c3 c4 c5 => v3 c c0 c3 c4 c5)
  obtain ⟨t40, g40, ⟨u1, u2⟩, u3, _⟩ := sp_tries hc0 hM24 (s := cho l mc M nb TO GR) hch32
  obtain ⟨r39, m40⟩ := t40
  have u1 : ∀ c, c ≠ 0 → c ≠ 53 → c ≠ 54 → c ≠ 55 → m40 c = m24 c := u1
  have u2 : ∀ k, k ≠ 65 → k ≠ 66 → m40 0 k = m24 0 k := u2
  have hok := (cho_ok hDc).2.2.1
  have u3 := (u3 hok.2).2
  obtain ⟨t45, g45, r11, z1, z2⟩ := sp_zero11 (m := m40)
  obtain ⟨x45, m45⟩ := t45
  have z1 : m45 = g_up m40 11 r11 := z1
  have f45 : ∀ c, c ≠ 11 → m45 c = m40 c := fun c hc => by rw [z1, g_up_ne _ _ hc]
  -- frames from m3 to m45
  have F1 : ∀ c, c ≠ 0 → c ≠ 11 → c ≠ 12 → (c < 49 ∨ 55 < c) → m45 c = m3 c := fun c c0 c11 c12 hc => by
    rw [f45 c c11, u1 c c0 (by omega) (by omega) (by omega), v3 c c0 (by omega) (by omega) (by omega), f18 c c0, w2 c c0 c12 (by omega) (by omega) (by omega) (by omega)]
  have F0 : ∀ k, k ≠ 25 → k ≠ 58 → k ≠ 59 → k ≠ 65 → k ≠ 66 → m45 0 k = m3 0 k := fun k k1 k2 k3 k4 k5 => by
    rw [f45 0 (by decide), u2 k k4 k5, v4 k k1 k4 k5, f180 k k1, w3 k k2 k3]
  have F25 : m45 0 25 = iI (cho l mc M nb TO GR : Nat) := by rw [f45 0 (by decide), u2 25 (by decide) (by decide)]; exact v2
  have F4950 : m45 49 0 = iI 0 ∧ m45 50 0 = iI 0 := by
    rw [f45 49 (by decide), u1 49 (by decide) (by decide) (by decide) (by decide), v3 49 (by decide) (by decide) (by decide) (by decide), f18 49 (by decide), f45 50 (by decide), u1 50 (by decide) (by decide) (by decide) (by decide), v3 50 (by decide) (by decide) (by decide) (by decide), f18 50 (by decide)]
    exact ⟨w4, w5⟩
  generalize hch : cho l mc M nb TO GR = ch at *
  have hfe : ∀ h, h < 4 → ∃ w a b, cR l mc M nb ch h = some (w, a, b) ∧ alw l a b (-a - b) ∧ ∀ z, z < 3 → -20 ≤ nzF (cR l mc M nb ch h) z ∧ nzF (cR l mc M nb ch h) z ≤ 20 ∧ -((lbF mc M h z).length : Int) ≤ mkF l mc M nb ch h z ∧ mkF l mc M nb ch h z ≤ (lsF mc M h z).length := by
    intro h hh
    obtain ⟨w, a, b, hRR⟩ : ∃ w a b, cR l mc M nb ch h = some (w, a, b) := by
      cases q : cR l mc M nb ch h with
      | none => exact absurd q (hchp h hh)
      | some u => obtain ⟨w, a, b⟩ := u; exact ⟨w, a, b, rfl⟩
    exact ⟨w, a, b, hRR, (cR_feas hlr hRR).1, (cR_feas hlr hRR).2.1⟩
  have hT45 : tlD l mc m45 n M nb ch d := by
    refine ⟨hd, by rw [F0 0 (by decide) (by decide) (by decide) (by decide) (by decide)]; exact b1.2.2.2.1, bidsM_fr (bidsM_of b4) (F0 7 (by decide) (by decide) (by decide) (by decide) (by decide)) (fun c c1 c2 => F1 c (by omega) (by omega) (by omega) (by omega)), fun c c1 c2 => by rw [F1 c (by omega) (by omega) (by omega) (by omega)]; exact b4.2.2.1 c c1 c2, fun z hz h hh => ?_⟩
    obtain ⟨w, a, b, _, _, hf⟩ := hfe h hh
    obtain ⟨q1, q2, q3, q4⟩ := hf z hz
    obtain ⟨p1, p2, p3⟩ := u3 z hz h hh
    have hbp := BP_rng hDc.2.2.2.1 (pt (mc 16) ch h nb) z
    refine ⟨Wm_fr (hM24.2.2.2.2 z hz h hh) (by rw [f45 51 (by decide), u1 51 (by decide) (by decide) (by decide) (by decide)]) (by rw [f45 52 (by decide), u1 52 (by decide) (by decide) (by decide) (by decide)]), by rw [f45 53 (by decide)]; exact p1, by rw [f45 54 (by decide)]; exact p2, by rw [f45 55 (by decide)]; exact p3, q1, q2, hbp.1, hbp.2, q3, q4, (hc0 h z).2.1, (hc0 h z).1⟩
  have hn40 := a4.1.1
  obtain ⟨t51, g51, s1, s2, s3, s4⟩ := sp_takeAllM hT45 (fun k hk => by rw [z1, g_up_at]; exact z2 k (by omega))
  obtain ⟨x51, m51⟩ := t51
  have s1 : ∀ k, k < n → m51 11 k = iI (tkA l mc M nb ch k : Nat) := s1
  have s2 : ∀ z, z < 3 → ∀ h, h < 4 → m51 48 (4 * z + h) = iI (nzF (cR l mc M nb ch h) z) ∧ m51 41 (12 * d + (4 * z + h)) = iI (cP l mc M nb ch h z) := s2
  have s3 : ∀ i, (i < 12 * d ∨ 12 * d + 12 ≤ i) → m51 41 i = m45 41 i := s3
  have s4 : ∀ c, c ≠ 11 → c ≠ 12 → c ≠ 41 → c ≠ 48 → m51 c = m45 c := s4
  have G1 : ∀ c, c ≠ 0 → c ≠ 11 → c ≠ 12 → c ≠ 41 → c ≠ 48 → (c < 49 ∨ 55 < c) → m51 c = mm c := fun c c0 c1 c2 c3 c4 c5 => by rw [s4 c c1 c2 c3 c4, F1 c c0 c1 c2 c5, f3 c c0]
  have G0 : ∀ k, k ≠ 25 → k ≠ 58 → k ≠ 59 → k ≠ 65 → k ≠ 66 → k ≠ 67 → m51 0 k = mm 0 k := fun k k1 k2 k3 k4 k5 k6 => by rw [s4 0 (by decide) (by decide) (by decide) (by decide), F0 k k1 k2 k3 k4 k5, f30 k k6]
  have h51 : m51 0 0 = iI (d : Nat) := by rw [G0 0 (by decide) (by decide) (by decide) (by decide) (by decide) (by decide)]; exact hd2
  have c4 : ∀ c, (c < 22 ∨ 43 < c) → c ≠ 11 → c ≠ 13 → c ≠ 69 + 16 * d + 1 → c ≠ 69 + 16 * d + 2 → m4 c = mc c := k4
  -- the bids
  have hP4 : prE d m4 m51 := by
    unfold prE
    refine spot12 (P := fun i => m4 (69 + 16 * d + 1) i = m51 41 (12 * d + i)) ?_
    intro z hz h hh
    show m4 (69 + 16 * d + 1) (4 * z + h) = m51 41 (12 * d + (4 * z + h))
    rw [(k3 z hz h hh).2, (s2 z hz h hh).2]
  have hE4 : pcE d m4 m51 := by
    have hx := (a9 d hd).2.1
    refine ⟨fun i hi => ?_, fun i hi => ?_⟩
    · rw [c4 _ (by omega) (by omega) (by omega) (by omega) (by omega), G1 42 (by decide) (by decide) (by decide) (by decide) (by decide) (by decide)]
      exact hx.1 i hi
    · rw [c4 _ (by omega) (by omega) (by omega) (by omega) (by omega), G1 45 (by decide) (by decide) (by decide) (by decide) (by decide) (by decide)]
      exact hx.2 i hi
  have hB4 : pB d 0 m4 := by
    intro i hi
    rw [c4 _ (by omega) (by omega) (by omega) (by omega) (by omega)]
    exact a10.2.2.1 rfl i hi
  have hused : ∀ k, k < n → m4 10 k - m4 11 k = iI (tkA l mc M nb ch k : Nat) := by
    intro k hk
    rw [k2 k hk, c4 10 (by decide) (by decide) (by decide) (by omega) (by omega), i32_ssc]
  have htkr : ∀ k, k < n → rg (iI (tkA l mc M nb ch k : Nat)) 0 10 := by
    intro k hk
    have h1 := tkA_le l mc M nb ch k
    have h2 := (uU_of (a4.1.2.2.2 k hk).2.2.2.2.2).2.2
    exact rg_iI (by omega) (by omega) (by omega) (by omega)
  have hH4 : bkH d n m4 m51 := by
    refine ⟨by rw [c4 4 (by decide) (by decide) (by decide) (by omega) (by omega)]; exact a4.1.2.1, by rw [G0 7 (by decide) (by decide) (by decide) (by decide) (by decide) (by decide)]; exact a4.2.1, a4.1.1, fun c x1 x2 => by rw [G1 c (by omega) (by omega) (by omega) (by omega) (by omega) (by omega), c4 c (by omega) (by omega) (by omega) (by omega) (by omega)]; exact a4.2.2.1 c x1 (by omega), fun k hk => ?_⟩
    have hr := a4.1.2.2.2 k hk
    rw [c4 5 (by decide) (by decide) (by decide) (by omega) (by omega), c4 6 (by decide) (by decide) (by decide) (by omega) (by omega), c4 7 (by decide) (by decide) (by decide) (by omega) (by omega), c4 8 (by decide) (by decide) (by decide) (by omega) (by omega), hused k hk, s1 k hk]
    exact ⟨hr.1, hr.2.1, hr.2.2.1, hr.2.2.2.1, rfl, htkr k hk⟩
  obtain ⟨t5, t63, g5, g63, i1, i2, i3, i4⟩ := sim_takeBids hd h51 hH4 hP4 hE4 hB4 ⟨by omega, by omega⟩
  obtain ⟨x5, m5⟩ := t5
  obtain ⟨x63, m63⟩ := t63
  have i1 : pcE d m5 m63 := i1
  have i2 : pB d (0 + 400) m5 := i2
  have i3 : fC d m4 m5 := i3
  have i4 : fM d m51 m63 := i4
  -- the blocks
  have e13 : m4 13 8 = mc 13 8 := k5 8 (by decide)
  have hH5 : blH d nb ch m5 m63 := by
    refine ⟨by rw [i3 13 (by omega) (by omega), e13]; exact a5.1.1, by rw [i4.1 0 (by decide) (by decide), G0 16 (by decide) (by decide) (by decide) (by decide) (by decide) (by decide)]; exact a5.2.1.1, hnb, by rw [i3 13 (by omega) (by omega)]; exact k1, by rw [i4.1 0 (by decide) (by decide), s4 0 (by decide) (by decide) (by decide) (by decide)]; exact F25, hch32, ?_⟩
    rw [i3 14 (by omega) (by omega), i3 15 (by omega) (by omega), i3 16 (by omega) (by omega), i3 17 (by omega) (by omega), i3 19 (by omega) (by omega), c4 14 (by decide) (by decide) (by decide) (by omega) (by omega), c4 15 (by decide) (by decide) (by decide) (by omega) (by omega), c4 16 (by decide) (by decide) (by decide) (by omega) (by omega), c4 17 (by decide) (by decide) (by decide) (by omega) (by omega), c4 19 (by decide) (by decide) (by decide) (by omega) (by omega), i4.1 13 (by decide) (by decide), i4.1 14 (by decide) (by decide), i4.1 15 (by decide) (by decide), i4.1 16 (by decide) (by decide), i4.1 18 (by decide) (by decide), G1 13 (by decide) (by decide) (by decide) (by decide) (by decide) (by decide), G1 14 (by decide) (by decide) (by decide) (by decide) (by decide) (by decide), G1 15 (by decide) (by decide) (by decide) (by decide) (by decide) (by decide), G1 16 (by decide) (by decide) (by decide) (by decide) (by decide) (by decide), G1 18 (by decide) (by decide) (by decide) (by decide) (by decide) (by decide)]
    refine ⟨a5.2.2.1, a5.2.2.2.1, a5.2.2.2.2.1, a5.2.2.2.2.2.1, a5.2.2.2.2.2.2.2.1, fun k hk => ?_⟩
    obtain ⟨y1, y2, y3, y4, y5⟩ := a5.1.2.1.2 k hk
    exact ⟨(a5.1.2.2 k hk).1, y1, y2, y3, y5⟩
  have hP5 : prE d m5 m63 := by
    intro i hi
    rw [i3 _ (by omega) (by omega), i4.1 41 (by decide) (by decide)]
    exact hP4 i hi
  have h63 : m63 0 0 = iI (d : Nat) := by rw [i4.1 0 (by decide) (by decide)]; exact h51
  obtain ⟨t6, t80, g6, g80, j1, j2, j3, j4⟩ := sim_takeBlocks hd h63 hH5 hP5 i1 i2 ⟨by omega, by omega⟩
  obtain ⟨x6, m6⟩ := t6
  obtain ⟨x80, m80⟩ := t80
  have j1 : pcE d m6 m80 := j1
  have j2 : pB d (0 + 400 + 200) m6 := j2
  have j3 : fC d m5 m6 := j3
  have j4 : fM d m63 m80 := j4
  have c6 : ∀ c, (c < 22 ∨ 43 < c) → c ≠ 11 → c ≠ 13 → c ≠ 69 + 16 * d + 1 → c ≠ 69 + 16 * d + 2 → c ≠ 69 + 16 * d + 3 → c ≠ 69 + 16 * d + 5 → m6 c = mc c := fun c h1 h2 h3 h4 h5 h6 h7 => by rw [j3 c h6 h7, i3 c h6 h7, c4 c h1 h2 h3 h4 h5]
  have c6b : ∀ c, c ≠ 69 + 16 * d + 3 → c ≠ 69 + 16 * d + 5 → m6 c = m4 c := fun c h6 h7 => by rw [j3 c h6 h7, i3 c h6 h7]
  have G8 : ∀ c, c ≠ 42 → c ≠ 45 → m80 c = m51 c := fun c h1 h2 => by rw [j4.1 c h1 h2, i4.1 c h1 h2]
  -- the rights
  have hA6 : akC m6 na MA := akC_fr a6.1 (fun c x1 x2 x3 => c6 c (by omega) (by omega) (by omega) (by omega) (by omega) (by omega) (by omega))
  have hM6 : akM m6 m80 na := by
    have hx := a6.2.1
    unfold akM at *
    rw [G8 0 (by decide) (by decide), G0 26 (by decide) (by decide) (by decide) (by decide) (by decide) (by decide), G8 21 (by decide) (by decide), G8 22 (by decide) (by decide), G8 23 (by decide) (by decide), G8 24 (by decide) (by decide), G8 25 (by decide) (by decide), G1 21 (by decide) (by decide) (by decide) (by decide) (by decide) (by decide), G1 22 (by decide) (by decide) (by decide) (by decide) (by decide) (by decide), G1 23 (by decide) (by decide) (by decide) (by decide) (by decide) (by decide), G1 24 (by decide) (by decide) (by decide) (by decide) (by decide) (by decide), G1 25 (by decide) (by decide) (by decide) (by decide) (by decide) (by decide), c6 46 (by decide) (by decide) (by decide) (by omega) (by omega) (by omega) (by omega), c6 47 (by decide) (by decide) (by decide) (by omega) (by omega) (by omega) (by omega), c6 54 (by decide) (by decide) (by decide) (by omega) (by omega) (by omega) (by omega), c6 51 (by decide) (by decide) (by decide) (by omega) (by omega) (by omega) (by omega), c6 50 (by decide) (by decide) (by decide) (by omega) (by omega) (by omega) (by omega)]
    exact hx
  have hl6 : liE m6 m80 := by
    intro k hk
    rw [c6 3 (by decide) (by decide) (by decide) (by omega) (by omega) (by omega) (by omega), G8 1 (by decide) (by decide), G1 1 (by decide) (by decide) (by decide) (by decide) (by decide) (by decide), (a3.1 k hk).1, (a3.2 k hk).1]
    have h1 := (a3.1 k hk).2.1
    have h2 := (a3.1 k hk).2.2
    exact ⟨rfl, rg_iI h1 h2 (by omega) (by omega)⟩
  have hP6 : prE d m6 m80 := by
    intro i hi
    rw [j3 _ (by omega) (by omega), j4.1 41 (by decide) (by decide)]
    exact hP5 i hi
  obtain ⟨t7, t106, g7, g106, ⟨q1, q2, q3, q4⟩, q5⟩ := sim_giveRights (mc := m6) (mm := m80) hd (by rw [G8 0 (by decide) (by decide)]; exact h51) hA6 hM6 hl6 hP6 j1.2 (fun k hk => by
    rw [c6 52 (by decide) (by decide) (by decide) (by omega) (by omega) (by omega) (by omega), c6 51 (by decide) (by decide) (by decide) (by omega) (by omega) (by omega) (by omega)]
    exact a6.2.2.1 rfl k hk)
  obtain ⟨x7, m7⟩ := t7
  obtain ⟨x106, m106⟩ := t106
  have q1 : csE d m7 m106 := q1
  have q2 : ∀ c, c ≠ 52 → c ≠ 69 + 16 * d + 5 → m7 c = m6 c := q2
  have q3 : ∀ c, c ≠ 26 → c ≠ 45 → m106 c = m80 c := q3
  have q4 : ∀ i, (i < 6 * d ∨ 6 * d + 6 ≤ i) → m106 45 i = m80 45 i := q4
  have q5 : ∀ k, k < na → m6 51 k - m7 52 k = m106 26 k := q5
  obtain ⟨n8, en8⟩ : ∃ n8, n8 = g_up m7 0 (upd (m7 0) 9 1) := ⟨_, rfl⟩
  obtain ⟨n117, en117⟩ : ∃ n117, n117 = g_up m106 0 (upd (m106 0) 1 1) := ⟨_, rfl⟩
  have c8 : ∀ c, c ≠ 0 → n8 c = m7 c := fun c hc => by rw [en8, g_up_ne _ _ hc]
  have H8 : ∀ c, c ≠ 0 → n117 c = m106 c := fun c hc => by rw [en117, g_up_ne _ _ hc]
  have H0 : ∀ k, k ≠ 1 → n117 0 k = m51 0 k := fun k hk => by rw [en117, g_up_at, updA, if_neg hk, q3 0 (by decide) (by decide), G8 0 (by decide) (by decide)]
  have C : ∀ c, c ≠ 0 → (c < 22 ∨ 43 < c) → c ≠ 11 → c ≠ 13 → c ≠ 52 → c ≠ 69 + 16 * d + 1 → c ≠ 69 + 16 * d + 2 → c ≠ 69 + 16 * d + 3 → c ≠ 69 + 16 * d + 5 → n8 c = mc c := fun c h0 h1 h2 h3 h52 h4 h5 h6 h7 => by rw [c8 c h0, q2 c h52 h7, c6 c h1 h2 h3 h4 h5 h6 h7]
  have Cb : ∀ c, c ≠ 0 → c ≠ 52 → c ≠ 69 + 16 * d + 3 → c ≠ 69 + 16 * d + 5 → n8 c = m4 c := fun c h0 h52 h6 h7 => by rw [c8 c h0, q2 c h52 h7, c6b c h6 h7]
  have D : ∀ c, c ≠ 0 → c ≠ 11 → c ≠ 12 → c ≠ 26 → c ≠ 41 → c ≠ 42 → c ≠ 45 → c ≠ 48 → (c < 49 ∨ 55 < c) → n117 c = mm c := fun c h0 h1 h2 h3 h4 h5 h6 h7 h8 => by rw [H8 c h0, q3 c h3 h6, G8 c h5 h6, G1 c h0 h1 h2 h4 h7 h8]
  have Db : ∀ c, c ≠ 0 → c ≠ 26 → c ≠ 42 → c ≠ 45 → n117 c = m51 c := fun c h0 h1 h2 h3 => by rw [H8 c h0, q3 c h1 h3, G8 c h2 h3]
  have D0 : ∀ k, k ≠ 1 → k ≠ 25 → k ≠ 58 → k ≠ 59 → k ≠ 65 → k ≠ 66 → k ≠ 67 → n117 0 k = mm 0 k := fun k h1 h2 h3 h4 h5 h6 h7 => by rw [H0 k h1, G0 k h2 h3 h4 h5 h6 h7]
  have C0 : ∀ k, k ≠ 9 → n8 0 k = mc 0 k := fun k hk => by
    rw [en8, g_up_at, updA, if_neg hk, q2 0 (by decide) (by omega), c6 0 (by decide) (by decide) (by decide) (by omega) (by omega) (by omega) (by omega)]
  have hbk8 : blkC n8 nb TO GR := blkC_fr a5.1 (by rw [Cb 13 (by decide) (by decide) (by omega) (by omega)]; exact e13) (fun c x1 x2 => C c (by omega) (by omega) (by omega) (by omega) (by omega) (by omega) (by omega) (by omega) (by omega))
  have hbd8 : bidsOk n8 n M := bids_fr a4.1 (fun c x1 x2 x3 => C c (by omega) (by omega) x3 (by omega) (by omega) (by omega) (by omega) (by omega) (by omega))
  have hus8 : ∀ k, k < n → n8 10 k - n8 11 k = iI (tkA l mc M nb ch k : Nat) := by
    intro k hk
    rw [Cb 10 (by decide) (by decide) (by omega) (by omega), Cb 11 (by decide) (by decide) (by omega) (by omega)]
    exact hused k hk
  have hwt := sp_worthTaken (m := n8) (t := fun k => (tkA l mc M nb ch k : Nat)) hbk8 (by rw [Cb 13 (by decide) (by decide) (by omega) (by omega)]; exact k1) hch32 hbd8.2.1 hn40 (fun k hk => (hbd8.2.2.2 k hk).2.2.2.1) hus8
  have hval : iI (isum nb (wT (n8 16) (n8 17) (n8 18) (n8 19) ch) + isum n (fun k => pvF n8 k * (tkA l mc M nb ch k : Nat))) = y22 := by
    have hws := worth_sum hDc (c := ch) hchp
    have hpv : pvF n8 = pvF mc := by
      funext k
      unfold pvF
      rw [C 8 (by decide) (by decide) (by decide) (by decide) (by decide) (by omega) (by omega) (by omega) (by omega), C 9 (by decide) (by decide) (by decide) (by decide) (by decide) (by omega) (by omega) (by omega) (by omega)]
    rw [v1, hpv, C 16 (by decide) (by decide) (by decide) (by decide) (by decide) (by omega) (by omega) (by omega) (by omega), C 17 (by decide) (by decide) (by decide) (by decide) (by decide) (by omega) (by omega) (by omega) (by omega), C 18 (by decide) (by decide) (by decide) (by decide) (by decide) (by omega) (by omega) (by omega) (by omega), C 19 (by decide) (by decide) (by decide) (by decide) (by decide) (by omega) (by omega) (by omega) (by omega)]
    unfold vlS wvI
    have hws : hwS (fun h => slR l mc M nb h (pt (mc 16) ch h nb)) 4 = some (isum n (fun k => pvF mc k * (tkA l mc M nb ch k : Nat))) := hws
    rw [hws]
  refine ⟨y22, n8, n117, ?_, ?_, ?_, ?_⟩
  · unfold f_X9_clear f_X9_takeBids f_X9_takeBlocks f_X9_giveRights f_X9_checkState
    have hs0 : mc 0 9 = 0 := hs1
    rw [hs0, if_pos rfl, ob_some, if_neg (by decide)]
    show ob (a_rf 10 69 16 (mc 0 8)) _ = _
    rw [hd1, a_rfI (by omega) (by omega) (by omega), ob_some, Int.toNat_natCast, e4, ob_some, g5]
    simp only [ob_sm, g6, g7, ← en8, hwt, hval]
  · unfold f_X10_clear
    have hs0 : mm 0 1 = 0 := hs2
    rw [hs0, if_neg (by decide), ob_some, ← e3, ob_some]
    have h67 : m3 0 67 = 0 := by rw [e3, g_up_at, updA, if_pos rfl]
    rw [h67, if_pos (by decide), g8]
    simp only [ob_sm, ← e18, g24, v2]
    rw [g40]
    simp only [ob_sm, g45, g51, g63, g80, g106, ← en117]
  · rw [H0 67 (by decide), s4 0 (by decide) (by decide) (by decide) (by decide), F0 67 (by decide) (by decide) (by decide) (by decide) (by decide), e3, g_up_at, updA, if_pos rfl]
  · have h48 : ∀ z, z < 3 → ∀ h, h < 4 → n117 48 (4 * z + h) = iI (nzF (cR l mc M nb ch h) z) := fun z hz h hh => by
      rw [Db 48 (by decide) (by decide) (by decide) (by decide)]
      exact (s2 z hz h hh).1
    refine ⟨⟨hd9, Nat.le_refl _, by rw [C0 8 (by decide)]; exact hd1, by rw [D0 0 (by decide) (by decide) (by decide) (by decide) (by decide) (by decide) (by decide)]; exact hd2, by rw [en8, g_up_at, updA, if_pos rfl]; rfl, by rw [en117, g_up_at, updA, if_pos rfl]; rfl⟩, rAcc_fr a2 (fun c x1 x2 => C c (by omega) (by omega) (by omega) (by omega) (by omega) (by omega) (by omega) (by omega) (by omega)) (fun c x1 x2 => D c (by omega) (by omega) (by omega) (by omega) (by omega) (by omega) (by omega) (by omega) (by omega)) (D0 6 (by decide) (by decide) (by decide) (by decide) (by decide) (by decide) (by decide)), rLim_fr a3 (C 3 (by decide) (by decide) (by decide) (by decide) (by decide) (by omega) (by omega) (by omega) (by omega)) (D 1 (by decide) (by decide) (by decide) (by decide) (by decide) (by decide) (by decide) (by decide) (by decide)), ?_, ?_, ?_, rOff_fr ⟨a7.1, a7.2.1, a7.2.2.1, a7.2.2.2.1, a7.2.2.2.2.1, a7.2.2.2.2.2.1, fun hx => absurd hx (by decide)⟩ (fun c x1 x2 => C c (by omega) (by omega) (by omega) (by omega) (by omega) (by omega) (by omega) (by omega) (by omega)) (D0 33 (by decide) (by decide) (by decide) (by decide) (by decide) (by decide) (by decide)) (fun c x1 x2 => D c (by omega) (by omega) (by omega) (by omega) (by omega) (by omega) (by omega) (by omega) (by omega)), ?_, ?_, ?_, rAid_fr a11 (fun j hj c x1 x2 => C c (by omega) (by omega) (by omega) (by omega) (by omega) (by omega) (by omega) (by omega) (by omega)) (fun c x1 x2 => D c (by omega) (by omega) (by omega) (by omega) (by omega) (by omega) (by omega) (by omega) (by omega)), ?_⟩
    · refine ⟨hbd8, by rw [D0 7 (by decide) (by decide) (by decide) (by decide) (by decide) (by decide) (by decide)]; exact a4.2.1, fun c x1 x2 => by rw [D c (by omega) (by omega) (by omega) (by omega) (by omega) (by omega) (by omega) (by omega) (by omega), C c (by omega) (by omega) (by omega) (by omega) (by omega) (by omega) (by omega) (by omega) (by omega)]; exact a4.2.2.1 c x1 x2, fun _ k hk => ?_⟩
      rw [hus8 k hk, Db 11 (by decide) (by decide) (by decide) (by decide), s1 k hk]
      exact ⟨rfl, htkr k hk⟩
    · refine ⟨hbk8, blkM_fr a5.2.1 (D0 16 (by decide) (by decide) (by decide) (by decide) (by decide) (by decide) (by decide)) (fun c x1 x2 => D c (by omega) (by omega) (by omega) (by omega) (by omega) (by omega) (by omega) (by omega) (by omega)), ?_⟩
      rw [D 13 (by decide) (by decide) (by decide) (by decide) (by decide) (by decide) (by decide) (by decide) (by decide), D 14 (by decide) (by decide) (by decide) (by decide) (by decide) (by decide) (by decide) (by decide) (by decide), D 15 (by decide) (by decide) (by decide) (by decide) (by decide) (by decide) (by decide) (by decide) (by decide), D 16 (by decide) (by decide) (by decide) (by decide) (by decide) (by decide) (by decide) (by decide) (by decide), D 17 (by decide) (by decide) (by decide) (by decide) (by decide) (by decide) (by decide) (by decide) (by decide), D 18 (by decide) (by decide) (by decide) (by decide) (by decide) (by decide) (by decide) (by decide) (by decide), C 14 (by decide) (by decide) (by decide) (by decide) (by decide) (by omega) (by omega) (by omega) (by omega), C 15 (by decide) (by decide) (by decide) (by decide) (by decide) (by omega) (by omega) (by omega) (by omega), C 16 (by decide) (by decide) (by decide) (by decide) (by decide) (by omega) (by omega) (by omega) (by omega), C 17 (by decide) (by decide) (by decide) (by decide) (by decide) (by omega) (by omega) (by omega) (by omega), C 18 (by decide) (by decide) (by decide) (by decide) (by decide) (by omega) (by omega) (by omega) (by omega), C 19 (by decide) (by decide) (by decide) (by decide) (by decide) (by omega) (by omega) (by omega) (by omega)]
      refine ⟨a5.2.2.1, a5.2.2.2.1, a5.2.2.2.2.1, a5.2.2.2.2.2.1, a5.2.2.2.2.2.2.1, a5.2.2.2.2.2.2.2.1, fun _ => ⟨ch, hch32, by rw [Cb 13 (by decide) (by decide) (by omega) (by omega)]; exact k1, ?_⟩⟩
      rw [H0 25 (by decide), s4 0 (by decide) (by decide) (by decide) (by decide)]
      exact F25
    · refine ⟨akC_fr a6.1 (fun c x1 x2 x3 => C c (by omega) (by omega) (by omega) (by omega) x3 (by omega) (by omega) (by omega) (by omega)), ?_, fun hx => absurd hx (by decide), fun _ k hk => ?_⟩
      · have hx := a6.2.1
        unfold akM at *
        rw [D0 26 (by decide) (by decide) (by decide) (by decide) (by decide) (by decide) (by decide), D 21 (by decide) (by decide) (by decide) (by decide) (by decide) (by decide) (by decide) (by decide) (by decide), D 22 (by decide) (by decide) (by decide) (by decide) (by decide) (by decide) (by decide) (by decide) (by decide), D 23 (by decide) (by decide) (by decide) (by decide) (by decide) (by decide) (by decide) (by decide) (by decide), D 24 (by decide) (by decide) (by decide) (by decide) (by decide) (by decide) (by decide) (by decide) (by decide), D 25 (by decide) (by decide) (by decide) (by decide) (by decide) (by decide) (by decide) (by decide) (by decide), C 46 (by decide) (by decide) (by decide) (by decide) (by decide) (by omega) (by omega) (by omega) (by omega), C 47 (by decide) (by decide) (by decide) (by decide) (by decide) (by omega) (by omega) (by omega) (by omega), C 54 (by decide) (by decide) (by decide) (by decide) (by decide) (by omega) (by omega) (by omega) (by omega), C 51 (by decide) (by decide) (by decide) (by decide) (by decide) (by omega) (by omega) (by omega) (by omega), C 50 (by decide) (by decide) (by decide) (by decide) (by decide) (by omega) (by omega) (by omega) (by omega)]
        exact hx
      · rw [c8 51 (by decide), q2 51 (by decide) (by omega), c8 52 (by decide), H8 26 (by decide)]
        exact q5 k hk
    · intro _
      refine ⟨?_, ?_⟩
      · refine spot12 (P := fun i => n8 (69 + 16 * d + 2) i = n117 48 i) ?_
        intro z hz h hh
        show n8 (69 + 16 * d + 2) (4 * z + h) = n117 48 (4 * z + h)
        rw [h48 z hz h hh, Cb _ (by omega) (by omega) (by omega) (by omega)]
        exact (k3 z hz h hh).1
      · intro h hh
        obtain ⟨w, a, b, hRR, hal, hf⟩ := hfe h hh
        have e0 := h48 0 (by decide) h hh
        have e1 := h48 1 (by decide) h hh
        have e2 := h48 2 (by decide) h hh
        have r := alw_rng hlr hal
        rw [show 4 * 0 + h = h by omega] at e0
        rw [show 4 * 1 + h = 4 + h by omega] at e1
        rw [show 4 * 2 + h = 8 + h by omega] at e2
        rw [e0, e1, e2, hRR]
        have hl8 : limC n8 l := by
          unfold limC
          rw [C 3 (by decide) (by decide) (by decide) (by decide) (by decide) (by omega) (by omega) (by omega) (by omega)]
          exact a3.1
        exact (sp_allows hl8 (a := a) (b := b) (c := -a - b) (by omega) (by omega) (by omega) (by omega) (by omega) (by omega)).1 hal
    · intro j hj
      by_cases hjd : j = d
      · subst hjd
        obtain ⟨y1, y2, y3, y4, y5, y6, y7⟩ := a9 j hj
        have y44 := y4 (Nat.le_refl _)
        have e44 : n117 44 = mm 44 := D 44 (by decide) (by decide) (by decide) (by decide) (by decide) (by decide) (by decide) (by decide) (by decide)
        have eo4 : n8 (69 + 16 * j + 4) = mc (69 + 16 * j + 4) := C _ (by omega) (by omega) (by omega) (by omega) (by omega) (by omega) (by omega) (by omega) (by omega)
        refine ⟨fun i hi => ?_, ⟨fun i hi => ?_, fun i hi => ?_⟩, fun i hi => ?_, fun _ i hi => ?_, fun i hi => ?_, ?_, fun i hi => ?_⟩
        · rw [Cb _ (by omega) (by omega) (by omega) (by omega), Db 41 (by decide) (by decide) (by decide) (by decide)]
          exact hP4 i hi
        · rw [c8 _ (by omega), q2 _ (by omega) (by omega), H8 42 (by decide), q3 42 (by decide) (by decide)]
          exact j1.1 i hi
        · rw [c8 _ (by omega), H8 45 (by decide)]
          exact q1 i hi
        · rw [e44, eo4, y44 i hi, if_neg (by decide), y3 i hi, y44 i hi, if_neg (by decide)]
        · rw [e44]
          exact y44 i hi
        · rw [C _ (by omega) (by omega) (by omega) (by omega) (by omega) (by omega) (by omega) (by omega) (by omega), D 46 (by decide) (by decide) (by decide) (by decide) (by decide) (by decide) (by decide) (by decide) (by decide)]
          exact y5 i hi
        · rw [C _ (by omega) (by omega) (by omega) (by omega) (by omega) (by omega) (by omega) (by omega) (by omega), D 47 (by decide) (by decide) (by decide) (by decide) (by decide) (by decide) (by decide) (by decide) (by decide)]
          exact y6
        · rw [eo4]
          exact y7 i hi
      · refine rDy_fr2 (a9 j hj) (fun c x1 x2 x3 => C c (by omega) (by omega) (by omega) (by omega) (by omega) (by omega) (by omega) (by omega) (by omega)) (fun c x1 x2 x3 => D c (by omega) (by omega) (by omega) (by omega) (by omega) (by omega) (by omega) (by omega) (by omega)) (fun i hi => ?_) (fun i hi => ?_) (fun i hi => ?_)
        · rw [Db 41 (by decide) (by decide) (by decide) (by decide), s3 _ (by omega), F1 41 (by decide) (by decide) (by decide) (by decide), f3 41 (by decide)]
        · rw [H8 42 (by decide), q3 42 (by decide) (by decide), j4.2.1 _ (by omega), i4.2.1 _ (by omega), G1 42 (by decide) (by decide) (by decide) (by decide) (by decide) (by decide)]
        · rw [H8 45 (by decide), q4 _ (by omega), j4.2.2 _ (by omega), i4.2.2 _ (by omega), G1 45 (by decide) (by decide) (by decide) (by decide) (by decide) (by decide)]
    · have hbd : ∀ B, 600 ≤ B → pB d B n8 := by
        intro B hB i hi
        rw [c8 _ (by omega), q2 _ (by omega) (by omega)]
        exact (pB_up j2 (by omega)) i hi
      have hoth : ∀ j B, j < 10 → j ≠ d → pB j B mc → pB j B n8 := by
        intro j B hj hjd hp i hi
        rw [C _ (by omega) (by omega) (by omega) (by omega) (by omega) (by omega) (by omega) (by omega) (by omega)]
        exact hp i hi
      refine ⟨fun j hj => ?_, fun _ => hbd _ (by omega), fun hx => absurd hx (by decide), fun j x1 x2 => hoth j _ x2 (by omega) (a10.2.2.2 j x1 x2)⟩
      by_cases hjd : j = d
      · subst hjd
        exact hbd _ (by omega)
      · exact hoth j _ hj hjd (a10.1 j hj)
    · refine ⟨fun z hz => ?_, ?_, ?_⟩
      · rw [Cb _ (by omega) (by omega) (by omega) (by omega), Cb _ (by omega) (by omega) (by omega) (by omega)]
        exact k6 z hz
      · rw [Db 49 (by decide) (by decide) (by decide) (by decide), s4 49 (by decide) (by decide) (by decide) (by decide)]
        exact F4950.1
      · rw [Db 50 (by decide) (by decide) (by decide) (by decide), s4 50 (by decide) (by decide) (by decide) (by decide)]
        exact F4950.2
