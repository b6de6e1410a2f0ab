theorem sp_weighAllM {m0 m : gM} {n : Nat} {M : List Nat} (hc0 : ∀ h z, crvOk (lsF m0 M h z) (lbF m0 M h z)) (hcv : ∀ z h, crvOk (cz m M z h 0) (cz m M z h 1)) (hb : bidsM m n M) (he : ∀ c, 5 ≤ c → c ≤ 10 → m c = m0 c) (h49 : m 49 0 = iI 0) (h50 : m 50 0 = iI 0) : T (f_X10_clear_L28 f_fuel 0 m) (fun t => (∀ z, z < 3 → ∀ h, h < 4 → Wm t.2 (4 * z + h) (lsF m0 M h z) (lbF m0 M h z)) ∧ (∀ c, c ≠ 0 → c ≠ 12 → c ≠ 49 → c ≠ 50 → c ≠ 51 → c ≠ 52 → t.2 c = m c) ∧ (∀ k, k ≠ 58 → k ≠ 59 → t.2 0 k = m 0 k) ∧ t.2 49 0 = iI 0 ∧ t.2 50 0 = iI 0) := by
  have els : ∀ h, lsF m M h = lsF m0 M h ∧ lbF m M h = lbF m0 M h := fun h => lsF_fr M he h
  refine T_run2 (f_X10_clear_L28) (fun q x m2 => x = iI (q : Nat) ∧ (∀ z, z < q → ∀ h, h < 4 → Wm m2 (4 * z + h) (lsF m0 M h z) (lbF m0 M h z)) ∧ (∀ c, c ≠ 0 → c ≠ 12 → c ≠ 49 → c ≠ 50 → c ≠ 51 → c ≠ 52 → m2 c = m c) ∧ (∀ k, k ≠ 58 → k ≠ 59 → m2 0 k = m 0 k) ∧ m2 49 0 = iI 0 ∧ m2 50 0 = iI 0) _ 3 0 _ _ ⟨rfl, fun z hz => absurd hz (by omega), fun c _ _ _ _ _ _ => rfl, fun k _ _ => rfl, h49, h50⟩ (Nat.zero_le _) (by omega) ?_
  intro q x m6 f hI hk hcont
  obtain ⟨e, g1, g2, g3, g4, g5⟩ := hI
  subst e
  unfold f_X10_clear_L28
  rw [iL_3, iI_le (by omega) (by omega) (by omega) (by omega)]
  by_cases c : (3 : Int) ≤ q
  · rw [if_pos c]
    have e : q = 3 := by omega
    subst e
    exact T_some ⟨g1, g2, g3, g4, g5⟩
  · rw [if_neg c]
    refine T_ob (P := fun t => (∀ z, z < q + 1 → ∀ h, h < 4 → Wm t.2 (4 * z + h) (lsF m0 M h z) (lbF m0 M h z)) ∧ (∀ c, c ≠ 0 → c ≠ 12 → c ≠ 49 → c ≠ 50 → c ≠ 51 → c ≠ 52 → t.2 c = m c) ∧ (∀ k, k ≠ 58 → k ≠ 59 → t.2 0 k = m 0 k) ∧ t.2 49 0 = iI 0 ∧ t.2 50 0 = iI 0) ?_ ?_
    · refine T_run2 (f_X10_clear_L35 (iI (q : Nat))) (fun j x m2 => x = iI (j : Nat) ∧ (∀ z, z < 3 → ∀ h, h < 4 → (z < q ∨ (z = q ∧ h < j)) → Wm m2 (4 * z + h) (lsF m0 M h z) (lbF m0 M h z)) ∧ (∀ c, c ≠ 0 → c ≠ 12 → c ≠ 49 → c ≠ 50 → c ≠ 51 → c ≠ 52 → m2 c = m c) ∧ (∀ k, k ≠ 58 → k ≠ 59 → m2 0 k = m 0 k) ∧ m2 49 0 = iI 0 ∧ m2 50 0 = iI 0) _ 4 0 _ _ ⟨rfl, fun z hz h hh hzh => g1 z (by omega) h hh, g2, g3, g4, g5⟩ (Nat.zero_le _) (by omega) ?_
      intro j x m11 f9 hI9 hk9 hcont9
      obtain ⟨e9, j1, j2, j3, j4, j5⟩ := hI9
      subst e9
      unfold f_X10_clear_L35
      rw [iL_4, iI_le (by omega) (by omega) (by omega) (by omega)]
      by_cases c9 : (4 : Int) ≤ j
      · rw [if_pos c9]
        have e : j = 4 := by omega
        subst e
        exact T_some ⟨fun z hz h hh => j1 z (by omega) h hh (by omega), j2, j3, j4, j5⟩
      · rw [if_neg c9]
        obtain ⟨m15, e15, row, erow, hrow⟩ := sp_forgets (m := m11)
        subst erow
        rw [e15, ob_some]
        have hb15 : bidsM (g_up m11 12 row) n M := bidsM_fr hb (by rw [g_up_ne _ _ (by decide), j3 7 (by decide) (by decide)]) (fun c c1 c2 => by rw [g_up_ne _ _ (by omega), j2 c (by omega) (by omega) (by omega) (by omega) (by omega) (by omega)])
        have ecz : ∀ z h b, cz (g_up m11 12 row) M z h b = cz m M z h b := fun z h b => (cz_frM (fun c c1 c2 => by rw [g_up_ne _ _ (by omega), j2 c (by omega) (by omega) (by omega) (by omega) (by omega) (by omega)])).2
        obtain ⟨m16, e16, w1, w2, w3, w4, w5, w6⟩ := sp_weighs hb15 (fun z h => by rw [ecz, ecz]; exact hcv z h) (z := q) (h := j) (by omega) (by omega) (fun k hk => by rw [g_up_at]; exact hrow k hk) (by rw [g_up_ne _ _ (by decide)]; exact j4) (by rw [g_up_ne _ _ (by decide)]; exact j5)
        rw [e16, ob_some]
        rw [ecz, ecz] at w1
        have w1 : Wm m16 (4 * q + j) (lsF m M j q) (lbF m M j q) := w1
        rw [(els j).1, (els j).2] at w1
        refine hcont9 (by omega) _ _ ⟨by rw [iL_1, iI_add]; rfl, ?_, ?_, ?_, w4, w5⟩
        · intro z hz h hh hzh
          by_cases u : z = q ∧ h = j
          · rw [u.1, u.2]; exact w1
          · have hw := j1 z hz h hh (by omega)
            intro k hk
            have h6 := w6 (161 * (4 * z + h) + k) (by omega)
            rw [h6.1, h6.2, g_up_ne _ _ (by decide), g_up_ne _ _ (by decide)]
            exact hw k hk
        · intro c c0 c12 c49 c50 c51 c52
          rw [w2 c c0 c12 c49 c50 c51 c52, g_up_ne _ _ c12]
          exact j2 c c0 c12 c49 c50 c51 c52
        · intro k k1 k2
          rw [w3 k k1 k2, g_up_ne _ _ (by decide)]
          exact j3 k k1 k2
    · intro t ht
      obtain ⟨x9, m13⟩ := t
      refine T_obe (a := x9) rfl (T_obe (a := m13) rfl ?_)
      exact hcont (by omega) _ _ ⟨by rw [iL_1, iI_add]; rfl, ht⟩
theorem v0_ge {l : Nat → Int} {m0 : gM} {n : Nat} {M : List Nat} {nb : Nat} {TO GR : Nat → Int} (hD : cDat m0 l n M nb TO GR) : iI 0 ≤ vlS l m0 M nb 0 := by
  obtain ⟨_, hR⟩ := okS_0 hD
  obtain ⟨w0, a0, b0, e0, r0⟩ := hR 0 (by decide)
  obtain ⟨w1, a1, b1, e1, r1⟩ := hR 1 (by decide)
  obtain ⟨w2, a2, b2, e2, r2⟩ := hR 2 (by decide)
  obtain ⟨w3, a3, b3, e3, r3⟩ := hR 3 (by decide)
  have s1 := hwS_succS (R := fun h => cR l m0 M nb 0 h) (n := 0) (a := 0) rfl e0
  have s2 := hwS_succS s1 e1
  have s3 := hwS_succS s2 e2
  have s4 := hwS_succS s3 e3
  have s4 : hwS (fun h => slR l m0 M nb h (pt (m0 16) 0 h nb)) 4 = some (0 + w0 + w1 + w2 + w3) := s4
  have hw : isum nb (wT (m0 16) (m0 17) (m0 18) (m0 19) 0) = 0 := by
    have : isum nb (wT (m0 16) (m0 17) (m0 18) (m0 19) 0) = isum nb (fun _ => 0) := by
      apply isum_congr
      intro k hk
      unfold wT
      rw [if_neg]
      rw [Nat.zero_testBit]
      exact fun h => by cases h
    have h0 := isum_rng (B := 0) (by omega) (t := fun _ => 0) nb (fun k _ => by omega)
    rw [this]
    omega
  unfold vlS wvI
  rw [s4, hw]
  show iI 0 ≤ iI (0 + (0 + w0 + w1 + w2 + w3))
  rw [iI_leP (by omega) (by omega) (by omega) (by omega)]
  omega
theorem sp_setsM {m0 m : gM} {l : Nat → Int} {n : Nat} {M : List Nat} {nb : Nat} {TO GR : Nat → Int} (hDc : cDat m0 l n M nb TO GR) (hD : mDat m0 m l n M nb TO GR) : T (f_X10_clear_L72 f_fuel (-1000000000) 0 m) (fun t => t.1 = vlS l m0 M nb (cho l m0 M nb TO GR) ∧ t.2.2 0 25 = iI (cho l m0 M nb TO GR : Nat) ∧ (∀ c, c ≠ 0 → c ≠ 53 → c ≠ 54 → c ≠ 55 → t.2.2 c = m c) ∧ ∀ k, k ≠ 25 → k ≠ 65 → k ≠ 66 → t.2.2 0 k = m 0 k) := by
  have hnb := hDc.2.2.2.1.1
  have h2n := (tb_sets nb (by omega)).2
  have h2e := (tb_sets nb (by omega)).1
  have h2p : 1 ≤ 2 ^ nb := Nat.one_le_two_pow
  have hc0 : ∀ h z, crvOk (lsF m0 M h z) (lbF m0 M h z) := fun h z => crv_of hDc.2.1 _ _
  have hfin := (bst_in (v := vlS l m0 M nb) (okS_0 hDc).1 (2 ^ nb - 1)).2.2
  have hcho : (bst (okS l m0 M nb TO GR) (vlS l m0 M nb) (2 ^ nb - 1)).1 = cho l m0 M nb TO GR := rfl
  rw [hcho] at hfin
  generalize hN : 2 ^ nb = N at *
  rw [iL_1000000000, iI_neg]
  refine T_run3 (f_X10_clear_L72) (fun k x y m2 => y = iI (k : Nat) ∧ ((k = 0 ∧ x = iI (-1000000000)) ∨ ∃ j, k = j + 1 ∧ x = (bst (okS l m0 M nb TO GR) (vlS l m0 M nb) j).2 ∧ m2 0 25 = iI ((bst (okS l m0 M nb TO GR) (vlS l m0 M nb) j).1 : Nat)) ∧ (∀ c, c ≠ 0 → c ≠ 53 → c ≠ 54 → c ≠ 55 → m2 c = m c) ∧ ∀ k, k ≠ 25 → k ≠ 65 → k ≠ 66 → m2 0 k = m 0 k) _ N 0 _ _ _ ⟨rfl, Or.inl ⟨rfl, rfl⟩, fun c _ _ _ _ => rfl, fun k _ _ _ => rfl⟩ (Nat.zero_le _) (by omega) ?_
  intro k x y m21 f hI hk hcont
  obtain ⟨e, hx, hf1, hf2⟩ := hI
  subst e
  unfold f_X10_clear_L72
  have hD21 : mDat m0 m21 l n M nb TO GR := mDat_fr hD (hf2 7 (by decide) (by decide) (by decide)) (hf2 16 (by decide) (by decide) (by decide)) (fun c c0 _ _ c53 c54 c55 => hf1 c c0 c53 c54 c55)
  have hkm := hD21.2.2.1
  rw [hkm.1, h2e, iI_le (by omega) (by omega) (by omega) (by omega)]
  by_cases c : (N : Int) ≤ k
  · rw [if_pos c]
    have e : k = N := by omega
    subst e
    rcases hx with ⟨h0, _⟩ | ⟨j, hj, hx1, hx2⟩
    · omega
    · have ej : j = k - 1 := by omega
      subst ej
      refine T_some ⟨?_, by rw [← hcho]; exact hx2, hf1, hf2⟩
      rw [hx1]
      exact hfin
  · rw [if_neg c]
    obtain ⟨r26, er, hr⟩ := sp_isAllowedM hkm (s := k) (by omega)
    rw [er, ob_some]
    have hlow : x = iI (-1000000000) ∨ iI 0 ≤ x := by
      rcases hx with ⟨_, h0⟩ | ⟨j, _, hx1, _⟩
      · exact Or.inl h0
      · refine Or.inr ?_
        rw [hx1]
        exact i32_le_trans (v0_ge hDc) (bst_ge j)
    have hnev : iI (-1000000000) ≤ x := by
      rcases hlow with h | h
      · rw [h]; exact Int32.le_refl _
      · exact i32_le_trans (by rw [iI_leP (by omega) (by omega) (by omega) (by omega)]; omega) h
    have hmain : ∀ (z28 : Int32) (m29 : gM), trF m21 m29 → ((okS l m0 M nb TO GR k ∧ z28 = vlS l m0 M nb k) ∨ (¬ okS l m0 M nb TO GR k ∧ z28 = iI (-1000000000))) → T (ob (if z28 ≤ x then some (x, m29) else ob (some (g_up m29 0 (upd (m29 0) 25 (iI (k : Nat))))) fun m36 => some (z28, m36)) fun (t37 : Int32 × gM) => ob (some t37.1) fun x34 => ob (some t37.2) fun m35 => f_X10_clear_L72 f x34 (iI (k : Nat) + 1) m35) (fun t => t.1 = vlS l m0 M nb (cho l m0 M nb TO GR) ∧ t.2.2 0 25 = iI (cho l m0 M nb TO GR : Nat) ∧ (∀ c, c ≠ 0 → c ≠ 53 → c ≠ 54 → c ≠ 55 → t.2.2 c = m c) ∧ ∀ k, k ≠ 25 → k ≠ 65 → k ≠ 66 → t.2.2 0 k = m 0 k) := by
      intro z28 m29 htr hz
      have hF1 : ∀ c, c ≠ 0 → c ≠ 53 → c ≠ 54 → c ≠ 55 → m29 c = m c := fun c c0 c1 c2 c3 => by rw [htr.1 c c0 c1 c2 c3]; exact hf1 c c0 c1 c2 c3
      have hF2 : ∀ k, k ≠ 25 → k ≠ 65 → k ≠ 66 → m29 0 k = m 0 k := fun k k0 k1 k2 => by rw [htr.2 k k1 k2]; exact hf2 k k0 k1 k2
      by_cases cc : z28 ≤ x
      · rw [if_pos cc]
        refine T_obe rfl (T_obe (a := x) rfl (T_obe (a := m29) rfl ?_))
        refine hcont (by omega) _ _ _ ⟨by rw [iL_1, iI_add]; rfl, ?_, hF1, hF2⟩
        rcases hx with ⟨h0, hxe⟩ | ⟨j, hj, hx1, hx2⟩
        · exfalso
          subst h0
          rcases hz with ⟨_, hz⟩ | ⟨hno, _⟩
          · have := v0_ge hDc
            rw [hz, hxe] at cc
            have h9 := i32_le_trans this cc
            rw [iI_leP (by omega) (by omega) (by omega) (by omega)] at h9
            omega
          · exact hno (okS_0 hDc).1
        · refine Or.inr ⟨k, rfl, ?_⟩
          have eb : bst (okS l m0 M nb TO GR) (vlS l m0 M nb) k = bst (okS l m0 M nb TO GR) (vlS l m0 M nb) j := by
            rw [hj]
            apply bst_neg
            intro ⟨w1, w2⟩
            rw [← hj] at w1 w2
            rcases hz with ⟨_, hz⟩ | ⟨hno, _⟩
            · rw [hz, hx1] at cc
              exact i32_not_le.2 w2 cc
            · exact hno w1
          rw [eb]
          exact ⟨hx1, by rw [htr.2 25 (by decide) (by decide)]; exact hx2⟩
      · rw [if_neg cc, ob_some]
        refine T_obe rfl (T_obe (a := z28) rfl (T_obe (a := g_up m29 0 (upd (m29 0) 25 (iI (k : Nat)))) rfl ?_))
        refine hcont (by omega) _ _ _ ⟨by rw [iL_1, iI_add]; rfl, ?_, fun c c0 c1 c2 c3 => by rw [g_up_ne _ _ c0]; exact hF1 c c0 c1 c2 c3, fun k k0 k1 k2 => by rw [g_up_at, updA, if_neg k0]; exact hF2 k k0 k1 k2⟩
        rcases hz with ⟨hok, hz⟩ | ⟨_, hz⟩
        · refine Or.inr ⟨k, rfl, ?_⟩
          have e25 : (g_up m29 0 (upd (m29 0) 25 (iI (k : Nat)))) 0 25 = iI (k : Nat) := by rw [g_up_at, updA, if_pos rfl]
          rw [e25]
          rcases hx with ⟨h0, hxe⟩ | ⟨j, hj, hx1, hx2⟩
          · subst h0
            exact ⟨hz, rfl⟩
          · have eb : bst (okS l m0 M nb TO GR) (vlS l m0 M nb) k = (k, vlS l m0 M nb k) := by
              rw [hj]
              apply bst_pos
              rw [← hj]
              rw [hz, hx1] at cc
              exact ⟨hok, i32_not_le.1 cc⟩
            rw [eb]
            exact ⟨hz, rfl⟩
        · rw [hz] at cc
          exact absurd hnev cc
    rcases hr with ⟨e1, ha⟩ | ⟨e0, ha⟩
    · subst e1
      rw [if_neg (by decide)]
      obtain ⟨w32, ew, htr, hy, hn⟩ := sp_tries hc0 hD21 (s := k) (by omega)
      obtain ⟨r30, m31⟩ := w32
      rw [ew]
      refine T_obe (a := (r30, m31)) rfl (T_obe (a := r30) rfl (T_obe (a := m31) rfl ?_))
      refine hmain r30 m31 htr ?_
      by_cases q : posS (cR l m0 M nb k) ∧ ¬ losS (srP (cP l m0 M nb k)) (m0 15) (m0 16) (m0 17) (m0 18) k nb
      · exact Or.inl ⟨⟨ha, q⟩, (hy q).1⟩
      · exact Or.inr ⟨fun w => q w.2, hn q⟩
    · subst e0
      rw [if_pos rfl]
      refine T_obe (a := (-1000000000, m21)) rfl (T_obe (a := -1000000000) rfl (T_obe (a := m21) rfl ?_))
      rw [iL_1000000000, iI_neg]
      exact hmain (iI (-1000000000)) m21 ⟨fun c _ _ _ _ => rfl, fun k _ _ => rfl⟩ (Or.inr ⟨fun w => ha w.1, rfl⟩)
