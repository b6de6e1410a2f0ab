theorem okS_0 {l : Nat → Int} {m0 : gM} {n : Nat} {M : List Nat} {nb : Nat} {TO GR : Nat → Int} (hD : cDat m0 l n M nb TO GR) : okS l m0 M nb TO GR 0 ∧ (∀ h, h < 4 → ∃ w a b, cR l m0 M nb 0 h = some (w, a, b) ∧ 0 ≤ w ∧ w ≤ 240000) := by
  have hlr : ∀ k, k < 3 → 0 ≤ l k ∧ l k ≤ 10 := fun k hk => (hD.1 k hk).2
  have hnb := hD.2.2.2.1.1
  have hR : ∀ h, h < 4 → ∃ w a b, cR l m0 M nb 0 h = some (w, a, b) ∧ 0 ≤ w ∧ w ≤ 240000 := by
    intro h hh
    have hb0 : ∀ z, BP m0 nb (pt (m0 16) 0 h nb) z = 0 := by
      intro z
      have hps := pt_spec (m0 16) 0 h nb hnb
      have : isum nb (unT (m0 15) (m0 17) (m0 19) (pt (m0 16) 0 h nb) z) = isum nb (fun _ => 0) := by
        apply isum_congr
        intro k hk
        unfold unT
        rw [if_neg]
        intro w
        have := ((hps.2 k (by omega)).1 w.1).2.1
        rw [Nat.zero_testBit] at this
        cases this
      have h0 := isum_rng (B := 0) (by omega) (t := fun _ => 0) nb (fun k _ => by omega)
      unfold BP
      rw [this]
      omega
    have hcr : ∀ z, z < 3 → crvOk (lsF m0 M h z) (lbF m0 M h z) := fun z _ => crv_of hD.2.1 _ _
    have hB := bestF_ok (FL l (WZ (lsF m0 M h) (lbF m0 M h) (BP m0 nb (pt (m0 16) 0 h nb))) (-1))
    have hB : BestOf _ Bx (cR l m0 M nb 0 h) := hB
    have hF : ∃ w, FL l (WZ (lsF m0 M h) (lbF m0 M h) (BP m0 nb (pt (m0 16) 0 h nb))) (-1) 0 0 = some w ∧ 0 ≤ w := by
      obtain ⟨w0, a0, b0⟩ := cw_0 (ls := lsF m0 M h 0) (lb := lbF m0 M h 0)
      obtain ⟨w1, a1, b1⟩ := cw_0 (ls := lsF m0 M h 1) (lb := lbF m0 M h 1)
      obtain ⟨w2, a2, b2⟩ := cw_0 (ls := lsF m0 M h 2) (lb := lbF m0 M h 2)
      refine ⟨w0 + w1 + w2, ?_, by omega⟩
      unfold FL FF
      rw [if_pos (alw_0 hlr)]
      show add3 (WZ (lsF m0 M h) (lbF m0 M h) (BP m0 nb (pt (m0 16) 0 h nb)) 0 0) (WZ (lsF m0 M h) (lbF m0 M h) (BP m0 nb (pt (m0 16) 0 h nb)) 1 0) (WZ (lsF m0 M h) (lbF m0 M h) (BP m0 nb (pt (m0 16) 0 h nb)) 2 (-0 - 0)) = _
      unfold WZ
      rw [hb0, hb0, hb0, show (0 : Int) - 0 = 0 from rfl, show (-0 - 0 - 0 : Int) = 0 from rfl, a0, a1, a2]
      rfl
    obtain ⟨w, e, hw⟩ := hF
    have hrr : cR l m0 M nb 0 h = none ∨ ∃ w a2 b2, cR l m0 M nb 0 h = some (w, a2, b2) ∧ -240000 ≤ w ∧ w ≤ 240000 := RS_rng hcr
    rcases hrr with q | ⟨w9, a, b, q, q1, q2⟩
    · rw [q] at hB
      have := hB 0 0 (by unfold Bx; omega)
      rw [e] at this
      cases this
    · rw [q] at hB
      have := hB.2.2 0 0 w (by unfold Bx; omega) e
      exact ⟨w9, a, b, q, by omega, q2⟩
  refine ⟨⟨?_, ?_, ?_⟩, hR⟩
  · intro k _ hb
    rw [Nat.zero_testBit] at hb
    cases hb
  · intro hn
    obtain ⟨w0, a0, b0, e0, _⟩ := hR 0 (by decide)
    obtain ⟨w1, a1, b1, e1, _⟩ := hR 1 (by decide)
    obtain ⟨w2, a2, b2, e2, _⟩ := hR 2 (by decide)
    obtain ⟨w3, a3, b3, e3, _⟩ := hR 3 (by decide)
    have s1 := hwS_succS (R := fun h => cR l m0 M nb 0 h) (n := 0) (a := 0) rfl e0
    have s2 := hwS_succS s1 e1
    have s3 := hwS_succS s2 e2
    have s4 := hwS_succS s3 e3
    have hn : hwS (fun h => cR l m0 M nb 0 h) 4 = none := hn
    rw [s4] at hn
    cases hn
  · intro ⟨k, _, hb, _⟩
    rw [Nat.zero_testBit] at hb
    cases hb
noncomputable def cho (l : Nat → Int) (m0 : gM) (M : List Nat) (nb : Nat) (TO GR : Nat → Int) : Nat := (bst (okS l m0 M nb TO GR) (vlS l m0 M nb) (2 ^ nb - 1)).1
theorem cho_ok {l : Nat → Int} {m0 : gM} {n : Nat} {M : List Nat} {nb : Nat} {TO GR : Nat → Int} (hD : cDat m0 l n M nb TO GR) : cho l m0 M nb TO GR < 2 ^ nb ∧ cho l m0 M nb TO GR < 32 ∧ okS l m0 M nb TO GR (cho l m0 M nb TO GR) ∧ ∀ h, h < 4 → cR l m0 M nb (cho l m0 M nb TO GR) h ≠ none := by
  have hnb := hD.2.2.2.1.1
  have h2n := (tb_sets nb (by omega)).2
  have h2p : 1 ≤ 2 ^ nb := Nat.one_le_two_pow
  have hi := bst_in (v := vlS l m0 M nb) (okS_0 hD).1 (2 ^ nb - 1)
  have e : (bst (okS l m0 M nb TO GR) (vlS l m0 M nb) (2 ^ nb - 1)).1 = cho l m0 M nb TO GR := rfl
  rw [e] at hi
  refine ⟨by omega, by omega, hi.2.1, fun h hh => ?_⟩
  have hp := hi.2.1.2.1
  intro hn
  apply hp
  have e9 := hwS_none (hwS_succN (R := fun h => cR l m0 M nb (cho l m0 M nb TO GR) h) hn) (3 - h)
  rw [show h + 1 + (3 - h) = 4 by omega] at e9
  exact e9
theorem sp_clearDay {m0 : gM} {l : Nat → Int} {n : Nat} {M : List Nat} {nb : Nat} {TO GR : Nat → Int} (hD : cDat m0 l n M nb TO GR) (hcv : crv0 m0) {o : Nat} (ho : 69 ≤ o) : T (f_X3_clearDay o m0) (fun m2 => m2 13 9 = iI (cho l m0 M nb TO GR : Nat) ∧ (∀ k, k < n → m2 11 k = m0 10 k - iI (tkA l m0 M nb (cho l m0 M nb TO GR) k : Nat)) ∧ (∀ z, z < 3 → ∀ h, h < 4 → m2 (o + 2) (4 * z + h) = iI (nzF (cR l m0 M nb (cho l m0 M nb TO GR) h) z) ∧ m2 (o + 1) (4 * z + h) = iI (cP l m0 M nb (cho l m0 M nb TO GR) h z)) ∧ (∀ c, (c < 22 ∨ 43 < c) → c ≠ 11 → c ≠ 13 → c ≠ o + 1 → c ≠ o + 2 → m2 c = m0 c) ∧ (∀ k, k ≠ 9 → m2 13 k = m0 13 k) ∧ crv0 m2) := by
  have hnb := hD.2.2.2.1.1
  unfold f_X3_clearDay
  refine T_ob (P := fun t => (∀ c, c ≠ 39 → t.2 c = m0 c) ∧ ∀ i, i < 128 → t.2 39 i = 0) ?_ ?_
  · refine T_run2 (f_X3_clearDay_L2) (fun k x m2 => x = iI (k : Nat) ∧ (∀ c, c ≠ 39 → m2 c = m0 c) ∧ ∀ i, i < k → m2 39 i = 0) _ 128 0 _ _ ⟨rfl, fun c _ => rfl, fun i hi => absurd hi (by omega)⟩ (Nat.zero_le _) (by omega) ?_
    intro k x m2 f hI hk hcont
    obtain ⟨e, h1, h2⟩ := hI
    subst e
    unfold f_X3_clearDay_L2
    rw [iI_nI, iI_le (by omega) (by omega) (by omega) (by omega)]
    by_cases c : ((128 : Nat) : Int) ≤ k
    · rw [if_pos c]
      have e : k = 128 := by omega
      subst e
      exact T_some ⟨h1, h2⟩
    · rw [if_neg c, a_zst_st (Or.inl rfl), a_stI (by omega) (by omega) (by omega), ob_some, Int.toNat_natCast]
      refine hcont (by omega) _ _ ⟨by rw [iL_1, iI_add]; rfl, fun c hc => by rw [g_up_ne _ _ hc]; exact h1 c hc, fun i hi => ?_⟩
      rw [g_up_at, updA]
      by_cases q : i = k
      · rw [if_pos q]
      · rw [if_neg q]; exact h2 i (by omega)
  · intro t ht
    obtain ⟨x, m4⟩ := t
    obtain ⟨h1, h2⟩ := ht
    have h1 : ∀ c, c ≠ 39 → m4 c = m0 c := h1
    have h2 : ∀ i, i < 128 → m4 39 i = 0 := h2
    refine T_obe (a := x) rfl (T_obe (a := m4) rfl ?_)
    refine T_ob (P := fun t => (∀ h, h < 4 → FND l m0 M nb t.2 h ∧ ∀ s, s < 2 ^ nb → alwS TO GR nb s → t.2 39 (32 * h + pt (m0 16) s h nb) = 1) ∧ (∀ c, (c < 22 ∨ 42 < c) → t.2 c = m0 c) ∧ crv0 t.2) ?_ ?_
    · refine T_run2 (f_X3_clearDay_L26) (fun k x m2 => x = iI (k : Nat) ∧ (∀ h, h < k → FND l m0 M nb m2 h ∧ ∀ s, s < 2 ^ nb → alwS TO GR nb s → m2 39 (32 * h + pt (m0 16) s h nb) = 1) ∧ (∀ h, k ≤ h → h < 4 → ∀ p, p < 32 → m2 39 (32 * h + p) = 0) ∧ (∀ c, (c < 22 ∨ 42 < c) → m2 c = m0 c) ∧ crv0 m2) _ 4 0 _ _ ⟨rfl, fun h hh => absurd hh (by omega), fun h _ hh p hp => h2 _ (by omega), fun c hc => h1 c (by omega), fun z hz => by rw [h1 _ (by omega), h1 _ (by omega)]; exact hcv z hz⟩ (Nat.zero_le _) (by omega) ?_
      intro k x m8 f hI hk hcont
      obtain ⟨e, g1, g2, g3, g4⟩ := hI
      subst e
      unfold f_X3_clearDay_L26
      rw [iL_4, iI_le (by omega) (by omega) (by omega) (by omega)]
      by_cases c : (4 : Int) ≤ k
      · rw [if_pos c]
        have e : k = 4 := by omega
        subst e
        exact T_some ⟨g1, g3, g4⟩
      · rw [if_neg c]
        refine T_ob (sp_searchHour hD (fun c hc => g3 c (Or.inl hc)) g4 (h := k) (by omega) (fun p hp => Or.inl (g2 k (Nat.le_refl _) (by omega) p hp))) ?_
        intro m12 hm12
        obtain ⟨s1, s2, s3, s4, s5⟩ := hm12
        refine hcont (by omega) _ _ ⟨by rw [iL_1, iI_add]; rfl, ?_, ?_, fun c hc => by rw [s4 c hc]; exact g3 c hc, s5⟩
        · intro h hh
          by_cases q : h = k
          · subst q; exact ⟨s1, s2⟩
          · have hg := g1 h (by omega)
            constructor
            · intro p hp
              have ho := s3 (32 * h + p) (by omega)
              rw [ho.1]
              rcases hg.1 p hp with u | u
              · exact Or.inl u
              · exact Or.inr ⟨u.1, SL_fr u.2 ho.2.1 ho.2.2⟩
            · intro s hs ha
              have hpt := (pt_spec (m0 16) s h nb hnb).1
              rw [(s3 _ (by omega)).1]
              exact hg.2 s hs ha
        · intro h hh h4 p hp
          rw [(s3 (32 * h + p) (by omega)).1]
          exact g2 h (by omega) h4 p hp
    · intro t ht
      obtain ⟨x9, m10⟩ := t
      obtain ⟨g1, g2, g3⟩ := ht
      have g1 : ∀ h, h < 4 → FND l m0 M nb m10 h ∧ ∀ s, s < 2 ^ nb → alwS TO GR nb s → m10 39 (32 * h + pt (m0 16) s h nb) = 1 := g1
      have g2 : ∀ c, (c < 22 ∨ 42 < c) → m10 c = m0 c := g2
      have g3 : crv0 m10 := g3
      refine T_obe (a := x9) rfl (T_obe (a := m10) rfl ?_)
      have hSL : ∀ s, s < 2 ^ nb → alwS TO GR nb s → ∀ h, h < 4 → SL m10 (32 * h + pt (m0 16) s h nb) (slR l m0 M nb h (pt (m0 16) s h nb)) (slP l m0 M nb h (pt (m0 16) s h nb)) := by
        intro s hs ha h hh
        have hg := g1 h hh
        have hpt := (pt_spec (m0 16) s h nb hnb).1
        rcases hg.1 _ hpt with u | u
        · rw [hg.2 s hs ha] at u
          exact absurd u (by decide)
        · exact u.2
      obtain ⟨r, er, hr1, hr2⟩ := sp_bestSet hD (fun c hc => g2 c (Or.inl hc)) hSL
      obtain ⟨r1, m14⟩ := r
      have hr1 : r1 = iI (cho l m0 M nb TO GR : Nat) := hr1
      have hr2 : ∀ c, c ≠ 43 → m14 c = m10 c := hr2
      subst hr1
      rw [er, ob_some, ob_some, ob_some, ob_some]
      obtain ⟨c1, c2, c3, c4⟩ := cho_ok hD
      generalize hch : cho l m0 M nb TO GR = ch at *
      have hr2 : ∀ c, c ≠ 43 → m14 c = m10 c := hr2
      generalize hm16 : g_up m14 13 (upd (m14 13) 9 (iI (ch : Nat))) = m16
      have k16 : ∀ c, c ≠ 13 → m16 c = m14 c := fun c hc => by rw [← hm16, g_up_ne _ _ hc]
      have k16b : m16 13 = upd (m14 13) 9 (iI (ch : Nat)) := by rw [← hm16, g_up_at]
      have f16 : ∀ c, (c < 22 ∨ 43 < c) → c ≠ 13 → m16 c = m0 c := fun c hc h13 => by rw [k16 c h13, hr2 c (by omega), g2 c (by omega)]
      have e13 : m14 13 = m0 13 := by rw [hr2 13 (by decide), g2 13 (by decide)]
      refine T_ob (P := fun t => (∀ k, k < n → t.2 11 k = m0 10 k - iI (tkA l m0 M nb ch k : Nat)) ∧ (∀ z, z < 3 → ∀ h, h < 4 → t.2 (o + 2) (4 * z + h) = iI (nzF (cR l m0 M nb ch h) z) ∧ t.2 (o + 1) (4 * z + h) = iI (cP l m0 M nb ch h z)) ∧ (∀ c, c ≠ 11 → (c < 27 ∨ 38 < c) → c ≠ o + 1 → c ≠ o + 2 → t.2 c = m16 c) ∧ crv0 t.2) ?_ ?_
      · refine T_run2 (f_X3_clearDay_L55 o) (fun k x m2 => x = iI (k : Nat) ∧ (∀ j, j < n → hnF m0 j < k → m2 11 j = m0 10 j - iI (tkA l m0 M nb ch j : Nat)) ∧ (∀ z, z < 3 → ∀ h, h < k → m2 (o + 2) (4 * z + h) = iI (nzF (cR l m0 M nb ch h) z) ∧ m2 (o + 1) (4 * z + h) = iI (cP l m0 M nb ch h z)) ∧ (∀ c, c ≠ 11 → (c < 27 ∨ 38 < c) → c ≠ o + 1 → c ≠ o + 2 → m2 c = m16 c) ∧ crv0 m2) _ 4 0 _ _ ⟨rfl, fun j _ hh => absurd hh (by omega), fun z _ h hh => absurd hh (by omega), fun c _ _ _ _ => rfl, fun z hz => by rw [k16 _ (by omega), hr2 _ (by omega), k16 _ (by omega), hr2 _ (by omega)]; exact g3 z hz⟩ (Nat.zero_le _) (by omega) ?_
        intro k x m18 f hI hk hcont
        obtain ⟨e, q1, q2, q3, q4⟩ := hI
        subst e
        unfold f_X3_clearDay_L55
        rw [iL_4, iI_le (by omega) (by omega) (by omega) (by omega)]
        by_cases c : (4 : Int) ≤ k
        · rw [if_pos c]
          have e : k = 4 := by omega
          subst e
          refine T_some ⟨fun j hj => q1 j hj ?_, q2, q3, q4⟩
          have := (hD.2.1.2.2.2 j hj).2.2.1
          unfold rg at this
          unfold hnF
          omega
        · rw [if_neg c]
          have hpt := (pt_spec (m0 16) ch k nb hnb).1
          have hSLk : SL m18 (32 * k + pt (m0 16) ch k nb) (cR l m0 M nb ch k) (cP l m0 M nb ch k) := by
            refine SL_fr (hSL ch c1 c3.1 k (by omega)) ?_ ?_
            · rw [q3 40 (by decide) (by decide) (by omega) (by omega), k16 40 (by decide), hr2 40 (by decide)]
            · intro z _
              rw [q3 41 (by decide) (by decide) (by omega) (by omega), k16 41 (by decide), hr2 41 (by decide), q3 42 (by decide) (by decide) (by omega) (by omega), k16 42 (by decide), hr2 42 (by decide)]
              exact ⟨rfl, rfl⟩
          refine T_ob (sp_takeHour (m := m18) hD (fun c h22 h11 h13 => by rw [q3 c h11 (by omega) (by omega) (by omega)]; exact f16 c (Or.inl h22) h13) ?_ (c := ch) ?_ c2 q4 ho (h := k) (by omega) hSLk (c4 k (by omega))) ?_
          · rw [q3 13 (by decide) (by decide) (by omega) (by omega), k16b, updA, if_neg (by decide), e13]
          · rw [q3 13 (by decide) (by decide) (by omega) (by omega), k16b, updA, if_pos rfl]
          · intro m22 hm22
            obtain ⟨s1, s2, s3, s4, s5⟩ := hm22
            refine hcont (by omega) _ _ ⟨by rw [iL_1, iI_add]; rfl, ?_, ?_, ?_, s5⟩
            · intro j hj hh
              rw [s1 j hj]
              by_cases u : hnF m0 j = k
              · rw [if_pos u]
              · rw [if_neg u]; exact q1 j hj (by omega)
            · intro z hz h hh
              by_cases u : h = k
              · subst u; exact s2 z hz
              · have := s3 (4 * z + h) (by omega)
                rw [this.1, this.2]
                exact q2 z hz h (by omega)
            · intro c d1 d2 d3 d4
              rw [s4 c d1 d2 d3 d4]
              exact q3 c d1 d2 d3 d4
      · intro t ht
        obtain ⟨x8, m20⟩ := t
        obtain ⟨q1, q2, q3, q4⟩ := ht
        have q3 : ∀ c, c ≠ 11 → (c < 27 ∨ 38 < c) → c ≠ o + 1 → c ≠ o + 2 → m20 c = m16 c := q3
        refine T_obe (a := x8) rfl (T_obe (a := m20) rfl (T_some ?_))
        have e20 : m20 13 = upd (m0 13) 9 (iI (ch : Nat)) := by rw [q3 13 (by decide) (by decide) (by omega) (by omega), k16b, e13]
        refine ⟨by rw [e20, updA, if_pos rfl], q1, q2, ?_, fun k hk9 => by rw [e20, updA, if_neg hk9], q4⟩
        intro c d1 d2 d3 d4 d5
        rw [q3 c d2 (by omega) d4 d5]
        exact f16 c d1 d3
