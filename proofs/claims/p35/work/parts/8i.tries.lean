def eqR (m0 m : gM) : Prop := (∀ c, 5 ≤ c → c ≤ 10 → m c = m0 c) ∧ m 14 = m0 15 ∧ m 15 = m0 16 ∧ m 16 = m0 17 ∧ m 17 = m0 18 ∧ m 18 = m0 19
theorem eqR_fr {m0 m m2 : gM} (h : eqR m0 m) (hf : ∀ c, 5 ≤ c → c ≤ 18 → c ≠ 11 → c ≠ 12 → m2 c = m c) : eqR m0 m2 := by
  obtain ⟨h1, h2⟩ := h
  refine ⟨fun c c1 c2 => by rw [hf c c1 (by omega) (by omega) (by omega)]; exact h1 c c1 c2, ?_⟩
  rw [hf 14 (by decide) (by decide) (by decide) (by decide), hf 15 (by decide) (by decide) (by decide) (by decide), hf 16 (by decide) (by decide) (by decide) (by decide), hf 17 (by decide) (by decide) (by decide) (by decide), hf 18 (by decide) (by decide) (by decide) (by decide)]
  exact h2
theorem link_R {m0 m : gM} (he : eqR m0 m) {nb : Nat} (hnb : nb ≤ 5) (l : Nat → Int) (M : List Nat) (s h : Nat) : lsF m M h = lsF m0 M h ∧ lbF m M h = lbF m0 M h ∧ (fun z => bs (m 14) (m 15) (m 16) (m 18) nb s h z) = BP m0 nb (pt (m0 16) s h nb) := by
  obtain ⟨h1, h2, h3, h4, h5, h6⟩ := he
  refine ⟨(lsF_fr M h1 h).1, (lsF_fr M h1 h).2, ?_⟩
  funext z
  rw [h2, h3, h4, h6]
  exact (bs_pt hnb s h z).symm
def mDat (m0 m : gM) (l : Nat → Int) (n : Nat) (M : List Nat) (nb : Nat) (TO GR : Nat → Int) : Prop := limM m l ∧ bidsM m n M ∧ blkM m nb TO GR ∧ eqR m0 m ∧ ∀ z, z < 3 → ∀ h, h < 4 → Wm m (4 * z + h) (lsF m0 M h z) (lbF m0 M h z)
theorem mDat_fr {m0 m m2 : gM} {l : Nat → Int} {n : Nat} {M : List Nat} {nb : Nat} {TO GR : Nat → Int} (h : mDat m0 m l n M nb TO GR) (h7 : m2 0 7 = m 0 7) (h16 : m2 0 16 = m 0 16) (hf : ∀ c, c ≠ 0 → c ≠ 11 → c ≠ 12 → c ≠ 53 → c ≠ 54 → c ≠ 55 → m2 c = m c) : mDat m0 m2 l n M nb TO GR := by
  obtain ⟨a, b, c, d, e⟩ := h
  refine ⟨?_, bidsM_fr b h7 (fun c c1 c2 => hf c (by omega) (by omega) (by omega) (by omega) (by omega) (by omega)), blkM_fr c h16 (fun c c1 c2 => hf c (by omega) (by omega) (by omega) (by omega) (by omega) (by omega)), eqR_fr d (fun c c1 c2 c3 c4 => hf c (by omega) c3 c4 (by omega) (by omega) (by omega)), fun z hz h hh => Wm_fr (e z hz h hh) (hf 51 (by decide) (by decide) (by decide) (by decide) (by decide) (by decide)) (hf 52 (by decide) (by decide) (by decide) (by decide) (by decide) (by decide))⟩
  unfold limM
  rw [hf 1 (by decide) (by decide) (by decide) (by decide) (by decide) (by decide)]
  exact a
theorem vO_encN (r : Option (Int × Int × Int)) : encN (vO r) = mres r := by
  cases r with
  | none => rfl
  | some u => obtain ⟨w, a, b⟩ := u; rfl
def trF (m m2 : gM) : Prop := (∀ c, c ≠ 0 → c ≠ 53 → c ≠ 54 → c ≠ 55 → m2 c = m c) ∧ ∀ k, k ≠ 65 → k ≠ 66 → m2 0 k = m 0 k
theorem sp_tries {m0 m : gM} {l : Nat → Int} {n : Nat} {M : List Nat} {nb : Nat} {TO GR : Nat → Int} (hc0 : ∀ h z, crvOk (lsF m0 M h z) (lbF m0 M h z)) (hD : mDat m0 m l n M nb TO GR) {s : Nat} (hs : s < 32) : T (f_X10_tries (iI (s : Nat)) m) (fun r => trF m r.2 ∧ ((posS (cR l m0 M nb s) ∧ ¬ losS (srP (cP l m0 M nb s)) (m0 15) (m0 16) (m0 17) (m0 18) s nb → r.1 = iI (wvI (isum nb (wT (m0 16) (m0 17) (m0 18) (m0 19) s)) (cR l m0 M nb s)) ∧ ∀ z, z < 3 → ∀ h, h < 4 → r.2 53 (4 * z + h) = iI (BP m0 nb (pt (m0 16) s h nb) z) ∧ r.2 54 (4 * z + h) = iI (nzF (cR l m0 M nb s h) z) ∧ r.2 55 (4 * z + h) = iI (cP l m0 M nb s h z)) ∧ (¬ (posS (cR l m0 M nb s) ∧ ¬ losS (srP (cP l m0 M nb s)) (m0 15) (m0 16) (m0 17) (m0 18) s nb) → r.1 = iI (-1000000000)))) := by
  obtain ⟨hl, hbm, hkm, hE, hW⟩ := id hD
  have hnb := hkm.2.1.1
  have hE2 := hE.2
  unfold f_X10_tries
  obtain ⟨m1, e1, row, erow, hrow⟩ := sp_lays hkm hs
  subst erow
  rw [e1, ob_some]
  have hk1 : blkM (g_up m 53 row) nb TO GR := blkM_fr hkm (by rw [g_up_ne _ _ (by decide)]) (fun c c1 c2 => g_up_ne _ _ (by omega))
  rw [sp_worthOfBM hk1 hs, ob_some, g_up_ne _ _ (by decide), g_up_ne _ _ (by decide), g_up_ne _ _ (by decide), g_up_ne _ _ (by decide), hE2.2.1, hE2.2.2.1, hE2.2.2.2.1, hE2.2.2.2.2]
  generalize hWW : isum nb (wT (m0 16) (m0 17) (m0 18) (m0 19) s) = WW
  have hbase : ∀ z, z < 3 → ∀ h, h < 4 → row (4 * z + h) = iI (BP m0 nb (pt (m0 16) s h nb) z) := by
    intro z hz h hh
    rw [hrow z hz h hh]
    have := congrFun (link_R hE hnb l M s h).2.2 z
    rw [← this]
  have hHM : ∀ h, h < 4 → hourM (g_up m 53 row) h l (lsF m0 M h) (lbF m0 M h) (BP m0 nb (pt (m0 16) s h nb)) := by
    intro h hh
    refine ⟨?_, fun z hz => ⟨hc0 h z, Wm_fr (hW z hz h hh) (g_up_ne _ _ (by decide)) (g_up_ne _ _ (by decide)), ?_, ?_⟩⟩
    · unfold limM
      rw [g_up_ne _ _ (by decide)]
      exact hl
    · rw [g_up_at]; exact hbase z hz h hh
    · have hr : blkR (m0 15) (m0 16) (m0 17) (m0 18) (m0 19) nb := by
        have := hkm.2.1
        rw [hE2.1, hE2.2.1, hE2.2.2.1, hE2.2.2.2.1, hE2.2.2.2.2] at this
        exact this
      exact BP_rng hr _ _
  have hrng : ∀ h, cR l m0 M nb s h = none ∨ ∃ w a2 b2, cR l m0 M nb s h = some (w, a2, b2) ∧ -240000 ≤ w ∧ w ≤ 240000 := fun h => RS_rng (fun z _ => hc0 h z)
  refine T_oz (P := fun v => match v with | .inl t => (∃ v9, hwS (cR l m0 M nb s) 4 = some v9 ∧ t.1 = iI (WW + v9)) ∧ ((∀ c, c ≠ 0 → c ≠ 54 → c ≠ 55 → t.2.2 c = (g_up m 53 row) c) ∧ ∀ k, k ≠ 65 → k ≠ 66 → t.2.2 0 k = m 0 k) ∧ ∀ z, z < 3 → ∀ h, h < 4 → t.2.2 54 (4 * z + h) = iI (nzF (cR l m0 M nb s h) z) ∧ t.2.2 55 (4 * z + h) = iI (cP l m0 M nb s h z) | .inr r => r.1 = iI (-1000000000) ∧ hwS (cR l m0 M nb s) 4 = none ∧ (∀ c, c ≠ 0 → c ≠ 54 → c ≠ 55 → r.2 c = (g_up m 53 row) c) ∧ ∀ k, k ≠ 65 → k ≠ 66 → r.2 0 k = m 0 k) ?_ ?_ ?_
  · refine T_run3 (f_X10_tries_L13) (fun h x y m5 => y = iI (h : Nat) ∧ (∃ v9, hwS (cR l m0 M nb s) h = some v9 ∧ x = iI (WW + v9)) ∧ ((∀ c, c ≠ 0 → c ≠ 54 → c ≠ 55 → m5 c = (g_up m 53 row) c) ∧ ∀ k, k ≠ 65 → k ≠ 66 → m5 0 k = m 0 k) ∧ ∀ z, z < 3 → ∀ h2, h2 < h → m5 54 (4 * z + h2) = iI (nzF (cR l m0 M nb s h2) z) ∧ m5 55 (4 * z + h2) = iI (cP l m0 M nb s h2 z)) _ 4 0 _ _ _ ⟨rfl, ⟨0, rfl, by rw [Int.add_zero]⟩, ⟨fun c _ _ _ => rfl, fun k _ _ => by rw [g_up_ne _ _ (by decide)]⟩, fun z _ h2 hh => absurd hh (by omega)⟩ (Nat.zero_le _) (by omega) ?_
    intro h x y m5 f hI hk hcont
    obtain ⟨e2, ⟨v9, hv9, e3⟩, ⟨hf1, hf2⟩, hrw⟩ := hI
    subst e2
    subst e3
    unfold f_X10_tries_L13
    rw [iL_4, iI_le (by omega) (by omega) (by omega) (by omega)]
    by_cases c : (4 : Int) ≤ h
    · rw [if_pos c]
      have e : h = 4 := by omega
      subst e
      exact T_some ⟨⟨v9, hv9, rfl⟩, ⟨hf1, hf2⟩, hrw⟩
    · rw [if_neg c]
      have hh4 : h < 4 := by omega
      have hH5 : hourM m5 h l (lsF m0 M h) (lbF m0 M h) (BP m0 nb (pt (m0 16) s h nb)) := hourM_fr (hHM h hh4) (hf1 1 (by decide) (by decide) (by decide)) (hf1 51 (by decide) (by decide) (by decide)) (hf1 52 (by decide) (by decide) (by decide)) (hf1 53 (by decide) (by decide) (by decide))
      rw [iL_1, iI_neg]
      obtain ⟨r10, er, res, hB, er1, hms, hg1, hg2⟩ := sp_most hh4 hH5 (less := -1) (by omega) (by omega)
      obtain ⟨r10, m11⟩ := r10
      have eRS : res = cR l m0 M nb s h := Best_uniq hB (bestF_ok _)
      subst eRS
      have er1 : r10 = iI (mres (cR l m0 M nb s h)) := er1
      subst er1
      have hg1 : ∀ c, c ≠ 0 → m11 c = m5 c := hg1
      have hg2 : ∀ k, k ≠ 65 → k ≠ 66 → m11 0 k = m5 0 k := hg2
      have hms : mst m11 (cR l m0 M nb s h) := hms
      rw [er]
      refine T_obe rfl (T_obe (a := iI (mres (cR l m0 M nb s h))) rfl (T_obe (a := m11) rfl ?_))
      have hcl1 : ∀ m9 : gM, (∀ c, c ≠ 0 → c ≠ 54 → c ≠ 55 → m9 c = m11 c) → ∀ c, c ≠ 0 → c ≠ 54 → c ≠ 55 → m9 c = (g_up m 53 row) c := fun m9 h9 c c1 c2 c3 => by rw [h9 c c1 c2 c3, hg1 c c1, hf1 c c1 c2 c3]
      rcases hrng h with q | ⟨w, a, b, q, q1, q2⟩
      · have em : mres (cR l m0 M nb s h) = -1000000000 := by rw [q]; rfl
        rw [em, iL_1000000000, iI_neg, if_pos rfl]
        refine T_some ⟨rfl, ?_, hcl1 m11 (fun c _ _ _ => rfl), fun k k1 k2 => by show m11 0 k = _; rw [hg2 k k1 k2, hf2 k k1 k2]⟩
        have e9 := hwS_none (hwS_succN (R := cR l m0 M nb s) q) (3 - h)
        rw [show h + 1 + (3 - h) = 4 by omega] at e9
        exact e9
      · have em : mres (cR l m0 M nb s h) = w := by rw [q]; rfl
        rw [q] at hms
        rw [em, iL_1000000000, iI_neg, iI_eq (by omega) (by omega) (by omega) (by omega), if_neg (by omega), iI_add, ob_some, a_stI (by omega) (by omega) (by omega), ob_some, iI_add, a_stI (by omega) (by omega) (by omega), ob_some, iL_8, iI_add, a_stI (by omega) (by omega) (by omega), ob_some, Int.toNat_natCast, show ((4 : Int) + (h : Nat)).toNat = 4 + h by omega, show ((8 : Int) + (h : Nat)).toNat = 8 + h by omega]
        simp only [g_up_at, g_up_ne m11 _ (show (0 : Nat) ≠ 54 by decide), g_up2, hms.1, hms.2, iI_neg, iI_sub]
        generalize hm17 : g_up m11 54 (upd (upd (upd (m11 54) h (iI a)) (4 + h) (iI b)) (8 + h) (iI (-a - b))) = m17
        have k17 : ∀ c, c ≠ 54 → m17 c = m11 c := fun c hc => by rw [← hm17, g_up_ne _ _ hc]
        have k54 : (∀ z, z < 3 → m17 54 (4 * z + h) = iI (nzF (cR l m0 M nb s h) z)) ∧ ∀ i, i % 4 ≠ h → m17 54 i = m11 54 i := by
          rw [← hm17, g_up_at]
          constructor
          · intro z hz
            rw [updA, updA, updA, q]
            have hz3 : z = 0 ∨ z = 1 ∨ z = 2 := by omega
            rcases hz3 with v | v | v
            · subst v
              rw [if_neg (by omega), if_neg (by omega), if_pos (by omega)]
              rfl
            · subst v
              rw [if_neg (by omega), if_pos (by omega)]
              rfl
            · subst v
              rw [if_pos (by omega)]
              rfl
          · intro i hi
            rw [updA, updA, updA, if_neg (by omega), if_neg (by omega), if_neg (by omega)]
        refine T_ob (P := fun t => (∀ c, c ≠ 0 → c ≠ 55 → t.2 c = m17 c) ∧ (∀ k, k ≠ 65 → k ≠ 66 → t.2 0 k = m17 0 k) ∧ (∀ z, z < 3 → t.2 55 (4 * z + h) = iI (cP l m0 M nb s h z)) ∧ ∀ i, i % 4 ≠ h → t.2 55 i = m17 55 i) ?_ ?_
        · refine T_run2 (f_X10_tries_L85 (iI w) (iI (h : Nat))) (fun z9 x m9 => x = iI (z9 : Nat) ∧ (∀ c, c ≠ 0 → c ≠ 55 → m9 c = m17 c) ∧ (∀ k, k ≠ 65 → k ≠ 66 → m9 0 k = m17 0 k) ∧ (∀ z, z < z9 → m9 55 (4 * z + h) = iI (cP l m0 M nb s h z)) ∧ ∀ i, i % 4 ≠ h → m9 55 i = m17 55 i) _ 3 0 _ _ ⟨rfl, fun c _ _ => rfl, fun k _ _ => rfl, fun z hz => absurd hz (by omega), fun i _ => rfl⟩ (Nat.zero_le _) (by omega) ?_
          intro z9 x m19 f9 hI9 hk9 hcont9
          obtain ⟨e9, j1, j2, j3, j4⟩ := hI9
          subst e9
          unfold f_X10_tries_L85
          rw [iL_3, iI_le (by omega) (by omega) (by omega) (by omega)]
          by_cases c9 : (3 : Int) ≤ z9
          · rw [if_pos c9]
            have e : z9 = 3 := by omega
            subst e
            exact T_some ⟨j1, j2, j3, j4⟩
          · rw [if_neg c9]
            have hH9 : hourM m19 h l (lsF m0 M h) (lbF m0 M h) (BP m0 nb (pt (m0 16) s h nb)) := hourM_fr hH5 (by rw [j1 1 (by decide) (by decide), k17 1 (by decide), hg1 1 (by decide)]) (by rw [j1 51 (by decide) (by decide), k17 51 (by decide), hg1 51 (by decide)]) (by rw [j1 52 (by decide) (by decide), k17 52 (by decide), hg1 52 (by decide)]) (by rw [j1 53 (by decide) (by decide), k17 53 (by decide), hg1 53 (by decide)])
            obtain ⟨r23, es, res2, hB2, es1, _, hs1, hs2⟩ := sp_most hh4 hH9 (less := (z9 : Nat)) (by omega) (by omega)
            obtain ⟨r23, m24⟩ := r23
            have es1 : r23 = iI (mres res2) := es1
            subst es1
            have hs1 : ∀ c, c ≠ 0 → m24 c = m19 c := hs1
            have hs2 : ∀ k, k ≠ 65 → k ≠ 66 → m24 0 k = m19 0 k := hs2
            have eM : vO res2 = MS l (lsF m0 M h) (lbF m0 M h) (BP m0 nb (pt (m0 16) s h nb)) z9 := congrArg vO (Best_uniq hB2 (bestF_ok _))
            have eM2 : mres res2 = encN (MS l (lsF m0 M h) (lbF m0 M h) (BP m0 nb (pt (m0 16) s h nb)) z9) := by rw [← eM, vO_encN]
            have hMok := MS_ok (l := l) (base := BP m0 nb (pt (m0 16) s h nb)) (fun z (_ : z < 3) => hc0 h z) z9
            have hPR : cP l m0 M nb s h z9 = prc (cR l m0 M nb s h) (MS l (lsF m0 M h) (lbF m0 M h) (BP m0 nb (pt (m0 16) s h nb)) z9) := rfl
            generalize MS l (lsF m0 M h) (lbF m0 M h) (BP m0 nb (pt (m0 16) s h nb)) z9 = MM at *
            have hMr : -1000000000 ≤ encN MM ∧ encN MM ≤ 240000 := by
              cases MM with
              | none => exact ⟨by decide, by decide⟩
              | some v => have := hMok v rfl; exact ⟨by show -1000000000 ≤ v; omega, this.2⟩
            have hval : (if encN MM ≤ w then (0 : Int) else encN MM - w) = cP l m0 M nb s h z9 := by
              rw [hPR, q]
              cases MM with
              | none =>
                rw [if_pos (show encN none ≤ w by show -1000000000 ≤ w; omega)]
                rfl
              | some v =>
                show (if v ≤ w then (0 : Int) else v - w) = if v < w then 0 else v - w
                by_cases u : v ≤ w
                · rw [if_pos u]
                  by_cases u2 : v < w
                  · rw [if_pos u2]
                  · rw [if_neg u2]; omega
                · rw [if_neg u, if_neg (by omega)]
            have e4 : (4 : Int) * (z9 : Nat) + (h : Nat) = ((4 * z9 + h : Nat) : Int) := by omega
            rw [es]
            refine T_obe rfl (T_obe (a := iI (mres res2)) rfl (T_obe (a := m24) rfl ?_))
            rw [eM2, iI_le (by omega) (by omega) (by omega) (by omega), iI_sub, iL_0, ob_ite, iI_ite, hval, iL_4, iI_mul, iI_add, e4, a_stI (by omega) (by omega) (by omega), ob_some, Int.toNat_natCast]
            refine hcont9 (by omega) _ _ ⟨by rw [iL_1, iI_add]; rfl, ?_, ?_, ?_, ?_⟩
            · intro c c0 c5
              rw [g_up_ne _ _ c5, hs1 c c0]
              exact j1 c c0 c5
            · intro k k1 k2
              rw [g_up_ne _ _ (by decide), hs2 k k1 k2]
              exact j2 k k1 k2
            · intro z hz
              rw [g_up_at, updA]
              by_cases u : z = z9
              · subst u; rw [if_pos rfl]
              · rw [if_neg (by omega), hs1 55 (by decide)]
                exact j3 z (by omega)
            · intro i hi
              rw [g_up_at, updA, if_neg (by omega), hs1 55 (by decide)]
              exact j4 i hi
        · intro t ht
          obtain ⟨x9, m21⟩ := t
          obtain ⟨j1, j2, j3, j4⟩ := ht
          have j1 : ∀ c, c ≠ 0 → c ≠ 55 → m21 c = m17 c := j1
          have j4 : ∀ i, i % 4 ≠ h → m21 55 i = m17 55 i := j4
          have j3 : ∀ z, z < 3 → m21 55 (4 * z + h) = iI (cP l m0 M nb s h z) := j3
          have j2 : ∀ k, k ≠ 65 → k ≠ 66 → m21 0 k = m17 0 k := j2
          refine T_obe (a := x9) rfl (T_obe (a := m21) rfl ?_)
          refine hcont (by omega) _ _ _ ⟨by rw [iI_add]; rfl, ⟨v9 + w, hwS_succS hv9 q, by rw [Int.add_assoc]⟩, ⟨?_, ?_⟩, ?_⟩
          · exact hcl1 m21 (fun c c1 c2 c3 => by rw [j1 c c1 c3, k17 c c2])
          · intro k k1 k2
            rw [j2 k k1 k2, k17 0 (by decide), hg2 k k1 k2]
            exact hf2 k k1 k2
          · intro z hz h2 hh2
            by_cases u : h2 = h
            · subst u
              rw [j1 54 (by decide) (by decide)]
              exact ⟨k54.1 z hz, j3 z hz⟩
            · have := hrw z hz h2 (by omega)
              rw [j1 54 (by decide) (by decide), k54.2 _ (by omega), j4 _ (by omega), k17 55 (by decide), hg1 54 (by decide), hg1 55 (by decide)]
              exact this
  · intro t ht
    obtain ⟨t1, t2, m8⟩ := t
    obtain ⟨⟨v9, hv9, e9⟩, ⟨hf1, hf2⟩, hrw⟩ := ht
    have e9 : t1 = iI (WW + v9) := e9
    subst e9
    have hf1 : ∀ c, c ≠ 0 → c ≠ 54 → c ≠ 55 → m8 c = (g_up m 53 row) c := hf1
    have hf2 : ∀ k, k ≠ 65 → k ≠ 66 → m8 0 k = m 0 k := hf2
    have hrw : ∀ z, z < 3 → ∀ h, h < 4 → m8 54 (4 * z + h) = iI (nzF (cR l m0 M nb s h) z) ∧ m8 55 (4 * z + h) = iI (cP l m0 M nb s h z) := hrw
    refine T_obe (a := iI (WW + v9)) rfl (T_obe (a := t2) rfl (T_obe (a := m8) rfl ?_))
    have hk8 : blkM m8 nb TO GR := blkM_fr hkm (hf2 16 (by decide) (by decide)) (fun c c1 c2 => by rw [hf1 c (by omega) (by omega) (by omega), g_up_ne _ _ (by omega)])
    have hr8 : blkR (m0 15) (m0 16) (m0 17) (m0 18) (m0 19) nb := by
      have := hkm.2.1
      rw [hE2.1, hE2.2.1, hE2.2.2.1, hE2.2.2.2.1, hE2.2.2.2.2] at this
      exact this
    have e14 : m8 14 = m0 15 ∧ m8 15 = m0 16 ∧ m8 16 = m0 17 ∧ m8 17 = m0 18 := by
      rw [hf1 14 (by decide) (by decide) (by decide), hf1 15 (by decide) (by decide) (by decide), hf1 16 (by decide) (by decide) (by decide), hf1 17 (by decide) (by decide) (by decide), g_up_ne _ _ (by decide), g_up_ne _ _ (by decide), g_up_ne _ _ (by decide), g_up_ne _ _ (by decide)]
      exact ⟨hE2.1, hE2.2.1, hE2.2.2.1, hE2.2.2.2.1⟩
    have hgn : ∀ k, k < nb → gnS (fun i => m8 55 (0 + i)) (m8 14) (m8 15) (m8 16) (m8 17) k = gnS (srP (cP l m0 M nb s)) (m0 15) (m0 16) (m0 17) (m0 18) k := by
      intro k hk
      rw [e14.1, e14.2.1, e14.2.2.1, e14.2.2.2]
      refine gnS_congr hr8 hk (fun z hz h hh => ?_)
      show m8 55 (0 + (4 * z + h)) = _
      rw [Nat.zero_add, (hrw z hz h hh).2]
      unfold srP
      rw [show (4 * z + h) % 4 = h by omega, show (4 * z + h) / 4 = z by omega]
    have htr : trF m m8 := ⟨fun c c0 c1 c2 c3 => by rw [hf1 c c0 c2 c3, g_up_ne _ _ c1], hf2⟩
    have hpos : posS (cR l m0 M nb s) := by
      intro hn
      rw [hn] at hv9
      cases hv9
    have h53 : m8 53 = row := by rw [hf1 53 (by decide) (by decide) (by decide), g_up_at]
    refine T_oz (P := fun v => match v with | .inl _ => ¬ losS (srP (cP l m0 M nb s)) (m0 15) (m0 16) (m0 17) (m0 18) s nb | .inr r => r = (iI (-1000000000), m8) ∧ losS (srP (cP l m0 M nb s)) (m0 15) (m0 16) (m0 17) (m0 18) s nb) ?_ ?_ ?_
    · refine T_run (f_X10_tries_L141 m8 (iI (s : Nat))) (fun k x => x = iI (k : Nat) ∧ ¬ losS (srP (cP l m0 M nb s)) (m0 15) (m0 16) (m0 17) (m0 18) s k) _ nb 0 _ ⟨rfl, fun ⟨k, hk, _⟩ => absurd hk (by omega)⟩ (Nat.zero_le _) (by omega) ?_
      intro k x f hI hk hcont
      obtain ⟨e, hlo⟩ := hI
      subst e
      unfold f_X10_tries_L141
      rw [hk8.1, iI_le (by omega) (by omega) (by omega) (by omega)]
      by_cases c : (nb : Int) ≤ k
      · rw [if_pos c]
        have e : k = nb := by omega
        subst e
        exact T_some hlo
      · rw [if_neg c, tb_sh s hs k (by omega)]
        by_cases u : Nat.testBit s k = true
        · have hgm := sp_gainM hk8 (k := k) (a2 := 55) (n2 := 12) (fr := 0) (by omega) (by omega) (by omega)
          rw [iN_0] at hgm
          rw [if_pos u, if_pos rfl, hgm, ob_some, hgn k (by omega)]
          refine T_ite (fun d => ?_) (fun d => ?_)
          · exact hcont (by omega) _ ⟨by rw [iL_1, iI_add]; rfl, los_succ hlo (fun _ => d)⟩
          · refine T_some ⟨?_, k, by omega, u, d⟩
            rw [iL_1000000000, iI_neg]
        · rw [if_neg u, if_neg (by decide)]
          exact hcont (by omega) _ ⟨by rw [iL_1, iI_add]; rfl, los_succ hlo (fun h => absurd h u)⟩
    · intro a ha
      refine T_some ⟨htr, fun _ => ⟨?_, fun z hz h hh => ⟨by show m8 53 _ = _; rw [h53]; exact hbase z hz h hh, hrw z hz h hh⟩⟩, fun hn => absurd ⟨hpos, ha⟩ hn⟩
      show iI (WW + v9) = iI (wvI WW _)
      unfold wvI
      rw [hv9]
    · intro a ha
      obtain ⟨e, hlo⟩ := ha
      subst e
      exact T_some ⟨htr, fun hp => absurd hlo hp.2, fun _ => rfl⟩
  · intro r hr
    obtain ⟨h1, h2, h3, h4⟩ := hr
    refine T_some ⟨⟨fun c c0 c1 c2 c3 => by rw [h3 c c0 c2 c3, g_up_ne _ _ c1], h4⟩, fun hp => absurd h2 hp.1, fun _ => h1⟩
