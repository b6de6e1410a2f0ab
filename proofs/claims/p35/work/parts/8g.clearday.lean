def nzF : Option (Int × Int × Int) → Nat → Int
  | none, _ => 0
  | some (_, a, b), z => if z = 0 then a else if z = 1 then b else -a - b
def cR (l : Nat → Int) (m0 : gM) (M : List Nat) (nb c h : Nat) : Option (Int × Int × Int) := slR l m0 M nb h (pt (m0 16) c h nb)
def cP (l : Nat → Int) (m0 : gM) (M : List Nat) (nb c h : Nat) : Nat → Int := slP l m0 M nb h (pt (m0 16) c h nb)
def mkF (l : Nat → Int) (m0 : gM) (M : List Nat) (nb c h z : Nat) : Int := nzF (cR l m0 M nb c h) z - BP m0 nb (pt (m0 16) c h nb) z
def qbF (l : Nat → Int) (m0 : gM) (M : List Nat) (nb c h z : Nat) : Nat := cwd (lsF m0 M h z) (lbF m0 M h z) (mkF l m0 M nb c h z)
def qsF (l : Nat → Int) (m0 : gM) (M : List Nat) (nb c h z : Nat) : Nat := (mkF l m0 M nb c h z + qbF l m0 M nb c h z).toNat
def znF (m0 : gM) (k : Nat) : Nat := (m0 6 k).toInt.toNat
def hnF (m0 : gM) (k : Nat) : Nat := (m0 7 k).toInt.toNat
theorem cR_feas {l : Nat → Int} (hlr : ∀ k, k < 3 → 0 ≤ l k ∧ l k ≤ 10) {m0 : gM} {M : List Nat} {nb c h : Nat} {w a b : Int} (hR : cR l m0 M nb c h = some (w, a, b)) : alw l a b (-a - b) ∧ (∀ z, z < 3 → -20 ≤ nzF (cR l m0 M nb c h) z ∧ nzF (cR l m0 M nb c h) z ≤ 20 ∧ -((lbF m0 M h z).length : Int) ≤ mkF l m0 M nb c h z ∧ mkF l m0 M nb c h z ≤ (lsF m0 M h z).length) ∧ add3 (cw (lsF m0 M h 0) (lbF m0 M h 0) (mkF l m0 M nb c h 0)) (cw (lsF m0 M h 1) (lbF m0 M h 1) (mkF l m0 M nb c h 1)) (cw (lsF m0 M h 2) (lbF m0 M h 2) (mkF l m0 M nb c h 2)) = some w := by
  have hB := bestF_ok (FL l (WZ (lsF m0 M h) (lbF m0 M h) (BP m0 nb (pt (m0 16) c h nb))) (-1))
  have hB : BestOf _ Bx (cR l m0 M nb c h) := hB
  rw [hR] at hB
  have hF := hB.2.1
  unfold FL FF at hF
  by_cases q : alw l a b (-a - b)
  · rw [if_pos q] at hF
    have hF : add3 (WZ (lsF m0 M h) (lbF m0 M h) (BP m0 nb (pt (m0 16) c h nb)) 0 a) (WZ (lsF m0 M h) (lbF m0 M h) (BP m0 nb (pt (m0 16) c h nb)) 1 b) (WZ (lsF m0 M h) (lbF m0 M h) (BP m0 nb (pt (m0 16) c h nb)) 2 (-a - b)) = some w := hF
    have hr := alw_rng hlr q
    obtain ⟨⟨w0, h0⟩, ⟨w1, h1⟩, ⟨w2, h2⟩⟩ := add3_some hF
    have e0 : nzF (cR l m0 M nb c h) 0 = a := by rw [hR]; rfl
    have e1 : nzF (cR l m0 M nb c h) 1 = b := by rw [hR]; rfl
    have e2 : nzF (cR l m0 M nb c h) 2 = -a - b := by rw [hR]; rfl
    refine ⟨q, ?_, ?_⟩
    · intro z hz
      have hz3 : z = 0 ∨ z = 1 ∨ z = 2 := by omega
      unfold mkF
      rcases hz3 with v | v | v
      · subst v; rw [e0]; exact ⟨hr.1, hr.2.1, cw_some h0⟩
      · subst v; rw [e1]; exact ⟨hr.2.2.1, hr.2.2.2.1, cw_some h1⟩
      · subst v; rw [e2]; exact ⟨hr.2.2.2.2.1, hr.2.2.2.2.2, cw_some h2⟩
    · unfold mkF
      rw [e0, e1, e2]
      exact hF
  · rw [if_neg q] at hF
    cases hF
theorem tkv_fr {m m0 : gM} {M : List Nat} {z h : Int32} {qb qs k : Nat} (hf : ∀ c, 5 ≤ c → c ≤ 10 → m c = m0 c) : tkv m M z h qb qs k = tkv m0 M z h qb qs k := by
  unfold tkv
  rw [(cz_frM (M := M) (z := z) (h := h) (b := 0) hf).1, (cz_frM (M := M) (z := z) (h := h) (b := 1) hf).1, hf 8 (by decide) (by decide)]
  have e : uU m = uU m0 := by unfold uU; rw [hf 10 (by decide) (by decide)]
  rw [e]
def tkA (l : Nat → Int) (m0 : gM) (M : List Nat) (nb c k : Nat) : Nat := tkv m0 M (m0 6 k) (m0 7 k) (qbF l m0 M nb c (hnF m0 k) (znF m0 k)) (qsF l m0 M nb c (hnF m0 k) (znF m0 k)) k
theorem sp_takeHour {m0 m : gM} {l : Nat → Int} {n : Nat} {M : List Nat} {nb : Nat} {TO GR : Nat → Int} (hD : cDat m0 l n M nb TO GR) (hf0 : ∀ c, c < 22 → c ≠ 11 → c ≠ 13 → m c = m0 c) (h13 : m 13 8 = m0 13 8) {c : Nat} (hc : m 13 9 = iI (c : Nat)) (hc32 : c < 32) (hcv : crv0 m) {h o : Nat} (ho : 69 ≤ o) (hh : h < 4) (hSL : SL m (32 * h + pt (m0 16) c h nb) (cR l m0 M nb c h) (cP l m0 M nb c h)) (hpos : cR l m0 M nb c h ≠ none) : T (f_X3_takeHour (iI (h : Nat)) o m) (fun m2 => (∀ k, k < n → m2 11 k = if hnF m0 k = h then m0 10 k - iI (tkA l m0 M nb c k : Nat) else m 11 k) ∧ (∀ z, z < 3 → m2 (o + 2) (4 * z + h) = iI (nzF (cR l m0 M nb c h) z) ∧ m2 (o + 1) (4 * z + h) = iI (cP l m0 M nb c h z)) ∧ (∀ i, i % 4 ≠ h → m2 (o + 2) i = m (o + 2) i ∧ m2 (o + 1) i = m (o + 1) i) ∧ (∀ c, c ≠ 11 → (c < 27 ∨ 38 < c) → c ≠ o + 1 → c ≠ o + 2 → m2 c = m c) ∧ crv0 m2) := by
  have hnb := hD.2.2.2.1.1
  have hbm : bidsOk m n M := bids_fr hD.2.1 (fun c c1 c2 c3 => hf0 c (by omega) c3 (by omega))
  have hkm : blkC m nb TO GR := blkC_fr hD.2.2 h13 (fun c c1 c2 => hf0 c (by omega) (by omega) (by omega))
  have hlr : ∀ k, k < 3 → 0 ≤ l k ∧ l k ≤ 10 := fun k hk => (hD.1 k hk).2
  have e16 : m 16 = m0 16 := hf0 16 (by decide) (by decide) (by decide)
  obtain ⟨w, a, b, hR⟩ : ∃ w a b, cR l m0 M nb c h = some (w, a, b) := by
    cases q : cR l m0 M nb c h with
    | none => exact absurd q hpos
    | some u => obtain ⟨w, a, b⟩ := u; exact ⟨w, a, b, rfl⟩
  have hfe := (cR_feas hlr hR).2.1
  have hpt := (pt_spec (m0 16) c h nb hnb).1
  unfold f_X3_takeHour
  rw [hc, sp_partIn hkm hc32 hh, e16, ob_some, sp_slotOf hkm hc32 hh, e16, ob_some]
  refine T_ob (sp_drawAll (h := h) hbm hcv) ?_
  intro m3 hm3
  obtain ⟨hcu, hf3⟩ := hm3
  have els : lsF m M h = lsF m0 M h ∧ lbF m M h = lbF m0 M h := lsF_fr M (fun c c1 c2 => hf0 c (by omega) (by omega) (by omega)) h
  rw [els.1, els.2] at hcu
  have hcr : ∀ z, z < 3 → crvOk (lsF m0 M h z) (lbF m0 M h z) := fun z _ => crv_of hD.2.1 _ _
  refine T_ob (P := fun t => (∀ k, k < n → t.2 11 k = if hnF m0 k = h then m0 10 k - iI (tkA l m0 M nb c k : Nat) else m 11 k) ∧ (∀ z, z < 3 → t.2 (o + 2) (4 * z + h) = iI (nzF (cR l m0 M nb c h) z) ∧ t.2 (o + 1) (4 * z + h) = iI (cP l m0 M nb c h z)) ∧ (∀ i, i % 4 ≠ h → t.2 (o + 2) i = m (o + 2) i ∧ t.2 (o + 1) i = m (o + 1) i) ∧ (∀ c, c ≠ 11 → (c < 27 ∨ 38 < c) → c ≠ o + 1 → c ≠ o + 2 → t.2 c = m c) ∧ crv0 t.2) ?_ (fun t ht => T_some ht)
  refine T_run2 (f_X3_takeHour_L45 o (iI (h : Nat)) (iI (pt (m0 16) c h nb : Nat)) (iI ((32 * h + pt (m0 16) c h nb : Nat) : Int))) (fun q x m5 => x = iI (q : Nat) ∧ (∀ k, k < n → m5 11 k = if hnF m0 k = h ∧ znF m0 k < q then m0 10 k - iI (tkA l m0 M nb c k : Nat) else m 11 k) ∧ (∀ z, z < q → m5 (o + 2) (4 * z + h) = iI (nzF (cR l m0 M nb c h) z) ∧ m5 (o + 1) (4 * z + h) = iI (cP l m0 M nb c h z)) ∧ (∀ i, i % 4 ≠ h → m5 (o + 2) i = m (o + 2) i ∧ m5 (o + 1) i = m (o + 1) i) ∧ (∀ c, c ≠ 11 → c ≠ o + 1 → c ≠ o + 2 → m5 c = m3 c)) _ 3 0 _ _ ?_ (Nat.zero_le _) (by omega) ?_
  · refine ⟨rfl, fun k _ => ?_, fun z hz => absurd hz (by omega), fun i _ => ?_, fun c _ _ _ => rfl⟩
    · rw [if_neg (by omega), hf3 11 (by decide)]
    · rw [hf3 _ (by omega), hf3 _ (by omega)]; exact ⟨rfl, rfl⟩
  · intro q x m5 f hI hk hcont
    obtain ⟨e, h1, h2, h3, h4⟩ := hI
    subst e
    have hf5 : ∀ c, c ≠ 11 → (c < 27 ∨ 38 < c) → c ≠ o + 1 → c ≠ o + 2 → m5 c = m c := fun c c1 c2 c3 c4 => by rw [h4 c c1 c3 c4, hf3 c (by omega)]
    unfold f_X3_takeHour_L45
    rw [iL_3, iI_le (by omega) (by omega) (by omega) (by omega)]
    by_cases cc : (3 : Int) ≤ q
    · rw [if_pos cc]
      have e : q = 3 := by omega
      subst e
      refine T_some ⟨fun k hk => ?_, h2, h3, hf5, crv0_of (fun z hz => Cur_fr (hcu z hz) (h4 _ (by omega) (by omega) (by omega)) (h4 _ (by omega) (by omega) (by omega)) (h4 _ (by omega) (by omega) (by omega)))⟩
      show m5 11 k = _
      rw [h1 k hk]
      have hzn : znF m0 k < 3 := by
        have := (hD.2.1.2.2.2 k hk).2.1
        unfold rg at this
        unfold znF
        omega
      by_cases u : hnF m0 k = h
      · rw [if_pos ⟨u, hzn⟩, if_pos u]
      · rw [if_neg (fun v => u v.1), if_neg u]
    · rw [if_neg cc]
      have hq3 : q < 3 := by omega
      have hkm5 : blkC m5 nb TO GR := blkC_fr hkm (by rw [hf5 13 (by decide) (by decide) (by omega) (by omega)]) (fun c c1 c2 => hf5 c (by omega) (by omega) (by omega) (by omega))
      have hbm5 : bidsOk m5 n M := bids_fr hbm (fun c c1 c2 c3 => hf5 c c3 (by omega) (by omega) (by omega))
      have hfr0 : ∀ c, 5 ≤ c → c ≤ 10 → m5 c = m0 c := fun c c1 c2 => by rw [hf5 c (by omega) (by omega) (by omega) (by omega), hf0 c (by omega) (by omega) (by omega)]
      have hfq := hfe q hq3
      have e3 : ((32 * h + pt (m0 16) c h nb : Nat) : Int) * 3 + (q : Nat) = ((3 * (32 * h + pt (m0 16) c h nb) + q : Nat) : Int) := by omega
      have e41 : m5 41 (3 * (32 * h + pt (m0 16) c h nb) + q) = iI (nzF (cR l m0 M nb c h) q) := by
        rw [hf5 41 (by decide) (by decide) (by omega) (by omega)]
        have := hSL.2.1 w a b hR
        rw [hR]
        have hz3 : q = 0 ∨ q = 1 ∨ q = 2 := by omega
        rcases hz3 with v | v | v
        · subst v; exact this.1
        · subst v; exact this.2.1
        · subst v; exact this.2.2
      have eBP : isum nb (unT (m5 15) (m5 17) (m5 19) (pt (m0 16) c h nb) q) = BP m0 nb (pt (m0 16) c h nb) q := by
        unfold BP
        rw [hf5 15 (by decide) (by decide) (by omega) (by omega), hf5 17 (by decide) (by decide) (by omega) (by omega), hf5 19 (by decide) (by decide) (by omega) (by omega), hf0 15 (by decide) (by decide) (by decide), hf0 17 (by decide) (by decide) (by decide), hf0 19 (by decide) (by decide) (by decide)]
      have hCq : Cur m5 (27 + 4 * q) (lsF m0 M h q) (lbF m0 M h q) := Cur_fr (hcu q hq3) (h4 _ (by omega) (by omega) (by omega)) (h4 _ (by omega) (by omega) (by omega)) (h4 _ (by omega) (by omega) (by omega))
      have emk : nzF (cR l m0 M nb c h) q - BP m0 nb (pt (m0 16) c h nb) q = mkF l m0 M nb c h q := rfl
      have l1 := (hcr q hq3).1
      have l2 := (hcr q hq3).2.1
      have hcd := cwd_rng (ls := lsF m0 M h q) (lb := lbF m0 M h q) hfq.2.2.1 hfq.2.2.2
      have eqb : cwd (lsF m0 M h q) (lbF m0 M h q) (mkF l m0 M nb c h q) = qbF l m0 M nb c h q := rfl
      have eqs : ((qsF l m0 M nb c h q : Nat) : Int) = mkF l m0 M nb c h q + qbF l m0 M nb c h q := by unfold qsF; rw [eqb] at hcd; omega
      rw [iI_mul, iI_add, e3, a_ldI (by omega) (by omega) (by omega), ob_some, Int.toNat_natCast, e41, sp_unitsOf hkm5 hpt, ob_some, eBP, iI_sub, emk, ob_some, a_rfI (by omega) (by omega) (by omega), ob_some, Int.toNat_natCast, sp_buysFor hCq (hcr q hq3) (by omega) (by omega), if_pos ⟨hfq.2.2.1, hfq.2.2.2⟩, eqb, ob_some]
      rw [eqb] at hcd
      have hne : ¬ iI (qbF l m0 M nb c h q : Nat) = -1 := by
        rw [iL_1, iI_neg, iI_eqP (by omega) (by omega) (by omega) (by omega)]; omega
      have esum : (qbF l m0 M nb c h q : Int) + mkF l m0 M nb c h q = (qsF l m0 M nb c h q : Nat) := by omega
      rw [if_neg hne, iI_add, esum]
      obtain ⟨m16, e16b, row, erow, hrow⟩ := sp_takeC (z := iI (q : Nat)) (h := iI (h : Nat)) hbm5 (qb := qbF l m0 M nb c h q) (qs := qsF l m0 M nb c h q) (by omega) (by omega)
      subst erow
      rw [e16b, ob_some, ob_some]
      unfold f_X9_spotOf
      rw [iL_4, iI_mul, iI_add, ob_some, a_stI (by omega) (by omega) (by omega), ob_some, ob_some, a_ldI (by omega) (by omega) (by omega), ob_some, a_stI (by omega) (by omega) (by omega), ob_some, Int.toNat_natCast, show (((q : Nat) : Int) * 4 + (h : Nat)).toNat = 4 * q + h by omega]
      rw [g_up_ne _ _ (show 42 ≠ o + 2 by omega), g_up_ne _ _ (show (42 : Nat) ≠ 11 by decide), hf5 42 (by decide) (by decide) (by omega) (by omega)]
      have e42 : m 42 (3 * (32 * h + pt (m0 16) c h nb) + q) = iI (cP l m0 M nb c h q) := hSL.2.2 q hq3
      rw [e42, g_up_ne _ _ (show o + 1 ≠ o + 2 by omega), g_up_ne _ _ (show o + 1 ≠ 11 by omega), g_up_ne _ _ (show o + 2 ≠ 11 by omega)]
      refine hcont hq3 _ _ ⟨by rw [iL_1, iI_add]; rfl, ?_, ?_, ?_, ?_⟩
      · intro k hk
        rw [g_up_ne _ _ (by omega), g_up_ne _ _ (by omega), g_up_at, hrow k hk, hfr0 6 (by decide) (by decide), hfr0 7 (by decide) (by decide), hfr0 10 (by decide) (by decide)]
        have hrk := hD.2.1.2.2.2 k hk
        have ez : m0 6 k = iI (znF m0 k : Nat) := (zN_of hrk.2.1).1
        have eh : m0 7 k = iI (hnF m0 k : Nat) := by
          unfold hnF
          have := hrk.2.2.1
          unfold rg at this
          rw [Int.toNat_of_nonneg (by omega), iI_of]
        have lz : znF m0 k < 3 := (zN_of hrk.2.1).2
        have lh : hnF m0 k < 4 := by
          have := hrk.2.2.1
          unfold rg at this
          unfold hnF
          omega
        by_cases u : m0 6 k = iI (q : Nat) ∧ m0 7 k = iI (h : Nat)
        · have uz : znF m0 k = q := by
            have := u.1
            rw [ez, iI_eqP (by omega) (by omega) (by omega) (by omega)] at this
            omega
          have uh : hnF m0 k = h := by
            have := u.2
            rw [eh, iI_eqP (by omega) (by omega) (by omega) (by omega)] at this
            omega
          rw [if_pos u, if_pos ⟨uh, by omega⟩, tkv_fr hfr0]
          unfold tkA
          rw [uh, uz, u.1, u.2]
        · rw [if_neg u, h1 k hk]
          by_cases v : hnF m0 k = h ∧ znF m0 k < q
          · rw [if_pos v, if_pos ⟨v.1, by omega⟩]
          · rw [if_neg v, if_neg]
            intro v2
            by_cases v3 : znF m0 k = q
            · exact u ⟨by rw [ez, v3], by rw [eh, v2.1]⟩
            · exact v ⟨v2.1, by omega⟩
      · intro z hz
        rw [g_up_ne _ _ (show o + 2 ≠ o + 1 by omega), g_up_at, g_up_at, updA, updA]
        by_cases v : z = q
        · subst v
          rw [if_pos rfl, if_pos rfl]
          exact ⟨rfl, rfl⟩
        · rw [if_neg (by omega), if_neg (by omega)]
          exact h2 z (by omega)
      · intro i hi
        rw [g_up_ne _ _ (show o + 2 ≠ o + 1 by omega), g_up_at, g_up_at, updA, updA, if_neg (by omega), if_neg (by omega)]
        exact h3 i hi
      · intro c c1 c2 c3
        rw [g_up_ne _ _ c2, g_up_ne _ _ c3, g_up_ne _ _ c1]
        exact h4 c c1 c2 c3
