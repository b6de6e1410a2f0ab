def BP (m : gM) (nb p : Nat) (z : Nat) : Int := isum nb (unT (m 15) (m 17) (m 19) p z)
theorem BP_rng {Z H B P U : Nat → Int32} {nb : Nat} (hr : blkR Z H B P U nb) (p z : Nat) : -50 ≤ isum nb (unT Z B U p z) ∧ isum nb (unT Z B U p z) ≤ 50 := by
  have := isum_rng (B := 10) (by omega) (t := unT Z B U p z) nb (fun k hk => by
    unfold unT
    by_cases c : Nat.testBit p k = true ∧ Z k = iI (z : Nat)
    · rw [if_pos c]; exact uT_rng hr hk
    · rw [if_neg c]; omega)
  have h5 := hr.1
  omega
def slR (l : Nat → Int) (m0 : gM) (M : List Nat) (nb h p : Nat) : Option (Int × Int × Int) := RS l (lsF m0 M h) (lbF m0 M h) (BP m0 nb p)
def slP (l : Nat → Int) (m0 : gM) (M : List Nat) (nb h p : Nat) : Nat → Int := PR l (lsF m0 M h) (lbF m0 M h) (BP m0 nb p)
def FND (l : Nat → Int) (m0 : gM) (M : List Nat) (nb : Nat) (m : gM) (h : Nat) : Prop := ∀ p, p < 32 → m 39 (32 * h + p) = 0 ∨ (m 39 (32 * h + p) = 1 ∧ SL m (32 * h + p) (slR l m0 M nb h p) (slP l m0 M nb h p))
def cDat (m : gM) (l : Nat → Int) (n : Nat) (M : List Nat) (nb : Nat) (TO GR : Nat → Int) : Prop := limC m l ∧ bidsOk m n M ∧ blkC m nb TO GR
theorem cDat_fr {m m2 : gM} {l : Nat → Int} {n : Nat} {M : List Nat} {nb : Nat} {TO GR : Nat → Int} (h : cDat m l n M nb TO GR) (hf : ∀ c, c < 22 → m2 c = m c) : cDat m2 l n M nb TO GR := by
  refine ⟨?_, bids_fr h.2.1 (fun c c1 c2 _ => hf c (by omega)), blkC_fr h.2.2 (by rw [hf 13 (by decide)]) (fun c c1 c2 => hf c (by omega))⟩
  unfold limC
  rw [hf 3 (by decide)]
  exact h.1
def crv0 (m : gM) : Prop := ∀ z, z < 3 → m (28 + 4 * z) 0 = iI 0 ∧ m (29 + 4 * z) 0 = iI 0
theorem crv0_of {m : gM} {ls lb : Nat → List Int} (h : ∀ z, z < 3 → Cur m (27 + 4 * z) (ls z) (lb z)) : crv0 m := by
  intro z hz
  obtain ⟨_, _, a, b⟩ := h z hz
  have a := a 0 (Nat.zero_le _)
  have b := b 0 (Nat.zero_le _)
  rw [show 27 + 4 * z + 1 = 28 + 4 * z by omega, pf_0] at a
  rw [show 27 + 4 * z + 2 = 29 + 4 * z by omega, pf_0] at b
  exact ⟨a, b⟩
theorem sp_slotOf {m : gM} {nb : Nat} {TO GR : Nat → Int} (hb : blkC m nb TO GR) {s h : Nat} (hs : s < 32) (hh : h < 4) : f_X3_slotOf (iI (s : Nat)) (iI (h : Nat)) m = some (iI ((32 * h + pt (m 16) s h nb : Nat) : Int)) := by
  unfold f_X3_slotOf
  rw [sp_partIn hb hs hh, ob_some, iL_32, iI_mul, iI_add]
  congr 2
  omega
theorem sp_setCount {m : gM} {nb : Nat} {TO GR : Nat → Int} (hb : blkC m nb TO GR) : f_X3_setCount m = some (iI ((2 ^ nb : Nat) : Int)) := by
  unfold f_X3_setCount
  have h5 := hb.2.1.1
  have t := tb_sets nb (by omega)
  rw [hb.1, t.1]
  have t2 := t.2
  generalize 2 ^ nb = N at t2 ⊢
  rw [iL_32, a_minI (by omega) (by omega) (by omega) (by omega), Int.min_eq_right (by omega)]
theorem SL_fr {m m2 : gM} {slot : Nat} {res : Option (Int × Int × Int)} {p : Nat → Int} (h : SL m slot res p) (h0 : m2 40 slot = m 40 slot) (h1 : ∀ z, z < 3 → m2 41 (3 * slot + z) = m 41 (3 * slot + z) ∧ m2 42 (3 * slot + z) = m 42 (3 * slot + z)) : SL m2 slot res p := by
  refine ⟨by rw [h0]; exact h.1, fun w a b hr => ?_, fun z hz => by rw [(h1 z hz).2]; exact h.2.2 z hz⟩
  have := h.2.1 w a b hr
  have a0 := (h1 0 (by decide)).1
  rw [Nat.add_zero] at a0
  rw [a0, (h1 1 (by decide)).1, (h1 2 (by decide)).1]
  exact this
theorem sp_searchHour {m0 m : gM} {l : Nat → Int} {n : Nat} {M : List Nat} {nb : Nat} {TO GR : Nat → Int} (hD : cDat m0 l n M nb TO GR) (hf0 : ∀ c, c < 22 → m c = m0 c) (hcv : crv0 m) {h : Nat} (hh : h < 4) (hF : FND l m0 M nb m h) : T (f_X3_searchHour (iI (h : Nat)) m) (fun m2 => FND l m0 M nb m2 h ∧ (∀ s, s < 2 ^ nb → alwS TO GR nb s → m2 39 (32 * h + pt (m0 16) s h nb) = 1) ∧ (∀ slot, (slot < 32 * h ∨ 32 * h + 32 ≤ slot) → m2 39 slot = m 39 slot ∧ m2 40 slot = m 40 slot ∧ ∀ z, z < 3 → m2 41 (3 * slot + z) = m 41 (3 * slot + z) ∧ m2 42 (3 * slot + z) = m 42 (3 * slot + z)) ∧ (∀ c, (c < 22 ∨ 42 < c) → m2 c = m c) ∧ crv0 m2) := by
  have hDm : cDat m l n M nb TO GR := cDat_fr hD hf0
  have hnb := hD.2.2.2.1.1
  unfold f_X3_searchHour
  refine T_ob (sp_drawAll hDm.2.1 hcv) ?_
  intro m1 hm1
  obtain ⟨hc1, hf1⟩ := hm1
  have els : lsF m M h = lsF m0 M h ∧ lbF m M h = lbF m0 M h := lsF_fr M (fun c _ c2 => hf0 c (by omega)) h
  rw [els.1, els.2] at hc1
  have hcr : ∀ z, z < 3 → crvOk (lsF m0 M h z) (lbF m0 M h z) := fun z _ => crv_of hD.2.1 _ _
  refine T_ob (sp_weighAll (fun z hz => ⟨hc1 z hz, hcr z hz⟩)) ?_
  intro m2 hm2
  obtain ⟨hw2, hf2⟩ := hm2
  have hfr2 : ∀ c, (c < 22 ∨ 38 < c) → m2 c = m c := fun c hc => by rw [hf2 c (by omega) (by omega) (by omega), hf1 c (by omega)]
  have hD2 : cDat m2 l n M nb TO GR := cDat_fr hDm (fun c hc => hfr2 c (Or.inl hc))
  rw [sp_setCount hD2.2.2, ob_some]
  have h2n := (tb_sets nb (by omega)).2
  refine T_ob (P := fun t => FND l m0 M nb t.2 h ∧ (∀ s, s < 2 ^ nb → alwS TO GR nb s → t.2 39 (32 * h + pt (m0 16) s h nb) = 1) ∧ (∀ slot, (slot < 32 * h ∨ 32 * h + 32 ≤ slot) → t.2 39 slot = m 39 slot ∧ t.2 40 slot = m 40 slot ∧ ∀ z, z < 3 → t.2 41 (3 * slot + z) = m 41 (3 * slot + z) ∧ t.2 42 (3 * slot + z) = m 42 (3 * slot + z)) ∧ (∀ c, (c < 22 ∨ 42 < c) → t.2 c = m c) ∧ crv0 t.2) ?_ (fun t ht => T_some ht)
  refine T_run2 (f_X3_searchHour_L26 (iI (h : Nat)) (iI ((2 ^ nb : Nat) : Int))) (fun s x m5 => x = iI (s : Nat) ∧ (∀ z, z < 3 → CurW m5 (27 + 4 * z) (lsF m0 M h z) (lbF m0 M h z)) ∧ FND l m0 M nb m5 h ∧ (∀ s2, s2 < s → alwS TO GR nb s2 → m5 39 (32 * h + pt (m0 16) s2 h nb) = 1) ∧ (∀ slot, (slot < 32 * h ∨ 32 * h + 32 ≤ slot) → m5 39 slot = m 39 slot ∧ m5 40 slot = m 40 slot ∧ ∀ z, z < 3 → m5 41 (3 * slot + z) = m 41 (3 * slot + z) ∧ m5 42 (3 * slot + z) = m 42 (3 * slot + z)) ∧ (∀ c, (c < 22 ∨ 42 < c) → m5 c = m c)) _ (2 ^ nb) 0 _ _ ?_ (Nat.zero_le _) (by omega) ?_
  · refine ⟨rfl, hw2, ?_, fun s2 hs2 => absurd hs2 (by omega), fun slot _ => ?_, fun c hc => hfr2 c (by omega)⟩
    · intro p hp
      rw [hfr2 39 (by decide)]
      rcases hF p hp with q | q
      · exact Or.inl q
      · refine Or.inr ⟨q.1, SL_fr q.2 (by rw [hfr2 40 (by decide)]) (fun z _ => by rw [hfr2 41 (by decide), hfr2 42 (by decide)]; exact ⟨rfl, rfl⟩)⟩
    · rw [hfr2 39 (by decide), hfr2 40 (by decide), hfr2 41 (by decide), hfr2 42 (by decide)]
      exact ⟨rfl, rfl, fun z _ => ⟨rfl, rfl⟩⟩
  · intro s x m5 f hI hk hcont
    obtain ⟨e, hw, hFN, hfound, hoth, hfr⟩ := hI
    subst e
    unfold f_X3_searchHour_L26
    rw [iI_le (by omega) (by omega) (by omega) (by omega)]
    by_cases c : ((2 ^ nb : Nat) : Int) ≤ s
    · rw [if_pos c]
      have e : s = 2 ^ nb := by omega
      subst e
      exact T_some ⟨hFN, hfound, hoth, hfr, crv0_of (fun z hz => (hw z hz).1)⟩
    · rw [if_neg c]
      have hs32 : s < 32 := by omega
      have hD5 : cDat m5 l n M nb TO GR := cDat_fr hDm (fun c hc => hfr c (Or.inl hc))
      have e16 : m5 16 = m0 16 := by rw [hfr 16 (by decide), hf0 16 (by decide)]
      have hpt := (pt_spec (m0 16) s h nb hnb).1
      rw [sp_slotOf hD5.2.2 hs32 hh, e16, ob_some, a_ldI (by omega) (by omega) (by omega), ob_some, Int.toNat_natCast]
      have hstay : (alwS TO GR nb s → m5 39 (32 * h + pt (m0 16) s h nb) = 1) → T (f_X3_searchHour_L26 (iI (h : Nat)) (iI ((2 ^ nb : Nat) : Int)) f (iI (s : Nat) + 1) m5) (fun t => FND l m0 M nb t.2 h ∧ (∀ s, s < 2 ^ nb → alwS TO GR nb s → t.2 39 (32 * h + pt (m0 16) s h nb) = 1) ∧ (∀ slot, (slot < 32 * h ∨ 32 * h + 32 ≤ slot) → t.2 39 slot = m 39 slot ∧ t.2 40 slot = m 40 slot ∧ ∀ z, z < 3 → t.2 41 (3 * slot + z) = m 41 (3 * slot + z) ∧ t.2 42 (3 * slot + z) = m 42 (3 * slot + z)) ∧ (∀ c, (c < 22 ∨ 42 < c) → t.2 c = m c) ∧ crv0 t.2) := by
        intro hfs
        refine hcont (by omega) _ _ ⟨by rw [iL_1, iI_add]; rfl, hw, hFN, fun s2 hs2 ha => ?_, hoth, hfr⟩
        by_cases q : s2 = s
        · subst q; exact hfs ha
        · exact hfound s2 (by omega) ha
      rcases hFN (pt (m0 16) s h nb) hpt with q | q
      · rw [if_pos q]
        obtain ⟨r13, er, hr⟩ := sp_isAllowedC hD5.2.2 hs32
        rw [er, ob_some]
        rcases hr with ⟨e1, ha⟩ | ⟨e0, ha⟩
        · subst e1
          rw [if_neg (by decide), sp_partIn hD5.2.2 hs32 hh, ob_some, e16]
          have hbase : ∀ z, BP m5 nb (pt (m0 16) s h nb) z = BP m0 nb (pt (m0 16) s h nb) z := by
            intro z
            unfold BP
            rw [hfr 15 (by decide), hf0 15 (by decide), hfr 17 (by decide), hf0 17 (by decide), hfr 19 (by decide), hf0 19 (by decide)]
          obtain ⟨m16, e6, hB6, hf6⟩ := sp_search (m := m5) (l := l) (ls := lsF m0 M h) (lb := lbF m0 M h) (base := BP m0 nb (pt (m0 16) s h nb)) (part := iI (pt (m0 16) s h nb : Nat)) hD5.1 (fun z hz => ⟨hcr z hz, hw z hz, BP_rng hD.2.2.2.1 _ _⟩) (fun z hz m9 hm9 => by
            have hb9 : blkC m9 nb TO GR := blkC_fr hD5.2.2 (by rw [hm9 13 (by decide) (by decide) (by decide) (by decide)]) (fun c c1 c2 => hm9 c (by omega) (by omega) (by omega) (by omega))
            rw [sp_unitsOf hb9 hpt, hm9 15 (by decide) (by decide) (by decide) (by decide), hm9 17 (by decide) (by decide) (by decide) (by decide), hm9 19 (by decide) (by decide) (by decide) (by decide), ← hbase z]
            rfl)
          rw [e6, ob_some]
          obtain ⟨m17, e7, hSL, h39, hf7, h40, h41⟩ := sp_keep (m := m16) hcr (srB_RS hB6) (slot := 32 * h + pt (m0 16) s h nb) (by omega)
          rw [e7, ob_some, ob_some]
          have hfr7 : ∀ c, c < 22 ∨ 42 < c → m17 c = m5 c := fun c hc => by
            rw [hf7 c (by omega) (by omega) (by omega) (by omega), hf6 c (by omega) (by omega) (by omega) (by omega)]
          have h39b : m17 39 = upd (m5 39) (32 * h + pt (m0 16) s h nb) 1 := by rw [h39, hf6 39 (by decide) (by decide) (by decide) (by decide)]
          refine hcont (by omega) _ _ ⟨by rw [iL_1, iI_add]; rfl, ?_, ?_, ?_, ?_, fun c hc => by rw [hfr7 c hc]; exact hfr c hc⟩
          · intro z hz
            refine CurW_fr (hw z hz) ?_ ?_ ?_ ?_
            · rw [hf7 _ (by omega) (by omega) (by omega) (by omega), hf6 _ (by omega) (by omega) (by omega) (by omega)]
            · rw [hf7 _ (by omega) (by omega) (by omega) (by omega), hf6 _ (by omega) (by omega) (by omega) (by omega)]
            · rw [hf7 _ (by omega) (by omega) (by omega) (by omega), hf6 _ (by omega) (by omega) (by omega) (by omega)]
            · rw [hf7 _ (by omega) (by omega) (by omega) (by omega), hf6 _ (by omega) (by omega) (by omega) (by omega)]
          · intro p hp
            by_cases w : p = pt (m0 16) s h nb
            · subst w
              exact Or.inr ⟨by rw [h39b, updA, if_pos rfl], hSL⟩
            · rw [h39b, updA, if_neg (by omega)]
              rcases hFN p hp with u | u
              · exact Or.inl u
              · refine Or.inr ⟨u.1, SL_fr u.2 ?_ ?_⟩
                · rw [h40 _ (by omega), hf6 40 (by decide) (by decide) (by decide) (by decide)]
                · intro z hz
                  have := h41 (3 * (32 * h + p) + z) (by omega)
                  rw [this.1, this.2, hf6 41 (by decide) (by decide) (by decide) (by decide), hf6 42 (by decide) (by decide) (by decide) (by decide)]
                  exact ⟨rfl, rfl⟩
          · intro s2 hs2 ha2
            rw [h39b, updA]
            by_cases w : 32 * h + pt (m0 16) s2 h nb = 32 * h + pt (m0 16) s h nb
            · rw [if_pos w]
            · rw [if_neg w]
              by_cases u : s2 = s
              · subst u; exact absurd rfl w
              · exact hfound s2 (by omega) ha2
          · intro slot hsl
            have := hoth slot hsl
            rw [h39b, updA, if_neg (by omega), h40 _ (by omega), hf6 40 (by decide) (by decide) (by decide) (by decide)]
            refine ⟨this.1, this.2.1, fun z hz => ?_⟩
            have w := h41 (3 * slot + z) (by omega)
            rw [w.1, w.2, hf6 41 (by decide) (by decide) (by decide) (by decide), hf6 42 (by decide) (by decide) (by decide) (by decide)]
            exact this.2.2 z hz
        · subst e0
          rw [if_pos rfl, ob_some]
          exact hstay (fun h9 => absurd h9 ha)
      · rw [if_neg (by rw [q.1]; decide), ob_some]
        exact hstay (fun _ => q.1)
