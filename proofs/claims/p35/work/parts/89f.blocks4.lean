def g4 (pr : Nat → Int32) (Z H P : Nat → Int32) (k : Nat) : Nat → Int32
  | 0 => 0
  | n + 1 => g4 pr Z H P k n + (if Nat.testBit (hN H k) n = true then pr (4 * (Z k).toInt.toNat + n) - P k else 0)
def gnS (pr : Nat → Int32) (Z H B P : Nat → Int32) (k : Nat) : Int32 := if B k = 0 then g4 pr Z H P k 4 else -(g4 pr Z H P k 4)
theorem zN_of {x : Int32} (h : rg x 0 2) : x = iI (x.toInt.toNat : Nat) ∧ x.toInt.toNat < 3 := by
  obtain ⟨a, b⟩ := h
  refine ⟨?_, by omega⟩
  rw [Int.toNat_of_nonneg (by omega), iI_of]
theorem sp_gainBy {m : gM} {nb : Nat} {TO GR : Nat → Int} (hb : blkC m nb TO GR) {k a2 : Nat} (hk : k < nb) : f_X2_gainBy (iI (k : Nat)) 12 a2 m = some (gnS (m a2) (m 15) (m 16) (m 17) (m 18) k) := by
  obtain ⟨g1, g2, g3⟩ := hb
  have hn := g2.1
  have hr := g2.2 k hk
  obtain ⟨eH, lH⟩ := hN_of hr.2.1
  obtain ⟨eZ, lZ⟩ := zN_of hr.1
  apply T_eq
  unfold f_X2_gainBy
  refine T_ob (P := fun t => t.1 = g4 (m a2) (m 15) (m 16) (m 18) k 4) ?_ ?_
  · refine T_run2 (f_X2_gainBy_L5 a2 12 m (iI (k : Nat))) (fun h x y => y = iI (h : Nat) ∧ x = g4 (m a2) (m 15) (m 16) (m 18) k h) _ 4 0 _ _ ⟨rfl, rfl⟩ (Nat.zero_le _) (by omega) ?_
    intro h x y f hI hk2 hcont
    obtain ⟨e, e2⟩ := hI
    subst e
    subst e2
    unfold f_X2_gainBy_L5
    rw [iL_4, iI_le (by omega) (by omega) (by omega) (by omega)]
    by_cases c : (4 : Int) ≤ h
    · rw [if_pos c]
      have e : h = 4 := by omega
      subst e
      exact T_some rfl
    · rw [if_neg c, a_ldI (by omega) (by omega) (by omega), ob_some, Int.toNat_natCast, eH, sp_mem (by omega) (by omega), ob_some]
      by_cases q : Nat.testBit (hN (m 16) k) h = true
      · rw [if_pos q, if_neg (by decide), a_ldI (by omega) (by omega) (by omega), ob_some, Int.toNat_natCast, eZ]
        unfold f_X9_spotOf
        rw [iL_4, iI_mul, iI_add, ob_some, a_ldI (by omega) (by omega) (by omega), ob_some, a_ldI (by omega) (by omega) (by omega), ob_some, ob_some, ob_some, Int.toNat_natCast]
        refine hcont (by omega) _ _ ⟨by rw [iL_1, iI_add]; rfl, ?_⟩
        show _ = g4 (m a2) (m 15) (m 16) (m 18) k h + _
        rw [if_pos q, show ((((m 15 k).toInt.toNat : Nat) : Int) * 4 + (h : Nat)).toNat = 4 * (m 15 k).toInt.toNat + h by omega]
      · rw [if_neg q, if_pos rfl, ob_some]
        refine hcont (by omega) _ _ ⟨by rw [iL_1, iI_add]; rfl, ?_⟩
        show _ = g4 (m a2) (m 15) (m 16) (m 18) k h + _
        rw [if_neg q, Int32.add_zero]
  · intro t ht
    obtain ⟨x, y⟩ := t
    have ht : x = g4 (m a2) (m 15) (m 16) (m 18) k 4 := ht
    subst ht
    refine T_obe (a := g4 (m a2) (m 15) (m 16) (m 18) k 4) rfl (T_obe (a := y) rfl ?_)
    rw [a_ldI (by omega) (by omega) (by omega), ob_some, Int.toNat_natCast]
    unfold gnS
    by_cases q : m 17 k = 0
    · rw [if_pos q, if_pos q]; exact T_some rfl
    · rw [if_neg q, if_neg q]; exact T_some rfl
def h4 (pr : Nat → Int32) (Z H : Nat → Int32) (k : Nat) : Nat → Int32
  | 0 => 0
  | n + 1 => h4 pr Z H k n + (if Nat.testBit (hN H k) n = true then pr (4 * (Z k).toInt.toNat + n) else 0)
theorem g4_h4 (pr : Nat → Int32) (Z H P : Nat → Int32) (k : Nat) : ∀ n, h4 pr Z H k n - P k * iI (isum n (fun h => if Nat.testBit (hN H k) h = true then 1 else 0)) = g4 pr Z H P k n
  | 0 => by
    show (0 : Int32) - P k * (0 : Int32) = 0
    grind
  | n + 1 => by
    have ih := g4_h4 pr Z H P k n
    show h4 pr Z H k n + _ - P k * iI (isum n _ + _) = g4 pr Z H P k n + _
    rw [← ih, ← iI_add]
    show _ - P k * (_ + iI (if Nat.testBit (hN H k) n = true then 1 else 0)) = _
    by_cases q : Nat.testBit (hN H k) n = true
    · rw [if_pos q, if_pos q, if_pos q, show iI 1 = (1 : Int32) from rfl]
      grind
    · rw [if_neg q, if_neg q, if_neg q, show iI 0 = (0 : Int32) from rfl]
      grind
theorem sp_gainM {m : gM} {nb : Nat} {TO GR : Nat → Int} (hb : blkM m nb TO GR) {k a2 n2 fr : Nat} (hk : k < nb) (hf : fr + 12 ≤ n2) (hn2 : n2 ≤ 120) : f_X10_gainOf (iI (k : Nat)) n2 a2 (iI (fr : Nat)) m = some (gnS (fun i => m a2 (fr + i)) (m 14) (m 15) (m 16) (m 17) k) := by
  obtain ⟨g1, g2, g3⟩ := hb
  have hn := g2.1
  have hr := g2.2 k hk
  obtain ⟨eH, lH⟩ := hN_of hr.2.1
  obtain ⟨eZ, lZ⟩ := zN_of hr.1
  have ep : f_X10_pricesOf (iI (k : Nat)) n2 a2 (iI (fr : Nat)) m = some (h4 (fun i => m a2 (fr + i)) (m 14) (m 15) k 4) := by
    apply T_eq
    unfold f_X10_pricesOf
    refine T_ob (P := fun t => t.1 = h4 (fun i => m a2 (fr + i)) (m 14) (m 15) k 4) ?_ (fun t ht => T_some ht)
    refine T_run2 (f_X10_pricesOf_L6 a2 n2 m (iI (k : Nat)) (iI (fr : Nat))) (fun h x y => y = iI (h : Nat) ∧ x = h4 (fun i => m a2 (fr + i)) (m 14) (m 15) k h) _ 4 0 _ _ ⟨rfl, rfl⟩ (Nat.zero_le _) (by omega) ?_
    intro h x y f hI hk2 hcont
    obtain ⟨e, e2⟩ := hI
    subst e
    subst e2
    unfold f_X10_pricesOf_L6
    rw [iL_4, iI_le (by omega) (by omega) (by omega) (by omega)]
    by_cases c : (4 : Int) ≤ h
    · rw [if_pos c]
      have e : h = 4 := by omega
      subst e
      exact T_some rfl
    · rw [if_neg c, a_ldI (by omega) (by omega) (by omega), ob_some, Int.toNat_natCast, eH, tb_sh _ (by omega) h (by omega)]
      by_cases q : Nat.testBit (hN (m 15) k) h = true
      · rw [if_pos q, if_pos rfl, a_ldI (by omega) (by omega) (by omega), ob_some, Int.toNat_natCast, eZ, iI_mul, iI_add, iI_add, a_ldI (by omega) (by omega) (by omega), ob_some, ob_some, ob_some]
        refine hcont (by omega) _ _ ⟨by rw [iL_1, iI_add]; rfl, ?_⟩
        show _ = h4 (fun i => m a2 (fr + i)) (m 14) (m 15) k h + _
        rw [if_pos q, show ((fr : Nat) + (4 : Int) * (((m 14 k).toInt.toNat : Nat) : Int) + (h : Nat)).toNat = fr + (4 * (m 14 k).toInt.toNat + h) by omega]
      · rw [if_neg q, if_neg (by decide), ob_some, ob_some]
        refine hcont (by omega) _ _ ⟨by rw [iL_1, iI_add]; rfl, ?_⟩
        show _ = h4 (fun i => m a2 (fr + i)) (m 14) (m 15) k h + _
        rw [if_neg q]
  unfold f_X10_gainOf
  rw [ep, ob_some, a_ldI (by omega) (by omega) (by omega), ob_some, sp_hoursOf (by omega) hr.2.1, ob_some, ob_some, a_ldI (by omega) (by omega) (by omega), ob_some, Int.toNat_natCast]
  have e := g4_h4 (fun i => m a2 (fr + i)) (m 14) (m 15) (m 17) k 4
  have e : h4 (fun i => m a2 (fr + i)) (m 14) (m 15) k 4 - m 17 k * iI (ctH (hN (m 15) k)) = g4 (fun i => m a2 (fr + i)) (m 14) (m 15) (m 17) k 4 := e
  rw [e]
  unfold gnS
  rcases hr.2.2.1 with q | q
  · rw [if_neg (by rw [q]; decide), if_pos q]; rfl
  · rw [if_pos q, if_neg (by rw [q]; decide)]; rfl
def losS (pr : Nat → Int32) (Z H B P : Nat → Int32) (s n : Nat) : Prop := ∃ k, k < n ∧ Nat.testBit s k = true ∧ ¬ (0 : Int32) ≤ gnS pr Z H B P k
theorem los_succ {pr Z H B P : Nat → Int32} {s n : Nat} (h : ¬ losS pr Z H B P s n) (h2 : Nat.testBit s n = true → (0 : Int32) ≤ gnS pr Z H B P n) : ¬ losS pr Z H B P s (n + 1) := by
  intro ⟨k, hk, hb, hg⟩
  by_cases q : k = n
  · subst q; exact hg (h2 hb)
  · exact h ⟨k, by omega, hb, hg⟩
theorem sp_hasLoser {m : gM} {nb : Nat} {TO GR : Nat → Int} (hb : blkC m nb TO GR) {s a2 : Nat} (hs : s < 32) : T (f_X2_hasLoser (iI (s : Nat)) 12 a2 m) (fun r => (r = 1 ∧ losS (m a2) (m 15) (m 16) (m 17) (m 18) s nb) ∨ (r = 0 ∧ ¬ losS (m a2) (m 15) (m 16) (m 17) (m 18) s nb)) := by
  have hb' := hb
  obtain ⟨g1, g2, g3⟩ := hb
  have hn := g2.1
  unfold f_X2_hasLoser
  refine T_oz (P := fun v => match v with | .inl _ => ¬ losS (m a2) (m 15) (m 16) (m 17) (m 18) s nb | .inr r => r = 1 ∧ losS (m a2) (m 15) (m 16) (m 17) (m 18) s nb) ?_ (fun a ha => T_some (Or.inr ⟨rfl, ha⟩)) (fun a ha => T_some (Or.inl ha))
  refine T_run (f_X2_hasLoser_L2 a2 12 m (iI (s : Nat))) (fun k x => x = iI (k : Nat) ∧ ¬ losS (m a2) (m 15) (m 16) (m 17) (m 18) s k) _ nb 0 _ ⟨rfl, fun ⟨k, hk, _⟩ => absurd hk (by omega)⟩ (Nat.zero_le _) (by omega) ?_
  intro k x f hI hk hcont
  obtain ⟨e, hl⟩ := hI
  subst e
  unfold f_X2_hasLoser_L2
  rw [g1, iI_le (by omega) (by omega) (by omega) (by omega)]
  by_cases c : (nb : Int) ≤ k
  · rw [if_pos c]
    have e : k = nb := by omega
    subst e
    exact T_some hl
  · rw [if_neg c, sp_mem hs (by omega), ob_some]
    by_cases q : Nat.testBit s k = true
    · rw [if_pos q, if_neg (by decide), sp_gainBy hb' (by omega), ob_some]
      refine T_ite (fun d => ?_) (fun d => ?_)
      · exact hcont (by omega) _ ⟨by rw [iL_1, iI_add]; rfl, los_succ hl (fun _ => d)⟩
      · exact T_some ⟨rfl, k, by omega, q, d⟩
    · rw [if_neg q, if_pos rfl]
      exact hcont (by omega) _ ⟨by rw [iL_1, iI_add]; rfl, los_succ hl (fun h => absurd h q)⟩
theorem sp_lays {m : gM} {nb : Nat} {TO GR : Nat → Int} (hb : blkM m nb TO GR) {s : Nat} (hs : s < 32) : T (f_X10_lays (iI (s : Nat)) m) (fun m2 => ∃ row, m2 = g_up m 53 row ∧ ∀ z, z < 3 → ∀ h, h < 4 → row (4 * z + h) = iI (bs (m 14) (m 15) (m 16) (m 18) nb s h z)) := by
  obtain ⟨g1, g2, g3⟩ := hb
  have hn := g2.1
  unfold f_X10_lays
  refine T_ob (P := fun t => ∃ row, t.2 = g_up m 53 row ∧ ∀ i, i < 12 → row i = iI 0) ?_ ?_
  · refine T_run2 (f_X10_lays_L2) (fun k x m2 => x = iI (k : Nat) ∧ ∃ row, m2 = g_up m 53 row ∧ ∀ i, i < k → row i = iI 0) _ 12 0 _ _ ⟨rfl, m 53, by rw [g_upE _ _ _ rfl], fun i hi => absurd hi (by omega)⟩ (Nat.zero_le _) (by omega) ?_
    intro k x m2 f hI hk hcont
    obtain ⟨e, row, e2, h1⟩ := hI
    subst e
    subst e2
    unfold f_X10_lays_L2
    rw [iL_12, iI_le (by omega) (by omega) (by omega) (by omega)]
    by_cases c : (12 : Int) ≤ k
    · rw [if_pos c]
      have e : k = 12 := by omega
      subst e
      exact T_some ⟨row, rfl, h1⟩
    · rw [if_neg c, a_stI (by omega) (by omega) (by omega), ob_some, Int.toNat_natCast, g_up_at, g_up2]
      refine hcont (by omega) _ _ ⟨by rw [iL_1, iI_add]; rfl, _, rfl, ?_⟩
      intro i hi
      rw [updA]
      by_cases q : i = k
      · rw [if_pos q]; rfl
      · rw [if_neg q]; exact h1 i (by omega)
  · intro t ht
    obtain ⟨x, m4⟩ := t
    obtain ⟨row, e, h1⟩ := ht
    have e : m4 = g_up m 53 row := e
    subst e
    refine T_obe (a := x) rfl (T_obe (a := g_up m 53 row) rfl ?_)
    refine T_ob (P := fun t => ∃ row, t.2 = g_up m 53 row ∧ ∀ z, z < 3 → ∀ h, h < 4 → row (4 * z + h) = iI (isum nb (bsT (m 14) (m 15) (m 16) (m 18) s h z))) ?_ (fun t ht => T_some ht)
    refine T_run2 (f_X10_lays_L23 (iI (s : Nat))) (fun k x m2 => x = iI (k : Nat) ∧ ∃ row, m2 = g_up m 53 row ∧ ∀ z, z < 3 → ∀ h, h < 4 → row (4 * z + h) = iI (isum k (bsT (m 14) (m 15) (m 16) (m 18) s h z))) _ nb 0 _ _ ⟨rfl, row, rfl, fun z hz h hh => h1 _ (by omega)⟩ (Nat.zero_le _) (by omega) ?_
    intro k x m2 f hI hk hcont
    obtain ⟨e, row, e2, h2⟩ := hI
    subst e
    subst e2
    unfold f_X10_lays_L23
    rw [g_up_ne _ _ (by decide), g1, iI_le (by omega) (by omega) (by omega) (by omega)]
    by_cases c : (nb : Int) ≤ k
    · rw [if_pos c]
      have e : k = nb := by omega
      subst e
      exact T_some ⟨row, rfl, h2⟩
    · rw [if_neg c]
      have hr := g2.2 k (by omega)
      obtain ⟨eH, lH⟩ := hN_of hr.2.1
      obtain ⟨eZ, lZ⟩ := zN_of hr.1
      generalize hzz : (m 14 k).toInt.toNat = zz at *
      refine T_ob (P := fun t => ∃ row, t.2 = g_up m 53 row ∧ ∀ z, z < 3 → ∀ h, h < 4 → row (4 * z + h) = iI (isum (k + 1) (bsT (m 14) (m 15) (m 16) (m 18) s h z))) ?_ ?_
      · refine T_run2 (f_X10_lays_L33 (iI (s : Nat)) (iI (k : Nat))) (fun q x m2 => x = iI (q : Nat) ∧ ∃ row, m2 = g_up m 53 row ∧ ∀ z, z < 3 → ∀ h, h < 4 → row (4 * z + h) = iI (isum k (bsT (m 14) (m 15) (m 16) (m 18) s h z) + if h < q then bsT (m 14) (m 15) (m 16) (m 18) s h z k else 0)) _ 4 0 _ _ ⟨rfl, row, rfl, fun z hz h hh => by rw [if_neg (by omega), Int.add_zero]; exact h2 z hz h hh⟩ (Nat.zero_le _) (by omega) ?_
        intro q x m9 f9 hI9 hk9 hcont9
        obtain ⟨e9, row9, e29, h9⟩ := hI9
        subst e9
        subst e29
        unfold f_X10_lays_L33
        rw [iL_4, iI_le (by omega) (by omega) (by omega) (by omega)]
        by_cases c9 : (4 : Int) ≤ q
        · rw [if_pos c9]
          have e : q = 4 := by omega
          subst e
          refine T_some ⟨row9, rfl, fun z hz h hh => ?_⟩
          have := h9 z hz h hh
          rw [if_pos hh] at this
          exact this
        · rw [if_neg c9, tb_sh s hs k (by omega), a_ldI (by omega) (by omega) (by omega), a_ldI (by omega) (by omega) (by omega), a_ldI (by omega) (by omega) (by omega), a_ldI (by omega) (by omega) (by omega), Int.toNat_natCast, g_up_ne _ _ (by decide), g_up_ne _ _ (by decide), g_up_ne _ _ (by decide), g_up_ne _ _ (by decide), eH, eZ]
          have hzs : ∀ {α : Type} (g : Int32 → Option α), ob (if (if Nat.testBit s k = true then (1 : Int32) else 0) = 1 then ob (some (iI (hN (m 15) k : Nat))) fun v19 => if ((v19 >>> (iI (q : Nat) &&& 31)) &&& 1) = 1 then some (1 : Int32) else some 0 else some 0) g = g (if Nat.testBit s k = true ∧ Nat.testBit (hN (m 15) k) q = true then 1 else 0) := by
            intro α g
            by_cases u : Nat.testBit s k = true
            · rw [if_pos u, if_pos rfl, ob_some, tb_sh _ (by omega) q (by omega)]
              by_cases v : Nat.testBit (hN (m 15) k) q = true
              · rw [if_pos v, if_pos rfl, if_pos ⟨u, v⟩]; rfl
              · rw [if_neg v, if_neg (by decide), if_neg (fun w => v w.2)]; rfl
            · rw [if_neg u, if_neg (by decide), if_neg (fun w => u w.1)]; rfl
          rw [hzs, ob_some, iI_mul, iI_add, a_ldI (by omega) (by omega) (by omega), ob_some, g_up_at]
          have hz24 : ∀ {α : Type} (g : Int32 → Option α), ob (if (if Nat.testBit s k = true ∧ Nat.testBit (hN (m 15) k) q = true then (1 : Int32) else 0) = 0 then some (0 : Int32) else ob (some (m 16 k)) fun v25 => if v25 = 1 then ob (some (m 18 k)) fun v28 => some (-v28) else ob (some (m 18 k)) fun v27 => some v27) g = g (iI (if Nat.testBit s k = true ∧ Nat.testBit (hN (m 15) k) q = true then uT (m 16) (m 18) k else 0)) := by
            intro α g
            by_cases u : Nat.testBit s k = true ∧ Nat.testBit (hN (m 15) k) q = true
            · rw [if_pos u, if_neg (by decide), if_pos u, ob_some]
              unfold uT sgn
              rcases hr.2.2.1 with w | w
              · rw [if_neg (by rw [w]; decide), if_pos w, ob_some, ob_some, iI_of]
              · rw [if_pos w, if_neg (by rw [w]; decide), ob_some, ob_some, ← iI_neg, iI_of]
            · rw [if_neg u, if_pos rfl, if_neg u]; rfl
          have e4 : (((4 : Int) * (zz : Nat)) + (q : Nat)).toNat = 4 * zz + q := by omega
          rw [hz24, a_stI (by omega) (by omega) (by omega), ob_some, e4, g_up_at, g_up2, h9 zz (by omega) q (by omega), iI_add]
          refine hcont9 (by omega) _ _ ⟨by rw [iL_1, iI_add]; rfl, _, rfl, ?_⟩
          intro z hz h hh
          rw [updA]
          by_cases w : 4 * z + h = 4 * zz + q
          · have ez : z = zz := by omega
            have eh : h = q := by omega
            subst ez
            subst eh
            rw [if_pos rfl, if_neg (show ¬ h < h by omega), if_pos (show h < h + 1 by omega), Int.add_zero]
            congr 2
            unfold bsT
            rw [eZ]
            by_cases u : Nat.testBit s k = true ∧ Nat.testBit (hN (m 15) k) h = true
            · rw [if_pos u, if_pos ⟨u, rfl⟩]
            · rw [if_neg u, if_neg (fun v => u v.1)]
          · rw [if_neg w, h9 z hz h hh]
            congr 2
            by_cases u : h < q
            · rw [if_pos u, if_pos (by omega)]
            · rw [if_neg u]
              by_cases v : h < q + 1
              · rw [if_pos v]
                unfold bsT
                rw [if_neg]
                intro v2
                have := v2.2
                rw [eZ, iI_eqP (by omega) (by omega) (by omega) (by omega)] at this
                omega
              · rw [if_neg v]
      · intro t ht
        obtain ⟨x9, m9⟩ := t
        refine T_obe (a := x9) rfl (T_obe (a := m9) rfl ?_)
        exact hcont (by omega) _ _ ⟨by rw [iL_1, iI_add]; rfl, ht⟩
