def srP (p : Nat → Nat → Int) (i : Nat) : Int32 := iI (p (i % 4) (i / 4))
theorem g4_congr {pr pr2 : Nat → Int32} {Z H P : Nat → Int32} {k : Nat} (hz : (Z k).toInt.toNat < 3) (h : ∀ z, z < 3 → ∀ n, n < 4 → pr (4 * z + n) = pr2 (4 * z + n)) : ∀ n, n ≤ 4 → g4 pr Z H P k n = g4 pr2 Z H P k n
  | 0, _ => rfl
  | n + 1, hn => by
    show g4 pr Z H P k n + _ = g4 pr2 Z H P k n + _
    rw [g4_congr hz h n (by omega), h _ hz n (by omega)]
theorem gnS_congr {pr pr2 : Nat → Int32} {Z H B P U : Nat → Int32} {nb k : Nat} (hr : blkR Z H B P U nb) (hk : k < nb) (h : ∀ z, z < 3 → ∀ n, n < 4 → pr (4 * z + n) = pr2 (4 * z + n)) : gnS pr Z H B P k = gnS pr2 Z H B P k := by
  have hz := (zN_of (hr.2 k hk).1).2
  unfold gnS
  rw [g4_congr hz h 4 (by omega)]
theorem losS_congr {pr pr2 : Nat → Int32} {Z H B P U : Nat → Int32} {nb s : Nat} (hr : blkR Z H B P U nb) (h : ∀ z, z < 3 → ∀ n, n < 4 → pr (4 * z + n) = pr2 (4 * z + n)) : losS pr Z H B P s nb ↔ losS pr2 Z H B P s nb := by
  constructor
  · intro ⟨k, hk, hb, hg⟩
    exact ⟨k, hk, hb, by rw [← gnS_congr hr hk h]; exact hg⟩
  · intro ⟨k, hk, hb, hg⟩
    exact ⟨k, hk, hb, by rw [gnS_congr hr hk h]; exact hg⟩
def hwS (R : Nat → Option (Int × Int × Int)) : Nat → Option Int
  | 0 => some 0
  | n + 1 => match hwS R n with
    | none => none
    | some a => match R n with
      | none => none
      | some (w, _, _) => some (a + w)
theorem hwS_succN {R : Nat → Option (Int × Int × Int)} {n : Nat} (h : R n = none) : hwS R (n + 1) = none := by
  show (match hwS R n with | none => none | some a => match R n with | none => none | some (w, _, _) => some (a + w)) = none
  rw [h]
  cases hwS R n <;> rfl
theorem hwS_none {R : Nat → Option (Int × Int × Int)} {n : Nat} (h : hwS R n = none) : ∀ d, hwS R (n + d) = none
  | 0 => h
  | d + 1 => by
    show (match hwS R (n + d) with | none => none | some a => match R (n + d) with | none => none | some (w, _, _) => some (a + w)) = none
    rw [hwS_none h d]
theorem hwS_succS {R : Nat → Option (Int × Int × Int)} {n : Nat} {a w x y : Int} (h : hwS R n = some a) (h2 : R n = some (w, x, y)) : hwS R (n + 1) = some (a + w) := by
  show (match hwS R n with | none => none | some a => match R n with | none => none | some (w, _, _) => some (a + w)) = _
  rw [h, h2]
theorem hwS_some {R : Nat → Option (Int × Int × Int)} : ∀ {n : Nat} {v : Int}, hwS R n = some v → ∀ h, h < n → ∃ w a b, R h = some (w, a, b)
  | 0, _, _, h, hh => absurd hh (by omega)
  | n + 1, v, e, h, hh => by
    cases h1 : hwS R n with
    | none => have := hwS_none h1 1; rw [e] at this; cases this
    | some a =>
      cases h2 : R n with
      | none => rw [hwS_succN h2] at e; cases e
      | some u =>
        obtain ⟨w, x, y⟩ := u
        by_cases q : h = n
        · subst q; exact ⟨w, x, y, h2⟩
        · exact hwS_some h1 h (by omega)
def wvI (W : Int) (R : Nat → Option (Int × Int × Int)) : Int := match hwS R 4 with
  | none => -1000000000
  | some v => W + v
theorem sp_worthWith {m0 m : gM} {l : Nat → Int} {n : Nat} {M : List Nat} {nb : Nat} {TO GR : Nat → Int} (hD : cDat m0 l n M nb TO GR) (hf0 : ∀ c, c < 22 → m c = m0 c) {s : Nat} (hs : s < 32) (hSL : ∀ h, h < 4 → SL m (32 * h + pt (m0 16) s h nb) (slR l m0 M nb h (pt (m0 16) s h nb)) (slP l m0 M nb h (pt (m0 16) s h nb))) : f_X3_worthWith (iI (s : Nat)) m = some (iI (wvI (isum nb (wT (m0 16) (m0 17) (m0 18) (m0 19) s)) (fun h => slR l m0 M nb h (pt (m0 16) s h nb)))) := by
  have hDm : cDat m l n M nb TO GR := cDat_fr hD hf0
  have hnb := hD.2.2.2.1.1
  apply T_eq
  unfold f_X3_worthWith
  rw [sp_worthOfB hDm.2.2 hs, ob_some, hf0 16 (by decide), hf0 17 (by decide), hf0 18 (by decide), hf0 19 (by decide)]
  generalize hW : isum nb (wT (m0 16) (m0 17) (m0 18) (m0 19) s) = W
  refine T_oz (P := fun v => match v with | .inl t => t.1 = iI (wvI W (fun h => slR l m0 M nb h (pt (m0 16) s h nb))) | .inr r => r = iI (wvI W (fun h => slR l m0 M nb h (pt (m0 16) s h nb)))) ?_ (fun a ha => T_some ha) (fun a ha => T_some ha)
  refine T_run2 (f_X3_worthWith_L11 m (iI (s : Nat))) (fun h x y => y = iI (h : Nat) ∧ ∃ v, hwS (fun h => slR l m0 M nb h (pt (m0 16) s h nb)) h = some v ∧ x = iI (W + v)) _ 4 0 _ _ ⟨rfl, 0, rfl, by rw [Int.add_zero]⟩ (Nat.zero_le _) (by omega) ?_
  intro h x y f hI hk hcont
  obtain ⟨e, v, hv, e2⟩ := hI
  subst e
  subst e2
  unfold f_X3_worthWith_L11
  rw [iL_4, iI_le (by omega) (by omega) (by omega) (by omega)]
  by_cases c : (4 : Int) ≤ h
  · rw [if_pos c]
    have e : h = 4 := by omega
    subst e
    refine T_some ?_
    show iI (W + v) = iI (wvI W _)
    unfold wvI
    rw [hv]
  · rw [if_neg c]
    have hpt := (pt_spec (m0 16) s h nb hnb).1
    rw [sp_slotOf hDm.2.2 hs (by omega), hf0 16 (by decide), ob_some, a_ldI (by omega) (by omega) (by omega), ob_some, Int.toNat_natCast, (hSL h (by omega)).1, iL_1000000000, iI_neg]
    have hrr : slR l m0 M nb h (pt (m0 16) s h nb) = none ∨ ∃ w a2 b2, slR l m0 M nb h (pt (m0 16) s h nb) = some (w, a2, b2) ∧ -240000 ≤ w ∧ w ≤ 240000 := RS_rng (fun z _ => crv_of hD.2.1 _ _)
    rcases hrr with q | ⟨w, a, b, q, q1, q2⟩
    · have ec : cres (slR l m0 M nb h (pt (m0 16) s h nb)) = -1000000000 := by rw [q]; rfl
      rw [ec, if_pos rfl]
      refine T_some ?_
      show iI (-1000000000) = iI (wvI W _)
      unfold wvI
      have e9 := hwS_none (hwS_succN (R := fun h => slR l m0 M nb h (pt (m0 16) s h nb)) q) (3 - h)
      rw [show h + 1 + (3 - h) = 4 by omega] at e9
      rw [e9]
    · have ec : cres (slR l m0 M nb h (pt (m0 16) s h nb)) = w := by rw [q]; rfl
      rw [ec, iI_eq (by omega) (by omega) (by omega) (by omega), if_neg (by omega), iI_add, ob_some]
      exact hcont (by omega) _ _ ⟨by rw [iL_1, iI_add]; rfl, v + w, hwS_succS hv q, by rw [Int.add_assoc]⟩
theorem sp_isLosing {m0 m : gM} {l : Nat → Int} {n : Nat} {M : List Nat} {nb : Nat} {TO GR : Nat → Int} (hD : cDat m0 l n M nb TO GR) (hf0 : ∀ c, c < 22 → m c = m0 c) {s : Nat} (hs : s < 32) (hSL : ∀ h, h < 4 → SL m (32 * h + pt (m0 16) s h nb) (slR l m0 M nb h (pt (m0 16) s h nb)) (slP l m0 M nb h (pt (m0 16) s h nb))) : T (f_X3_isLosing (iI (s : Nat)) m) (fun r => (∀ c, c ≠ 43 → r.2 c = m c) ∧ ((r.1 = 1 ∧ losS (srP (fun h z => slP l m0 M nb h (pt (m0 16) s h nb) z)) (m0 15) (m0 16) (m0 17) (m0 18) s nb) ∨ (r.1 = 0 ∧ ¬ losS (srP (fun h z => slP l m0 M nb h (pt (m0 16) s h nb) z)) (m0 15) (m0 16) (m0 17) (m0 18) s nb))) := by
  have hnb := hD.2.2.2.1.1
  unfold f_X3_isLosing
  refine T_ob (P := fun t => ∃ row, t.2 = g_up m 43 row ∧ ∀ z, z < 3 → ∀ h, h < 4 → row (4 * z + h) = iI (slP l m0 M nb h (pt (m0 16) s h nb) z)) ?_ ?_
  · refine T_run2 (f_X3_isLosing_L2 (iI (s : Nat))) (fun h x m2 => x = iI (h : Nat) ∧ ∃ row, m2 = g_up m 43 row ∧ ∀ z, z < 3 → ∀ h2, h2 < h → row (4 * z + h2) = iI (slP l m0 M nb h2 (pt (m0 16) s h2 nb) z)) _ 4 0 _ _ ⟨rfl, m 43, by rw [g_upE _ _ _ rfl], fun z _ h2 hh => absurd hh (by omega)⟩ (Nat.zero_le _) (by omega) ?_
    intro h x m2 f hI hk hcont
    obtain ⟨e, row, e2, h1⟩ := hI
    subst e
    subst e2
    unfold f_X3_isLosing_L2
    rw [iL_4, iI_le (by omega) (by omega) (by omega) (by omega)]
    by_cases c : (4 : Int) ≤ h
    · rw [if_pos c]
      have e : h = 4 := by omega
      subst e
      exact T_some ⟨row, rfl, h1⟩
    · rw [if_neg c]
      have hDg : cDat (g_up m 43 row) l n M nb TO GR := cDat_fr hD (fun c hc => by rw [g_up_ne _ _ (by omega)]; exact hf0 c hc)
      have hpt := (pt_spec (m0 16) s h nb hnb).1
      rw [sp_slotOf hDg.2.2 hs (by omega), g_up_ne _ _ (by decide), hf0 16 (by decide), ob_some]
      refine T_ob (P := fun t => ∃ row, t.2 = g_up m 43 row ∧ ∀ z, z < 3 → ∀ h2, h2 < h + 1 → row (4 * z + h2) = iI (slP l m0 M nb h2 (pt (m0 16) s h2 nb) z)) ?_ ?_
      · refine T_run2 (f_X3_isLosing_L17 (iI ((32 * h + pt (m0 16) s h nb : Nat) : Int)) (iI (h : Nat))) (fun q x m2 => x = iI (q : Nat) ∧ ∃ row, m2 = g_up m 43 row ∧ (∀ z, z < 3 → ∀ h2, h2 < h → row (4 * z + h2) = iI (slP l m0 M nb h2 (pt (m0 16) s h2 nb) z)) ∧ ∀ z, z < q → row (4 * z + h) = iI (slP l m0 M nb h (pt (m0 16) s h nb) z)) _ 3 0 _ _ ⟨rfl, row, rfl, h1, fun z hz => absurd hz (by omega)⟩ (Nat.zero_le _) (by omega) ?_
        intro q x m9 f9 hI9 hk9 hcont9
        obtain ⟨e9, row9, e29, h9, h99⟩ := hI9
        subst e9
        subst e29
        unfold f_X3_isLosing_L17
        rw [iL_3, iI_le (by omega) (by omega) (by omega) (by omega)]
        by_cases c9 : (3 : Int) ≤ q
        · rw [if_pos c9]
          have e : q = 3 := by omega
          subst e
          refine T_some ⟨row9, rfl, fun z hz h2 hh => ?_⟩
          by_cases w : h2 = h
          · subst w; exact h99 z hz
          · exact h9 z hz h2 (by omega)
        · rw [if_neg c9]
          unfold f_X9_spotOf
          rw [iL_4, iI_mul, iI_add, ob_some, iI_mul, iI_add, a_ldI (by omega) (by omega) (by omega), ob_some, a_stI (by omega) (by omega) (by omega), ob_some, g_up_at, g_up2, g_up_ne _ _ (by decide), show (((32 * h + pt (m0 16) s h nb : Nat) : Int) * 3 + (q : Nat)).toNat = 3 * (32 * h + pt (m0 16) s h nb) + q by omega, (hSL h (by omega)).2.2 q (by omega), show (((q : Nat) : Int) * 4 + (h : Nat)).toNat = 4 * q + h by omega]
          refine hcont9 (by omega) _ _ ⟨by rw [iL_1, iI_add]; rfl, _, rfl, ?_, ?_⟩
          · intro z hz h2 hh
            rw [updA, if_neg (by omega)]
            exact h9 z hz h2 hh
          · intro z hz
            rw [updA]
            by_cases w : z = q
            · subst w; rw [if_pos rfl]
            · rw [if_neg (by omega)]; exact h99 z (by omega)
      · intro t ht
        obtain ⟨x9, m9⟩ := t
        refine T_obe (a := x9) rfl (T_obe (a := m9) rfl ?_)
        exact hcont (by omega) _ _ ⟨by rw [iL_1, iI_add]; rfl, ht⟩
  · intro t ht
    obtain ⟨x, m4⟩ := t
    obtain ⟨row, e, hrow⟩ := ht
    have e : m4 = g_up m 43 row := e
    subst e
    refine T_obe (a := x) rfl (T_obe (a := g_up m 43 row) rfl ?_)
    have hDg : cDat (g_up m 43 row) l n M nb TO GR := cDat_fr hD (fun c hc => by rw [g_up_ne _ _ (by omega)]; exact hf0 c hc)
    obtain ⟨r, er, hr⟩ := sp_hasLoser hDg.2.2 (a2 := 43) hs
    rw [er, ob_some, g_up_at, g_up_ne _ _ (by decide), g_up_ne _ _ (by decide), g_up_ne _ _ (by decide), g_up_ne _ _ (by decide), hf0 15 (by decide), hf0 16 (by decide), hf0 17 (by decide), hf0 18 (by decide)] at *
    have hcg : losS row (m0 15) (m0 16) (m0 17) (m0 18) s nb ↔ losS (srP (fun h z => slP l m0 M nb h (pt (m0 16) s h nb) z)) (m0 15) (m0 16) (m0 17) (m0 18) s nb := by
      refine losS_congr hD.2.2.2.1 (fun z hz h hh => ?_)
      rw [hrow z hz h hh]
      unfold srP
      rw [show (4 * z + h) % 4 = h by omega, show (4 * z + h) / 4 = z by omega]
    rw [a_zcz (by rcases hr with q | q; exact Or.inr q.1; exact Or.inl q.1), ob_some]
    refine T_some ⟨fun c hc => g_up_ne _ _ hc, ?_⟩
    rcases hr with q | q
    · exact Or.inl ⟨q.1, hcg.1 q.2⟩
    · exact Or.inr ⟨q.1, fun w => q.2 (hcg.2 w)⟩
