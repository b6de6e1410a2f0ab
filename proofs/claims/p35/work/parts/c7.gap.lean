theorem nn_max {x y : Int32} (hx : 0 ≤ x.toInt) (hy : 0 ≤ y.toInt) : 0 ≤ (a_max x y).toInt := by
  unfold a_max
  by_cases c : x < y
  · rw [if_pos c]; exact hy
  · rw [if_neg c]; exact hx
theorem nn_min {x y : Int32} (hx : 0 ≤ x.toInt) (hy : 0 ≤ y.toInt) : 0 ≤ (a_min x y).toInt := by
  unfold a_min
  by_cases c : y < x
  · rw [if_pos c]; exact hy
  · rw [if_neg c]; exact hx
theorem fmF_nn {gap : Int32} {pr : Nat → Int32} {x : Int32} (hx : 0 ≤ x.toInt) : ∀ n, (∀ z, z < n → 0 ≤ (pr z).toInt) → 0 ≤ (fmF gap pr x n).toInt
  | 0, _ => hx
  | n + 1, hp => by
    have ih := fmF_nn (gap := gap) hx n (fun z hz => hp z (by omega))
    show 0 ≤ (if 0 ≤ gap then a_min (fmF gap pr x n) (pr n) else a_max (fmF gap pr x n) (pr n)).toInt
    by_cases c : 0 ≤ gap
    · rw [if_pos c]; exact nn_min ih (hp n (by omega))
    · rw [if_neg c]; exact nn_max ih (hp n (by omega))
theorem price_pc {m : gM} {o na : Nat} {MD : List Nat} {p1 p2 : Int32} (hA : adC m (o + 7) na MD) : ∀ (n k : Nat) (x4 x5 y1 y2 y3 : Int32), k ≤ 1000 → 0 ≤ x5.toInt → f_X5_priceOfGap_L21 o m p1 p2 n x4 x5 (iI (k : Nat)) = some (y1, y2, y3) → 0 ≤ y2.toInt := by
  obtain ⟨hln, u1, hn30, u4, u5⟩ := hA
  intro n
  induction n with
  | zero =>
    intro k x4 x5 y1 y2 y3 _ _ h
    cases h
  | succ n ih =>
    intro k x4 x5 y1 y2 y3 hk h5 h
    rw [f_X5_priceOfGap_L21, u1, iI_le (by omega) (by omega) (by omega) (by omega)] at h
    by_cases q : (na : Int) ≤ k
    · rw [if_pos q] at h
      cases h
      exact h5
    · have hkn : k < na := by omega
      rw [if_neg q] at h
      by_cases q2 : x4 ≤ 0
      · rw [if_pos q2] at h
        cases h
        exact h5
      · have hmr := Mer_lt u4 hkn
        rw [if_neg q2, hln, ldN (by omega) (by omega), ob_some, u4.2.2.2 k hkn] at h
        obtain ⟨r13, _, h⟩ := ob_inv h
        obtain ⟨t22, ht, h⟩ := ob_inv h
        obtain ⟨x15, x16⟩ := t22
        try simp only [ob_sm] at h
        rw [iI_succ] at h
        refine ih (k + 1) x15 x16 y1 y2 y3 (by omega) ?_ h
        by_cases q3 : r13 = 0
        · rw [if_pos q3] at ht
          cases ht
          exact h5
        · rw [if_neg q3, ldN (by omega) (by omega), ob_some, ob_some] at ht
          obtain ⟨z20, hz, ht⟩ := ob_inv ht
          have e : z20 = x16 := congrArg Prod.snd (Option.some.inj ht)
          rw [← e]
          by_cases q4 : x4 - m (o + 7 + 6) (MD.getD k 0) ≤ 0
          · rw [if_pos q4, ldN (by omega) (by omega), ob_some] at hz
            have e2 := Option.some.inj hz
            rw [← e2]
            exact (u5 _ hmr).2.2.2.1.1
          · rw [if_neg q4] at hz
            have e2 := Option.some.inj hz
            rw [← e2]
            exact h5
theorem gap_ok {d st : Nat} {l : Nat → Int} {n : Nat} {M : List Nat} {nb : Nat} {TO GR : Nat → Int} {na : Nat} {MA : List Nat} {no : Nat} {MO : List Nat} {m mm : gM} (hR : RelA d st l n M nb TO GR na MA no MO m mm) (hP : posP m) {j h : Nat} (hj : j < d) (hh : h < 4) : ∃ g v, f_X9_gap (iI (j : Nat)) (iI (h : Nat)) m = some (.inr g) ∧ f_X9_gapPrice (iI (j : Nat)) (iI (h : Nat)) m = some (.inr v) ∧ (g = 0 → v = -1) ∧ (¬ g = 0 → 0 ≤ v.toInt) := by
  obtain ⟨a1, a2, a3, a4, a5, a6, a7, a8, a9, a10, a11, a12⟩ := id hR
  obtain ⟨hd9, _, hd1, hd2, hs1, hs2⟩ := id a1
  have hj10 : j < 10 := by omega
  obtain ⟨na2, MD, hB⟩ := bH_of hj10 (a9 j hj10) a11
  have hB2 := hB
  obtain ⟨_, hRd, _, hg, _⟩ := hB2
  have hA := adC_of hj10 hRd
  have x0 := ci_ok (ct := m 0 8) (v := j) (n := d) hd1 hj (by omega)
  have x1 := ci_ok (ct := 4) (v := h) (n := 4) rfl hh (by omega)
  have hrf := rfN (b := 69) (w := 16) hj10 (show (10 : Nat) ≤ 100000 by omega)
  have hgp := sp_gapC (o := 69 + 16 * j) (m := m) (g := fun i => gpM mm (72 * j + i)) hg hh
  generalize hgg : gA (fun i => gpM mm (72 * j + i)) h 6 = g at hgp
  obtain ⟨v, row, ug, -, hv, -⟩ := sim_price hB hh (gap := g) hgg.symm
  have eg : f_X9_gap (iI (j : Nat)) (iI (h : Nat)) m = some (.inr g) := by
    unfold f_X9_gap
    simp only [x0, x1, ox_r, hrf, ob_sm, hgp]
  by_cases c : g = 0
  · refine ⟨g, -1, eg, ?_, fun _ => rfl, fun w => absurd c w⟩
    unfold f_X9_gapPrice
    simp only [x0, x1, ox_r, hrf, ob_sm, hgp, if_pos c]
  · have hv := hv c
    refine ⟨g, v, eg, ?_, fun w => absurd w c, fun _ => ?_⟩
    · unfold f_X9_gapPrice
      simp only [x0, x1, ox_r, hrf, ob_sm, hgp, if_neg c, hv]
    · unfold f_X5_priceOfGap at hv
      rw [ob_some] at hv
      obtain ⟨z3, hz3, hv⟩ := ob_inv hv
      obtain ⟨t33, h33, hv⟩ := ob_inv hv
      obtain ⟨y7, y8, y9⟩ := t33
      try simp only [ob_sm] at hv
      obtain ⟨t32, h32, hv⟩ := ob_inv hv
      have h3 : 0 ≤ z3.toInt := by
        by_cases w : 0 ≤ g
        · rw [if_pos w] at hz3
          rw [← Option.some.inj hz3]
          decide
        · rw [if_neg w] at hz3
          rw [← Option.some.inj hz3]
          decide
      have h33 : f_X5_priceOfGap_L21 (69 + 16 * j) m (iI (h : Nat)) g f_fuel (a_abs g) z3 (iI ((0 : Nat) : Int)) = some (y7, y8, y9) := h33
      have h8 := price_pc hA f_fuel 0 _ _ _ _ _ (by omega) h3 h33
      obtain ⟨t, ft, et⟩ := sp_L103 (j := j) (h := h) (m := m) (gap := g) (x := y8) (pr := fun z => m (69 + 16 * j + 1) (4 * z + h)) hh (fun z _ => rfl)
      rw [ft] at h32
      have e := Option.some.inj h32
      subst e
      have hv : t.1 = v := Option.some.inj hv
      rw [← hv, et]
      exact fmF_nn h8 3 (fun z hz => hP j hj10 _ (by omega))
