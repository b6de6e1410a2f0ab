theorem away_ok (x : Int32) : f_L_away x = some (a_abs x) := by
  unfold f_L_away a_abs
  by_cases c : 0 ≤ x
  · rw [if_pos c, if_pos c, ob_some]
  · rw [if_neg c, if_neg c, ob_some, Int32.zero_sub]
theorem i32_tel (a b c : Int32) : a - b + (b - c) = a - c := by
  obtain ⟨x, rfl, -, -⟩ := iI_ex a
  obtain ⟨y, rfl, -, -⟩ := iI_ex b
  obtain ⟨z, rfl, -, -⟩ := iI_ex c
  rw [iI_sub, iI_sub, iI_sub, iI_add]
  congr 1
  omega
theorem plan_loop {m : gM} {d k h : Nat} (hd : d ≤ 9) (h8 : m 0 8 = iI (d : Nat)) (hk : k < 3) (hh : h < 4) : T (f_L_cleared_L100 m (iI (k : Nat)) (iI (h : Nat)) f_fuel 0 0) (fun t => t.1 = plA (m (69 + 16 * d + 3)) (4 * k + h) 6) := by
  refine T_run2 (f_L_cleared_L100 m (iI (k : Nat)) (iI (h : Nat))) (fun f a b => a = plA (m (69 + 16 * d + 3)) (4 * k + h) f ∧ b = iI (f : Nat)) _ 6 0 _ _ ⟨rfl, rfl⟩ (Nat.zero_le _) (by omega) ?_
  intro f a b n hI hf hcont
  obtain ⟨e1, e2⟩ := hI
  subst e1
  subst e2
  unfold f_L_cleared_L100
  rw [iL_6, iI_le (by omega) (by omega) (by omega) (by omega)]
  by_cases c : (6 : Int) ≤ f
  · rw [if_pos c]
    have e : f = 6 := by omega
    subst e
    exact T_some rfl
  · rw [if_neg c, ex_day, ob_some, h8, ex_plan hd h8 (Nat.le_refl d) (by omega) hk hh, ot_r, ob_some]
    refine hcont (by omega) _ _ ⟨?_, iI_succ f⟩
    rw [show 12 * f + 4 * k + h = 12 * f + (4 * k + h) by omega]
    rfl
def aflD (d : Nat) (m : gM) : Prop := ∀ h, h < 4 → aFl (m 3 0) (m 3 1) (m 3 2) (m (69 + 16 * d + 2) h) (m (69 + 16 * d + 2) (4 + h)) (m (69 + 16 * d + 2) (8 + h))
theorem flow_le {m : gM} {d k h : Nat} (hA : aflD d m) {x : Int32} (hx : ∀ k, k < 3 → m 3 k = x) (hk : k < 3) (hh : h < 4) : ¬ 3 * x < a_abs (m (69 + 16 * d + 2) (4 * lbF2 k + h) - m (69 + 16 * d + 2) (4 * leF2 k + h)) := by
  obtain ⟨h0, h1, h2⟩ := hA h hh
  rw [hx 0 (by decide)] at h0
  rw [hx 1 (by decide)] at h1
  rw [hx 2 (by decide)] at h2
  match k, hk with
  | 0, _ => simpa [lbF2, leF2] using h0
  | 1, _ => simpa [lbF2, leF2] using h1
  | 2, _ => simpa [lbF2, leF2] using h2
  | k + 3, hk => omega
theorem nneg {x : Int32} (h : 0 ≤ x.toInt) : ¬ x < 0 := by
  rw [Int32.lt_iff_toInt_lt]
  show ¬ x.toInt < (0 : Int32).toInt
  have : (0 : Int32).toInt = 0 := by decide
  omega
theorem net_loop {m : gM} {d h : Nat} {x : Int32} (hd : d ≤ 9) (h8 : m 0 8 = iI (d : Nat)) (h9 : m 0 9 = 1) (hS : posP m) (hN : netP d m) (hA : aflD d m) (hx : ∀ k, k < 3 → m 3 k = x) (hh : h < 4) : T (f_L_cleared_L50 m x (iI (h : Nat)) f_fuel 1 0) (fun t => t.1 = 1) := by
  refine T_run2 (f_L_cleared_L50 m x (iI (h : Nat))) (fun k a b => a = 1 ∧ b = iI (k : Nat)) _ 3 0 _ _ ⟨rfl, rfl⟩ (Nat.zero_le _) (by omega) ?_
  intro k a b n hI hk hcont
  obtain ⟨e1, e2⟩ := hI
  subst e1
  subst e2
  unfold f_L_cleared_L50
  rw [iL_3, iI_le (by omega) (by omega) (by omega) (by omega), ← iL_3]
  by_cases c : (3 : Int) ≤ k
  · rw [if_pos c]
    exact T_some rfl
  · have hk3 : k < 3 := by omega
    obtain ⟨t, ft, et⟩ := plan_loop hd h8 hk3 hh
    rw [if_neg c, i10, ex_flow hd h8 h9 hk3 hh, ot_r, away_ok, ob_some, if_neg (flow_le hA hx hk3 hh), ex_price hd h8 h9 hk3 hh, ot_r, if_neg (nneg (hS d (by omega) (4 * k + h) (by omega))), ob_some, ft, ob_some]
    try simp only [ob_sm]
    rw [i10, ex_net hd h8 h9 hk3 hh, ot_r, et, if_pos (hN.2 (4 * k + h) (by omega)), ob_some]
    exact hcont (by omega) _ _ ⟨rfl, iI_succ k⟩
theorem hour_loop {m : gM} {d : Nat} {x : Int32} (hd : d ≤ 9) (h8 : m 0 8 = iI (d : Nat)) (h9 : m 0 9 = 1) (hS : posP m) (hN : netP d m) (hA : aflD d m) (hx : ∀ k, k < 3 → m 3 k = x) : T (f_L_cleared_L5 m x f_fuel 1 0) (fun t => t.1 = 1) := by
  refine T_run2 (f_L_cleared_L5 m x) (fun k a b => a = 1 ∧ b = iI (k : Nat)) _ 4 0 _ _ ⟨rfl, rfl⟩ (Nat.zero_le _) (by omega) ?_
  intro h a b n hI hh hcont
  obtain ⟨e1, e2⟩ := hI
  subst e1
  subst e2
  unfold f_L_cleared_L5
  rw [iL_4, iI_le (by omega) (by omega) (by omega) (by omega)]
  by_cases c : (4 : Int) ≤ h
  · rw [if_pos c]
    exact T_some rfl
  · have hh4 : h < 4 := by omega
    obtain ⟨t, ft, et⟩ := net_loop hd h8 h9 hS hN hA hx hh4
    have n0 := ex_net (z := 0) hd h8 h9 (by decide) hh4
    have n1 := ex_net (z := 1) hd h8 h9 (by decide) hh4
    have n2 := ex_net (z := 2) hd h8 h9 (by decide) hh4
    have f0 : f_X9_flow (iI ((0 : Nat) : Int)) (iI (h : Nat)) m = some (.inr (m (69 + 16 * d + 2) (4 * 0 + h) - m (69 + 16 * d + 2) (4 * 1 + h))) := ex_flow (k := 0) hd h8 h9 (by decide) hh4
    have f1 : f_X9_flow (iI ((1 : Nat) : Int)) (iI (h : Nat)) m = some (.inr (m (69 + 16 * d + 2) (4 * 1 + h) - m (69 + 16 * d + 2) (4 * 2 + h))) := ex_flow (k := 1) hd h8 h9 (by decide) hh4
    have f2 : f_X9_flow (iI ((2 : Nat) : Int)) (iI (h : Nat)) m = some (.inr (m (69 + 16 * d + 2) (4 * 0 + h) - m (69 + 16 * d + 2) (4 * 2 + h))) := ex_flow (k := 2) hd h8 h9 (by decide) hh4
    rw [show iI ((0 : Nat) : Int) = 0 from rfl] at n0 f0
    rw [show iI ((1 : Nat) : Int) = 1 from rfl] at n1 f1
    rw [show iI ((2 : Nat) : Int) = 2 from rfl] at n2 f2
    simp only [Nat.mul_zero, Nat.zero_add, Nat.mul_one] at n0 n1 n2 f0 f1 f2
    have hs := hN.1 h hh4
    rw [if_neg c, i10, n0, ot_r, n1, ot_r, n2, ot_r, if_pos hs, ob_some, ft, ob_some]
    try simp only [ob_sm]
    rw [et, i10, f0, ot_r, f1, ot_r, f2, ot_r, if_pos (i32_tel _ _ _), ob_some]
    exact hcont (by omega) _ _ ⟨rfl, iI_succ h⟩
theorem block_loop {m : gM} {d nb c : Nat} {TO GR : Nat → Int} (hd : d ≤ 9) (h8 : m 0 8 = iI (d : Nat)) (h9 : m 0 9 = 1) (hb : blkC m nb TO GR) (hc : m 13 9 = iI (c : Nat)) (hc32 : c < 32) (hL : ¬ losS (m (69 + 16 * d + 1)) (m 15) (m 16) (m 17) (m 18) c nb) : T (f_L_cleared_L205 m (iI (nb : Nat)) f_fuel 1 0) (fun t => t.1 = 1) := by
  have h5 := hb.2.1.1
  refine T_run2 (f_L_cleared_L205 m (iI (nb : Nat))) (fun k a b => a = 1 ∧ b = iI (k : Nat)) _ nb 0 _ _ ⟨rfl, rfl⟩ (Nat.zero_le _) (by omega) ?_
  intro k a b n hI hk hcont
  obtain ⟨e1, e2⟩ := hI
  subst e1
  subst e2
  unfold f_L_cleared_L205
  rw [iI_le (by omega) (by omega) (by omega) (by omega)]
  by_cases q : (nb : Int) ≤ k
  · rw [if_pos q]
    exact T_some rfl
  · have hkn : k < nb := by omega
    have x0 := ci_ok (ct := m 13 8) (v := k) (n := nb) hb.1 hkn (by omega)
    have eT : f_X9_isTaken (iI (k : Nat)) m = some (.inr (if Nat.testBit c k = true then 1 else 0)) := by
      unfold f_X9_isTaken
      simp only [x0, ox_r, ob_sm, if_pos h9, cs1, hc, sp_mem hc32 (show k < 5 by omega)]
      rw [a_zcz (by by_cases w : Nat.testBit c k = true; exact Or.inr (if_pos w); exact Or.inl (if_neg w)), ob_some]
    rw [if_neg q, i10, eT, ot_r]
    by_cases w : Nat.testBit c k = true
    · have eG : f_X9_gain (iI (k : Nat)) m = some (.inr (gnS (m (69 + 16 * d + 1)) (m 15) (m 16) (m 17) (m 18) k)) := by
        unfold f_X9_gain
        simp only [x0, ox_r, ob_sm, if_pos h9, cs1]
        rw [h8, rfN (by omega) (by omega), ob_some, sp_gainBy hb hkn, ob_some]
      have hg : ¬ gnS (m (69 + 16 * d + 1)) (m 15) (m 16) (m 17) (m 18) k < 0 := by
        intro h
        exact hL ⟨k, hkn, w, fun h2 => by
          rw [Int32.le_iff_toInt_le] at h2
          rw [Int32.lt_iff_toInt_lt] at h
          omega⟩
      rw [if_pos w, i10, eG, ot_r, if_neg hg, ob_some]
      exact hcont (by omega) _ _ ⟨rfl, iI_succ k⟩
    · rw [if_neg w, i00, ob_some]
      exact hcont (by omega) _ _ ⟨rfl, iI_succ k⟩
theorem cleared_ok {m : gM} {d nb c : Nat} {TO GR : Nat → Int} {x : Int32} (hd : d ≤ 9) (h8 : m 0 8 = iI (d : Nat)) (h9 : m 0 9 = 1) (hs : semD d 1 m) (hA : aflD d m) (hx : ∀ k, k < 3 → m 3 k = x) (hb : blkC m nb TO GR) (hc : m 13 9 = iI (c : Nat)) (hc32 : c < 32) : f_L_cleared x (iI (nb : Nat)) m = some 1 := by
  obtain ⟨hP, hq⟩ := hs
  obtain ⟨hN, hL⟩ := hq rfl
  obtain ⟨t, ft, et⟩ := hour_loop hd h8 h9 hP hN hA hx
  obtain ⟨t2, ft2, et2⟩ := block_loop hd h8 h9 hb hc hc32 (hL nb c hb.1 hb.2.1.1 hc hc32)
  unfold f_L_cleared
  rw [ft, ob_some]
  try simp only [ob_sm]
  rw [et, ft2, ob_some]
  rw [et2]
  rfl
theorem afl_of {d n : Nat} {l : Nat → Int} {mc mm : gM} (hl : rLim l mc mm) (hN : rNet 1 d mc mm) : aflD d mc := by
  intro h hh
  obtain ⟨n1, n2⟩ := hN rfl
  have k := alw_aFl (n2 h hh)
  rw [n1 h (by omega), n1 (4 + h) (by omega), n1 (8 + h) (by omega)]
  exact k
