def aFl (r0 r1 r2 a b c : Int32) : Prop := ¬ 3 * r0 < a_abs (a - b) ∧ ¬ 3 * r1 < a_abs (b - c) ∧ ¬ 3 * r2 < a_abs (a - c)
theorem away_abs (x : Int32) : f_X10_away x = some (a_abs x) := by
  unfold f_X10_away a_abs
  by_cases c : 0 ≤ x
  · rw [if_pos c, if_pos c]; rfl
  · rw [if_neg c, if_neg c, Int32.zero_sub]; rfl
theorem sp_alwG {a b c : Int32} {m : gM} : (aFl (m 3 0) (m 3 1) (m 3 2) a b c → f_X6_allows a b c m = some 1) ∧ (¬ aFl (m 3 0) (m 3 1) (m 3 2) a b c → f_X6_allows a b c m = some 0) := by
  have l0 : a_ld 3 3 0 m = some (m 3 0) := a_ldI (i := 0) (by omega) (by omega) (by omega)
  have l1 : a_ld 3 3 1 m = some (m 3 1) := a_ldI (i := 1) (by omega) (by omega) (by omega)
  have l2 : a_ld 3 3 2 m = some (m 3 2) := a_ldI (i := 2) (by omega) (by omega) (by omega)
  unfold f_X6_allows aFl
  rw [l0, l1, l2]
  simp only [ob_sm]
  by_cases q0 : 3 * m 3 0 < a_abs (a - b)
  · rw [if_pos q0]
    exact ⟨fun h => absurd q0 h.1, fun _ => rfl⟩
  · rw [if_neg q0]
    by_cases q1 : 3 * m 3 1 < a_abs (b - c)
    · rw [if_pos q1]
      exact ⟨fun h => absurd q1 h.2.1, fun _ => rfl⟩
    · rw [if_neg q1]
      by_cases q2 : 3 * m 3 2 < a_abs (a - c)
      · rw [if_pos q2]
        exact ⟨fun h => absurd q2 h.2.2, fun _ => rfl⟩
      · rw [if_neg q2]
        exact ⟨fun _ => rfl, fun h => absurd ⟨q0, q1, q2⟩ h⟩
theorem sp_fitG {a b c : Int32} {m : gM} : (aFl (m 1 0) (m 1 1) (m 1 2) a b c → f_X10_fits a b c m = some 1) ∧ (¬ aFl (m 1 0) (m 1 1) (m 1 2) a b c → f_X10_fits a b c m = some 0) := by
  have l0 : a_ld 3 1 0 m = some (m 1 0) := a_ldI (i := 0) (by omega) (by omega) (by omega)
  have l1 : a_ld 3 1 1 m = some (m 1 1) := a_ldI (i := 1) (by omega) (by omega) (by omega)
  have l2 : a_ld 3 1 2 m = some (m 1 2) := a_ldI (i := 2) (by omega) (by omega) (by omega)
  unfold f_X10_fits aFl
  rw [away_abs, away_abs, away_abs, l0, l1, l2]
  simp only [ob_sm]
  by_cases q0 : 3 * m 1 0 < a_abs (a - b)
  · rw [if_pos q0]
    exact ⟨fun h => absurd q0 h.1, fun _ => rfl⟩
  · rw [if_neg q0]
    by_cases q1 : 3 * m 1 1 < a_abs (b - c)
    · rw [if_pos q1]
      exact ⟨fun h => absurd q1 h.2.1, fun _ => rfl⟩
    · rw [if_neg q1]
      by_cases q2 : 3 * m 1 2 < a_abs (a - c)
      · rw [if_pos q2]
        exact ⟨fun h => absurd q2 h.2.2, fun _ => rfl⟩
      · rw [if_neg q2]
        exact ⟨fun _ => rfl, fun h => absurd ⟨q0, q1, q2⟩ h⟩
def xs2 (x : Nat → Int32) (s b : Nat) (j : Int) : Nat → Int32 := upd (upd x s (x s + iI j)) b ((upd x s (x s + iI j)) b - iI j)
theorem i32_as (x : Int32) (j k : Int) : x + iI j + iI k = x + iI (j + k) := by rw [Int32.add_assoc, iI_add]
theorem i32_ss (x : Int32) (j k : Int) : x - iI j - iI k = x - iI (j + k) := by rw [Int32.sub_sub, iI_add]
theorem i32_sa (x : Int32) (j : Int) : x + iI j - iI j = x := by
  obtain ⟨a, ea, _⟩ := iI_ex x
  subst ea
  rw [iI_add, iI_sub]
  congr 1
  omega
theorem xs2_at (x : Nat → Int32) (s b : Nat) (j : Int) (i : Nat) : xs2 x s b j i = if i = b then (if b = s then x s else x b - iI j) else if i = s then x s + iI j else x i := by
  unfold xs2
  rw [updA, updA, updA]
  by_cases h1 : i = b
  · rw [if_pos h1, if_pos h1]
    by_cases h2 : b = s
    · rw [if_pos h2, if_pos h2, i32_sa]
    · rw [if_neg h2, if_neg h2]
  · rw [if_neg h1, if_neg h1]
theorem xs2_add (x : Nat → Int32) (s b : Nat) (j k : Int) : xs2 (xs2 x s b j) s b k = xs2 x s b (j + k) := by
  funext i
  rw [xs2_at, xs2_at x s b (j + k), xs2_at, xs2_at, xs2_at]
  by_cases h1 : i = b
  · rw [if_pos h1, if_pos h1]
    by_cases h2 : b = s
    · rw [if_pos h2, if_pos h2, if_pos h2.symm, if_pos h2]
    · rw [if_neg h2, if_neg h2, if_pos rfl, if_neg h2, i32_ss]
  · rw [if_neg h1, if_neg h1]
    by_cases h3 : i = s
    · rw [if_pos h3, if_pos h3, if_neg (fun h => h1 (h3.trans h)), if_pos rfl, i32_as, if_neg h1]
    · rw [if_neg h3, if_neg h3, if_neg h1, if_neg h3]
theorem xs2_0 (x : Nat → Int32) (s b : Nat) : xs2 x s b 0 = x := by
  funext i
  rw [xs2_at, ← iL_0, Int32.sub_zero, Int32.add_zero]
  by_cases h1 : i = b
  · rw [if_pos h1]
    by_cases h2 : b = s
    · rw [if_pos h2, h1, h2]
    · rw [if_neg h2, h1]
  · rw [if_neg h1]
    by_cases h3 : i = s
    · rw [if_pos h3, h3]
    · rw [if_neg h3]
theorem xs2_sub (x : Nat → Int32) (s b : Nat) (k : Int) : upd (upd x s (x s - iI k)) b ((upd x s (x s - iI k)) b + iI k) = xs2 x s b (-k) := by
  unfold xs2
  rw [← iI_neg, Int32.sub_eq_add_neg, Int32.sub_eq_add_neg, Int32.neg_neg]
theorem xs2_same (x : Nat → Int32) (s : Nat) (j : Int) : xs2 x s s j = x := by
  funext i
  rw [xs2_at]
  by_cases h1 : i = s
  · rw [if_pos h1, if_pos rfl, h1]
  · rw [if_neg h1, if_neg h1]
theorem xs2_cong {x y : Nat → Int32} (h : ∀ i, i < 12 → x i = y i) {s b : Nat} (hs : s < 12) (hb : b < 12) (j : Int) : ∀ i, i < 12 → xs2 x s b j i = xs2 y s b j i := by
  intro i hi
  rw [xs2_at, xs2_at, h s hs, h b hb, h i hi]
def aL (r : Nat → Int32) (x : Nat → Int32) (s b h : Nat) (j : Int) : Prop := aFl (r 0) (r 1) (r 2) (xs2 x s b j h) (xs2 x s b j (4 + h)) (xs2 x s b j (8 + h))
theorem sp_spot0 (h : Nat) : f_X9_spotOf 0 (iI (h : Nat)) = some (iI (h : Nat)) := by
  unfold f_X9_spotOf
  rw [iL_0, iL_4, iI_mul, iI_add]
  congr 2
  omega
theorem sp_spot1 (h : Nat) : f_X9_spotOf 1 (iI (h : Nat)) = some (iI ((4 + h : Nat) : Int)) := by
  unfold f_X9_spotOf
  rw [iL_1, iL_4, iI_mul, iI_add]
  congr 2
theorem sp_spot2 (h : Nat) : f_X9_spotOf 2 (iI (h : Nat)) = some (iI ((8 + h : Nat) : Int)) := by
  unfold f_X9_spotOf
  rw [iL_2, iL_4, iI_mul, iI_add]
  congr 2
theorem sp_move {A s b h : Nat} {m : gM} {x : Nat → Int32} {j : Int} (hA : A ≠ 3) (hs : s < 12) (hb : b < 12) (hh : h < 4) : (aL (m 3) x s b h (j + 1) → f_X9_moveUnit 12 A (iI (s : Nat)) (iI (b : Nat)) (iI (h : Nat)) (g_up m A (xs2 x s b j)) = some (1, g_up m A (xs2 x s b (j + 1)))) ∧ (¬ aL (m 3) x s b h (j + 1) → f_X9_moveUnit 12 A (iI (s : Nat)) (iI (b : Nat)) (iI (h : Nat)) (g_up m A (xs2 x s b j)) = some (0, g_up m A (xs2 x s b j))) := by
  have e1 : g_up (g_up (g_up m A (xs2 x s b j)) A (upd (xs2 x s b j) s (xs2 x s b j s + 1))) A (upd (upd (xs2 x s b j) s (xs2 x s b j s + 1)) b ((upd (xs2 x s b j) s (xs2 x s b j s + 1)) b - 1)) = g_up m A (xs2 x s b (j + 1)) := by
    rw [g_up2, g_up2, ← xs2_add]
    rfl
  have e3 : (g_up m A (xs2 x s b (j + 1))) 3 = m 3 := g_up_ne _ _ (Ne.symm hA)
  unfold f_X9_moveUnit
  rw [a_ldI (by omega) (by omega) (by omega), ob_some, a_stI (by omega) (by omega) (by omega), ob_some, Int.toNat_natCast, a_ldI (by omega) (by omega) (by omega), ob_some, a_stI (by omega) (by omega) (by omega), ob_some, Int.toNat_natCast, g_up_at, g_up_at, e1, sp_spot0, ob_some, a_ldI (by omega) (by omega) (by omega), ob_some, sp_spot1, ob_some, a_ldI (by omega) (by omega) (by omega), ob_some, sp_spot2, ob_some, a_ldI (by omega) (by omega) (by omega), ob_some, Int.toNat_natCast, Int.toNat_natCast, Int.toNat_natCast, g_up_at]
  have hal := sp_alwG (a := xs2 x s b (j + 1) h) (b := xs2 x s b (j + 1) (4 + h)) (c := xs2 x s b (j + 1) (8 + h)) (m := g_up m A (xs2 x s b (j + 1)))
  rw [e3] at hal
  constructor
  · intro q
    rw [hal.1 q, ob_some, if_neg (by decide)]
  · intro q
    rw [hal.2 q, ob_some, if_pos rfl, a_ldI (by omega) (by omega) (by omega), ob_some, a_stI (by omega) (by omega) (by omega), ob_some, a_ldI (by omega) (by omega) (by omega), ob_some, a_stI (by omega) (by omega) (by omega), ob_some, Int.toNat_natCast, Int.toNat_natCast, g_up_at, g_up_at, g_up2, g_up2, iL_1, xs2_sub, xs2_add]
    rw [show j + 1 + -1 = j by omega]
def uP (r x : Nat → Int32) (s b h most u : Nat) : Prop := u ≤ most ∧ (∀ j : Nat, 1 ≤ j → j ≤ u → aL r x s b h j) ∧ (u < most → ¬ aL r x s b h ((u : Nat) + 1))
theorem uP_uniq {r x : Nat → Int32} {s b h most u v : Nat} (h1 : uP r x s b h most u) (h2 : uP r x s b h most v) : u = v := by
  obtain ⟨a1, a2, a3⟩ := h1
  obtain ⟨b1, b2, b3⟩ := h2
  by_cases c : u < v
  · exact absurd (b2 (u + 1) (by omega) (by omega)) (a3 (by omega))
  · by_cases c2 : v < u
    · exact absurd (a2 (v + 1) (by omega) (by omega)) (b3 (by omega))
    · omega
theorem sp_L118 {o s b h most : Nat} {m : gM} (ho : 69 ≤ o) (hs : s < 12) (hb : b < 12) (hh : h < 4) (hm : most ≤ 1000) : T (f_X9_trade_L118 o (iI (s : Nat)) (iI (b : Nat)) (iI (h : Nat)) (iI (most : Nat)) f_fuel 0 m) (fun t => ∃ u : Nat, t.1 = iI (u : Nat) ∧ t.2 = g_up m (o + 2) (xs2 (m (o + 2)) s b u) ∧ uP (m 3) (m (o + 2)) s b h most u) := by
  refine T_run2 (f_X9_trade_L118 o (iI (s : Nat)) (iI (b : Nat)) (iI (h : Nat)) (iI (most : Nat))) (fun k y m2 => y = iI (k : Nat) ∧ m2 = g_up m (o + 2) (xs2 (m (o + 2)) s b (k : Nat)) ∧ ∀ j : Nat, 1 ≤ j → j ≤ k → aL (m 3) (m (o + 2)) s b h j) _ most 0 _ _ ⟨rfl, ?_, fun j h1 h2 => absurd h1 (by omega)⟩ (Nat.zero_le _) (by omega) ?_
  · show m = g_up m (o + 2) (xs2 (m (o + 2)) s b 0)
    rw [xs2_0, g_upE _ _ _ rfl]
  · intro k y m2 f hI hk hcont
    obtain ⟨e1, e2, e3⟩ := hI
    subst e1
    subst e2
    unfold f_X9_trade_L118
    rw [iI_le (by omega) (by omega) (by omega) (by omega)]
    by_cases c : (most : Int) ≤ k
    · rw [if_pos c]
      exact T_some ⟨k, rfl, rfl, hk, e3, fun h => absurd h (by omega)⟩
    · rw [if_neg c]
      have hmv := sp_move (A := o + 2) (m := m) (x := m (o + 2)) (j := (k : Nat)) (by omega) hs hb hh
      by_cases q : aL (m 3) (m (o + 2)) s b h ((k : Nat) + 1)
      · rw [hmv.1 q]
        simp only [ob_sm]
        rw [if_neg (by decide)]
        refine hcont (by omega) _ _ ⟨iI_succ k, rfl, ?_⟩
        intro j h1 h2
        by_cases w : j = k + 1
        · subst w; exact q
        · exact e3 j h1 (by omega)
      · rw [hmv.2 q]
        simp only [ob_sm]
        rw [if_pos trivial]
        exact T_some ⟨k, rfl, rfl, hk, e3, fun _ => q⟩
theorem upd_same (r : Nat → Int32) (k : Nat) (x : Int32) (hx : x = r k) : upd r k x = r := by
  funext j
  rw [updA]
  by_cases q : j = k
  · rw [if_pos q, q, hx]
  · rw [if_neg q]
theorem sp_room {z1 z2 h most : Nat} {m : gM} (hz1 : z1 < 3) (hz2 : z2 < 3) (hh : h < 4) (hz : z1 ≠ z2) (hm : most ≤ 1000) : T (f_X10_room (iI (z1 : Nat)) (iI (z2 : Nat)) (iI (h : Nat)) (iI (most : Nat)) m) (fun r => ∃ u : Nat, r = (iI (u : Nat), m) ∧ uP (m 1) (m 48) (4 * z1 + h) (4 * z2 + h) h most u) := by
  unfold f_X10_room
  rw [if_neg (by rw [iI_eqP (by omega) (by omega) (by omega) (by omega)]; omega)]
  have e1 : (4 : Int) * (z1 : Nat) + (h : Nat) = ((4 * z1 + h : Nat) : Int) := by omega
  have e2 : (4 : Int) * (z2 : Nat) + (h : Nat) = ((4 * z2 + h : Nat) : Int) := by omega
  have i1 : (4 : Int32) * iI (z1 : Nat) + iI (h : Nat) = iI ((4 * z1 + h : Nat) : Int) := by rw [iL_4, iI_mul, iI_add, e1]
  have i2 : (4 : Int32) * iI (z2 : Nat) + iI (h : Nat) = iI ((4 * z2 + h : Nat) : Int) := by rw [iL_4, iI_mul, iI_add, e2]
  have i3 : (4 : Int32) + iI (h : Nat) = iI ((4 + h : Nat) : Int) := by rw [iL_4, iI_add]; rfl
  have i4 : (8 : Int32) + iI (h : Nat) = iI ((8 + h : Nat) : Int) := by rw [iL_8, iI_add]; rfl
  have hs : 4 * z1 + h < 12 := by omega
  have hb : 4 * z2 + h < 12 := by omega
  generalize hS : 4 * z1 + h = s at *
  generalize hBB : 4 * z2 + h = b at *
  refine T_ob (P := fun t => ∃ u : Nat, t.1 = iI (u : Nat) ∧ t.2.2 = g_up m 48 (xs2 (m 48) s b u) ∧ uP (m 1) (m 48) s b h most u) ?_ ?_
  · refine T_run3 (f_X10_room_L14 (iI (z1 : Nat)) (iI (z2 : Nat)) (iI (h : Nat)) (iI (most : Nat))) (fun k x y m2 => ∃ u : Nat, x = iI (u : Nat) ∧ m2 = g_up m 48 (xs2 (m 48) s b u) ∧ u ≤ most ∧ (∀ j : Nat, 1 ≤ j → j ≤ u → aL (m 1) (m 48) s b h j) ∧ ((y = 1 ∧ k = u) ∨ (y = 0 ∧ k = u + 1 ∧ ¬ aL (m 1) (m 48) s b h ((u : Nat) + 1)))) _ (most + 1) 0 _ _ _ ⟨0, rfl, ?_, Nat.zero_le _, fun j h1 h2 => absurd h1 (by omega), Or.inl ⟨rfl, rfl⟩⟩ (Nat.zero_le _) (by omega) ?_
    · show m = g_up m 48 (xs2 (m 48) s b 0)
      rw [xs2_0, g_upE _ _ _ rfl]
    · intro k x y m2 f hI hk hcont
      obtain ⟨u, d1, d2, d3, d4, d5⟩ := hI
      subst d1
      subst d2
      unfold f_X10_room_L14
      rcases d5 with ⟨y1, ku⟩ | ⟨y0, ku, q⟩
      · subst y1
        subst ku
        rw [if_neg (by decide), iI_le (by omega) (by omega) (by omega) (by omega)]
        by_cases c : (most : Int) ≤ k
        · rw [if_pos c]
          exact T_some ⟨k, rfl, rfl, d3, d4, fun h => absurd h (by omega)⟩
        · rw [if_neg c, i1, i2, i3, i4]
          have g1 : g_up (g_up (g_up m 48 (xs2 (m 48) s b (k : Nat))) 48 (upd (xs2 (m 48) s b (k : Nat)) s (xs2 (m 48) s b (k : Nat) s + 1))) 48 (upd (upd (xs2 (m 48) s b (k : Nat)) s (xs2 (m 48) s b (k : Nat) s + 1)) b ((upd (xs2 (m 48) s b (k : Nat)) s (xs2 (m 48) s b (k : Nat) s + 1)) b - 1)) = g_up m 48 (xs2 (m 48) s b ((k : Nat) + 1)) := by
            rw [g_up2, g_up2, ← xs2_add]
            rfl
          have g2 : (g_up m 48 (xs2 (m 48) s b ((k : Nat) + 1))) 1 = m 1 := g_up_ne _ _ (by decide)
          rw [a_ldI (by omega) (by omega) (by omega), ob_some, a_stI (by omega) (by omega) (by omega), ob_some, Int.toNat_natCast, a_ldI (by omega) (by omega) (by omega), ob_some, a_stI (by omega) (by omega) (by omega), ob_some, Int.toNat_natCast, g_up_at, g_up_at, g1]
          have hfi := sp_fitG (a := xs2 (m 48) s b ((k : Nat) + 1) h) (b := xs2 (m 48) s b ((k : Nat) + 1) (4 + h)) (c := xs2 (m 48) s b ((k : Nat) + 1) (8 + h)) (m := g_up m 48 (xs2 (m 48) s b ((k : Nat) + 1)))
          rw [g2] at hfi
          have n48 : ∀ i : Nat, i < 12 → a_ld 12 48 (iI (i : Nat)) (g_up m 48 (xs2 (m 48) s b ((k : Nat) + 1))) = some (xs2 (m 48) s b ((k : Nat) + 1) i) := by
            intro i hi
            rw [a_ldI (by omega) (by omega) (by omega), Int.toNat_natCast, g_up_at]
          rw [n48 h (by omega), ob_some, n48 (4 + h) (by omega), ob_some, n48 (8 + h) (by omega), ob_some]
          by_cases q : aL (m 1) (m 48) s b h ((k : Nat) + 1)
          · rw [hfi.1 q, ob_some, if_neg (by decide), ob_some, ob_some, n48 s hs, ob_some, if_neg (by decide), ob_some, Int32.sub_zero, a_stI (by omega) (by omega) (by omega), ob_some, Int.toNat_natCast, g_up_at, g_up2, upd_same _ _ _ rfl, n48 b hb, ob_some, ob_some, Int32.add_zero, a_stI (by omega) (by omega) (by omega), ob_some, Int.toNat_natCast, g_up_at, g_up2, upd_same _ _ _ rfl]
            refine hcont (by omega) _ _ _ ⟨k + 1, iI_succ k, rfl, by omega, ?_, Or.inl ⟨rfl, rfl⟩⟩
            intro j h1 h2
            by_cases w : j = k + 1
            · subst w; exact q
            · exact d4 j h1 (by omega)
          · rw [hfi.2 q, ob_some, if_pos rfl, ob_some, ob_some, n48 s hs, ob_some, if_pos rfl, ob_some, a_stI (by omega) (by omega) (by omega), ob_some, a_ldI (by omega) (by omega) (by omega), ob_some, ob_some, a_stI (by omega) (by omega) (by omega), ob_some, Int.toNat_natCast, Int.toNat_natCast, g_up_at, g_up_at, g_up2, g_up2, iL_1, xs2_sub, xs2_add, show ((k : Nat) : Int) + 1 + -1 = (k : Nat) by omega]
            refine hcont (by omega) _ _ _ ⟨k, Int32.add_zero _, rfl, d3, d4, Or.inr ⟨rfl, rfl, q⟩⟩
      · subst y0
        rw [if_pos rfl]
        exact T_some ⟨u, rfl, rfl, d3, d4, fun _ => q⟩
  · intro t ht
    obtain ⟨y5, y6, m7⟩ := t
    obtain ⟨u, t1, t2, t3⟩ := ht
    have t1 : y5 = iI (u : Nat) := t1
    have t2 : m7 = g_up m 48 (xs2 (m 48) s b u) := t2
    subst t1
    subst t2
    simp only [ob_sm]
    rw [i1, i2, a_ldI (by omega) (by omega) (by omega), ob_some, a_stI (by omega) (by omega) (by omega), ob_some, a_ldI (by omega) (by omega) (by omega), ob_some, a_stI (by omega) (by omega) (by omega), ob_some, Int.toNat_natCast, Int.toNat_natCast, g_up_at, g_up_at, g_up2, g_up2, xs2_sub, xs2_add, show ((u : Nat) : Int) + -(u : Nat) = 0 by omega, xs2_0, g_upE _ _ _ rfl]
    exact T_some ⟨u, rfl, t3⟩
