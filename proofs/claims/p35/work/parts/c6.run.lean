theorem i32_h1 (a b x y : Int32) : a + y + 0 + (b + x) = a + b + y + x := by
  obtain ⟨a, rfl, -, -⟩ := iI_ex a
  obtain ⟨b, rfl, -, -⟩ := iI_ex b
  obtain ⟨x, rfl, -, -⟩ := iI_ex x
  obtain ⟨y, rfl, -, -⟩ := iI_ex y
  simp only [iI_add, iL_0]
  congr 1
  omega
theorem i32_h2 (a b z y : Int32) : a + y + z + b = a + b + y + z := by
  obtain ⟨a, rfl, -, -⟩ := iI_ex a
  obtain ⟨b, rfl, -, -⟩ := iI_ex b
  obtain ⟨z, rfl, -, -⟩ := iI_ex z
  obtain ⟨y, rfl, -, -⟩ := iI_ex y
  simp only [iI_add]
  congr 1
  omega
theorem acS_up {m m2 : gM} {p : Nat} {x y : Int32} (h5 : m2 65 3 = m 65 3 + y) (h6 : ∀ k, m2 66 k = if k = p then m 66 p + x else m 66 k) : ∀ n, acS m2 n = acS m n + y + (if p < n then x else 0)
  | 0 => by
    rw [if_neg (by omega), Int32.add_zero]
    exact h5
  | n + 1 => by
    show acS m2 n + m2 66 n = acS m n + m 66 n + y + _
    rw [acS_up h5 h6 n, h6 n]
    by_cases c : n = p
    · rw [if_pos c, if_neg (by omega), if_pos (by omega), c]
      exact i32_h1 _ _ _ _
    · rw [if_neg c]
      by_cases c2 : p < n
      · rw [if_pos c2, if_pos (by omega)]
        exact i32_h2 _ _ _ _
      · rw [if_neg c2, if_neg (by omega)]
        exact i32_h2 _ _ _ _
theorem next_pc {m : gM} {r : Int32} (h01 : ∀ k, k < 6 → m 68 k = 0 ∨ m 68 k = 1) (h : f_X0_nextToFail m = some r) : (r = -1 ∧ ∀ k, k < 6 → m 68 k = 0 → ¬ m 66 k < 0) ∨ ∃ k : Nat, k < 6 ∧ r = iI (k : Nat) ∧ m 68 k = 0 ∧ m 66 k < 0 := by
  have hE : accE m (g_up (g_up (g_up m 2 (m 66)) 3 (m 67)) 4 (m 68)) := by
    refine ⟨?_, ?_, ?_, h01⟩
    · rw [g_up_ne _ _ (by decide), g_up_ne _ _ (by decide), g_up_at]
    · rw [g_up_ne _ _ (by decide), g_up_at]
    · rw [g_up_at]
  obtain ⟨r2, e1, -, e3⟩ := sim_next hE
  rw [h] at e1
  have e : r = r2 := Option.some.inj e1
  subst e
  exact e3
theorem i32_h3 (a l x : Int32) : a + 0 + -x - (l - x) = a - l := by
  obtain ⟨a, rfl, -, -⟩ := iI_ex a
  obtain ⟨l, rfl, -, -⟩ := iI_ex l
  obtain ⟨x, rfl, -, -⟩ := iI_ex x
  simp only [iI_add, iI_sub, iI_neg, iL_0]
  congr 1
  omega
theorem failL_pc {x2 : Int32} {y7 : Int64} : ∀ (n k : Nat) (x15 : Int32) (m17 : gM) (y1 y2 : Int32) (m2 : gM), k ≤ 1000 → f_X0_fail_L71 x2 y7 n x15 (iI (k : Nat)) m17 = some (y1, y2, m2) → (∀ c, c ≠ 66 → m2 c = m17 c) ∧ acS m2 6 - y1 = acS m17 6 - x15 ∧ ∀ f, f < 6 → m17 68 f ≠ 0 → m2 66 f = m17 66 f := by
  intro n
  induction n with
  | zero =>
    intro k x15 m17 y1 y2 m2 _ h
    cases h
  | succ n ih =>
    intro k x15 m17 y1 y2 m2 hk h
    rw [f_X0_fail_L71, iL_6, iI_le (by omega) (by omega) (by omega) (by omega)] at h
    by_cases q : (6 : Int) ≤ k
    · rw [if_pos q] at h
      cases h
      exact ⟨fun _ _ => rfl, rfl, fun _ _ _ => rfl⟩
    · have hk6 : k < 6 := by omega
      rw [if_neg q, ldN hk6 (by omega), ob_some] at h
      obtain ⟨t, ht, h⟩ := ob_inv h
      obtain ⟨x24, m25⟩ := t
      try simp only [ob_sm] at h
      rw [iI_succ] at h
      obtain ⟨j1, j2, j3⟩ := ih (k + 1) x24 m25 y1 y2 m2 (by omega) h
      by_cases q2 : m17 68 k = 0
      · rw [if_pos q2] at ht
        by_cases q3 : lg_cmp y7 0 ≤ 0
        · rw [if_pos q3] at ht
          cases ht
          exact ⟨j1, j2, j3⟩
        · rw [if_neg q3, ldN hk6 (by omega), ob_some] at ht
          obtain ⟨q28, _, ht⟩ := ob_inv ht
          try simp only [ob_sm] at ht
          rw [ldN hk6 (by omega), ob_some, stN hk6 (by omega), ob_some] at ht
          cases ht
          have e66 : ∀ f, g_up m17 66 (upd (m17 66) k (m17 66 k - q28.toInt32)) 66 f = if f = k then m17 66 k + -q28.toInt32 else m17 66 f := by
            intro f
            rw [g_up_at, updA, Int32.sub_eq_add_neg]
          have ea := acS_up (m := m17) (y := 0) (by rw [g_up_ne _ _ (by decide), Int32.add_zero]) e66 6
          rw [if_pos hk6] at ea
          refine ⟨fun c hc => by rw [j1 c hc, g_up_ne _ _ hc], ?_, fun f hf hf2 => ?_⟩
          · rw [j2, ea]
            exact i32_h3 _ _ _
          · have hfk : f ≠ k := fun e => hf2 (by rw [e]; exact q2)
            rw [j3 f hf (by rw [g_up_ne _ _ (by decide)]; exact hf2), e66, if_neg hfk]
      · rw [if_neg q2] at ht
        cases ht
        exact ⟨j1, j2, j3⟩
theorem i32_h4 (a v : Int32) : a + 0 + -v - (-v) = a := by
  obtain ⟨a, rfl, -, -⟩ := iI_ex a
  obtain ⟨v, rfl, -, -⟩ := iI_ex v
  simp only [iI_add, iI_sub, iI_neg, iL_0]
  congr 1
  omega
theorem i32_h5 (v : Int32) : v + -v = 0 := Int32.add_right_neg v
theorem fail_pc {m m2 : gM} {p : Nat} (hp : p < 6) (h : f_X0_fail (iI (p : Nat)) m = some m2) : m2 68 = upd (m 68) p 1 ∧ acS m2 6 = acS m 6 ∧ m2 66 p = 0 ∧ (∀ f, f < 6 → f ≠ p → m 68 f = 1 → m2 66 f = m 66 f) ∧ (∀ c, c ≠ 65 → c ≠ 66 → c ≠ 68 → m2 c = m c) ∧ ∀ k, k ≠ 3 → m2 65 k = m 65 k := by
  unfold f_X0_fail at h
  rw [ldN hp (by omega), ob_some, ob_some, stN hp (by omega), ob_some, a_zst_st (Or.inr rfl), stN hp (by omega), ob_some] at h
  obtain ⟨t36, _, h⟩ := ob_inv h
  try simp only [ob_sm] at h
  obtain ⟨t35, ht, h⟩ := ob_inv h
  obtain ⟨y18, y19, m20⟩ := t35
  try simp only [ob_sm] at h
  have h := Option.some.inj h
  generalize hm4 : g_up (g_up m 66 (upd (m 66) p 0)) 68 (upd (g_up m 66 (upd (m 66) p 0) 68) p 1) = m4 at ht
  have f4 : ∀ c, c ≠ 66 → c ≠ 68 → m4 c = m c := fun c c1 c2 => by rw [← hm4, g_up_ne _ _ c2, g_up_ne _ _ c1]
  have r66 : ∀ f, m4 66 f = if f = p then m 66 p + -(m 66 p) else m 66 f := by
    intro f
    rw [← hm4, g_up_ne _ _ (by decide), g_up_at, updA, i32_h5]
  have r68 : m4 68 = upd (m 68) p 1 := by rw [← hm4, g_up_at, g_up_ne _ _ (by decide)]
  have ea := acS_up (m := m) (m2 := m4) (y := 0) (by rw [f4 65 (by decide) (by decide), Int32.add_zero]) r66 6
  rw [if_pos hp] at ea
  obtain ⟨j1, j2, j3⟩ := failL_pc f_fuel 0 (-(m 66 p)) m4 y18 y19 m20 (by omega) ht
  have e65 : m2 65 = upd (m20 65) 3 (m20 65 3 - y18) := by rw [← h, g_up_at]
  have f2 : ∀ c, c ≠ 65 → m2 c = m20 c := fun c hc => by rw [← h, g_up_ne _ _ hc]
  have eb := acS_up (m := m20) (m2 := m2) (p := 6) (x := 0) (y := -y18) (by rw [e65, updA, if_pos rfl, Int32.sub_eq_add_neg]) (fun k => by
    rw [f2 66 (by decide)]
    by_cases w : k = 6
    · rw [if_pos w, w, Int32.add_zero]
    · rw [if_neg w]) 6
  rw [if_neg (by omega), Int32.add_zero, ← Int32.sub_eq_add_neg] at eb
  refine ⟨by rw [f2 68 (by decide), j1 68 (by decide), r68], ?_, ?_, ?_, ?_, ?_⟩
  · rw [eb, j2, ea]
    exact i32_h4 _ _
  · rw [f2 66 (by decide), j3 p hp (by rw [r68, updA, if_pos rfl]; decide), r66, if_pos rfl]
    exact i32_h5 _
  · intro f hf hfp h1
    rw [f2 66 (by decide), j3 f hf (by rw [r68, updA, if_neg hfp, h1]; decide), r66, if_neg hfp]
  · intro c c1 c2 c3
    rw [f2 c c1, j1 c c2, f4 c c2 c3]
  · intro k hk
    rw [e65, updA, if_neg hk, j1 65 (by decide), f4 65 (by decide) (by decide)]
def acI (m : gM) : Prop := ∀ k, k < 6 → m 68 k = 0 ∨ (m 68 k = 1 ∧ m 66 k = 0)
theorem failAll_pc : ∀ (n i : Nat) (x3 : Int32) (m4 : gM) (y y6 : Int32) (m7 : gM), i ≤ 6 → acI m4 → (i : Int) ≤ outC m4 → f_X0_nextToFail m4 = some x3 → f_X0_failAll_L7 n (iI (i : Nat)) x3 m4 = some (y, y6, m7) → (∃ i2 : Nat, i2 ≤ 6 ∧ y = iI (i2 : Nat)) ∧ acS m7 6 = acS m4 6 ∧ (∀ k, k < 6 → (m7 68 k = 0 ∧ 0 ≤ (m7 66 k).toInt ∧ m4 68 k = 0) ∨ (m7 68 k = 1 ∧ m7 66 k = 0)) ∧ (∀ c, c ≠ 65 → c ≠ 66 → c ≠ 68 → m7 c = m4 c) ∧ ∀ k, k ≠ 3 → m7 65 k = m4 65 k := by
  intro n
  induction n with
  | zero =>
    intro i x3 m4 y y6 m7 _ _ _ _ h
    cases h
  | succ n ih =>
    intro i x3 m4 y y6 m7 hi hA hO hx h
    have h01 : ∀ k, k < 6 → m4 68 k = 0 ∨ m4 68 k = 1 := fun k hk => (hA k hk).elim Or.inl (fun w => Or.inr w.1)
    rw [f_X0_failAll_L7, iL_6, iI_le (by omega) (by omega) (by omega) (by omega)] at h
    rcases next_pc h01 hx with ⟨e, hn⟩ | ⟨p, hp, e, hp0, hneg⟩
    · rw [if_pos e] at h
      cases h
      refine ⟨⟨i, hi, rfl⟩, rfl, fun k hk => ?_, fun _ _ _ _ => rfl, fun _ _ => rfl⟩
      rcases hA k hk with w | w
      · refine Or.inl ⟨w, ?_, w⟩
        have h2 := hn k hk w
        rw [Int32.lt_iff_toInt_lt] at h2
        have e0 : (0 : Int32).toInt = 0 := by decide
        omega
      · exact Or.inr w
    · have hne : ¬ x3 = -1 := by
        rw [e, show (-1 : Int32) = iI (-1) from rfl, iI_eqP (by omega) (by omega) (by omega) (by omega)]
        omega
      have hi6 : ¬ (6 : Int) ≤ i := fun w => outC_6 (m := m4) (by omega) p hp hp0
      rw [if_neg hne, if_neg hi6, e] at h
      obtain ⟨m10, hf, h⟩ := ob_inv h
      obtain ⟨r11, hr, h⟩ := ob_inv h
      rw [iI_succ] at h
      obtain ⟨g1, g2, g3, g4, g5, g6⟩ := fail_pc hp hf
      have hA2 : acI m10 := by
        intro k hk
        rw [g1, updA]
        by_cases w : k = p
        · rw [if_pos w, w]
          exact Or.inr ⟨rfl, g3⟩
        · rw [if_neg w]
          rcases hA k hk with u | u
          · exact Or.inl u
          · exact Or.inr ⟨u.1, by rw [g4 k hk w u.1]; exact u.2⟩
      have hO2 := outC_up hp hp0 g1
      obtain ⟨k1, k2, k3, k4, k5⟩ := ih (i + 1) r11 m10 y y6 m7 (by omega) hA2 (by omega) hr h
      refine ⟨k1, by rw [k2, g2], fun k hk => ?_, fun c c1 c2 c3 => by rw [k4 c c1 c2 c3, g5 c c1 c2 c3], fun k hk => by rw [k5 k hk, g6 k hk]⟩
      rcases k3 k hk with ⟨u1, u2, u3⟩ | u
      · refine Or.inl ⟨u1, u2, ?_⟩
        rw [g1, updA] at u3
        by_cases w : k = p
        · rw [w]; exact hp0
        · rw [if_neg w] at u3
          exact u3
      · exact Or.inr u
theorem bill_eq {j na f : Nat} {MD : List Nat} {m m2 mm : gM} (hB : bH j na MD m mm) (hC : csE j m mm) (hf : f < 6) (hc : ∀ c, 69 + 16 * j + 1 ≤ c → c ≤ 69 + 16 * j + 15 → c ≠ 69 + 16 * j + 6 → m2 c = m c) : ∃ v, f_X5_billOf (69 + 16 * j) (iI (f : Nat)) m = some v ∧ f_X5_billOf (69 + 16 * j) (iI (f : Nat)) m2 = some v := by
  obtain ⟨v, row, h1, h2⟩ := sim_bill hB hC hf
  have hB2 : bH j na MD m2 mm := bH_fr hB (fun c c1 c2 c3 c4 => hc c c1 c2 c4) (fun _ _ _ _ => rfl)
  have hC2 : csE j m2 mm := fun i hi => by rw [hc _ (by omega) (by omega) (by omega)]; exact hC i hi
  obtain ⟨v2, row2, h3, h4⟩ := sim_bill hB2 hC2 hf
  rw [h2] at h4
  have e : v = v2 := congrArg Prod.fst (Option.some.inj h4)
  subst e
  exact ⟨v, h1, h3⟩
theorem i32_h6 (a x : Int32) : a + -x + x = a := by
  obtain ⟨a, rfl, -, -⟩ := iI_ex a
  obtain ⟨x, rfl, -, -⟩ := iI_ex x
  simp only [iI_add, iI_neg]
  congr 1
  omega
theorem i32_h7 (p v : Int32) : v + (p - v) = p := by
  obtain ⟨p, rfl, -, -⟩ := iI_ex p
  obtain ⟨v, rfl, -, -⟩ := iI_ex v
  simp only [iI_add, iI_sub]
  congr 1
  omega
theorem pay_pc {j na : Nat} {MD : List Nat} {m4 mm : gM} (hj : j < 10) (hB : bH j na MD m4 mm) (hC : csE j m4 mm) (h01 : ∀ k, k < 6 → m4 68 k = 0 ∨ m4 68 k = 1) : ∀ (n k : Nat) (m6 : gM) (y : Int32) (m8 : gM), k ≤ 6 → (∀ c, c ≠ 69 + 16 * j + 6 → c ≠ 65 → c ≠ 66 → m6 c = m4 c) → (∀ k, k ≠ 3 → m6 65 k = m4 65 k) → acS m6 6 = acS m4 6 → (∀ f, f < 6 → m4 68 f = 1 → m6 66 f = m4 66 f) → (∀ f, f < k → m4 68 f = 0 → f_X5_billOf (69 + 16 * j) (iI (f : Nat)) m4 = some (m6 (69 + 16 * j + 6) f)) → f_X9_run_L43 (69 + 16 * j) n (iI (k : Nat)) m6 = some (y, m8) → (∀ c, c ≠ 69 + 16 * j + 6 → c ≠ 65 → c ≠ 66 → m8 c = m4 c) ∧ (∀ k, k ≠ 3 → m8 65 k = m4 65 k) ∧ acS m8 6 = acS m4 6 ∧ (∀ f, f < 6 → m4 68 f = 1 → m8 66 f = m4 66 f) ∧ ∀ f, f < 6 → m4 68 f = 0 → f_X5_billOf (69 + 16 * j) (iI (f : Nat)) m4 = some (m8 (69 + 16 * j + 6) f) := by
  intro n
  induction n with
  | zero =>
    intro k m6 y m8 _ _ _ _ _ _ h
    cases h
  | succ n ih =>
    intro k m6 y m8 hk i1 i2 i3 i4 i5 h
    rw [f_X9_run_L43, iL_6, iI_le (by omega) (by omega) (by omega) (by omega)] at h
    by_cases q : (6 : Int) ≤ k
    · rw [if_pos q] at h
      cases h
      have e : k = 6 := by omega
      subst e
      exact ⟨i1, i2, i3, i4, i5⟩
    · have hk6 : k < 6 := by omega
      rw [if_neg q, ldN hk6 (by omega), ob_some, i1 68 (by omega) (by decide) (by decide)] at h
      obtain ⟨m12, hm, h⟩ := ob_inv h
      rw [iI_succ] at h
      by_cases q2 : m4 68 k = 0
      · obtain ⟨v, b1, b2⟩ := bill_eq (m2 := m6) hB hC hk6 (fun c c1 c2 c3 => i1 c c3 (by omega) (by omega))
        rw [if_pos q2, b2, ob_some, ldN hk6 (by omega), ob_some, ob_some, ob_some, stN hk6 (by omega), ob_some, i32_h7] at hm
        unfold f_X0_payFromHouse at hm
        rw [ldN hk6 (by omega), ob_some, stN hk6 (by omega), ob_some, ob_some, ob_some] at hm
        have hm := Option.some.inj hm
        generalize hx : v - m6 (69 + 16 * j + 6) k = x at hm
        generalize hm17 : g_up m6 (69 + 16 * j + 6) (upd (m6 (69 + 16 * j + 6)) k v) = m17 at hm
        have f17 : ∀ c, c ≠ 69 + 16 * j + 6 → m17 c = m6 c := fun c hc => by rw [← hm17, g_up_ne _ _ hc]
        have r17 : m17 (69 + 16 * j + 6) = upd (m6 (69 + 16 * j + 6)) k v := by rw [← hm17, g_up_at]
        have r65 : m12 65 = upd (m17 65) 3 (m17 65 3 - x) := by rw [← hm, g_up_at, g_up_ne _ _ (by decide)]
        have r66 : m12 66 = upd (m17 66) k (m17 66 k + x) := by rw [← hm, g_up_ne _ _ (by decide), g_up_at]
        have f12 : ∀ c, c ≠ 65 → c ≠ 66 → m12 c = m17 c := fun c c1 c2 => by rw [← hm, g_up_ne _ _ c1, g_up_ne _ _ c2]
        have ea := acS_up (m := m6) (m2 := m12) (p := k) (x := x) (y := -x) (by rw [r65, updA, if_pos rfl, f17 65 (by omega), Int32.sub_eq_add_neg]) (fun f => by rw [r66, updA, f17 66 (by omega)]) 6
        rw [if_pos hk6, i32_h6] at ea
        refine ih (k + 1) m12 y m8 (by omega) (fun c c1 c2 c3 => by rw [f12 c c2 c3, f17 c c1, i1 c c1 c2 c3]) (fun f hf => by rw [r65, updA, if_neg hf, f17 65 (by omega), i2 f hf]) (by rw [ea, i3]) (fun f hf h1 => ?_) (fun f hf h0 => ?_) h
        · have hfk : f ≠ k := fun e => by rw [e, q2] at h1; cases h1
          rw [r66, updA, if_neg hfk, f17 66 (by omega), i4 f hf h1]
        · rw [f12 _ (by omega) (by omega), r17, updA]
          by_cases w : f = k
          · rw [if_pos w, w]; exact b1
          · rw [if_neg w]; exact i5 f (by omega) h0
      · rw [if_neg q2] at hm
        cases hm
        refine ih (k + 1) m6 y m8 (by omega) i1 i2 i3 i4 (fun f hf h0 => ?_) h
        by_cases w : f = k
        · rw [w] at h0; exact absurd h0 q2
        · exact i5 f (by omega) h0
theorem outC_nn (m : gM) : 0 ≤ outC m := by
  have := isum_rng (B := 1) (by omega) (t := fun k => if m 68 k = 0 then (0 : Int) else 1) 6 (fun k _ => by
    show -1 ≤ (if m 68 k = 0 then (0 : Int) else 1) ∧ (if m 68 k = 0 then (0 : Int) else 1) ≤ 1
    by_cases c : m 68 k = 0
    · rw [if_pos c]; omega
    · rw [if_neg c]; omega)
  unfold outC
  have h2 : ∀ n, 0 ≤ isum n (fun k => if m 68 k = 0 then (0 : Int) else 1) := by
    intro n
    induction n with
    | zero => exact Int.le_refl _
    | succ n ih =>
      show 0 ≤ isum n (fun k => if m 68 k = 0 then (0 : Int) else 1) + (if m 68 n = 0 then (0 : Int) else 1)
      by_cases c : m 68 n = 0
      · rw [if_pos c]; omega
      · rw [if_neg c]; omega
  exact h2 6
theorem run_ok {d st : Nat} {l : Nat → Int} {n : Nat} {M : List Nat} {nb : Nat} {TO GR : Nat → Int} {na : Nat} {MA : List Nat} {no : Nat} {MO : List Nat} {m mm : gM} (hR : RelA d st l n M nb TO GR na MA no MO m mm) (hI : acI m) {j : Nat} (hj : j < d) : f_X9_run (iI (j : Nat)) m = some (.inl 3) ∨ ∃ (i : Nat) (m2 : gM), f_X9_run (iI (j : Nat)) m = some (.inr (iI (i : Nat), m2)) ∧ i ≤ 6 ∧ RelC m2 ∧ (∀ c, c ≠ 69 + 16 * j + 6 → c ≠ 69 + 16 * j → c ≠ 65 → c ≠ 66 → c ≠ 68 → m2 c = m c) ∧ acS m2 6 = acS m 6 ∧ ∀ k, k < 6 → (m2 68 k = 0 ∧ 0 ≤ (m2 66 k).toInt ∧ ∃ v, f_X9_settled (iI (j : Nat)) (iI (k : Nat)) m2 = some (.inr v) ∧ f_X9_bill (iI (j : Nat)) (iI (k : Nat)) m2 = some (.inr v)) ∨ (m2 68 k = 1 ∧ m2 66 k = 0) := by
  obtain ⟨a1, a2, a3, a4, a5, a6, a7, a8, a9, a10, a11, a12⟩ := id hR
  obtain ⟨hd9, _, hd1, hd2, hs1, hs2⟩ := id a1
  have hj10 : j < 10 := by omega
  obtain ⟨ra, r3, er, _⟩ := (a9 j hj10).2.2.2.2.2.1
  have x0 := ci_ok (ct := m 0 8) (v := j) (n := d) hd1 hj (by omega)
  have hrf := rfN (b := 69) (w := 16) hj10 (show (10 : Nat) ≤ 100000 by omega)
  by_cases c3 : ra = 3
  · left
    have z3 : 3 ≤ m (69 + 16 * j) 7 := by rw [er, iL_3, iI_leP (by omega) (by omega) (by omega) (by omega)]; omega
    unfold f_X9_run
    simp only [x0, ox_r, ox_l, hrf, ob_sm, if_pos z3, cs0]
  · right
    have z3 : ¬ 3 ≤ m (69 + 16 * j) 7 := by rw [er, iL_3, iI_leP (by omega) (by omega) (by omega) (by omega)]; omega
    obtain ⟨v, hv, hv2⟩ := br_run (a1 := iI (j : Nat)) ⟨mm, d, st, l, n, M, nb, TO, GR, na, MA, no, MO, hR⟩
    have hv3 := hv
    unfold f_X9_run at hv3
    simp only [x0, ox_r, hrf, ob_sm, if_neg z3, cs1] at hv3
    generalize hm4 : g_up m (69 + 16 * j) (upd (m (69 + 16 * j)) 7 (m (69 + 16 * j) 7 + 1)) = m4 at hv3
    have f4 : ∀ c, c ≠ 69 + 16 * j → m4 c = m c := fun c hc => by rw [← hm4, g_up_ne _ _ hc]
    obtain ⟨t22, h22, hv3⟩ := ob_inv hv3
    obtain ⟨y7, m8⟩ := t22
    obtain ⟨w21, h21, hv3⟩ := ob_inv hv3
    obtain ⟨r19, m20⟩ := w21
    have hv4 : v = .inr (r19, m20) := (Option.some.inj hv3).symm
    have hrel := hv2 _ _ hv4
    obtain ⟨na2, MD, hB⟩ := bH_of hj10 (a9 j hj10) a11
    have hC : csE j m mm := (a9 j hj10).2.1.2
    have hB4 : bH j na2 MD m4 mm := bH_fr hB (fun c c1 c2 c3 c4 => f4 c (by omega)) (fun _ _ _ _ => rfl)
    have hC4 : csE j m4 mm := fun i hi => by rw [f4 _ (by omega)]; exact hC i hi
    have h01 : ∀ k, k < 6 → m4 68 k = 0 ∨ m4 68 k = 1 := fun k hk => by rw [f4 68 (by omega)]; exact a2.2.2.2.1 k hk
    have h22 : f_X9_run_L43 (69 + 16 * j) f_fuel (iI ((0 : Nat) : Int)) m4 = some (y7, m8) := h22
    obtain ⟨p1, p2, p3, p4, p5⟩ := pay_pc hj10 hB4 hC4 h01 f_fuel 0 m4 y7 m8 (by omega) (fun _ _ _ _ => rfl) (fun _ _ => rfl) rfl (fun _ _ _ => rfl) (fun f hf => absurd hf (by omega)) h22
    have e68 : m8 68 = m 68 := by rw [p1 68 (by omega) (by decide) (by decide), f4 68 (by omega)]
    have hA8 : acI m8 := by
      intro k hk
      rw [e68]
      rcases hI k hk with w | w
      · exact Or.inl w
      · refine Or.inr ⟨w.1, ?_⟩
        rw [p4 k hk (by rw [f4 68 (by omega)]; exact w.1), f4 66 (by omega)]
        exact w.2
    unfold f_X0_failAll at h21
    obtain ⟨r1, hr1, h21⟩ := ob_inv h21
    obtain ⟨t12, h12, h21⟩ := ob_inv h21
    obtain ⟨y5, y6, m7⟩ := t12
    have h21 : (y5, m7) = (r19, m20) := Option.some.inj h21
    have h12 : f_X0_failAll_L7 f_fuel (iI ((0 : Nat) : Int)) r1 m8 = some (y5, y6, m7) := h12
    obtain ⟨⟨i2, hi2, ei2⟩, k2, k3, k4, k5⟩ := failAll_pc f_fuel 0 r1 m8 y5 y6 m7 (by omega) hA8 (outC_nn m8) hr1 h12
    have e1 : y5 = r19 := congrArg Prod.fst h21
    have e2 : m7 = m20 := congrArg Prod.snd h21
    subst e1
    subst e2
    subst ei2
    have F : ∀ c, c ≠ 69 + 16 * j + 6 → c ≠ 69 + 16 * j → c ≠ 65 → c ≠ 66 → c ≠ 68 → m7 c = m c := fun c c1 c2 c3 c4 c5 => by rw [k4 c c3 c4 c5, p1 c c1 c3 c4, f4 c c2]
    have e65 : m4 65 3 = m 65 3 := by rw [f4 65 (by omega)]
    have eac : acS m4 6 = acS m 6 := acS_fr e65 (f4 66 (by omega)) 6
    refine ⟨i2, m7, hv.trans (congrArg some hv4), hi2, hrel, F, by rw [k2, p3, eac], fun k hk => ?_⟩
    rcases k3 k hk with ⟨u1, u2, u3⟩ | u
    · refine Or.inl ⟨u1, u2, m7 (69 + 16 * j + 6) k, ?_, ?_⟩
      · have y0 := ci_ok (ct := m7 0 8) (v := j) (n := d) (by rw [F 0 (by omega) (by omega) (by omega) (by omega) (by omega)]; exact hd1) hj (by omega)
        have y1 := ci_ok (ct := 6) (v := k) (n := 6) rfl hk (by omega)
        unfold f_X9_settled
        simp only [y0, y1, ox_r, hrf, ob_sm, ldN hk (show (6 : Nat) ≤ 100000 by omega)]
      · have y0 := ci_ok (ct := m7 0 8) (v := j) (n := d) (by rw [F 0 (by omega) (by omega) (by omega) (by omega) (by omega)]; exact hd1) hj (by omega)
        have y1 := ci_ok (ct := 6) (v := k) (n := 6) rfl hk (by omega)
        have h0 : m4 68 k = 0 := by rw [f4 68 (by omega), ← e68]; exact u3
        have b0 := p5 k hk h0
        obtain ⟨v9, b1, b2⟩ := bill_eq (m2 := m7) hB4 hC4 hk (fun c c1 c2 c3 => by rw [k4 c (by omega) (by omega) (by omega), p1 c c3 (by omega) (by omega)])
        rw [b0] at b1
        have e9 := Option.some.inj b1
        unfold f_X9_bill
        simp only [y0, y1, ox_r, hrf, ob_sm, b2]
        rw [← e9, k4 (69 + 16 * j + 6) (by omega) (by omega) (by omega)]
    · exact Or.inr u
