theorem sp_weighs {n : Nat} {m : gM} {M : List Nat} (hb : bidsM m n M) (hcv : ∀ z h, crvOk (cz m M z h 0) (cz m M z h 1)) {z h : Nat} (hz : z < 3) (hh : h < 4) (hu : ∀ k, k < 40 → m 12 k = 0) (h49 : m 49 0 = iI 0) (h50 : m 50 0 = iI 0) : T (f_X10_weighs (iI (z : Nat)) (iI (h : Nat)) m) (fun m2 => Wm m2 (4 * z + h) (cz m M (iI (z : Nat)) (iI (h : Nat)) 0) (cz m M (iI (z : Nat)) (iI (h : Nat)) 1) ∧ (∀ c, c ≠ 0 → c ≠ 12 → c ≠ 49 → c ≠ 50 → c ≠ 51 → c ≠ 52 → m2 c = m c) ∧ (∀ k, k ≠ 58 → k ≠ 59 → m2 0 k = m 0 k) ∧ m2 49 0 = iI 0 ∧ m2 50 0 = iI 0 ∧ (∀ k, (k < 161 * (4 * z + h) ∨ 161 * (4 * z + h) + 161 ≤ k) → m2 51 k = m 51 k ∧ m2 52 k = m 52 k)) := by
  unfold f_X10_weighs
  have hn := hb.1
  have hc := hcv (iI (z : Nat)) (iI (h : Nat))
  have hLn : ∀ b k, k ∈ Lz m M (iI (z : Nat)) (iI (h : Nat)) b → k < 40 := by
    intro b k hk
    have := ((Lz_mem hb).1 hk).1
    omega
  refine T_ob (sp_sums hb (b := 0) (C := 49) (Or.inr ⟨rfl, rfl⟩) (fun k hk => hu k (hLn 0 k hk)) h49) ?_
  intro r hr
  obtain ⟨r1, m2⟩ := r
  obtain ⟨a1, a2, a3, a4⟩ := hr
  simp only [ob_some]
  have a1 : r1 = iI ((cz m M (iI (z : Nat)) (iI (h : Nat)) 0).length : Nat) := a1
  have a2 : ∀ j, j ≤ (cz m M (iI (z : Nat)) (iI (h : Nat)) 0).length → m2 49 j = iI (pf (cz m M (iI (z : Nat)) (iI (h : Nat)) 0) j) := a2
  have a3 : ∀ c, c ≠ 12 → c ≠ 49 → m2 c = m c := a3
  have a4 : ∀ k, k ∉ Lz m M (iI (z : Nat)) (iI (h : Nat)) 0 → m2 12 k = m 12 k := a4
  generalize hm4 : g_up m2 0 (upd (m2 0) 58 r1) = m4
  have b1 : ∀ c, c ≠ 0 → m4 c = m2 c := fun c c0 => by rw [← hm4, g_up_ne _ _ c0]
  have b2 : m4 0 = upd (m 0) 58 r1 := by rw [← hm4, g_up_at, a3 0 (by decide) (by decide)]
  have hb4 : bidsM m4 n M := bidsM_fr hb (by rw [b2]; rfl) (fun c c1 c2 => by rw [b1 c (by omega), a3 c (by omega) (by omega)])
  have hz4 : ∀ b, Lz m4 M (iI (z : Nat)) (iI (h : Nat)) b = Lz m M (iI (z : Nat)) (iI (h : Nat)) b ∧ cz m4 M (iI (z : Nat)) (iI (h : Nat)) b = cz m M (iI (z : Nat)) (iI (h : Nat)) b := fun b => cz_frM (fun c c1 c2 => by rw [b1 c (by omega), a3 c (by omega) (by omega)])
  refine T_ob (sp_sums hb4 (b := 1) (C := 50) (Or.inl ⟨rfl, rfl⟩) ?_ ?_) ?_
  · intro k hk
    rw [(hz4 1).1] at hk
    rw [b1 12 (by decide), a4 k ?_]
    · exact hu k (hLn 1 k hk)
    · intro w
      have w1 := ((Lz_mem hb).1 w).2.2.2
      have w2 := ((Lz_mem hb).1 hk).2.2.2
      rw [w1] at w2
      exact absurd w2 (by decide)
  · rw [b1 50 (by decide), a3 50 (by decide) (by decide)]
    exact h50
  · intro r hr
    obtain ⟨r5, m6⟩ := r
    rw [(hz4 1).1, (hz4 1).2] at hr
    obtain ⟨c1, c2, c3, c4⟩ := hr
    have c1 : r5 = iI ((cz m M (iI (z : Nat)) (iI (h : Nat)) 1).length : Nat) := c1
    have c2 : ∀ j, j ≤ (cz m M (iI (z : Nat)) (iI (h : Nat)) 1).length → m6 50 j = iI (pf (cz m M (iI (z : Nat)) (iI (h : Nat)) 1) j) := c2
    have c3 : ∀ c, c ≠ 12 → c ≠ 50 → m6 c = m4 c := c3
    simp only [ob_some]
    generalize hm8 : g_up m6 0 (upd (m6 0) 59 r5) = m8
    have d1 : ∀ c, c ≠ 0 → m8 c = m6 c := fun c c0 => by rw [← hm8, g_up_ne _ _ c0]
    have d2 : m8 0 = upd (upd (m 0) 58 r1) 59 r5 := by rw [← hm8, g_up_at, c3 0 (by decide) (by decide), b2]
    generalize hls : cz m M (iI (z : Nat)) (iI (h : Nat)) 0 = ls at *
    generalize hlb : cz m M (iI (z : Nat)) (iI (h : Nat)) 1 = lb at *
    have e58 : m8 0 58 = iI (ls.length : Nat) := by rw [d2, updA, if_neg (by decide), updA, if_pos rfl]; exact a1
    have e59 : m8 0 59 = iI (lb.length : Nat) := by rw [d2, updA, if_pos rfl]; exact c1
    have e49 : ∀ j, j ≤ ls.length → m8 49 j = iI (pf ls j) := by
      intro j hj
      rw [d1 49 (by decide), c3 49 (by decide) (by decide), b1 49 (by decide)]
      exact a2 j hj
    have e50 : ∀ j, j ≤ lb.length → m8 50 j = iI (pf lb j) := by
      intro j hj
      rw [d1 50 (by decide)]
      exact c2 j hj
    refine T_ob (P := fun t => (∀ k : Nat, k < 161 → t.2 51 (161 * (4 * z + h) + k) = iI (encN (cw ls lb ((k : Int) - 80))) ∧ (-(lb.length : Int) ≤ (k : Int) - 80 → (k : Int) - 80 ≤ ls.length → t.2 52 (161 * (4 * z + h) + k) = iI (cwd ls lb ((k : Int) - 80) : Nat))) ∧ (∀ c, c ≠ 51 → c ≠ 52 → t.2 c = m8 c) ∧ ∀ k, (k < 161 * (4 * z + h) ∨ 161 * (4 * z + h) + 161 ≤ k) → t.2 51 k = m8 51 k ∧ t.2 52 k = m8 52 k) ?_ ?_
    · refine T_run2 (f_X10_weighs_L24 (iI (z : Nat)) (iI (h : Nat))) (fun q x m2 => x = iI (q : Nat) ∧ (∀ k : Nat, k < q → m2 51 (161 * (4 * z + h) + k) = iI (encN (cw ls lb ((k : Int) - 80))) ∧ (-(lb.length : Int) ≤ (k : Int) - 80 → (k : Int) - 80 ≤ ls.length → m2 52 (161 * (4 * z + h) + k) = iI (cwd ls lb ((k : Int) - 80) : Nat))) ∧ (∀ c, c ≠ 51 → c ≠ 52 → m2 c = m8 c) ∧ ∀ k, (k < 161 * (4 * z + h) ∨ 161 * (4 * z + h) + 161 ≤ k) → m2 51 k = m8 51 k ∧ m2 52 k = m8 52 k) _ 161 0 0 m8 ?_ (Nat.zero_le _) (by omega) ?_
      · exact ⟨rfl, fun k hk => absurd hk (by omega), fun c _ _ => rfl, fun k _ => ⟨rfl, rfl⟩⟩
      · intro q x9 m10 f hI hk hcont
        obtain ⟨e, h1, h2, h3⟩ := hI
        have e : x9 = iI (q : Nat) := e
        subst e
        have h2 : ∀ c, c ≠ 51 → c ≠ 52 → m10 c = m8 c := h2
        have h1 : ∀ k : Nat, k < q → m10 51 (161 * (4 * z + h) + k) = iI (encN (cw ls lb ((k : Int) - 80))) ∧ (-(lb.length : Int) ≤ (k : Int) - 80 → (k : Int) - 80 ≤ ls.length → m10 52 (161 * (4 * z + h) + k) = iI (cwd ls lb ((k : Int) - 80) : Nat)) := h1
        have h3 : ∀ k, (k < 161 * (4 * z + h) ∨ 161 * (4 * z + h) + 161 ≤ k) → m10 51 k = m8 51 k ∧ m10 52 k = m8 52 k := h3
        show T (f_X10_weighs_L24 (iI (z : Nat)) (iI (h : Nat)) (f + 1) (iI (q : Nat)) m10) _
        unfold f_X10_weighs_L24
        rw [iL_161, iI_le (by omega) (by omega) (by omega) (by omega)]
        refine T_ite (fun c => ?_) (fun c => ?_)
        · have e : q = 161 := by omega
          subst e
          exact T_some ⟨h1, h2, h3⟩
        · have ea : (161 : Int) * (4 * (z : Int) + h) + q = ((161 * (4 * z + h) + q : Nat) : Int) := by omega
          rw [iL_4, iI_mul, iI_add, iI_mul, iI_add, ea, ob_some, iL_80, iI_sub, ob_some, a_stI (by omega) (by omega) (by omega), ob_some, a_stI (by omega) (by omega) (by omega), ob_some, Int.toNat_natCast, iL_1000000000, iI_neg, iL_0, iI_le (by omega) (by omega) (by omega) (by omega), iI_neg]
          have emx : ∀ (g : Int32 → Option (Int32 × gM)), ob (if (0 : Int) ≤ (q : Int) - 80 then some (iI 0) else some (iI (-((q : Int) - 80)))) g = g (iI (max 0 (-((q : Int) - 80)))) := by
            intro g
            by_cases w : (0 : Int) ≤ (q : Int) - 80
            · rw [if_pos w, ob_some, show max 0 (-((q : Int) - 80)) = 0 by omega]
            · rw [if_neg w, ob_some, show max 0 (-((q : Int) - 80)) = -((q : Int) - 80) by omega]
          rw [emx]
          generalize hm17 : g_up (g_up m10 51 (upd (m10 51) (161 * (4 * z + h) + q) (iI (-1000000000)))) 52 (upd ((g_up m10 51 (upd (m10 51) (161 * (4 * z + h) + q) (iI (-1000000000)))) 52) (161 * (4 * z + h) + q) (iI 0)) = m17
          have f1 : ∀ c, c ≠ 51 → c ≠ 52 → m17 c = m8 c := by
            intro c c1 c2
            rw [← hm17, g_up_ne _ _ c2, g_up_ne _ _ c1]
            exact h2 c c1 c2
          have f2 : m17 51 = upd (m10 51) (161 * (4 * z + h) + q) (iI (-1000000000)) := by
            rw [← hm17, g_up_ne _ _ (by decide), g_up_at]
          have f3 : m17 52 = upd (m10 52) (161 * (4 * z + h) + q) (iI 0) := by
            rw [← hm17, g_up_at, g_up_ne _ _ (by decide)]
          refine T_ob (sp_wcol (m := m17) (ls := ls) (lb := lb) hc ?_ ?_ ?_ ?_ (at9 := 161 * (4 * z + h) + q) (by omega) (mk := (q : Int) - 80) (by omega) (by omega) ?_) ?_
          · rw [f1 0 (by decide) (by decide)]; exact e58
          · rw [f1 0 (by decide) (by decide)]; exact e59
          · intro j hj; rw [f1 49 (by decide) (by decide)]; exact e49 j hj
          · intro j hj; rw [f1 50 (by decide) (by decide)]; exact e50 j hj
          · rw [f2, updA, if_pos rfl]
          · intro t ht
            obtain ⟨t1, t2⟩ := t
            obtain ⟨w1, w2, w3, w4, w5, w6⟩ := ht
            have w3 : t2 = g_up (g_up m17 51 w1) 52 w2 := w3
            subst w3
            simp only [ob_some]
            rw [iL_1, iI_add]
            have g51 : (g_up (g_up m17 51 w1) 52 w2) 51 = w1 := by rw [g_up_ne _ _ (by decide), g_up_at]
            have g52 : (g_up (g_up m17 51 w1) 52 w2) 52 = w2 := by rw [g_up_at]
            refine hcont (by omega) _ _ ⟨rfl, ?_, ?_, ?_⟩
            · intro k hk
              show (g_up (g_up m17 51 w1) 52 w2) 51 _ = _ ∧ (_ → _ → (g_up (g_up m17 51 w1) 52 w2) 52 _ = _)
              rw [g51, g52]
              by_cases w : k = q
              · subst w
                exact ⟨w5, w6⟩
              · have := h1 k (by omega)
                rw [(w4 _ (by omega)).1, (w4 _ (by omega)).2, f2, f3, updA, updA, if_neg (by omega), if_neg (by omega)]
                exact this
            · intro c c1 c2
              show (g_up (g_up m17 51 w1) 52 w2) c = _
              rw [g_up_ne _ _ c2, g_up_ne _ _ c1]
              exact f1 c c1 c2
            · intro k hk
              show (g_up (g_up m17 51 w1) 52 w2) 51 k = _ ∧ (g_up (g_up m17 51 w1) 52 w2) 52 k = _
              rw [g51, g52, (w4 _ (by omega)).1, (w4 _ (by omega)).2, f2, f3, updA, updA, if_neg (by omega), if_neg (by omega)]
              exact h3 k hk
    · intro t ht
      obtain ⟨t1, t2⟩ := t
      obtain ⟨p1, p2, p3⟩ := ht
      simp only [ob_some]
      have p2 : ∀ c, c ≠ 51 → c ≠ 52 → t2 c = m8 c := p2
      refine T_some ⟨p1, ?_, ?_, ?_, ?_, ?_⟩
      · intro c c0 c12 c49 c50 c51 c52
        rw [p2 c c51 c52, d1 c c0, c3 c c12 c50, b1 c c0, a3 c c12 c49]
      · intro k k1 k2
        rw [p2 0 (by decide) (by decide), d2, updA, if_neg k2, updA, if_neg k1]
      · rw [p2 49 (by decide) (by decide), e49 0 (Nat.zero_le _)]; rfl
      · rw [p2 50 (by decide) (by decide), e50 0 (Nat.zero_le _)]; rfl
      · intro k hk
        have := p3 k hk
        rw [d1 51 (by decide), d1 52 (by decide), c3 51 (by decide) (by decide), c3 52 (by decide) (by decide), b1 51 (by decide), b1 52 (by decide), a3 51 (by decide) (by decide), a3 52 (by decide) (by decide)] at this
        exact this
def limM (m : gM) (l : Nat → Int) : Prop := ∀ k, k < 3 → m 1 k = iI (l k) ∧ 0 ≤ l k ∧ l k ≤ 10
abbrev alw (l : Nat → Int) (a b c : Int) : Prop := aI (a - b) ≤ 3 * l 0 ∧ aI (b - c) ≤ 3 * l 1 ∧ aI (a - c) ≤ 3 * l 2
theorem sp_away {a : Int} (h1 : -2147483648 ≤ a) (h2 : a < 2147483648) : f_X10_away (iI a) = some (iI (aI a)) := by
  unfold f_X10_away aI
  rw [iL_0, iI_le (by omega) (by omega) h1 h2]
  by_cases c : 0 ≤ a
  · rw [if_pos c, if_pos c]; rfl
  · rw [if_neg c, if_neg c, iI_neg]; rfl
theorem aI_rng {a B : Int} (h1 : -B ≤ a) (h2 : a ≤ B) : 0 ≤ aI a ∧ aI a ≤ B := by
  unfold aI
  by_cases c : 0 ≤ a
  · rw [if_pos c]; omega
  · rw [if_neg c]; omega
theorem sp_fits {m : gM} {l : Nat → Int} (hl : limM m l) {a b c : Int} (ha : -1000 ≤ a) (ha2 : a ≤ 1000) (hb : -1000 ≤ b) (hb2 : b ≤ 1000) (hc : -2000 ≤ c) (hc2 : c ≤ 2000) : (alw l a b c → f_X10_fits (iI a) (iI b) (iI c) m = some 1) ∧ (¬ alw l a b c → f_X10_fits (iI a) (iI b) (iI c) m = some 0) := by
  have h0 := hl 0 (by decide)
  have h1 := hl 1 (by decide)
  have h2 := hl 2 (by decide)
  have r0 := aI_rng (a := a - b) (B := 5000) (by omega) (by omega)
  have r1 := aI_rng (a := b - c) (B := 5000) (by omega) (by omega)
  have r2 := aI_rng (a := a - c) (B := 5000) (by omega) (by omega)
  have e : f_X10_fits (iI a) (iI b) (iI c) m = ob (if 3 * l 0 < aI (a - b) then some (0 : Int32) else if 3 * l 1 < aI (b - c) then some 0 else if 3 * l 2 < aI (a - c) then some 0 else some 1) fun z4 => ob (a_zc z4) fun b11 => some b11 := by
    unfold f_X10_fits
    rw [iI_sub, iI_sub, iI_sub, sp_away (by omega) (by omega), sp_away (by omega) (by omega), sp_away (by omega) (by omega), iL_0, iL_1, iL_2, a_ldI (by omega) (by omega) (by omega), a_ldI (by omega) (by omega) (by omega), a_ldI (by omega) (by omega) (by omega)]
    simp only [ob_some]
    rw [show (0 : Int).toNat = 0 from rfl, show (1 : Int).toNat = 1 from rfl, show (2 : Int).toNat = 2 from rfl, h0.1, h1.1, h2.1, iL_3, iI_mul, iI_mul, iI_mul, iI_lt (by omega) (by omega) (by omega) (by omega), iI_lt (by omega) (by omega) (by omega) (by omega), iI_lt (by omega) (by omega) (by omega) (by omega)]
  rw [e]
  unfold alw
  by_cases q0 : 3 * l 0 < aI (a - b)
  · rw [if_pos q0]
    exact ⟨fun q => absurd q.1 (by omega), fun _ => rfl⟩
  · rw [if_neg q0]
    by_cases q1 : 3 * l 1 < aI (b - c)
    · rw [if_pos q1]
      exact ⟨fun q => absurd q.2.1 (by omega), fun _ => rfl⟩
    · rw [if_neg q1]
      by_cases q2 : 3 * l 2 < aI (a - c)
      · rw [if_pos q2]
        exact ⟨fun q => absurd q.2.2 (by omega), fun _ => rfl⟩
      · rw [if_neg q2]
        exact ⟨fun _ => rfl, fun q => absurd ⟨by omega, by omega, by omega⟩ q⟩
theorem alw_rng {l : Nat → Int} (hl : ∀ k, k < 3 → 0 ≤ l k ∧ l k ≤ 10) {a b : Int} (h : alw l a b (-a - b)) : -20 ≤ a ∧ a ≤ 20 ∧ -20 ≤ b ∧ b ≤ 20 ∧ -20 ≤ -a - b ∧ -a - b ≤ 20 := by
  have h0 := hl 0 (by decide)
  have h1 := hl 1 (by decide)
  have h2 := hl 2 (by decide)
  obtain ⟨g0, g1, g2⟩ := h
  unfold aI at g0 g1 g2
  have s0 : -30 ≤ a - b ∧ a - b ≤ 30 := by
    by_cases c : 0 ≤ a - b
    · rw [if_pos c] at g0; omega
    · rw [if_neg c] at g0; omega
  have s1 : -30 ≤ b - (-a - b) ∧ b - (-a - b) ≤ 30 := by
    by_cases c : 0 ≤ b - (-a - b)
    · rw [if_pos c] at g1; omega
    · rw [if_neg c] at g1; omega
  have s2 : -30 ≤ a - (-a - b) ∧ a - (-a - b) ≤ 30 := by
    by_cases c : 0 ≤ a - (-a - b)
    · rw [if_pos c] at g2; omega
    · rw [if_neg c] at g2; omega
  omega
theorem alw_0 {l : Nat → Int} (hl : ∀ k, k < 3 → 0 ≤ l k ∧ l k ≤ 10) : alw l 0 0 (-0 - 0) := by
  have h0 := hl 0 (by decide)
  have h1 := hl 1 (by decide)
  have h2 := hl 2 (by decide)
  refine ⟨?_, ?_, ?_⟩
  · show (0 : Int) ≤ _; omega
  · show (0 : Int) ≤ _; omega
  · show (0 : Int) ≤ _; omega
