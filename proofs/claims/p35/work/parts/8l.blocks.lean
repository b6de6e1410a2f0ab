def blH (d nb c : Nat) (mc mm : gM) : Prop := mc 13 8 = iI (nb : Nat) ∧ mm 0 16 = iI (nb : Nat) ∧ nb ≤ 5 ∧ mc 13 9 = iI (c : Nat) ∧ mm 0 25 = iI (c : Nat) ∧ c < 32 ∧ mm 13 = mc 14 ∧ mm 14 = mc 15 ∧ mm 15 = mc 16 ∧ mm 16 = mc 17 ∧ mm 18 = mc 19 ∧ ∀ k, k < nb → rg (mc 14 k) 0 5 ∧ rg (mc 15 k) 0 2 ∧ rg (mc 16 k) 1 15 ∧ (mc 17 k = 0 ∨ mc 17 k = 1) ∧ rg (mc 19 k) 1 10
theorem sim_takeBlocks {d nb ch : Nat} {mc mm : gM} {B : Int} (hd : d < 10) (h00 : mm 0 0 = iI (d : Nat)) (hH : blH d nb ch mc mm) (hP : prE d mc mm) (hE : pcE d mc mm) (hB : pB d B mc) (hB0 : 0 ≤ B ∧ B ≤ 100000) : T2 (f_X9_takeBlocks_L2 (69 + 16 * d) f_fuel 0 mc) (f_X10_clear_L277 f_fuel 0 mm) (fun t t2 => pcE d t.2 t2.2 ∧ pB d (B + 200) t.2 ∧ fC d mc t.2 ∧ fM d mm t2.2) := by
  obtain ⟨hn1, hn2, hn, hc1, hc2, hc32, w13, w14, w15, w16, w18, hk⟩ := hH
  refine T2_cnt (f_X9_takeBlocks_L2 (69 + 16 * d)) (f_X10_clear_L277) (fun k m1 m2 => pcE d m1 m2 ∧ pB d (B + 40 * (k : Nat)) m1 ∧ fC d mc m1 ∧ fM d mm m2) _ nb (by omega) ⟨hE, pB_up hB (by omega), fC_rf _ _, fM_rf _ _⟩ ?_
  intro k m1 m2 f hI hkn hcont
  obtain ⟨i1, i2, i3, i4⟩ := hI
  unfold f_X9_takeBlocks_L2 f_X10_clear_L277
  rw [i3 13 (by omega) (by omega), hn1, hc1, i4.1 0 (by decide) (by decide), hn2, iI_le (by omega) (by omega) (by omega) (by omega), iI_le (by omega) (by omega) (by omega) (by omega)]
  by_cases c : (nb : Int) ≤ k
  · rw [if_pos c, if_pos c]
    exact ⟨_, _, rfl, rfl, i1, pB_up i2 (by omega), i3, i4⟩
  · rw [if_neg c, if_neg c]
    obtain ⟨r14, r15, r16, r17, r19⟩ := hk k (by omega)
    obtain ⟨v5, e5, l5⟩ := rgN r14
    obtain ⟨v6, e6, l6⟩ := rgN r15
    obtain ⟨eH, lH⟩ := hN_of r16
    have r19b : rg (mc 19 k) 0 10 := ⟨by have := r19.1; omega, r19.2⟩
    have hng := rg_neg r19b (by omega)
    rw [sp_mem hc32 (by omega), ob_some]
    have lm : ∀ (m : gM), fM d mm m → m 0 0 = iI (d : Nat) ∧ m 0 25 = iI (ch : Nat) ∧ a_ld 5 15 (iI (k : Nat)) m = some (iI (hN (mc 16) k : Nat)) ∧ a_ld 5 16 (iI (k : Nat)) m = some (mc 17 k) ∧ a_ld 5 18 (iI (k : Nat)) m = some (mc 19 k) ∧ a_ld 5 13 (iI (k : Nat)) m = some (iI (v5 : Nat)) ∧ a_ld 5 14 (iI (k : Nat)) m = some (iI (v6 : Nat)) ∧ ∀ h : Nat, h < 4 → a_ld 120 41 (12 * iI (d : Nat) + 4 * (iI (v6 : Nat)) + (iI (h : Nat))) m = some (mm 41 (12 * d + (4 * v6 + h))) := by
      intro m hm
      refine ⟨by rw [hm.1 0 (by decide) (by decide)]; exact h00, by rw [hm.1 0 (by decide) (by decide)]; exact hc2, ?_, ?_, ?_, ?_, ?_, ?_⟩
      · rw [a_ldI (by omega) (by omega) (by omega), Int.toNat_natCast, hm.1 15 (by decide) (by decide), w15, eH]
      · rw [a_ldI (by omega) (by omega) (by omega), Int.toNat_natCast, hm.1 16 (by decide) (by decide), w16]
      · rw [a_ldI (by omega) (by omega) (by omega), Int.toNat_natCast, hm.1 18 (by decide) (by decide), w18]
      · rw [a_ldI (by omega) (by omega) (by omega), Int.toNat_natCast, hm.1 13 (by decide) (by decide), w13, e5]
      · rw [a_ldI (by omega) (by omega) (by omega), Int.toNat_natCast, hm.1 14 (by decide) (by decide), w14, e6]
      · intro h hh
        rw [iL_12, iL_4, iI_mul, iI_mul, iI_add, iI_add, a_ldI (by omega) (by omega) (by omega), hm.1 41 (by decide) (by decide), show ((12 : Int) * (d : Nat) + 4 * (v6 : Nat) + (h : Nat)).toNat = 12 * d + (4 * v6 + h) by omega]
    by_cases q : Nat.testBit ch k = true
    · rw [if_pos q, if_neg (by decide)]
      have l17 : a_ld 5 17 (iI (k : Nat)) m1 = some (mc 17 k) := by
        rw [a_ldI (by omega) (by omega) (by omega), Int.toNat_natCast, i3 17 (by omega) (by omega)]
      have l19 : a_ld 5 19 (iI (k : Nat)) m1 = some (mc 19 k) := by
        rw [a_ldI (by omega) (by omega) (by omega), Int.toNat_natCast, i3 19 (by omega) (by omega)]
      rw [l17, ob_some, l19]
      have key : ∀ u : Int32, rg u (-10) 10 → u = (if mc 17 k = 1 then -(mc 19 k) else mc 19 k) → T2 (f_X9_takeBlocks_L68 (69 + 16 * d) (iI (k : Nat)) u f_fuel 0 m1) (f_X10_clear_L287 (iI (k : Nat)) f_fuel 0 m2) (fun t t2 => pcE d t.2 t2.2 ∧ pB d (B + 40 * (k : Nat) + 40) t.2 ∧ fC d mc t.2 ∧ fM d mm t2.2) := by
        intro u hu hu2
        refine T2_cnt (f_X9_takeBlocks_L68 (69 + 16 * d) (iI (k : Nat)) u) (f_X10_clear_L287 (iI (k : Nat))) (fun h m1 m2 => pcE d m1 m2 ∧ pB d (B + 40 * (k : Nat) + 10 * (h : Nat)) m1 ∧ fC d mc m1 ∧ fM d mm m2) _ 4 (by omega) ⟨i1, pB_up i2 (by omega), i3, i4⟩ ?_
        intro h m3 m4 g hJ hh hcont9
        obtain ⟨j1, j2, j3, j4⟩ := hJ
        unfold f_X9_takeBlocks_L68 f_X10_clear_L287
        rw [iL_4, iI_le (by omega) (by omega) (by omega) (by omega), iI_le (by omega) (by omega) (by omega) (by omega)]
        by_cases c9 : (4 : Int) ≤ h
        · rw [if_pos c9, if_pos c9]
          exact ⟨_, _, rfl, rfl, j1, pB_up j2 (by omega), j3, j4⟩
        · rw [if_neg c9, if_neg c9]
          obtain ⟨g0, g25, g15, g16, g18, g13, g14, g41⟩ := lm m4 j4
          have p16 : a_ld 5 16 (iI (k : Nat)) m3 = some (iI (hN (mc 16) k : Nat)) := by
            rw [a_ldI (by omega) (by omega) (by omega), Int.toNat_natCast, j3 16 (by omega) (by omega), eH]
          have p15 : a_ld 5 15 (iI (k : Nat)) m3 = some (iI (v6 : Nat)) := by
            rw [a_ldI (by omega) (by omega) (by omega), Int.toNat_natCast, j3 15 (by omega) (by omega), e6]
          have p14 : a_ld 5 14 (iI (k : Nat)) m3 = some (iI (v5 : Nat)) := by
            rw [a_ldI (by omega) (by omega) (by omega), Int.toNat_natCast, j3 14 (by omega) (by omega), e5]
          have p1 : a_ld 12 (69 + 16 * d + 1) (iI ((v6 : Nat) * 4 + (h : Nat))) m3 = some (mm 41 (12 * d + (4 * v6 + h))) := by
            rw [a_ldI (by omega) (by omega) (by omega), j3 _ (by omega) (by omega), show (((v6 : Nat) : Int) * 4 + (h : Nat)).toNat = 4 * v6 + h by omega, hP _ (by omega)]
          have g41h := g41 h (by omega)
          rw [iL_4] at g41h
          rw [g25, g0, tb_sh ch hc32 k (by omega), if_pos q, if_pos rfl, g15, p16, ob_some, ob_some, tb_sh _ (by omega) h (by omega), sp_mem (by omega) (by omega), ob_some]
          by_cases q2 : Nat.testBit (hN (mc 16) k) h = true
          · rw [if_pos q2, if_pos rfl, if_neg (by decide), ob_some, if_neg (by decide), g16, ob_some, g18, p15, p14, g13, g14]
            simp only [ob_sm, sp_spot, p1]
            have e92 : ∀ {α : Type} (G : Int32 → Option α), ob (if mc 17 k = 1 then some (-(mc 19 k)) else some (mc 19 k)) G = G u := by
              intro α G
              rw [hu2]
              by_cases w : mc 17 k = 1
              · rw [if_pos w, if_pos w, ob_some]
              · rw [if_neg w, if_neg w, ob_some]
            rw [e92]
            simp only [g41h, ob_sm]
            obtain ⟨mc2, mm2, b1, b2, b3, b4, b5, b6⟩ := bk_sim (f := v5) (z := v6) (h := h) (p := mm 41 (12 * d + (4 * v6 + h))) hd g0 (by omega) (by omega) (by omega) j1 j2 (by omega) hu
            rw [b1, b2, ob_some, ob_some, ob_some, iI_succ]
            exact hcont9 (by omega) mc2 mm2 ⟨b3, pB_up b4 (by omega), fC_tr j3 b5, fM_tr j4 b6⟩
          · rw [if_neg q2, if_pos rfl, if_neg (by decide), ob_some, ob_some, if_pos rfl, g13, g14]
            simp only [ob_sm]
            simp only [g41h, ob_sm]
            rw [sp_trades0 (f := v5) (z := v6) (h := h) hd g0 (by omega) (by omega) (by omega) rfl, ob_some, iI_succ]
            exact hcont9 (by omega) m3 m4 ⟨j1, pB_up j2 (by omega), j3, j4⟩
      have fin : ∀ u : Int32, rg u (-10) 10 → u = (if mc 17 k = 1 then -(mc 19 k) else mc 19 k) → T2 (ob (ob (f_X9_takeBlocks_L68 (69 + 16 * d) (iI (k : Nat)) u f_fuel 0 m1) fun t28 => ob (some t28.1) fun y16 => ob (some t28.2) fun m17 => some m17) fun m8 => f_X9_takeBlocks_L2 (69 + 16 * d) f (iI (k : Nat) + 1) m8) (ob (f_X10_clear_L287 (iI (k : Nat)) f_fuel 0 m2) fun t102 => ob (some t102.1) fun y84 => ob (some t102.2) fun m85 => f_X10_clear_L277 f (iI (k : Nat) + 1) m85) (fun t t2 => pcE d t.2 t2.2 ∧ pB d (B + 200) t.2 ∧ fC d mc t.2 ∧ fM d mm t2.2) := by
        intro u hu hu2
        obtain ⟨t, t2, f1, f2, f3, f4, f5, f6⟩ := key u hu hu2
        rw [f1, f2]
        simp only [ob_sm]
        rw [iI_succ]
        exact hcont (by omega) t.2 t2.2 ⟨f3, pB_up f4 (by omega), f5, f6⟩
      rcases r17 with b0 | b1
      · rw [b0, if_pos rfl]
        exact fin _ hng.2 (by rw [b0, if_neg (by decide)])
      · rw [b1, if_neg (by decide)]
        exact fin _ hng.1 (by rw [b1, if_pos rfl])
    · rw [if_neg q, if_pos rfl, ob_some]
      have key : T (f_X10_clear_L287 (iI (k : Nat)) f_fuel 0 m2) (fun t => t.2 = m2) := by
        refine T_run2 (f_X10_clear_L287 (iI (k : Nat))) (fun h x m9 => x = iI (h : Nat) ∧ m9 = m2) _ 4 0 _ _ ⟨rfl, rfl⟩ (Nat.zero_le _) (by omega) ?_
        intro h x m9 g hI hh hcont9
        obtain ⟨ex, em⟩ := hI
        subst ex
        subst em
        unfold f_X10_clear_L287
        rw [iL_4, iI_le (by omega) (by omega) (by omega) (by omega)]
        by_cases c9 : (4 : Int) ≤ h
        · rw [if_pos c9]
          exact T_some rfl
        · rw [if_neg c9]
          obtain ⟨g0, g25, g15, g16, g18, g13, g14, g41⟩ := lm m9 i4
          have g41h := g41 h (by omega)
          rw [iL_4] at g41h
          rw [g25, g0, tb_sh ch hc32 k (by omega), if_neg q, if_neg (by decide), ob_some, if_pos rfl, g13, g14]
          simp only [ob_sm]
          simp only [g41h, ob_sm]
          rw [sp_trades0 (f := v5) (z := v6) (h := h) hd g0 (by omega) (by omega) (by omega) rfl, ob_some]
          exact hcont9 (by omega) _ _ ⟨iI_succ h, rfl⟩
      obtain ⟨t, ft, fe⟩ := key
      rw [ft]
      simp only [ob_sm]
      rw [fe, iI_succ]
      exact hcont (by omega) m1 m2 ⟨i1, pB_up i2 (by omega), i3, i4⟩
