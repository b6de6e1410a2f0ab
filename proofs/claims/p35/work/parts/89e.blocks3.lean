def pt (H : Nat → Int32) (s h : Nat) : Nat → Nat
  | 0 => 0
  | n + 1 => if Nat.testBit s n = true ∧ Nat.testBit (hN H n) h = true then pt H s h n ||| 2 ^ n else pt H s h n
theorem pt_spec (H : Nat → Int32) (s h : Nat) : ∀ n, n ≤ 5 → pt H s h n < 32 ∧ ∀ k, k < 5 → (Nat.testBit (pt H s h n) k = true ↔ k < n ∧ Nat.testBit s k = true ∧ Nat.testBit (hN H k) h = true)
  | 0, _ => ⟨(by show (0 : Nat) < 32; decide), fun k _ => by
      show Nat.testBit 0 k = true ↔ _
      rw [Nat.zero_testBit]
      exact ⟨fun h => (by cases h), fun h => absurd h.1 (by omega)⟩⟩
  | n + 1, hn => by
    obtain ⟨h1, h2⟩ := pt_spec H s h n (by omega)
    unfold pt
    by_cases c : Nat.testBit s n = true ∧ Nat.testBit (hN H n) h = true
    · rw [if_pos c]
      have t := tb_or _ h1 n (by omega)
      refine ⟨t.2.1, fun k hk => ?_⟩
      rw [t.2.2 k hk, Bool.or_eq_true, decide_eq_true_iff, h2 k hk]
      constructor
      · intro q
        rcases q with q | q
        · exact ⟨by omega, q.2⟩
        · rw [q]; exact ⟨by omega, c⟩
      · intro q
        by_cases w : k = n
        · exact Or.inr w
        · exact Or.inl ⟨by omega, q.2⟩
    · rw [if_neg c]
      refine ⟨h1, fun k hk => ?_⟩
      rw [h2 k hk]
      constructor
      · intro q; exact ⟨by omega, q.2⟩
      · intro q
        by_cases w : k = n
        · subst w; exact absurd q.2 c
        · exact ⟨by omega, q.2⟩
theorem sp_partIn {m : gM} {nb : Nat} {TO GR : Nat → Int} (hb : blkC m nb TO GR) {s h : Nat} (hs : s < 32) (hh : h < 4) : f_X2_partIn (iI (s : Nat)) (iI (h : Nat)) m = some (iI (pt (m 16) s h nb : Nat)) := by
  obtain ⟨g1, g2, g3⟩ := hb
  have hn := g2.1
  apply T_eq
  unfold f_X2_partIn
  refine T_ob (P := fun t => t.1 = iI (pt (m 16) s h nb : Nat)) ?_ (fun t ht => T_some ht)
  refine T_run2 (f_X2_partIn_L5 m (iI (s : Nat)) (iI (h : Nat))) (fun k x y => y = iI (k : Nat) ∧ x = iI (pt (m 16) s h k : Nat)) _ nb 0 _ _ ⟨rfl, rfl⟩ (Nat.zero_le _) (by omega) ?_
  intro k x y f hI hk hcont
  obtain ⟨e, e2⟩ := hI
  subst e
  subst e2
  unfold f_X2_partIn_L5
  rw [g1, iI_le (by omega) (by omega) (by omega) (by omega)]
  by_cases c : (nb : Int) ≤ k
  · rw [if_pos c]
    have e : k = nb := by omega
    subst e
    exact T_some rfl
  · have hr := (g2.2 k (by omega)).2.1
    obtain ⟨eH, lH⟩ := hN_of hr
    rw [if_neg c, sp_mem hs (by omega), ob_some, a_ldI (by omega) (by omega) (by omega), Int.toNat_natCast, eH]
    by_cases q1 : Nat.testBit s k = true
    · rw [if_pos q1, if_neg (by decide), ob_some, sp_mem (by omega) (by omega), ob_some]
      by_cases q2 : Nat.testBit (hN (m 16) k) h = true
      · rw [if_pos q2, if_neg (by decide), ob_some, ob_some, (tb_or _ (pt_spec (m 16) s h k (by omega)).1 k (by omega)).1]
        refine hcont (by omega) _ _ ⟨by rw [iL_1, iI_add]; rfl, ?_⟩
        show _ = iI ((if Nat.testBit s k = true ∧ Nat.testBit (hN (m 16) k) h = true then pt (m 16) s h k ||| 2 ^ k else pt (m 16) s h k : Nat) : Int)
        rw [if_pos ⟨q1, q2⟩]
      · rw [if_neg q2, if_pos rfl, ob_some]
        refine hcont (by omega) _ _ ⟨by rw [iL_1, iI_add]; rfl, ?_⟩
        show _ = iI ((if Nat.testBit s k = true ∧ Nat.testBit (hN (m 16) k) h = true then pt (m 16) s h k ||| 2 ^ k else pt (m 16) s h k : Nat) : Int)
        rw [if_neg (fun w => q2 w.2)]
    · rw [if_neg q1, if_pos rfl, ob_some]
      refine hcont (by omega) _ _ ⟨by rw [iL_1, iI_add]; rfl, ?_⟩
      show _ = iI ((if Nat.testBit s k = true ∧ Nat.testBit (hN (m 16) k) h = true then pt (m 16) s h k ||| 2 ^ k else pt (m 16) s h k : Nat) : Int)
      rw [if_neg (fun w => q1 w.1)]
def unT (Z B U : Nat → Int32) (s z : Nat) (k : Nat) : Int := if Nat.testBit s k = true ∧ Z k = iI (z : Nat) then uT B U k else 0
theorem uT_rng {Z H B P U : Nat → Int32} {nb : Nat} (h : blkR Z H B P U nb) {k : Nat} (hk : k < nb) : -10 ≤ uT B U k ∧ uT B U k ≤ 10 := by
  have := (h.2 k hk).2.2.2.2
  unfold rg at this
  unfold uT sgn
  by_cases c : B k = 0
  · rw [if_pos c]; omega
  · rw [if_neg c]; omega
theorem sp_unitsOf {m : gM} {nb : Nat} {TO GR : Nat → Int} (hb : blkC m nb TO GR) {s z : Nat} (hs : s < 32) : f_X2_unitsOf (iI (s : Nat)) (iI (z : Nat)) m = some (iI (isum nb (unT (m 15) (m 17) (m 19) s z))) := by
  obtain ⟨g1, g2, g3⟩ := hb
  have hn := g2.1
  apply T_eq
  unfold f_X2_unitsOf
  refine T_ob (P := fun t => t.1 = iI (isum nb (unT (m 15) (m 17) (m 19) s z))) ?_ (fun t ht => T_some ht)
  refine T_run2 (f_X2_unitsOf_L5 m (iI (s : Nat)) (iI (z : Nat))) (fun k x y => y = iI (k : Nat) ∧ x = iI (isum k (unT (m 15) (m 17) (m 19) s z))) _ nb 0 _ _ ⟨rfl, rfl⟩ (Nat.zero_le _) (by omega) ?_
  intro k x y f hI hk hcont
  obtain ⟨e, e2⟩ := hI
  subst e
  subst e2
  unfold f_X2_unitsOf_L5
  rw [g1, iI_le (by omega) (by omega) (by omega) (by omega)]
  by_cases c : (nb : Int) ≤ k
  · rw [if_pos c]
    have e : k = nb := by omega
    subst e
    exact T_some rfl
  · have hr := g2.2 k (by omega)
    have es : isum (k + 1) (unT (m 15) (m 17) (m 19) s z) = isum k (unT (m 15) (m 17) (m 19) s z) + unT (m 15) (m 17) (m 19) s z k := rfl
    rw [if_neg c, sp_mem hs (by omega), ob_some, a_ldI (by omega) (by omega) (by omega), a_ldI (by omega) (by omega) (by omega), a_ldI (by omega) (by omega) (by omega), Int.toNat_natCast]
    by_cases q1 : Nat.testBit s k = true
    · rw [if_pos q1, if_neg (by decide), ob_some]
      by_cases q2 : m 15 k = iI (z : Nat)
      · have eu : unT (m 15) (m 17) (m 19) s z k = uT (m 17) (m 19) k := if_pos ⟨q1, q2⟩
        rw [if_pos q2]
        simp only [ob_some]
        unfold uT sgn at eu
        by_cases q3 : m 17 k = 0
        · rw [if_pos q3, ob_some, ob_some]
          refine hcont (by omega) _ _ ⟨by rw [iL_1, iI_add]; rfl, ?_⟩
          rw [if_pos q3] at eu
          rw [es, eu, ← iI_add, iI_of]
        · rw [if_neg q3, ob_some, ob_some]
          refine hcont (by omega) _ _ ⟨by rw [iL_1, iI_add]; rfl, ?_⟩
          rw [if_neg q3] at eu
          rw [es, eu, ← iI_add, ← iI_neg, iI_of]
      · rw [if_neg q2, ob_some]
        have eu : unT (m 15) (m 17) (m 19) s z k = 0 := if_neg (fun w => q2 w.2)
        exact hcont (by omega) _ _ ⟨by rw [iL_1, iI_add]; rfl, by rw [es, eu, Int.add_zero]⟩
    · rw [if_neg q1, if_pos rfl, ob_some]
      have eu : unT (m 15) (m 17) (m 19) s z k = 0 := if_neg (fun w => q1 w.1)
      exact hcont (by omega) _ _ ⟨by rw [iL_1, iI_add]; rfl, by rw [es, eu, Int.add_zero]⟩
def bsT (Z H B U : Nat → Int32) (s h z : Nat) (k : Nat) : Int := if (Nat.testBit s k = true ∧ Nat.testBit (hN H k) h = true) ∧ Z k = iI (z : Nat) then uT B U k else 0
def bs (Z H B U : Nat → Int32) (nb s h z : Nat) : Int := isum nb (bsT Z H B U s h z)
theorem bs_rng {Z H B P U : Nat → Int32} {nb : Nat} (hr : blkR Z H B P U nb) (s h z : Nat) : -50 ≤ bs Z H B U nb s h z ∧ bs Z H B U nb s h z ≤ 50 := by
  have := isum_rng (B := 10) (by omega) (t := bsT Z H B U s h z) nb (fun k hk => by
    unfold bsT
    by_cases c : (Nat.testBit s k = true ∧ Nat.testBit (hN H k) h = true) ∧ Z k = iI (z : Nat)
    · rw [if_pos c]; exact uT_rng hr hk
    · rw [if_neg c]; omega)
  have h5 := hr.1
  unfold bs
  omega
theorem bs_pt {Z H B U : Nat → Int32} {nb : Nat} (h5 : nb ≤ 5) (s h z : Nat) : isum nb (unT Z B U (pt H s h nb) z) = bs Z H B U nb s h z := by
  apply isum_congr
  intro k hk
  unfold unT bsT
  have := (pt_spec H s h nb h5).2 k (by omega)
  by_cases c : Nat.testBit s k = true ∧ Nat.testBit (hN H k) h = true
  · by_cases d : Z k = iI (z : Nat)
    · rw [if_pos ⟨this.2 ⟨hk, c⟩, d⟩, if_pos ⟨c, d⟩]
    · rw [if_neg (fun w => d w.2), if_neg (fun w => d w.2)]
  · rw [if_neg (fun w => c (this.1 w.1).2), if_neg (fun w => c w.1)]
def ctH (x : Nat) : Int := isum 4 (fun h => if Nat.testBit x h = true then 1 else 0)
theorem tb_ct2 {s : Nat} (hs : s < 16) : f_J6_bitCount_0f7a4 (iI (s : Nat)) = some (iI (ctH s)) := by
  rw [tb_ct s hs]
  congr 2
  unfold ctH
  simp only [isum]
  omega
def wT (H B P U : Nat → Int32) (s : Nat) (k : Nat) : Int := if Nat.testBit s k = true then -(sgn B k ((P k).toInt * (U k).toInt * ctH (hN H k))) else 0
theorem sp_worthOfB {m : gM} {nb : Nat} {TO GR : Nat → Int} (hb : blkC m nb TO GR) {s : Nat} (hs : s < 32) : f_X2_worthOf (iI (s : Nat)) m = some (iI (isum nb (wT (m 16) (m 17) (m 18) (m 19) s))) := by
  obtain ⟨g1, g2, g3⟩ := hb
  have hn := g2.1
  apply T_eq
  unfold f_X2_worthOf
  refine T_ob (P := fun t => t.1 = iI (isum nb (wT (m 16) (m 17) (m 18) (m 19) s))) ?_ (fun t ht => T_some ht)
  refine T_run2 (f_X2_worthOf_L4 m (iI (s : Nat))) (fun k x y => y = iI (k : Nat) ∧ x = iI (isum k (wT (m 16) (m 17) (m 18) (m 19) s))) _ nb 0 _ _ ⟨rfl, rfl⟩ (Nat.zero_le _) (by omega) ?_
  intro k x y f hI hk hcont
  obtain ⟨e, e2⟩ := hI
  subst e
  subst e2
  unfold f_X2_worthOf_L4
  rw [g1, iI_le (by omega) (by omega) (by omega) (by omega)]
  by_cases c : (nb : Int) ≤ k
  · rw [if_pos c]
    have e : k = nb := by omega
    subst e
    exact T_some rfl
  · have hr := g2.2 k (by omega)
    obtain ⟨eH, lH⟩ := hN_of hr.2.1
    have es : isum (k + 1) (wT (m 16) (m 17) (m 18) (m 19) s) = isum k (wT (m 16) (m 17) (m 18) (m 19) s) + wT (m 16) (m 17) (m 18) (m 19) s k := rfl
    rw [if_neg c, sp_mem hs (by omega), ob_some]
    by_cases q1 : Nat.testBit s k = true
    · have eu : wT (m 16) (m 17) (m 18) (m 19) s k = -(sgn (m 17) k ((m 18 k).toInt * (m 19 k).toInt * ctH (hN (m 16) k))) := if_pos q1
      rw [if_pos q1, if_neg (by decide), a_ldI (by omega) (by omega) (by omega), ob_some, a_ldI (by omega) (by omega) (by omega), ob_some, a_ldI (by omega) (by omega) (by omega), ob_some, Int.toNat_natCast, eH, tb_ct2 lH, ob_some, ob_some, a_ldI (by omega) (by omega) (by omega), ob_some, Int.toNat_natCast]
      have ex : m 18 k * m 19 k * iI (ctH (hN (m 16) k)) = iI ((m 18 k).toInt * (m 19 k).toInt * ctH (hN (m 16) k)) := by
        rw [← iI_mul, ← iI_mul, iI_of, iI_of]
      rw [ex]
      unfold sgn at eu
      by_cases q3 : m 17 k = 0
      · rw [if_pos q3, ob_some, ob_some, ob_some]
        refine hcont (by omega) _ _ ⟨by rw [iL_1, iI_add]; rfl, ?_⟩
        rw [if_pos q3] at eu
        rw [es, eu, ← iI_add, ← iI_neg]
      · rw [if_neg q3, ob_some, ob_some, ob_some]
        refine hcont (by omega) _ _ ⟨by rw [iL_1, iI_add]; rfl, ?_⟩
        rw [if_neg q3, Int.neg_neg] at eu
        rw [es, eu, ← iI_add]
    · rw [if_neg q1, if_pos rfl, ob_some]
      have eu : wT (m 16) (m 17) (m 18) (m 19) s k = 0 := if_neg q1
      exact hcont (by omega) _ _ ⟨by rw [iL_1, iI_add]; rfl, by rw [es, eu, Int.add_zero]⟩
theorem sp_hoursOf {m : gM} {k : Nat} (hk : k < 5) (hr : rg (m 15 k) 1 15) : f_X10_hoursOf (iI (k : Nat)) m = some (iI (ctH (hN (m 15) k))) := by
  obtain ⟨eH, lH⟩ := hN_of hr
  apply T_eq
  unfold f_X10_hoursOf
  refine T_ob (P := fun t => t.1 = iI (ctH (hN (m 15) k))) ?_ (fun t ht => T_some ht)
  refine T_run2 (f_X10_hoursOf_L4 m (iI (k : Nat))) (fun h x y => y = iI (h : Nat) ∧ x = iI (isum h (fun h => if Nat.testBit (hN (m 15) k) h = true then 1 else 0))) _ 4 0 _ _ ⟨rfl, rfl⟩ (Nat.zero_le _) (by omega) ?_
  intro h x y f hI hk2 hcont
  obtain ⟨e, e2⟩ := hI
  subst e
  subst e2
  unfold f_X10_hoursOf_L4
  rw [iL_4, iI_le (by omega) (by omega) (by omega) (by omega)]
  by_cases c : (4 : Int) ≤ h
  · rw [if_pos c]
    have e : h = 4 := by omega
    subst e
    exact T_some rfl
  · rw [if_neg c, a_ldI (by omega) (by omega) (by omega), ob_some, Int.toNat_natCast, eH, tb_sh _ (by omega) h (by omega), ob_some, iL_1, iL_0, iI_ite, iI_add, iI_add]
    exact hcont (by omega) _ _ ⟨rfl, rfl⟩
theorem sp_worthOfBM {m : gM} {nb : Nat} {TO GR : Nat → Int} (hb : blkM m nb TO GR) {s : Nat} (hs : s < 32) : f_X10_worthOfBlocks (iI (s : Nat)) m = some (iI (isum nb (wT (m 15) (m 16) (m 17) (m 18) s))) := by
  obtain ⟨g1, g2, g3⟩ := hb
  have hn := g2.1
  apply T_eq
  unfold f_X10_worthOfBlocks
  refine T_ob (P := fun t => t.1 = iI (isum nb (wT (m 15) (m 16) (m 17) (m 18) s))) ?_ (fun t ht => T_some ht)
  refine T_run2 (f_X10_worthOfBlocks_L4 m (iI (s : Nat))) (fun k x y => y = iI (k : Nat) ∧ x = iI (isum k (wT (m 15) (m 16) (m 17) (m 18) s))) _ nb 0 _ _ ⟨rfl, rfl⟩ (Nat.zero_le _) (by omega) ?_
  intro k x y f hI hk hcont
  obtain ⟨e, e2⟩ := hI
  subst e
  subst e2
  unfold f_X10_worthOfBlocks_L4
  rw [g1, iI_le (by omega) (by omega) (by omega) (by omega)]
  by_cases c : (nb : Int) ≤ k
  · rw [if_pos c]
    have e : k = nb := by omega
    subst e
    exact T_some rfl
  · have hr := g2.2 k (by omega)
    have es : isum (k + 1) (wT (m 15) (m 16) (m 17) (m 18) s) = isum k (wT (m 15) (m 16) (m 17) (m 18) s) + wT (m 15) (m 16) (m 17) (m 18) s k := rfl
    have ex : m 17 k * m 18 k * iI (ctH (hN (m 15) k)) = iI ((m 17 k).toInt * (m 18 k).toInt * ctH (hN (m 15) k)) := by
      rw [← iI_mul, ← iI_mul, iI_of, iI_of]
    rw [if_neg c, a_ldI (by omega) (by omega) (by omega), ob_some, a_ldI (by omega) (by omega) (by omega), ob_some, sp_hoursOf (by omega) hr.2.1, ob_some, ob_some, Int.toNat_natCast, ex, tb_sh s hs k (by omega)]
    by_cases q1 : Nat.testBit s k = true
    · have eu : wT (m 15) (m 16) (m 17) (m 18) s k = -(sgn (m 16) k ((m 17 k).toInt * (m 18 k).toInt * ctH (hN (m 15) k))) := if_pos q1
      rw [if_pos q1, if_neg (by decide), a_ldI (by omega) (by omega) (by omega), ob_some, Int.toNat_natCast]
      unfold sgn at eu
      rcases hr.2.2.1 with q3 | q3
      · rw [if_neg (by rw [q3]; decide), ob_some, ob_some]
        refine hcont (by omega) _ _ ⟨by rw [iL_1, iI_add]; rfl, ?_⟩
        rw [if_pos q3] at eu
        rw [es, eu, ← iI_add, ← iI_neg]
      · rw [if_pos q3, ob_some, ob_some]
        refine hcont (by omega) _ _ ⟨by rw [iL_1, iI_add]; rfl, ?_⟩
        rw [if_neg (by rw [q3]; decide), Int.neg_neg] at eu
        rw [es, eu, ← iI_add]
    · rw [if_neg q1, if_pos rfl, ob_some, ob_some]
      have eu : wT (m 15) (m 16) (m 17) (m 18) s k = 0 := if_neg q1
      exact hcont (by omega) _ _ ⟨by rw [iL_1, iI_add]; rfl, by rw [es, eu, Int.add_zero, iL_0, iI_add, Int.add_zero]⟩
