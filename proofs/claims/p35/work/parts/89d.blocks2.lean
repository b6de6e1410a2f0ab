theorem sp_isAllowedM {m : gM} {nb : Nat} {TO GR : Nat → Int} (hb : blkM m nb TO GR) {s : Nat} (hs : s < 32) : T (f_X10_isAllowed (iI (s : Nat)) m) (fun r => (r = 1 ∧ alwS TO GR nb s) ∨ (r = 0 ∧ ¬ alwS TO GR nb s)) := by
  obtain ⟨g1, g2, g3⟩ := hb
  have hn := g2.1
  unfold f_X10_isAllowed
  refine T_ob (P := fun t => (t.1 = 1 ∧ alwS TO GR nb s) ∨ (t.1 = 0 ∧ ¬ alwS TO GR nb s)) ?_ ?_
  · refine T_run2 (f_X10_isAllowed_L4 m (iI (s : Nat))) (fun k x y => y = iI (k : Nat) ∧ ((x = 1 ∧ alwS TO GR k s) ∨ (x = 0 ∧ ¬ alwS TO GR k s))) _ nb 0 _ _ ?_ (Nat.zero_le _) (by omega) ?_
    · exact ⟨rfl, Or.inl ⟨rfl, fun k hk => absurd hk (by omega)⟩⟩
    · intro k x y f hI hk hcont
      obtain ⟨e, hx⟩ := hI
      subst e
      unfold f_X10_isAllowed_L4
      rw [g1, iI_le (by omega) (by omega) (by omega) (by omega)]
      by_cases c : (nb : Int) ≤ k
      · rw [if_pos c]
        have e : k = nb := by omega
        subst e
        exact T_some hx
      · rw [if_neg c, tb_sh s hs k (by omega)]
        obtain ⟨_, t1, t2, t3, t4, t5, t6⟩ := g3 k (by omega)
        have e19 : a_ld 5 19 (iI (k : Nat)) m = some (iI (TO k + 1)) := by rw [a_ldI (by omega) (by omega) (by omega), Int.toNat_natCast, t5]
        have hz7 : ∀ {α : Type} (g : Int32 → Option α), ob (if (if Nat.testBit s k = true then (1 : Int32) else 0) = 1 then some (1 : Int32) else some 0) g = g (if Nat.testBit s k = true then 1 else 0) := by
          intro α g
          by_cases q : Nat.testBit s k = true
          · rw [if_pos q]; rfl
          · rw [if_neg q]; rfl
        rw [hz7]
        have hz9 : ∀ {α : Type} (g : Int32 → Option α), ob (if x = 0 then some (0 : Int32) else if (if Nat.testBit s k = true then (1 : Int32) else 0) = 0 then some 1 else ob (a_ld 5 19 (iI (k : Nat)) m) fun v11 => if v11 = 0 then some 1 else ob (a_ld 5 19 (iI (k : Nat)) m) fun v13 => if ((iI (s : Nat) >>> ((v13 - 1) &&& 31)) &&& 1) = 1 then some 1 else some 0) g = g (if x ≠ 0 ∧ (Nat.testBit s k = true → TO k = -1 ∨ Nat.testBit s (TO k).toNat = true) then 1 else 0) := by
          intro α g
          by_cases q0 : x = 0
          · rw [if_pos q0, if_neg (fun h => h.1 q0)]; rfl
          · rw [if_neg q0]
            by_cases q : Nat.testBit s k = true
            · rw [if_pos q, if_neg (by decide), e19, ob_some, ob_some, iL_0, iI_eq (by omega) (by omega) (by omega) (by omega)]
              by_cases h1 : TO k = -1
              · rw [if_pos (by omega), ob_some, if_pos ⟨q0, fun _ => Or.inl h1⟩]
              · rw [if_neg (by omega), iL_1, iI_sub, show TO k + 1 - 1 = ((TO k).toNat : Nat) by omega]
                have := tb_sh s hs (TO k).toNat (by omega)
                rw [iL_1] at this
                rw [this]
                by_cases w : Nat.testBit s (TO k).toNat = true
                · rw [if_pos w, if_pos rfl, ob_some, if_pos ⟨q0, fun _ => Or.inr w⟩]
                · rw [if_neg w, if_neg (by decide), ob_some, if_neg (fun h => by rcases h.2 q with u | u; exact h1 u; exact w u)]
            · rw [if_neg q, if_pos rfl, ob_some, if_pos ⟨q0, fun h => absurd h q⟩]
        rw [hz9]
        refine T_ob (P := fun t => (t.1 = 1 ∧ alwS TO GR (k + 1) s) ∨ (t.1 = 0 ∧ ¬ alwS TO GR (k + 1) s)) ?_ ?_
        · refine T_run2 (f_X10_isAllowed_L71 m (iI (s : Nat)) (iI (k : Nat)) (if Nat.testBit s k = true then 1 else 0)) (fun j x9 y9 => y9 = iI (j : Nat) ∧ (x9 = 0 ∨ x9 = 1) ∧ (x9 = 1 ↔ (alwS TO GR k s ∧ (Nat.testBit s k = true → TO k = -1 ∨ Nat.testBit s (TO k).toNat = true) ∧ ∀ i, i < j → Nat.testBit s k = true → Nat.testBit s i = true → GR k ≠ -1 → GR k ≠ GR i))) _ k 0 _ _ ?_ (Nat.zero_le _) (by omega) ?_
          · refine ⟨rfl, ?_, ?_⟩
            · by_cases w : x ≠ 0 ∧ (Nat.testBit s k = true → TO k = -1 ∨ Nat.testBit s (TO k).toNat = true)
              · rw [if_pos w]; exact Or.inr rfl
              · rw [if_neg w]; exact Or.inl rfl
            · rcases hx with ⟨h1, h2⟩ | ⟨h1, h2⟩
              · by_cases w : Nat.testBit s k = true → TO k = -1 ∨ Nat.testBit s (TO k).toNat = true
                · rw [if_pos ⟨by rw [h1]; decide, w⟩]
                  exact ⟨fun _ => ⟨h2, w, fun i hi => absurd hi (by omega)⟩, fun _ => rfl⟩
                · rw [if_neg (fun h => w h.2)]
                  exact ⟨fun h => absurd h (by decide), fun h => absurd h.2.1 w⟩
              · rw [if_neg (fun h => h.1 h1)]
                exact ⟨fun h => absurd h (by decide), fun h => absurd h.1 h2⟩
          · intro j x9 y9 f9 hI9 hk9 hcont9
            obtain ⟨e9, hv9, hi9⟩ := hI9
            subst e9
            unfold f_X10_isAllowed_L71
            rw [iI_le (by omega) (by omega) (by omega) (by omega)]
            by_cases c9 : (k : Int) ≤ j
            · rw [if_pos c9]
              have e : j = k := by omega
              subst e
              refine T_some ?_
              rcases hv9 with v | v
              · refine Or.inr ⟨v, fun hall => ?_⟩
                have : x9 = 1 := hi9.2 ⟨fun i hi => hall i (by omega), fun hb => (hall j (by omega) hb).1, fun i hi hb => (hall j (by omega) hb).2 i hi⟩
                rw [v] at this
                exact absurd this (by decide)
              · have h := hi9.1 v
                exact Or.inl ⟨v, alwS_succ h.1 (fun hb => ⟨h.2.1 hb, fun i hi => h.2.2 i hi hb⟩)⟩
            · rw [if_neg c9, tb_sh s hs j (by omega)]
              obtain ⟨_, _, _, t3j, t4j, _, t6j⟩ := g3 j (by omega)
              have e20 : a_ld 5 20 (iI (k : Nat)) m = some (iI (GR k + 1)) := by rw [a_ldI (by omega) (by omega) (by omega), Int.toNat_natCast, t6]
              have e20j : a_ld 5 20 (iI (j : Nat)) m = some (iI (GR j + 1)) := by rw [a_ldI (by omega) (by omega) (by omega), Int.toNat_natCast, t6j]
              have hz : ∀ {α : Type} (g : Int32 → Option α), ob (if x9 = 0 then some (0 : Int32) else if (if Nat.testBit s k = true then (1 : Int32) else 0) = 0 then some 1 else if (if Nat.testBit s j = true then (1 : Int32) else 0) = 1 then ob (a_ld 5 20 (iI (k : Nat)) m) fun v24 => if v24 ≤ 0 then some 1 else ob (a_ld 5 20 (iI (k : Nat)) m) fun v26 => ob (a_ld 5 20 (iI (j : Nat)) m) fun v27 => if v26 = v27 then some 0 else some 1 else some 1) g = g (if x9 ≠ 0 ∧ (Nat.testBit s k = true → Nat.testBit s j = true → GR k ≠ -1 → GR k ≠ GR j) then 1 else 0) := by
                intro α g
                by_cases q0 : x9 = 0
                · rw [if_pos q0, if_neg (fun h => h.1 q0)]; rfl
                · rw [if_neg q0]
                  by_cases q : Nat.testBit s k = true
                  · rw [if_pos q, if_neg (by decide)]
                    by_cases q2 : Nat.testBit s j = true
                    · rw [if_pos q2, if_pos rfl, e20, ob_some, ob_some, e20j, ob_some, iL_0, iI_le (by omega) (by omega) (by omega) (by omega), iI_eq (by omega) (by omega) (by omega) (by omega)]
                      by_cases h1 : GR k = -1
                      · rw [if_pos (by omega), ob_some, if_pos ⟨q0, fun _ _ h => absurd h1 h⟩]
                      · rw [if_neg (by omega)]
                        by_cases h2 : GR k = GR j
                        · rw [if_pos (by omega), ob_some, if_neg (fun h => h.2 q q2 h1 h2)]
                        · rw [if_neg (by omega), ob_some, if_pos ⟨q0, fun _ _ _ => h2⟩]
                    · rw [if_neg q2, if_neg (by decide), ob_some, if_pos ⟨q0, fun _ h => absurd h q2⟩]
                  · rw [if_neg q, if_pos rfl, ob_some, if_pos ⟨q0, fun h => absurd h q⟩]
              rw [hz]
              refine hcont9 (by omega) _ _ ⟨by rw [iL_1, iI_add]; rfl, ?_, ?_⟩
              · by_cases w : x9 ≠ 0 ∧ (Nat.testBit s k = true → Nat.testBit s j = true → GR k ≠ -1 → GR k ≠ GR j)
                · rw [if_pos w]; exact Or.inr rfl
                · rw [if_neg w]; exact Or.inl rfl
              · by_cases w : x9 ≠ 0 ∧ (Nat.testBit s k = true → Nat.testBit s j = true → GR k ≠ -1 → GR k ≠ GR j)
                · rw [if_pos w]
                  have h := hi9.1 (hv9.resolve_left w.1)
                  refine ⟨fun _ => ⟨h.1, h.2.1, fun i hi => ?_⟩, fun _ => rfl⟩
                  by_cases u : i = j
                  · rw [u]; exact w.2
                  · exact h.2.2 i (by omega)
                · rw [if_neg w]
                  refine ⟨fun h => absurd h (by decide), fun h => absurd ⟨?_, h.2.2 j (by omega)⟩ w⟩
                  intro h0
                  have := hi9.2 ⟨h.1, h.2.1, fun i hi => h.2.2 i (by omega)⟩
                  rw [h0] at this
                  exact absurd this (by decide)
        · intro t ht
          obtain ⟨a1, a2⟩ := t
          refine T_obe (a := a1) rfl (T_obe (a := a2) rfl ?_)
          exact hcont (by omega) _ _ ⟨by rw [iL_1, iI_add]; rfl, ht⟩
  · intro t ht
    obtain ⟨a1, a2⟩ := t
    refine T_obe (a := a1) rfl (T_obe (a := a2) rfl ?_)
    have ht : (a1 = 1 ∧ alwS TO GR nb s) ∨ (a1 = 0 ∧ ¬ alwS TO GR nb s) := ht
    rw [a_zcz (by rcases ht with h | h; exact Or.inr h.1; exact Or.inl h.1), ob_some]
    exact T_some ht
