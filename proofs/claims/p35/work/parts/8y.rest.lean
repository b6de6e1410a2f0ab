theorem le0' (x : Int32) : (x ≤ 0) = (x.toInt ≤ 0) := by
  rw [Int32.le_iff_toInt_le]
  rfl
def el (m : gM) (c k : Nat) : Bool := decide (0 < (m 62 k).toInt ∧ m 58 k = m 58 c ∧ m 59 k ≠ m 59 c ∧ keyO m 55 c + keyO m 55 k ≤ 0)
theorem sp_restFor {N c : Nat} {m1 m2 : gM} {E : List Nat} (hO : ofR N m1 m2) (hc : c < N) (hs : E.Pairwise (kl (keyO m1 55))) (hm : ∀ k, k ∈ E ↔ k < c ∧ m2 33 k = 0 ∧ el m1 c k = true) : f_X10_restFor (iI (c : Nat)) m2 = some (hdI E) := by
  obtain ⟨hN, ⟨w27, w28, w29, w30, w31, w32⟩, hk⟩ := hO
  have hkc := hk c hc
  have ln : ∀ (C k : Nat), k < N → a_ld 60 C (iI (k : Nat)) m2 = some (m2 C k) := by
    intro C k hk
    rw [a_ldI (by omega) (by omega) (by omega), Int.toNat_natCast]
  have key0 : ∀ k, m1 59 k = 0 → keyO m1 55 k = (m1 60 k).toInt := fun k h => by
    unfold keyO
    rw [show (55 + 4 : Nat) = 59 from rfl, show (55 + 5 : Nat) = 60 from rfl, if_pos h]
  have key1 : ∀ k, m1 59 k = 1 → keyO m1 55 k = -(m1 60 k).toInt := fun k h => by
    unfold keyO
    rw [show (55 + 4 : Nat) = 59 from rfl, show (55 + 5 : Nat) = 60 from rfl, if_neg (by rw [h]; decide)]
  have n10 : ¬ ((1 : Int32) = 0) := by decide
  have n01 : ¬ ((0 : Int32) = 1) := by decide
  -- what an offer must be
  have eA : ∀ k, k < c → ∀ {α : Type} (G : Int32 → Option α), ob (if m2 33 k = 0 then ob (a_ld 60 32 (iI (k : Nat)) m2) fun v9 => if v9 ≤ 0 then some 0 else ob (a_ld 60 29 (iI (k : Nat)) m2) fun v11 => ob (a_ld 60 29 (iI (c : Nat)) m2) fun v12 => if v11 = v12 then ob (a_ld 60 30 (iI (k : Nat)) m2) fun v14 => ob (a_ld 60 30 (iI (c : Nat)) m2) fun v15 => if v14 = v15 then some 0 else some 1 else some 0 else some 0) (fun (z8 : Int32) => ob (if z8 = 0 then some 0 else ob (a_ld 60 30 (iI (c : Nat)) m2) fun v19 => if v19 = 1 then ob (a_ld 60 31 (iI (k : Nat)) m2) fun v24 => ob (a_ld 60 31 (iI (c : Nat)) m2) fun v25 => if v25 < v24 then some 0 else some 1 else ob (a_ld 60 31 (iI (k : Nat)) m2) fun v21 => ob (a_ld 60 31 (iI (c : Nat)) m2) fun v22 => if v21 < v22 then some 0 else some 1) G) = G (if k ∈ E then 1 else 0) := by
    intro k hkc2 α G
    have hkN : k < N := by omega
    have hkk := hk k hkN
    rw [ln 32 k hkN, ln 29 k hkN, ln 29 c hc, ln 30 k hkN, ln 30 c hc, ln 31 k hkN, ln 31 c hc]
    simp only [ob_sm]
    rw [w29, w30, w31, w32]
    by_cases a1 : m2 33 k = 0
    · rw [if_pos a1]
      by_cases a2 : m1 62 k ≤ 0
      · have hno : k ∉ E := fun h => by
          have h2 := (of_decide_eq_true ((hm k).1 h).2.2).1
          rw [le0'] at a2
          omega
        rw [if_pos a2, ob_some, if_pos rfl, ob_some, if_neg hno]
      · rw [if_neg a2]
        by_cases a3 : m1 58 k = m1 58 c
        · rw [if_pos a3]
          by_cases a4 : m1 59 k = m1 59 c
          · have hno : k ∉ E := fun h => (of_decide_eq_true ((hm k).1 h).2.2).2.2.1 a4
            rw [if_pos a4, ob_some, if_pos rfl, ob_some, if_neg hno]
          · rw [if_neg a4, ob_some, if_neg n10]
            have hE : k ∈ E ↔ keyO m1 55 c + keyO m1 55 k ≤ 0 := by
              rw [hm k]
              unfold el
              rw [decide_eq_true_iff]
              rw [le0'] at a2
              constructor
              · exact fun h => h.2.2.2.2.2
              · exact fun h => ⟨hkc2, a1, by omega, a3, a4, h⟩
            rcases hkc.2.2.2.1 with c0 | c1
            · have k1 : m1 59 k = 1 := by
                rcases hkk.2.2.2.1 with u | u
                · exact absurd (by rw [u, c0]) a4
                · exact u
              rw [c0, if_neg n01]
              rw [key0 c c0, key1 k k1] at hE
              by_cases p : m1 60 k < m1 60 c
              · have hno : k ∉ E := fun h => by
                  have := hE.1 h
                  rw [Int32.lt_iff_toInt_lt] at p
                  omega
                rw [if_pos p, ob_some, if_neg hno]
              · have hyes : k ∈ E := hE.2 (by rw [Int32.lt_iff_toInt_lt] at p; omega)
                rw [if_neg p, ob_some, if_pos hyes]
            · have k0 : m1 59 k = 0 := by
                rcases hkk.2.2.2.1 with u | u
                · exact u
                · exact absurd (by rw [u, c1]) a4
              rw [c1, if_pos rfl]
              rw [key1 c c1, key0 k k0] at hE
              by_cases p : m1 60 c < m1 60 k
              · have hno : k ∉ E := fun h => by
                  have := hE.1 h
                  rw [Int32.lt_iff_toInt_lt] at p
                  omega
                rw [if_pos p, ob_some, if_neg hno]
              · have hyes : k ∈ E := hE.2 (by rw [Int32.lt_iff_toInt_lt] at p; omega)
                rw [if_neg p, ob_some, if_pos hyes]
        · have hno : k ∉ E := fun h => a3 (of_decide_eq_true ((hm k).1 h).2.2).2.1
          rw [if_neg a3, ob_some, if_pos rfl, ob_some, if_neg hno]
    · have hno : k ∉ E := fun h => a1 ((hm k).1 h).2.1
      rw [if_neg a1, ob_some, if_pos rfl, ob_some, if_neg hno]
  have eB : ∀ k, k ∈ E → ∀ b, b ∈ E → ∀ {α : Type} (G : Int32 → Option α), ob (ob (a_ld 60 30 (iI (c : Nat)) m2) fun v29 => if v29 = 1 then ob (a_ld 60 31 (iI (k : Nat)) m2) fun v34 => ob (a_ld 60 31 (iI (b : Nat)) m2) fun v35 => if v35 ≤ v34 then some 0 else some 1 else ob (a_ld 60 31 (iI (k : Nat)) m2) fun v31 => ob (a_ld 60 31 (iI (b : Nat)) m2) fun v32 => if v31 ≤ v32 then some 0 else some 1) G = G (if keyO m1 55 k < keyO m1 55 b then 1 else 0) := by
    intro k hkE b hbE α G
    have h1 := (hm k).1 hkE
    have h2 := (hm b).1 hbE
    have hkN : k < N := by omega
    have hbN : b < N := by omega
    have s1 := (of_decide_eq_true h1.2.2).2.2.1
    have s2 := (of_decide_eq_true h2.2.2).2.2.1
    rw [ln 30 c hc, ln 31 k hkN, ln 31 b hbN]
    simp only [ob_sm]
    rw [w30, w31]
    rcases hkc.2.2.2.1 with c0 | c1
    · have k1 : m1 59 k = 1 := by
        rcases (hk k hkN).2.2.2.1 with u | u
        · exact absurd (by rw [u, c0]) s1
        · exact u
      have b1 : m1 59 b = 1 := by
        rcases (hk b hbN).2.2.2.1 with u | u
        · exact absurd (by rw [u, c0]) s2
        · exact u
      rw [c0, if_neg n01, key1 k k1, key1 b b1]
      by_cases p : m1 60 k ≤ m1 60 b
      · rw [if_pos p, ob_some, if_neg (by rw [Int32.le_iff_toInt_le] at p; omega)]
      · rw [if_neg p, ob_some, if_pos (by rw [Int32.le_iff_toInt_le] at p; omega)]
    · have k0 : m1 59 k = 0 := by
        rcases (hk k hkN).2.2.2.1 with u | u
        · exact u
        · exact absurd (by rw [u, c1]) s1
      have b0 : m1 59 b = 0 := by
        rcases (hk b hbN).2.2.2.1 with u | u
        · exact u
        · exact absurd (by rw [u, c1]) s2
      rw [c1, if_pos rfl, key0 k k0, key0 b b0]
      by_cases p : m1 60 b ≤ m1 60 k
      · rw [if_pos p, ob_some, if_neg (by rw [Int32.le_iff_toInt_le] at p; omega)]
      · rw [if_neg p, ob_some, if_pos (by rw [Int32.le_iff_toInt_le] at p; omega)]
  unfold f_X10_restFor
  refine T_eq (T_ob (P := fun t => t.1 = hdI E) ?_ (fun t ht => T_some ht))
  refine T_run2 (f_X10_restFor_L4 m2 (iI (c : Nat))) (fun k x y => y = iI (k : Nat) ∧ ((x = -1 ∧ ∀ q, q < k → q ∉ E) ∨ ∃ b, b < k ∧ b ∈ E ∧ x = iI (b : Nat) ∧ ∀ q, q < k → q ∈ E → q = b ∨ kl (keyO m1 55) b q)) _ c 0 _ _ ⟨rfl, Or.inl ⟨rfl, fun q hq => absurd hq (by omega)⟩⟩ (Nat.zero_le _) (by omega) ?_
  intro k x y f hI hkc2 hcont
  obtain ⟨e1, hx⟩ := hI
  subst e1
  unfold f_X10_restFor_L4
  rw [iI_le (by omega) (by omega) (by omega) (by omega)]
  by_cases cc : (c : Int) ≤ k
  · rw [if_pos cc]
    refine T_some ?_
    show x = hdI E
    have hlt : ∀ q, q ∈ E → q < k := fun q hq => by have := ((hm q).1 hq).1; omega
    cases hE : E with
    | nil =>
      rcases hx with ⟨h1, _⟩ | ⟨b, _, hb, _⟩
      · exact h1
      · rw [hE] at hb
        exact absurd hb List.not_mem_nil
    | cons a L =>
      have ha : a ∈ E := by rw [hE]; exact List.mem_cons_self
      rcases hx with ⟨_, h2⟩ | ⟨b, _, hb, h3, h4⟩
      · exact absurd ha (h2 a (hlt a ha))
      · show x = iI (a : Nat)
        rw [h3]
        rcases h4 a (hlt a ha) ha with u | u
        · rw [u]
        · exfalso
          rw [hE] at hb hs
          rcases List.mem_cons.1 hb with v | v
          · rw [v] at u
            exact kl_irr u
          · exact kl_asym ((List.pairwise_cons.1 hs).1 b v) u
  · have hkc3 : k < c := by omega
    have hkN : k < N := by omega
    rw [if_neg cc, ln 33 k hkN, ob_some, eA k hkc3]
    by_cases hkE : k ∈ E
    · rw [if_pos hkE]
      rcases hx with ⟨h1, h2⟩ | ⟨b, hb1, hb2, h3, h4⟩
      · rw [h1, if_pos rfl, ob_some, if_neg n10, if_neg n10, ob_some]
        refine hcont hkc3 _ _ ⟨iI_succ k, Or.inr ⟨k, by omega, hkE, rfl, fun q hq hqE => ?_⟩⟩
        by_cases w : q = k
        · exact Or.inl w
        · exact absurd hqE (h2 q (by omega))
      · have hxn : ¬ x = -1 := by
          rw [h3, iL_1, iI_neg, iI_eqP (by omega) (by omega) (by omega) (by omega)]
          omega
        rw [if_neg hxn, h3, eB k hkE b hb2]
        by_cases p : keyO m1 55 k < keyO m1 55 b
        · rw [if_pos p, if_neg n10, if_neg n10, ob_some]
          refine hcont hkc3 _ _ ⟨iI_succ k, Or.inr ⟨k, by omega, hkE, rfl, fun q hq hqE => ?_⟩⟩
          by_cases w : q = k
          · exact Or.inl w
          · refine Or.inr ?_
            have hkb : kl (keyO m1 55) k b := Or.inl p
            rcases h4 q (by omega) hqE with v | v
            · rw [v]; exact hkb
            · exact kl_tr hkb v
        · rw [if_neg p, if_neg n10, if_pos rfl, ob_some]
          refine hcont hkc3 _ _ ⟨iI_succ k, Or.inr ⟨b, by omega, hb2, rfl, fun q hq hqE => ?_⟩⟩
          by_cases w : q = k
          · subst w
            refine Or.inr ?_
            unfold kl
            omega
          · exact h4 q (by omega) hqE
    · rw [if_neg hkE]
      have hgo : ∀ {α : Type} (z28 : Option Int32) (G : Int32 → Option α), (∃ v, z28 = some v) → ob z28 (fun z28 => ob (if (0 : Int32) = 0 then some x else if z28 = 0 then some x else some (iI (k : Nat))) G) = G x := by
        intro α z28 G hv
        obtain ⟨v, rfl⟩ := hv
        rw [ob_some, if_pos rfl, ob_some]
      have hz : ∃ v : Int32, (if x = -1 then some 1 else ob (a_ld 60 30 (iI (c : Nat)) m2) fun v29 => if v29 = 1 then ob (a_ld 60 31 (iI (k : Nat)) m2) fun v34 => ob (a_ld 60 31 x m2) fun v35 => if v35 ≤ v34 then some 0 else some 1 else ob (a_ld 60 31 (iI (k : Nat)) m2) fun v31 => ob (a_ld 60 31 x m2) fun v32 => if v31 ≤ v32 then some 0 else some 1) = some v := by
        rcases hx with ⟨h1, _⟩ | ⟨b, hb1, hb2, h3, _⟩
        · exact ⟨1, by rw [if_pos h1]⟩
        · have hxn : ¬ x = -1 := by
            rw [h3, iL_1, iI_neg, iI_eqP (by omega) (by omega) (by omega) (by omega)]
            omega
          rw [if_neg hxn, h3, ln 30 c hc, ln 31 k hkN, ln 31 b (by omega)]
          simp only [ob_sm]
          by_cases u : m2 30 c = 1
          · rw [if_pos u]
            by_cases v : m2 31 b ≤ m2 31 k
            · exact ⟨0, by rw [if_pos v]⟩
            · exact ⟨1, by rw [if_neg v]⟩
          · rw [if_neg u]
            by_cases v : m2 31 k ≤ m2 31 b
            · exact ⟨0, by rw [if_pos v]⟩
            · exact ⟨1, by rw [if_neg v]⟩
      rw [hgo _ _ hz]
      refine hcont hkc3 _ _ ⟨iI_succ k, ?_⟩
      rcases hx with ⟨h1, h2⟩ | ⟨b, hb1, hb2, h3, h4⟩
      · refine Or.inl ⟨h1, fun q hq hqE => ?_⟩
        by_cases w : q = k
        · subst w; exact hkE hqE
        · exact h2 q (by omega) hqE
      · refine Or.inr ⟨b, by omega, hb2, h3, fun q hq hqE => ?_⟩
        by_cases w : q = k
        · subst w; exact absurd hqE hkE
        · exact h4 q (by omega) hqE
