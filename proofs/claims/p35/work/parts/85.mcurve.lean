def bidsM (m : gM) (n : Nat) (M : List Nat) : Prop := n ≤ 40 ∧ m 0 7 = iI n ∧ (M.length = n ∧ M.Pairwise (kl (keyO m 4)) ∧ ∀ k, k ∈ M ↔ k < n) ∧ ∀ k, k < n → rg (m 5 k) 0 5 ∧ rg (m 6 k) 0 2 ∧ rg (m 7 k) 0 3 ∧ (m 8 k = 0 ∨ m 8 k = 1) ∧ rg (m 9 k) 0 200 ∧ rg (m 10 k) 1 10
theorem bidsM_fr {m m2 : gM} {n : Nat} {M : List Nat} (h : bidsM m n M) (h0 : m2 0 7 = m 0 7) (hf : ∀ c, 5 ≤ c → c ≤ 10 → m2 c = m c) : bidsM m2 n M := by
  obtain ⟨h1, h2, h3, h4⟩ := h
  have ek : keyO m2 4 = keyO m 4 := by
    funext k
    unfold keyO
    rw [hf 8 (by decide) (by decide), hf 9 (by decide) (by decide)]
  refine ⟨h1, by rw [h0]; exact h2, by rw [ek]; exact h3, ?_⟩
  intro k hk
  have := h4 k hk
  rw [hf 5 (by decide) (by decide), hf 6 (by decide) (by decide), hf 7 (by decide) (by decide), hf 8 (by decide) (by decide), hf 9 (by decide) (by decide), hf 10 (by decide) (by decide)]
  exact this
theorem cz_frM {m m2 : gM} {M : List Nat} {z h b : Int32} (hf : ∀ c, 5 ≤ c → c ≤ 10 → m2 c = m c) : Lz m2 M z h b = Lz m M z h b ∧ cz m2 M z h b = cz m M z h b := by
  have e0 : Lz m2 M z h b = Lz m M z h b := by
    unfold Lz isZ
    rw [hf 6 (by decide) (by decide), hf 7 (by decide) (by decide), hf 8 (by decide) (by decide)]
  refine ⟨e0, ?_⟩
  unfold cz
  rw [e0]
  have e1 : pP m2 = pP m := by unfold pP; rw [hf 9 (by decide) (by decide)]
  have e2 : uU m2 = uU m := by unfold uU; rw [hf 10 (by decide) (by decide)]
  rw [e1, e2]
theorem Lz_mem {m : gM} {n : Nat} {M : List Nat} (hb : bidsM m n M) {z h b : Int32} {k : Nat} : k ∈ Lz m M z h b ↔ k < n ∧ m 6 k = z ∧ m 7 k = h ∧ m 8 k = b := by
  unfold Lz
  rw [List.mem_filter, hb.2.2.1.2.2]
  unfold isZ
  rw [decide_eq_true_iff]
theorem Lz_srt {m : gM} {n : Nat} {M : List Nat} (hb : bidsM m n M) (z h b : Int32) : (Lz m M z h b).Pairwise (kl (keyO m 4)) := hb.2.2.1.2.1.filter _
def hdI : List Nat → Int32
  | [] => -1
  | r :: _ => iI (r : Nat)
theorem sp_nextBid {m : gM} {n : Nat} {M : List Nat} (hb : bidsM m n M) {z h b : Int32} (hbb : b = 0 ∨ b = 1) {pre rest : List Nat} (hL : Lz m M z h b = pre ++ rest) (hu : ∀ k, k ∈ pre → m 12 k = 1) (hu2 : ∀ k, k ∈ rest → m 12 k = 0) : f_X10_nextBid z h b m = some (hdI rest) := by
  have hel : ∀ k, k < n → ((m 12 k = 0 ∧ m 6 k = z ∧ m 7 k = h ∧ m 8 k = b) ↔ k ∈ rest) := by
    intro k hk
    constructor
    · intro q
      have : k ∈ Lz m M z h b := (Lz_mem hb).2 ⟨hk, q.2⟩
      rw [hL, List.mem_append] at this
      rcases this with c | c
      · have := hu k c
        rw [q.1] at this
        exact absurd this (by decide)
      · exact c
    · intro q
      have : k ∈ Lz m M z h b := by rw [hL]; exact List.mem_append_right _ q
      exact ⟨hu2 k q, ((Lz_mem hb).1 this).2⟩
  have hsr : rest.Pairwise (kl (keyO m 4)) := by
    have := Lz_srt hb z h b
    rw [hL] at this
    exact (List.pairwise_append.1 this).2.1
  have hrn : ∀ k, k ∈ rest → k < n := fun k hk => ((Lz_mem hb).1 (by rw [hL]; exact List.mem_append_right _ hk) : k < n ∧ m 6 k = z ∧ m 7 k = h ∧ m 8 k = b).1
  apply T_eq
  unfold f_X10_nextBid
  refine T_ob (P := fun t => t.1 = (hdI rest)) ?_ (fun t ht => T_some ht)
  refine T_run2 (f_X10_nextBid_L6 m z h b) (fun k x1 x2 => x2 = iI (k : Nat) ∧ ((x1 = -1 ∧ ∀ j, j < k → j ∉ rest) ∨ ∃ j, x1 = iI (j : Nat) ∧ j ∈ rest ∧ j < k ∧ ∀ i, i < k → i ∈ rest → i = j ∨ kl (keyO m 4) j i)) _ n 0 (-1) 0 ?_ (Nat.zero_le _) (by have := hb.1; omega) ?_
  · exact ⟨rfl, Or.inl ⟨rfl, fun j hj => absurd hj (by omega)⟩⟩
  · intro k x1 x2 f hI hk hcont
    obtain ⟨e, hx⟩ := hI
    subst e
    have hn := hb.1
    show T (f_X10_nextBid_L6 m z h b (f + 1) x1 (iI (k : Nat))) _
    unfold f_X10_nextBid_L6
    rw [hb.2.1, iI_le (by omega) (by omega) (by omega) (by omega)]
    refine T_ite (fun c => ?_) (fun c => ?_)
    · have e : k = n := by omega
      subst e
      refine T_some ?_
      rcases hx with ⟨e1, e2⟩ | ⟨j, e1, e2, e3, e4⟩
      · cases rest with
        | nil => exact e1
        | cons r tl => exact absurd List.mem_cons_self (e2 r (hrn r List.mem_cons_self))
      · cases rest with
        | nil => exact absurd e2 List.not_mem_nil
        | cons r tl =>
          have hr := e4 r (hrn r List.mem_cons_self) List.mem_cons_self
          have : j = r := by
            rcases List.mem_cons.1 e2 with q | q
            · exact q
            · rcases hr with w | w
              · exact w.symm
              · exact absurd ((List.pairwise_cons.1 hsr).1 j q) (kl_asym w)
          show x1 = iI (r : Nat)
          rw [e1, this]
    · have hkn : k < n := by omega
      have hrow := hb.2.2.2 k hkn
      rw [a_ldI (by omega) (by omega) (by omega), a_ldI (by omega) (by omega) (by omega), a_ldI (by omega) (by omega) (by omega), a_ldI (by omega) (by omega) (by omega), a_ldI (by omega) (by omega) (by omega)]
      simp only [ob_some, Int.toNat_natCast]
      have hz8 : ∀ {α : Type} (g : Int32 → Option α), ob (if m 12 k = 0 then if m 6 k = z then if m 7 k = h then if m 8 k = b then some (1 : Int32) else some 0 else some 0 else some 0 else some 0) g = g (if k ∈ rest then 1 else 0) := by
        intro α g
        by_cases q : k ∈ rest
        · obtain ⟨q1, q2, q3, q4⟩ := (hel k hkn).2 q
          rw [if_pos q1, if_pos q2, if_pos q3, if_pos q4, if_pos q, ob_some]
        · rw [if_neg q]
          by_cases q1 : m 12 k = 0
          · by_cases q2 : m 6 k = z
            · by_cases q3 : m 7 k = h
              · by_cases q4 : m 8 k = b
                · exact absurd ((hel k hkn).1 ⟨q1, q2, q3, q4⟩) q
                · rw [if_pos q1, if_pos q2, if_pos q3, if_neg q4, ob_some]
              · rw [if_pos q1, if_pos q2, if_neg q3, ob_some]
            · rw [if_pos q1, if_neg q2, ob_some]
          · rw [if_neg q1, ob_some]
      rw [hz8]
      obtain ⟨Pk, ePk, hPk1, hPk2⟩ := rg_ex hrow.2.2.2.2.1
      rcases hx with ⟨e1, e2⟩ | ⟨j, e1, e2, e3, e4⟩
      · rw [if_pos e1, ob_some]
        by_cases q : k ∈ rest
        · rw [if_pos q, if_neg (by decide), if_neg (by decide), ob_some, iL_1, iI_add]
          refine hcont hkn _ _ ⟨rfl, Or.inr ⟨k, rfl, q, by omega, ?_⟩⟩
          intro i hi hir
          by_cases w : i = k
          · exact Or.inl w
          · exact absurd hir (e2 i (by omega))
        · rw [if_neg q, if_pos rfl, ob_some, iL_1, iI_add]
          refine hcont hkn _ _ ⟨rfl, Or.inl ⟨e1, ?_⟩⟩
          intro i hi
          by_cases w : i = k
          · rw [w]; exact q
          · exact e2 i (by omega)
      · have hjn := hrn j e2
        have hrj := hb.2.2.2 j hjn
        obtain ⟨Pj, ePj, hPj1, hPj2⟩ := rg_ex hrj.2.2.2.2.1
        have hne : ¬ x1 = -1 := by
          rw [e1, iL_1, iI_neg, iI_eqP (by omega) (by omega) (by omega) (by omega)]; omega
        rw [if_neg hne, e1, a_ldI (by omega) (by omega) (by omega)]
        simp only [ob_some, Int.toNat_natCast]
        rw [ePk, ePj, iI_le (by omega) (by omega) (by omega) (by omega), iI_le (by omega) (by omega) (by omega) (by omega)]
        have hbj := ((hel j hjn).2 e2).2.2.2
        have hz16 : ∀ {α : Type} (g : Int32 → Option α), ob (if b = 1 then if Pk ≤ Pj then some (0 : Int32) else some 1 else if Pj ≤ Pk then some 0 else some 1) g = g (if (b = 1 ∧ Pk ≤ Pj) ∨ (b ≠ 1 ∧ Pj ≤ Pk) then 0 else 1) := by
          intro α g
          by_cases q1 : b = 1
          · by_cases q2 : Pk ≤ Pj
            · rw [if_pos q1, if_pos q2, if_pos (Or.inl ⟨q1, q2⟩), ob_some]
            · rw [if_pos q1, if_neg q2, if_neg (fun w => by rcases w with w | w; exact q2 w.2; exact w.1 q1), ob_some]
          · by_cases q2 : Pj ≤ Pk
            · rw [if_neg q1, if_pos q2, if_pos (Or.inr ⟨q1, q2⟩), ob_some]
            · rw [if_neg q1, if_neg q2, if_neg (fun w => by rcases w with w | w; exact q1 w.1; exact q2 w.2), ob_some]
        rw [hz16]
        have hkj : keyO m 4 j = if b = 0 then Pj else -Pj := by
          unfold keyO
          rw [show (4 + 4 : Nat) = 8 from rfl, show (4 + 5 : Nat) = 9 from rfl, hbj, ePj, iI_toInt (by omega) (by omega)]
        by_cases q : k ∈ rest
        · have hbk := ((hel k hkn).2 q).2.2.2
          have hkk : keyO m 4 k = if b = 0 then Pk else -Pk := by
            unfold keyO
            rw [show (4 + 4 : Nat) = 8 from rfl, show (4 + 5 : Nat) = 9 from rfl, hbk, ePk, iI_toInt (by omega) (by omega)]
          rw [if_pos q, if_neg (by decide)]
          have hcmp : ((b = 1 ∧ Pk ≤ Pj) ∨ (b ≠ 1 ∧ Pj ≤ Pk)) ↔ keyO m 4 j ≤ keyO m 4 k := by
            rw [hkj, hkk]
            rcases hbb with b0 | b1
            · rw [if_pos b0, if_pos b0]
              constructor
              · intro w
                rcases w with w | w
                · rw [b0] at w; exact absurd w.1 (by decide)
                · exact w.2
              · intro w
                exact Or.inr ⟨by rw [b0]; decide, w⟩
            · rw [if_neg (by rw [b1]; decide), if_neg (by rw [b1]; decide)]
              constructor
              · intro w
                rcases w with w | w
                · omega
                · exact absurd b1 w.1
              · intro w
                exact Or.inl ⟨b1, by omega⟩
          by_cases w : (b = 1 ∧ Pk ≤ Pj) ∨ (b ≠ 1 ∧ Pj ≤ Pk)
          · rw [if_pos w, if_pos rfl, ob_some, iL_1, iI_add]
            refine hcont hkn _ _ ⟨rfl, Or.inr ⟨j, rfl, e2, by omega, ?_⟩⟩
            intro i hi hir
            by_cases v : i = k
            · have := hcmp.1 w
              rw [v]
              exact Or.inr (by unfold kl; omega)
            · exact e4 i (by omega) hir
          · rw [if_neg w, if_neg (by decide), ob_some, iL_1, iI_add]
            refine hcont hkn _ _ ⟨rfl, Or.inr ⟨k, rfl, q, by omega, ?_⟩⟩
            intro i hi hir
            by_cases v : i = k
            · exact Or.inl v
            · have h9 : keyO m 4 k < keyO m 4 j := by
                have := mt hcmp.2 w
                omega
              rcases e4 i (by omega) hir with u | u
              · rw [u]; exact Or.inr (Or.inl h9)
              · exact Or.inr (kl_tr (Or.inl h9) u)
        · rw [if_neg q, if_pos rfl, ob_some, iL_1, iI_add]
          refine hcont hkn _ _ ⟨rfl, Or.inr ⟨j, rfl, e2, by omega, ?_⟩⟩
          intro i hi hir
          by_cases v : i = k
          · exact absurd (by rw [← v]; exact hir) q
          · exact e4 i (by omega) hir
