theorem T_oz {α ρ β : Type} {x : Option (α ⊕ ρ)} {h : ρ → Option β} {k : α → Option β} {P : α ⊕ ρ → Prop} {Q : β → Prop} (hx : T x P) (h1 : ∀ a, P (.inl a) → T (k a) Q) (h2 : ∀ a, P (.inr a) → T (h a) Q) : T (oz x h k) Q := by
  obtain ⟨v, e, p⟩ := hx
  subst e
  cases v with
  | inl a => exact h1 a p
  | inr a => exact h2 a p
theorem tb_sh : ∀ s, s < 32 → ∀ k, k < 5 → ((iI (s : Nat) >>> (iI (k : Nat) &&& 31)) &&& 1) = if Nat.testBit s k = true then (1 : Int32) else 0 := by decide +kernel
theorem tb_or : ∀ g, g < 32 → ∀ k, k < 5 → (iI (g : Nat) ||| ((1 : Int32) <<< (iI (k : Nat) &&& 31))) = iI ((g ||| 2 ^ k : Nat) : Int) ∧ (g ||| 2 ^ k) < 32 ∧ ∀ r, r < 5 → Nat.testBit (g ||| 2 ^ k) r = (Nat.testBit g r || decide (r = k)) := by decide +kernel
theorem tb_orH : ∀ g, g < 8 → ∀ k, k < 3 → (g ||| 2 ^ k) < 8 := by decide +kernel
theorem tb_ct : ∀ s, s < 16 → f_J6_bitCount_0f7a4 (iI (s : Nat)) = some (iI (((if Nat.testBit s 0 = true then 1 else 0) + (if Nat.testBit s 1 = true then 1 else 0) + (if Nat.testBit s 2 = true then 1 else 0) + (if Nat.testBit s 3 = true then 1 else 0) : Int))) := by decide +kernel
theorem tb_sets : ∀ n, n < 6 → ((1 : Int32) <<< (iI (n : Nat) &&& 31)) = iI ((2 ^ n : Nat) : Int) ∧ 2 ^ n ≤ 32 := by decide +kernel
theorem sp_mem {s k : Nat} (hs : s < 32) (hk : k < 5) : f_X9_isMember (iI (s : Nat)) (iI (k : Nat)) = some (if Nat.testBit s k = true then 1 else 0) := by
  unfold f_X9_isMember
  rw [tb_sh s hs k hk]
  by_cases q : Nat.testBit s k = true
  · rw [if_pos q]; rfl
  · rw [if_neg q]; rfl
def isum : Nat → (Nat → Int) → Int
  | 0, _ => 0
  | n + 1, t => isum n t + t n
theorem isum_rng {B : Int} (hB : 0 ≤ B) {t : Nat → Int} : ∀ n, (∀ k, k < n → -B ≤ t k ∧ t k ≤ B) → -(B * n) ≤ isum n t ∧ isum n t ≤ B * n
  | 0, _ => by unfold isum; omega
  | n + 1, h => by
    have h1 := isum_rng hB n (fun k hk => h k (by omega))
    have h2 := h n (by omega)
    have h3 : B * ((n + 1 : Nat) : Int) = B * n + B := by rw [Int.natCast_add, Int.mul_add]; simp
    show -(B * ((n + 1 : Nat) : Int)) ≤ isum n t + t n ∧ isum n t + t n ≤ B * ((n + 1 : Nat) : Int)
    omega
theorem isum_congr {t t2 : Nat → Int} : ∀ n, (∀ k, k < n → t k = t2 k) → isum n t = isum n t2
  | 0, _ => rfl
  | n + 1, h => by
    show isum n t + t n = isum n t2 + t2 n
    rw [isum_congr n (fun k hk => h k (by omega)), h n (by omega)]
def blkR (Z H B P U : Nat → Int32) (nb : Nat) : Prop := nb ≤ 5 ∧ ∀ k, k < nb → rg (Z k) 0 2 ∧ rg (H k) 1 15 ∧ (B k = 0 ∨ B k = 1) ∧ rg (P k) 0 200 ∧ rg (U k) 1 10
def hN (H : Nat → Int32) (k : Nat) : Nat := (H k).toInt.toNat
theorem hN_of {H : Nat → Int32} {k : Nat} (h : rg (H k) 1 15) : H k = iI (hN H k : Nat) ∧ hN H k < 16 := by
  unfold hN
  obtain ⟨a, b⟩ := h
  refine ⟨?_, by omega⟩
  rw [Int.toNat_of_nonneg (by omega), iI_of]
def sgn (B : Nat → Int32) (k : Nat) (x : Int) : Int := if B k = 0 then x else -x
def uT (B U : Nat → Int32) (k : Nat) : Int := sgn B k (U k).toInt
def blkC (m : gM) (nb : Nat) (TO GR : Nat → Int) : Prop := m 13 8 = iI nb ∧ blkR (m 15) (m 16) (m 17) (m 18) (m 19) nb ∧ ∀ k, k < nb → rg (m 14 k) 0 5 ∧ -1 ≤ TO k ∧ TO k < k ∧ -1 ≤ GR k ∧ GR k ≤ 2 ∧ m 20 k = iI (TO k) ∧ m 21 k = iI (GR k)
def blkM (m : gM) (nb : Nat) (TO GR : Nat → Int) : Prop := m 0 16 = iI nb ∧ blkR (m 14) (m 15) (m 16) (m 17) (m 18) nb ∧ ∀ k, k < nb → rg (m 13 k) 0 5 ∧ -1 ≤ TO k ∧ TO k < k ∧ -1 ≤ GR k ∧ GR k ≤ 2 ∧ m 19 k = iI (TO k + 1) ∧ m 20 k = iI (GR k + 1)
theorem blkC_fr {m m2 : gM} {nb : Nat} {TO GR : Nat → Int} (h : blkC m nb TO GR) (h0 : m2 13 8 = m 13 8) (hf : ∀ c, 14 ≤ c → c ≤ 21 → m2 c = m c) : blkC m2 nb TO GR := by
  unfold blkC at *
  rw [h0, hf 14 (by decide) (by decide), hf 15 (by decide) (by decide), hf 16 (by decide) (by decide), hf 17 (by decide) (by decide), hf 18 (by decide) (by decide), hf 19 (by decide) (by decide), hf 20 (by decide) (by decide), hf 21 (by decide) (by decide)]
  exact h
theorem blkM_fr {m m2 : gM} {nb : Nat} {TO GR : Nat → Int} (h : blkM m nb TO GR) (h0 : m2 0 16 = m 0 16) (hf : ∀ c, 13 ≤ c → c ≤ 20 → m2 c = m c) : blkM m2 nb TO GR := by
  unfold blkM at *
  rw [h0, hf 13 (by decide) (by decide), hf 14 (by decide) (by decide), hf 15 (by decide) (by decide), hf 16 (by decide) (by decide), hf 17 (by decide) (by decide), hf 18 (by decide) (by decide), hf 19 (by decide) (by decide), hf 20 (by decide) (by decide)]
  exact h
def alwS (TO GR : Nat → Int) (nb s : Nat) : Prop := ∀ k, k < nb → Nat.testBit s k = true → (TO k = -1 ∨ Nat.testBit s (TO k).toNat = true) ∧ ∀ j, j < k → Nat.testBit s j = true → GR k ≠ -1 → GR k ≠ GR j
theorem alwS_succ {TO GR : Nat → Int} {n s : Nat} (h : alwS TO GR n s) (h2 : Nat.testBit s n = true → (TO n = -1 ∨ Nat.testBit s (TO n).toNat = true) ∧ ∀ j, j < n → Nat.testBit s j = true → GR n ≠ -1 → GR n ≠ GR j) : alwS TO GR (n + 1) s := by
  intro k hk hb
  by_cases q : k = n
  · subst q; exact h2 hb
  · exact h k (by omega) hb
theorem sp_isAllowedC {m : gM} {nb : Nat} {TO GR : Nat → Int} (hb : blkC m nb TO GR) {s : Nat} (hs : s < 32) : T (f_X2_isAllowed (iI (s : Nat)) m) (fun r => (r = 1 ∧ alwS TO GR nb s) ∨ (r = 0 ∧ ¬ alwS TO GR nb s)) := by
  obtain ⟨g1, g2, g3⟩ := hb
  have hn := g2.1
  unfold f_X2_isAllowed
  refine T_oz (P := fun v => match v with | .inl _ => alwS TO GR nb s | .inr r => r = 0 ∧ ¬ alwS TO GR nb s) ?_ (fun a ha => T_some (Or.inl ⟨rfl, ha⟩)) (fun a ha => T_some (Or.inr ha))
  refine T_run2 (f_X2_isAllowed_L4 m (iI (s : Nat))) (fun k x y => y = iI (k : Nat) ∧ alwS TO GR k s ∧ ∃ g : Nat, x = iI (g : Nat) ∧ g < 8 ∧ ∀ q, q < 3 → (Nat.testBit g q = true ↔ ∃ j, j < k ∧ Nat.testBit s j = true ∧ GR j = q)) _ nb 0 _ _ ?_ (Nat.zero_le _) (by omega) ?_
  · refine ⟨rfl, fun k hk => absurd hk (by omega), 0, rfl, by decide, fun q hq => ?_⟩
    rw [Nat.zero_testBit]
    constructor
    · intro h; cases h
    · intro ⟨j, hj, _⟩; omega
  · intro k x y f hI hk hcont
    obtain ⟨e, hA, g, e2, hg, hq⟩ := hI
    subst e
    subst e2
    unfold f_X2_isAllowed_L4
    rw [g1, iI_le (by omega) (by omega) (by omega) (by omega)]
    by_cases c : (nb : Int) ≤ k
    · rw [if_pos c]
      have e : k = nb := by omega
      subst e
      exact T_some hA
    · rw [if_neg c, sp_mem hs (by omega), ob_some]
      have hk5 : k < 5 := by omega
      obtain ⟨_, t1, t2, t3, t4, t5, t6⟩ := g3 k (by omega)
      by_cases hbit : Nat.testBit s k = true
      · rw [if_pos hbit, if_neg (by decide), a_ldI (by omega) (by omega) (by omega), ob_some, Int.toNat_natCast, t5]
        have hnx : ∀ (g9 : Nat), g9 = g → (GR k = -1) → (TO k = -1 ∨ Nat.testBit s (TO k).toNat = true) → T (f_X2_isAllowed_L4 m (iI (s : Nat)) f (iI (g : Nat)) (iI (k : Nat) + 1)) (fun v => match v with | .inl _ => alwS TO GR nb s | .inr r => r = 0 ∧ ¬ alwS TO GR nb s) := by
          intro g9 _ hgr hto
          refine hcont (by omega) _ _ ⟨by rw [iL_1, iI_add]; rfl, alwS_succ hA (fun _ => ⟨hto, fun j _ _ h => absurd hgr h⟩), g, rfl, hg, ?_⟩
          intro q hq3
          rw [hq q hq3]
          constructor
          · intro ⟨j, hj, hh⟩; exact ⟨j, by omega, hh⟩
          · intro ⟨j, hj, hh⟩
            by_cases w : j = k
            · subst w; have := hh.2; omega
            · exact ⟨j, by omega, hh⟩
        have hnx2 : GR k ≠ -1 → (TO k = -1 ∨ Nat.testBit s (TO k).toNat = true) → T (ob (a_ld 5 21 (iI (k : Nat)) m) fun v12 => ob (f_X9_isMember (iI (g : Nat)) v12) fun r13 => if r13 = 0 then ob (a_ld 5 21 (iI (k : Nat)) m) fun v15 => ob (some (iI (g : Nat) ||| (1 <<< (v15 &&& 31)))) fun (x16 : Int32) => f_X2_isAllowed_L4 m (iI (s : Nat)) f x16 (iI (k : Nat) + 1) else some (.inr 0)) (fun v => match v with | .inl _ => alwS TO GR nb s | .inr r => r = 0 ∧ ¬ alwS TO GR nb s) := by
          intro hgr hto
          have eg : GR k = (((GR k).toNat : Nat) : Int) := by omega
          have hg3 : (GR k).toNat < 3 := by omega
          rw [a_ldI (by omega) (by omega) (by omega), ob_some, Int.toNat_natCast, t6, eg, sp_mem (by omega) (by omega), ob_some]
          by_cases w : Nat.testBit g (GR k).toNat = true
          · rw [if_pos w, if_neg (by decide)]
            refine T_some ⟨rfl, fun hall => ?_⟩
            obtain ⟨j, hj, hjb, hjg⟩ := (hq _ hg3).1 w
            exact (hall k (by omega) hbit).2 j hj hjb hgr (by omega)
          · rw [if_neg w, if_pos rfl, ob_some, ob_some, (tb_or g (by omega) (GR k).toNat (by omega)).1]
            refine hcont (by omega) _ _ ⟨by rw [iL_1, iI_add]; rfl, alwS_succ hA (fun _ => ⟨hto, fun j hj hjb _ he => w ((hq _ hg3).2 ⟨j, hj, hjb, by omega⟩)⟩), _, rfl, tb_orH g hg _ hg3, ?_⟩
            intro q hq3
            rw [(tb_or g (by omega) (GR k).toNat (by omega)).2.2 q (by omega), Bool.or_eq_true, decide_eq_true_iff, hq q hq3]
            constructor
            · intro h
              rcases h with ⟨j, hj, hh⟩ | h
              · exact ⟨j, by omega, hh⟩
              · exact ⟨k, by omega, hbit, by omega⟩
            · intro ⟨j, hj, hjb, hjg⟩
              by_cases u : j = k
              · subst u; exact Or.inr (by omega)
              · exact Or.inl ⟨j, by omega, hjb, hjg⟩
        have e21 : a_ld 5 21 (iI (k : Nat)) m = some (iI (GR k)) := by rw [a_ldI (by omega) (by omega) (by omega), Int.toNat_natCast, t6]
        have e20 : a_ld 5 20 (iI (k : Nat)) m = some (iI (TO k)) := by rw [a_ldI (by omega) (by omega) (by omega), Int.toNat_natCast, t5]
        have cond : ∀ {α : Type} {v : Int} {A B : α}, -1 ≤ v → v ≤ 100 → (if iI v = -1 then A else B) = if v = -1 then A else B := by
          intro α v A B h1 h2
          rw [iL_1, iI_neg, iI_eq (by omega) (by omega) (by omega) (by omega)]
        rw [cond t1 (by omega)]
        by_cases hto : TO k = -1
        · rw [if_pos hto]
          by_cases hgr : GR k = -1
          · rw [e21, ob_some, cond t3 (by omega), if_pos hgr]
            exact hnx g rfl hgr (Or.inl hto)
          · have := hnx2 hgr (Or.inl hto)
            rw [e21, ob_some] at this ⊢
            rw [cond t3 (by omega), if_neg hgr, ob_some]
            exact this
        · have eto : TO k = (((TO k).toNat : Nat) : Int) := by omega
          have hto5 : (TO k).toNat < 5 := by omega
          have em : f_X9_isMember (iI (s : Nat)) (iI (TO k)) = some (if Nat.testBit s (TO k).toNat = true then 1 else 0) := by
            have := sp_mem hs hto5
            rw [← eto] at this
            exact this
          rw [if_neg hto, ob_some, em, ob_some]
          by_cases w : Nat.testBit s (TO k).toNat = true
          · rw [if_pos w, if_neg (by decide)]
            by_cases hgr : GR k = -1
            · rw [e21, ob_some, cond t3 (by omega), if_pos hgr]
              exact hnx g rfl hgr (Or.inr w)
            · have := hnx2 hgr (Or.inr w)
              rw [e21, ob_some] at this ⊢
              rw [cond t3 (by omega), if_neg hgr, ob_some]
              exact this
          · rw [if_neg w, if_pos rfl]
            refine T_some ⟨rfl, fun hall => ?_⟩
            rcases (hall k (by omega) hbit).1 with v | v
            · exact hto v
            · exact w v
      · rw [if_neg hbit, if_pos rfl]
        refine hcont (by omega) _ _ ⟨by rw [iL_1, iI_add]; rfl, alwS_succ hA (fun h => absurd h hbit), g, rfl, hg, ?_⟩
        intro q hq3
        rw [hq q hq3]
        constructor
        · intro ⟨j, hj, hh⟩; exact ⟨j, by omega, hh⟩
        · intro ⟨j, hj, hh⟩
          by_cases w : j = k
          · subst w; exact absurd hh.1 hbit
          · exact ⟨j, by omega, hh⟩
