noncomputable def bst (ok : Nat → Prop) (v : Nat → Int32) : Nat → Nat × Int32
  | 0 => (0, v 0)
  | n + 1 => @ite _ (ok (n + 1) ∧ (bst ok v n).2 < v (n + 1)) (Classical.propDecidable _) (n + 1, v (n + 1)) (bst ok v n)
theorem bst_pos {ok : Nat → Prop} {v : Nat → Int32} {n : Nat} (h : ok (n + 1) ∧ (bst ok v n).2 < v (n + 1)) : bst ok v (n + 1) = (n + 1, v (n + 1)) := if_pos h
theorem bst_neg {ok : Nat → Prop} {v : Nat → Int32} {n : Nat} (h : ¬ (ok (n + 1) ∧ (bst ok v n).2 < v (n + 1))) : bst ok v (n + 1) = bst ok v n := if_neg h
theorem bst_in {ok : Nat → Prop} {v : Nat → Int32} (h0 : ok 0) : ∀ n, (bst ok v n).1 ≤ n ∧ ok (bst ok v n).1 ∧ (bst ok v n).2 = v (bst ok v n).1
  | 0 => ⟨Nat.le_refl _, h0, rfl⟩
  | n + 1 => by
    have ih := bst_in (v := v) h0 n
    by_cases c : ok (n + 1) ∧ (bst ok v n).2 < v (n + 1)
    · rw [bst_pos c]
      exact ⟨Nat.le_refl _, c.1, rfl⟩
    · rw [bst_neg c]
      exact ⟨by omega, ih.2⟩
theorem i32_le_trans {a b c : Int32} (h : a ≤ b) (h2 : b ≤ c) : a ≤ c := by
  rw [Int32.le_iff_toInt_le] at *
  omega
theorem i32_not_le {a b : Int32} : ¬ a ≤ b ↔ b < a := by
  rw [Int32.le_iff_toInt_le, Int32.lt_iff_toInt_lt]
  omega
theorem bst_ge {ok : Nat → Prop} {v : Nat → Int32} : ∀ n, v 0 ≤ (bst ok v n).2
  | 0 => Int32.le_refl _
  | n + 1 => by
    have ih := bst_ge (ok := ok) (v := v) n
    by_cases c : ok (n + 1) ∧ (bst ok v n).2 < v (n + 1)
    · rw [bst_pos c]
      have c2 := c.2
      rw [Int32.le_iff_toInt_le] at *
      rw [Int32.lt_iff_toInt_lt] at c2
      show _ ≤ (v (n + 1)).toInt
      omega
    · rw [bst_neg c]
      exact ih
def posS (R : Nat → Option (Int × Int × Int)) : Prop := hwS R 4 ≠ none
def okS (l : Nat → Int) (m0 : gM) (M : List Nat) (nb : Nat) (TO GR : Nat → Int) (s : Nat) : Prop := alwS TO GR nb s ∧ posS (fun h => slR l m0 M nb h (pt (m0 16) s h nb)) ∧ ¬ losS (srP (fun h z => slP l m0 M nb h (pt (m0 16) s h nb) z)) (m0 15) (m0 16) (m0 17) (m0 18) s nb
def vlS (l : Nat → Int) (m0 : gM) (M : List Nat) (nb : Nat) (s : Nat) : Int32 := iI (wvI (isum nb (wT (m0 16) (m0 17) (m0 18) (m0 19) s)) (fun h => slR l m0 M nb h (pt (m0 16) s h nb)))
theorem hwS_rng {R : Nat → Option (Int × Int × Int)} (hr : ∀ h, R h = none ∨ ∃ w a b, R h = some (w, a, b) ∧ -240000 ≤ w ∧ w ≤ 240000) : ∀ (n : Nat) (v : Int), hwS R n = some v → -(240000 * (n : Int)) ≤ v ∧ v ≤ 240000 * (n : Int)
  | 0, v, e => by
    have e2 : (some 0 : Option Int) = some v := e
    cases e2
    exact ⟨by omega, by omega⟩
  | n + 1, v, e => by
    cases h1 : hwS R n with
    | none => have := hwS_none h1 1; rw [e] at this; cases this
    | some a =>
      have ih := hwS_rng hr n a h1
      rcases hr n with q | ⟨w, x, y, q, q1, q2⟩
      · rw [hwS_succN q] at e; cases e
      · rw [hwS_succS h1 q] at e
        have e3 : a + w = v := Option.some.inj e
        exact ⟨by omega, by omega⟩
theorem vlS_low {l : Nat → Int} {m0 : gM} {n : Nat} {M : List Nat} {nb : Nat} {TO GR : Nat → Int} (hD : cDat m0 l n M nb TO GR) : iI (-1000000000) ≤ vlS l m0 M nb 0 := by
  have e0 : isum nb (wT (m0 16) (m0 17) (m0 18) (m0 19) 0) = 0 := by
    have := isum_rng (B := 0) (by omega) (t := wT (m0 16) (m0 17) (m0 18) (m0 19) 0) nb (fun k _ => by
      unfold wT
      rw [Nat.zero_testBit, if_neg (by decide)]
      exact ⟨by omega, by omega⟩)
    omega
  have hr : ∀ h, slR l m0 M nb h (pt (m0 16) 0 h nb) = none ∨ ∃ w a2 b2, slR l m0 M nb h (pt (m0 16) 0 h nb) = some (w, a2, b2) ∧ -240000 ≤ w ∧ w ≤ 240000 := fun h => RS_rng (fun z _ => crv_of hD.2.1 _ _)
  unfold vlS wvI
  rw [e0]
  cases hv : hwS (fun h => slR l m0 M nb h (pt (m0 16) 0 h nb)) 4 with
  | none => exact Int32.le_refl _
  | some v =>
    have h4 := hwS_rng hr 4 v hv
    show iI (-1000000000) ≤ iI (0 + v)
    rw [Int32.le_iff_toInt_le, iI_toInt (by omega) (by omega), iI_toInt (by omega) (by omega)]
    omega
theorem sp_bestSet {m0 m : gM} {l : Nat → Int} {n : Nat} {M : List Nat} {nb : Nat} {TO GR : Nat → Int} (hD : cDat m0 l n M nb TO GR) (hf0 : ∀ c, c < 22 → m c = m0 c) (hSL : ∀ s, s < 2 ^ nb → alwS TO GR nb s → ∀ h, h < 4 → SL m (32 * h + pt (m0 16) s h nb) (slR l m0 M nb h (pt (m0 16) s h nb)) (slP l m0 M nb h (pt (m0 16) s h nb))) : T (f_X3_bestSet m) (fun r => r.1 = iI ((bst (okS l m0 M nb TO GR) (vlS l m0 M nb) (2 ^ nb - 1)).1 : Nat) ∧ ∀ c, c ≠ 43 → r.2 c = m c) := by
  have hnb := hD.2.2.2.1.1
  have h2n := (tb_sets nb (by omega)).2
  have h2p : 1 ≤ 2 ^ nb := Nat.one_le_two_pow
  have ha0 : alwS TO GR nb 0 := by
    intro k _ hb
    rw [Nat.zero_testBit] at hb
    cases hb
  generalize hN : 2 ^ nb = N at *
  have hDm : cDat m l n M nb TO GR := cDat_fr hD hf0
  unfold f_X3_bestSet
  have hw0 := sp_worthWith hD hf0 (s := 0) (by decide) (hSL 0 (by omega) ha0)
  rw [iN_0] at hw0
  have hsc := sp_setCount hDm.2.2
  rw [hN] at hsc
  rw [hw0, ob_some, hsc, ob_some]
  refine T_ob (P := fun t => t.1 = iI ((bst (okS l m0 M nb TO GR) (vlS l m0 M nb) (N - 1)).1 : Nat) ∧ ∀ c, c ≠ 43 → t.2.2.2 c = m c) ?_ (fun t ht => T_some ht)
  refine T_run4 (f_X3_bestSet_L16 (iI ((N : Nat) : Int))) (fun k x y w m2 => x = iI ((bst (okS l m0 M nb TO GR) (vlS l m0 M nb) k).1 : Nat) ∧ y = (bst (okS l m0 M nb TO GR) (vlS l m0 M nb) k).2 ∧ w = iI ((k + 1 : Nat) : Int) ∧ ∀ c, c ≠ 43 → m2 c = m c) _ (N - 1) 0 _ _ _ _ ⟨rfl, rfl, rfl, fun c _ => rfl⟩ (Nat.zero_le _) (by omega) ?_
  intro k x y w m6 f hI hk hcont
  obtain ⟨e1, e2, e3, hf⟩ := hI
  subst e1
  subst e2
  subst e3
  unfold f_X3_bestSet_L16
  rw [iI_le (by omega) (by omega) (by omega) (by omega)]
  by_cases c : (N : Int) ≤ ((k + 1 : Nat) : Int)
  · rw [if_pos c]
    have e : k = N - 1 := by omega
    subst e
    exact T_some ⟨rfl, hf⟩
  · rw [if_neg c]
    have hf06 : ∀ c, c < 22 → m6 c = m0 c := fun c hc => by rw [hf c (by omega)]; exact hf0 c hc
    have hD6 : cDat m6 l n M nb TO GR := cDat_fr hD hf06
    obtain ⟨r, er, hr⟩ := sp_isAllowedC hD6.2.2 (s := k + 1) (by omega)
    rw [er, ob_some]
    have hstay : bst (okS l m0 M nb TO GR) (vlS l m0 M nb) (k + 1) = bst (okS l m0 M nb TO GR) (vlS l m0 M nb) k → ∀ m9 : gM, (∀ c, c ≠ 43 → m9 c = m c) → T (ob (some ((iI ((bst (okS l m0 M nb TO GR) (vlS l m0 M nb) k).1 : Nat), (bst (okS l m0 M nb TO GR) (vlS l m0 M nb) k).2, m9) : Int32 × Int32 × gM)) fun (t23 : Int32 × Int32 × gM) => ob (some t23.1) fun x14 => ob (some t23.2.1) fun x15 => ob (some t23.2.2) fun m16 => f_X3_bestSet_L16 (iI ((N : Nat) : Int)) f x14 x15 (iI ((k + 1 : Nat) : Int) + 1) m16) (fun t => t.1 = iI ((bst (okS l m0 M nb TO GR) (vlS l m0 M nb) (N - 1)).1 : Nat) ∧ ∀ c, c ≠ 43 → t.2.2.2 c = m c) := by
      intro eb m9 h9
      simp only [ob_some]
      exact hcont (by omega) _ _ _ _ ⟨by rw [eb], by rw [eb], by rw [iL_1, iI_add]; rfl, h9⟩
    rcases hr with ⟨q1, ha⟩ | ⟨q0, ha⟩
    · subst q1
      have hSL6 : ∀ h, h < 4 → SL m6 (32 * h + pt (m0 16) (k + 1) h nb) (slR l m0 M nb h (pt (m0 16) (k + 1) h nb)) (slP l m0 M nb h (pt (m0 16) (k + 1) h nb)) := fun h hh => SL_fr (hSL (k + 1) (by omega) ha h hh) (by rw [hf 40 (by decide)]) (fun z _ => by rw [hf 41 (by decide), hf 42 (by decide)]; exact ⟨rfl, rfl⟩)
      rw [if_neg (by decide), sp_worthWith hD hf06 (s := k + 1) (by omega) hSL6, ob_some]
      have ev : iI (wvI (isum nb (wT (m0 16) (m0 17) (m0 18) (m0 19) (k + 1))) (fun h => slR l m0 M nb h (pt (m0 16) (k + 1) h nb))) = vlS l m0 M nb (k + 1) := rfl
      rw [ev]
      by_cases cc : vlS l m0 M nb (k + 1) ≤ (bst (okS l m0 M nb TO GR) (vlS l m0 M nb) k).2
      · rw [if_pos cc]
        refine hstay (bst_neg (fun w => ?_)) m6 hf
        exact (i32_not_le.2 w.2) cc
      · rw [if_neg cc]
        obtain ⟨r2, er2, hf2, hl2⟩ := sp_isLosing hD hf06 (s := k + 1) (by omega) hSL6
        rw [er2, ob_some, ob_some, ob_some]
        have hf9 : ∀ c, c ≠ 43 → r2.2 c = m c := fun c hc => by rw [hf2 c hc]; exact hf c hc
        rcases hl2 with ⟨g1, hl⟩ | ⟨g0, hl⟩
        · rw [if_neg (by rw [g1]; decide)]
          exact hstay (bst_neg (fun w => w.1.2.2 hl)) _ hf9
        · rw [if_pos g0]
          have hok : okS l m0 M nb TO GR (k + 1) := by
            refine ⟨ha, ?_, hl⟩
            intro hn
            apply cc
            unfold vlS wvI
            have hn : hwS (fun h => slR l m0 M nb h (pt (m0 16) (k + 1) h nb)) 4 = none := hn
            rw [hn]
            exact i32_le_trans (vlS_low hD) (bst_ge k)
          have eb := bst_pos (ok := okS l m0 M nb TO GR) (v := vlS l m0 M nb) (n := k) ⟨hok, i32_not_le.1 cc⟩
          simp only [ob_some]
          exact hcont (by omega) _ _ _ _ ⟨by rw [eb], by rw [eb], by rw [iL_1, iI_add]; rfl, hf9⟩
    · subst q0
      rw [if_pos rfl]
      exact hstay (bst_neg (fun w => ha w.1.1)) m6 hf
