theorem iI_injN {a b : Nat} (h : iI (a : Nat) = iI (b : Nat)) (ha : a ≤ 1000000) (hb : b ≤ 1000000) : a = b := by
  have h2 : (iI (a : Int) = iI (b : Int)) = ((a : Int) = b) := iI_eqP (by omega) (by omega) (by omega) (by omega)
  rw [h2] at h
  omega
def acS (m : gM) : Nat → Int32
  | 0 => m 65 3
  | k + 1 => acS m k + m 66 k
def plA (g : Nat → Int32) (i : Nat) : Nat → Int32
  | 0 => 0
  | f + 1 => plA g i f + g (12 * f + i)
def monN (N : Nat) (x : Int32) (m : gM) : Prop := acS m 6 = x ∧ ∀ k, k < 6 → ((m 68 k = 0 ∧ (0 ≤ (m 66 k).toInt ∨ (m 66 k).toInt ≤ -2147483648 + 500 * (N : Int))) ∨ (m 68 k = 1 ∧ m 66 k = 0)) ∧ 0 ≤ (m 67 k).toInt ∧ (m 67 k).toInt ≤ 500 * (N : Int)
def posP (m : gM) : Prop := ∀ j, j < 10 → ∀ i, i < 12 → 0 ≤ (m (69 + 16 * j + 1) i).toInt
def netP (d : Nat) (m : gM) : Prop := (∀ h, h < 4 → m (69 + 16 * d + 2) h + m (69 + 16 * d + 2) (4 + h) + m (69 + 16 * d + 2) (8 + h) = 0) ∧ ∀ i, i < 12 → plA (m (69 + 16 * d + 3)) i 6 = m (69 + 16 * d + 2) i
def losP (d : Nat) (m : gM) : Prop := ∀ nb c : Nat, m 13 8 = iI (nb : Nat) → nb ≤ 5 → m 13 9 = iI (c : Nat) → c < 32 → ¬ losS (m (69 + 16 * d + 1)) (m 15) (m 16) (m 17) (m 18) c nb
def semD (d st : Nat) (m : gM) : Prop := posP m ∧ (st = 1 → netP d m ∧ losP d m)
def aidZ (d : Nat) (m : gM) : Prop := ∀ j, d < j → j < 10 → m (69 + 16 * j + 7) 8 = 0
def LInv (N : Nat) (x2 x3 x4 x5 x6 x7 x8 : Int32) (m : gM) : Prop := RelC m ∧ ∃ d st : Nat, d ≤ 9 ∧ st ≤ 1 ∧ m 0 8 = iI (d : Nat) ∧ m 0 9 = iI (st : Nat) ∧ m 4 8 = x3 ∧ m 13 8 = x4 ∧ (∃ nb : Nat, nb ≤ 3 ∧ x4 = iI (nb : Nat)) ∧ m 45 8 = x5 ∧ m 55 8 = x6 ∧ m (69 + 16 * d + 7) 8 = x7 ∧ (∀ k, k < 3 → m 3 k = x8) ∧ monN N x2 m ∧ semD d st m ∧ aidZ d m
theorem LInv_rel {N : Nat} {x2 x3 x4 x5 x6 x7 x8 : Int32} {m : gM} (h : LInv N x2 x3 x4 x5 x6 x7 x8 m) : ∃ (mm : gM) (d st : Nat) (l : Nat → Int) (n : Nat) (M : List Nat) (nb : Nat) (TO GR : Nat → Int) (na : Nat) (MA : List Nat) (no : Nat) (MO : List Nat), RelA d st l n M nb TO GR na MA no MO m mm ∧ m 0 8 = iI (d : Nat) ∧ m 0 9 = iI (st : Nat) ∧ d ≤ 9 ∧ st ≤ 1 ∧ x3 = iI (n : Nat) ∧ n ≤ 40 ∧ x4 = iI (nb : Nat) ∧ nb ≤ 3 ∧ x5 = iI (na : Nat) ∧ na ≤ 20 ∧ x6 = iI (no : Nat) ∧ no ≤ 60 ∧ m (69 + 16 * d + 7) 8 = x7 ∧ (∃ L : Nat, L ≤ 10 ∧ x8 = iI (L : Nat) ∧ ∀ k, k < 3 → l k = (L : Int)) ∧ monN N x2 m ∧ semD d st m ∧ m 4 8 = x3 ∧ m 13 8 = x4 ∧ m 45 8 = x5 ∧ m 55 8 = x6 ∧ (∀ k, k < 3 → m 3 k = x8) ∧ aidZ d m := by
  obtain ⟨⟨mm, d', st', l, n, M, nb, TO, GR, na, MA, no, MO, hA⟩, d, st, hd, hst, h8, h9, e3, e4, ⟨nb', hnb, e4'⟩, e5, e6, e7, e8, hm, hs, hz⟩ := h
  obtain ⟨a1, a2, a3, a4, a5, a6, a7, a8, a9, a10, a11, a12⟩ := id hA
  have q1 : d' = d := iI_injN (by rw [← a1.2.2.1, ← h8]) (by have := a1.1; omega) (by omega)
  have q2 : st' = st := iI_injN (by rw [← a1.2.2.2.2.1, ← h9]) (by have := a1.2.1; omega) (by omega)
  have q3 : nb' = nb := iI_injN (by rw [← e4', ← e4, a5.1.1]) (by omega) (by have := a5.1.2.1.1; omega)
  subst q1
  subst q2
  subst q3
  have l0 := a3.1 0 (by decide)
  have l1 := a3.1 1 (by decide)
  have l2 := a3.1 2 (by decide)
  have lk : ∀ k, k < 3 → l k = l 0 := by
    intro k hk
    have lk := a3.1 k hk
    have e := (lk.1.symm.trans (e8 k hk)).trans ((e8 0 (by decide)).symm.trans l0.1)
    have h2 : (iI (l k) = iI (l 0)) = (l k = l 0) := iI_eqP (by omega) (by omega) (by omega) (by omega)
    rw [h2] at e
    exact e
  refine ⟨mm, d', st', l, n, M, nb', TO, GR, na, MA, no, MO, hA, h8, h9, hd, hst, by rw [← e3, a4.1.2.1], a4.1.1, e4', hnb, by rw [← e5, a6.1.1], a6.1.2.1, by rw [← e6, a7.1], a7.2.2.1, e7, ⟨(l 0).toNat, by omega, by rw [← e8 0 (by decide), l0.1]; congr 1; omega, fun k hk => by rw [lk k hk]; omega⟩, hm, hs, e3, e4, e5, e6, e8, hz⟩
theorem acS_fr {m m2 : gM} (h5 : m2 65 3 = m 65 3) (h6 : m2 66 = m 66) : ∀ k, acS m2 k = acS m k
  | 0 => h5
  | k + 1 => by
    show acS m2 k + m2 66 k = acS m k + m 66 k
    rw [acS_fr h5 h6 k, h6]
theorem monN_fr {N : Nat} {x : Int32} {m m2 : gM} (h : monN N x m) (h5 : m2 65 3 = m 65 3) (h6 : m2 66 = m 66) (h7 : m2 67 = m 67) (h8 : m2 68 = m 68) : monN (N + 1) x m2 := by
  refine ⟨by rw [acS_fr h5 h6]; exact h.1, fun k hk => ?_⟩
  rw [h6, h7, h8]
  obtain ⟨h1, h2, h3⟩ := h.2 k hk
  refine ⟨?_, h2, by omega⟩
  rcases h1 with ⟨q0, q | q⟩ | q
  · exact Or.inl ⟨q0, Or.inl q⟩
  · exact Or.inl ⟨q0, Or.inr (by omega)⟩
  · exact Or.inr q
theorem posP_fr {m m2 : gM} (h : posP m) (h1 : ∀ j, j < 10 → m2 (69 + 16 * j + 1) = m (69 + 16 * j + 1)) : posP m2 := fun j hj i hi => by
  rw [h1 j hj]
  exact h j hj i hi
theorem semD_0 {d : Nat} {m : gM} (h : posP m) : semD d 0 m := ⟨h, fun e => absurd e (by decide)⟩
theorem semD_fr {d st : Nat} {m m2 : gM} (h : semD d st m) (h1 : ∀ j, j < 10 → m2 (69 + 16 * j + 1) = m (69 + 16 * j + 1)) (hd : d < 10) (h2 : m2 (69 + 16 * d + 2) = m (69 + 16 * d + 2)) (h3 : m2 (69 + 16 * d + 3) = m (69 + 16 * d + 3)) (h13 : m2 13 = m 13) (h15 : ∀ c, 15 ≤ c → c ≤ 18 → m2 c = m c) : semD d st m2 := by
  refine ⟨posP_fr h.1 h1, fun hs => ?_⟩
  obtain ⟨k1, k2⟩ := h.2 hs
  unfold netP losP
  rw [h2, h3, h13, h1 d hd, h15 15 (by decide) (by decide), h15 16 (by decide) (by decide), h15 17 (by decide) (by decide), h15 18 (by decide) (by decide)]
  exact ⟨k1, k2⟩
def TurnOK (N : Nat) (f : Option (Int32 × Int32 × Int32 × Int32 × Int32 × Int32 × Int32 × Int32 × gM)) : Prop := ∃ (y2 y3 y4 y5 y6 y7 y8 : Int32) (m2 : gM), f = some (y2, y3, y4, y5, y6, y7, y8, 1, m2) ∧ LInv (N + 1) y2 y3 y4 y5 y6 y7 y8 m2
theorem ex_account {m : gM} {k : Nat} (hk : k < 6) : f_X9_account (iI (k : Nat)) m = some (.inr (m 66 k)) := by
  unfold f_X9_account
  simp only [ci_ok (ct := 6) (n := 6) rfl hk (by omega), ldN hk (show (6 : Nat) ≤ 100000 by omega), ox_r, ob_sm]
theorem ex_hasFailed {m : gM} {k : Nat} (hk : k < 6) (h68 : m 68 k = 0 ∨ m 68 k = 1) : f_X9_hasFailed (iI (k : Nat)) m = some (.inr (m 68 k)) := by
  unfold f_X9_hasFailed
  simp only [ci_ok (ct := 6) (n := 6) rfl hk (by omega), ldN hk (show (6 : Nat) ≤ 100000 by omega), a_zcz h68, ox_r, ob_sm]
theorem ex_phase (m : gM) : f_X9_phase m = some (m 0 9) := rfl
theorem ex_day (m : gM) : f_X9_day m = some (m 0 8) := rfl
theorem money_ok {m : gM} {x : Int32} (h : acS m 6 = x) : f_L_money x m = some 1 := by
  have key : T (f_L_money_L7 m f_fuel (m 65 3) 0) (fun t => t.1 = acS m 6) := by
    refine T_run2 (f_L_money_L7 m) (fun k a b => a = acS m k ∧ b = iI (k : Nat)) _ 6 0 _ _ ⟨rfl, rfl⟩ (Nat.zero_le _) (by omega) ?_
    intro k a b f hI hk hcont
    obtain ⟨e1, e2⟩ := hI
    subst e1
    subst e2
    unfold f_L_money_L7
    rw [iL_6, iI_le (by omega) (by omega) (by omega) (by omega)]
    by_cases c : (6 : Int) ≤ k
    · rw [if_pos c]
      have e : k = 6 := by omega
      subst e
      exact T_some rfl
    · rw [if_neg c, ex_account (by omega), ot_r, ob_some]
      exact hcont (by omega) _ _ ⟨rfl, iI_succ k⟩
  obtain ⟨t, ft, et⟩ := key
  unfold f_L_money
  rw [show f_X9_house m = some (m 65 3) from rfl, ob_some, ft, ob_some]
  try simp only [ob_sm]
  rw [et, h, if_pos rfl, ob_some]
  rfl
theorem t_fin {N : Nat} {x2 x3 x4 x5 x6 x7 x8 : Int32} {m : gM} (h : LInv (N + 1) x2 x3 x4 x5 x6 x7 x8 m) : TurnOK N (f_L_law_B1341 x2 x3 x4 x5 x6 x7 x8 1 m) := by
  refine ⟨x2, x3, x4, x5, x6, x7, x8, m, ?_, h⟩
  obtain ⟨-, d, st, -, -, -, -, -, -, -, -, -, -, -, hm, -⟩ := h
  unfold f_L_law_B1341
  rw [i10, money_ok hm.1, ob_some, i10, ob_some]
theorem told_thr {F : Option (Nat ⊕ Int32)} {v x c : Int32} (hF : F = some (.inr v)) (hv : v = 1 ∨ x = c) : (if (-9 : Int32) = (-9) then (ot F fun r => if r = 0 then (if x = c then some (1 : Int32) else some 0) else some 1) else (if (-9 : Int32) = x then some 1 else some 0)) = some 1 := by
  rw [if_pos rfl, hF, ot_r]
  by_cases q : v = 0
  · rw [if_pos q]
    rcases hv with w | w
    · rw [w] at q; cases q
    · rw [if_pos w]
  · rw [if_neg q]
theorem told_ok {r x : Int32} {A : Option Int32} (hr : ¬ r = -9) (hx : r = x) : (if r = (-9) then A else (if r = x then some (1 : Int32) else some 0)) = some 1 := by
  rw [if_neg hr, if_pos hx]
theorem ne9 {n : Nat} (h : n ≤ 1000) : ¬ iI (n : Nat) = (-9 : Int32) := by
  rw [show (-9 : Int32) = iI (-9) from rfl, iI_eqP (by omega) (by omega) (by omega) (by omega)]
  omega
theorem i32_z (x : Int32) : x + 0 = x := Int32.add_zero x
