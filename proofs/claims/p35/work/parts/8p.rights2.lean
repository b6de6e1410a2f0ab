def lnF (a b : Nat) : Nat := if a + b = 1 then 0 else if a + b = 3 then 1 else 2
theorem tb_line : ∀ a, a < 3 → ∀ b, b < 3 → a ≠ b → f_X9_lineBetween (iI (a : Nat)) (iI (b : Nat)) = some (iI (lnF a b : Nat)) ∧ (if (iI (a : Nat) + iI (b : Nat)) = 1 then (some 0 : Option Int32) else if (iI (a : Nat) + iI (b : Nat)) = 3 then some 1 else some 2) = some (iI (lnF a b : Nat)) ∧ lnF a b < 3 := by decide +kernel
def dsF (pr : Nat → Int32) (a b : Nat) : Nat → Int32
  | 0 => 0
  | k + 1 => dsF pr a b k + a_max 0 (pr (4 * b + k) - pr (4 * a + k))
theorem amax0 (x : Int32) : a_max 0 x = if x ≤ 0 then 0 else x := by
  unfold a_max
  by_cases c : x ≤ 0
  · rw [if_pos c, if_neg (fun h => i32_not_le.2 h c)]
  · rw [if_neg c, if_pos (i32_not_le.1 c)]
theorem i32_ssc (a b : Int32) : a - (a - b) = b := by
  obtain ⟨x, ex, _⟩ := iI_ex a
  obtain ⟨y, ey, _⟩ := iI_ex b
  subst ex
  subst ey
  rw [iI_sub, iI_sub]
  congr 1
  omega
theorem sp_diff {d a b : Nat} {m : gM} {pr : Nat → Int32} (ha : a < 3) (hb : b < 3) (hP : ∀ i, i < 12 → m (69 + 16 * d + 1) i = pr i) : f_X5_differenceOf (69 + 16 * d) (iI (a : Nat)) (iI (b : Nat)) m = some (dsF pr a b 4) := by
  unfold f_X5_differenceOf
  refine T_eq (T_ob (P := fun t => t.1 = dsF pr a b 4) ?_ (fun t ht => T_some ht))
  refine T_run2 (f_X5_differenceOf_L5 (69 + 16 * d) m (iI (a : Nat)) (iI (b : Nat))) (fun k x y => x = dsF pr a b k ∧ y = iI (k : Nat)) _ 4 0 _ _ ⟨rfl, rfl⟩ (Nat.zero_le _) (by omega) ?_
  intro k x y f hI hk hcont
  obtain ⟨e1, e2⟩ := hI
  subst e2
  unfold f_X5_differenceOf_L5
  have h4 : (4 ≤ iI (k : Nat)) = ((4 : Int) ≤ (k : Nat)) := by rw [iL_4, iI_leP (by omega) (by omega) (by omega) (by omega)]
  by_cases c : (4 : Int) ≤ k
  · rw [if_pos (by rw [h4]; exact c)]
    have e : k = 4 := by omega
    subst e
    exact T_some e1
  · rw [if_neg (by rw [h4]; exact c), sp_spot, ob_some, a_ldI (by omega) (by omega) (by omega), ob_some, sp_spot, ob_some, a_ldI (by omega) (by omega) (by omega), ob_some, ob_some, show (((b : Nat) : Int) * 4 + (k : Nat)).toNat = 4 * b + k by omega, show (((a : Nat) : Int) * 4 + (k : Nat)).toNat = 4 * a + k by omega, hP _ (by omega), hP _ (by omega)]
    exact hcont (by omega) _ _ ⟨by rw [e1]; rfl, iI_succ k⟩
theorem sp_diffM {d a b : Nat} {mm : gM} (hd : d < 10) (h00 : mm 0 0 = iI (d : Nat)) (ha : a < 3) (hb : b < 3) : T (f_X10_givesRights_L41 mm (iI (a : Nat)) (iI (b : Nat)) f_fuel 0 0) (fun t => t.1 = dsF (fun i => mm 41 (12 * d + i)) a b 4) := by
  refine T_run2 (f_X10_givesRights_L41 mm (iI (a : Nat)) (iI (b : Nat))) (fun k x y => x = dsF (fun i => mm 41 (12 * d + i)) a b k ∧ y = iI (k : Nat)) _ 4 0 _ _ ⟨rfl, rfl⟩ (Nat.zero_le _) (by omega) ?_
  intro k x y f hI hk hcont
  obtain ⟨e1, e2⟩ := hI
  subst e2
  unfold f_X10_givesRights_L41
  have h4 : (4 ≤ iI (k : Nat)) = ((4 : Int) ≤ (k : Nat)) := by rw [iL_4, iI_leP (by omega) (by omega) (by omega) (by omega)]
  have hl : ∀ z : Nat, z < 3 → k < 4 → a_ld 120 41 (12 * mm 0 0 + 4 * iI (z : Nat) + iI (k : Nat)) mm = some (mm 41 (12 * d + (4 * z + k))) := by
    intro z hz hk4
    rw [h00, iL_12, iL_4, iI_mul, iI_mul, iI_add, iI_add, a_ldI (by omega) (by omega) (by omega), show ((12 : Int) * (d : Nat) + 4 * (z : Nat) + (k : Nat)).toNat = 12 * d + (4 * z + k) by omega]
  by_cases c : (4 : Int) ≤ k
  · rw [if_pos (by rw [h4]; exact c)]
    have e : k = 4 := by omega
    subst e
    exact T_some e1
  · rw [if_neg (by rw [h4]; exact c), hl b hb (by omega), ob_some, hl a ha (by omega), ob_some, ob_some]
    have ez : ∀ {α : Type} (x12 : Int32) (G : Int32 → Option α), ob (if x12 ≤ 0 then some 0 else some x12) G = G (a_max 0 x12) := by
      intro α x12 G
      rw [amax0]
      by_cases u : x12 ≤ 0
      · rw [if_pos u, if_pos u, ob_some]
      · rw [if_neg u, if_neg u, ob_some]
    rw [ez, ob_some]
    exact hcont (by omega) _ _ ⟨by rw [e1]; rfl, iI_succ k⟩
def csE (d : Nat) (mc mm : gM) : Prop := ∀ i, i < 6 → mc (69 + 16 * d + 5) i = mm 45 (6 * d + i)
def liE (mc mm : gM) : Prop := ∀ k, k < 3 → mc 3 k = mm 1 k ∧ rg (mc 3 k) 0 10
theorem sim_right {d na a b : Nat} {MA : List Nat} {mc mm : gM} (hd : d < 10) (h00 : mm 0 0 = iI (d : Nat)) (ha : a < 3) (hb : b < 3) (hab : a ≠ b) (hA : akC mc na MA) (hM : akM mc mm na) (hl : liE mc mm) (hP : prE d mc mm) (hE : csE d mc mm) (hr : ∀ k, k ∈ La mc MA (iI (a : Nat)) (iI (b : Nat)) → mc 52 k = mc 51 k) : T2 (ob (f_X9_lineBetween (iI (a : Nat)) (iI (b : Nat))) fun r13 => ob (a_ld 3 3 r13 mc) fun v14 => ob (f_X1_giveOut (iI (a : Nat)) (iI (b : Nat)) v14 (69 + 16 * d) mc) fun m15 => some m15) (ob (f_X10_givesRights (iI (a : Nat)) (iI (b : Nat)) mm) fun m115 => some m115) (fun m3 m4 => csE d m3 m4 ∧ (∀ k, k ∈ La mc MA (iI (a : Nat)) (iI (b : Nat)) → mc 51 k - m3 52 k = m4 26 k) ∧ (∀ k, k ∉ La mc MA (iI (a : Nat)) (iI (b : Nat)) → m3 52 k = mc 52 k ∧ m4 26 k = mm 26 k) ∧ (∀ c, c ≠ 52 → c ≠ 69 + 16 * d + 5 → m3 c = mc c) ∧ (∀ c, c ≠ 26 → c ≠ 45 → m4 c = mm c) ∧ ∀ i, (i < 6 * d ∨ 6 * d + 6 ≤ i) → m4 45 i = mm 45 i) := by
  obtain ⟨g1, g2, g3⟩ := tb_line a ha b hb hab
  obtain ⟨lim, elim, hlim⟩ := rgN (hl _ g3).2
  have hmem : ∀ k, k ∈ La mc MA (iI (a : Nat)) (iI (b : Nat)) ↔ k < na ∧ mc 47 k = iI (a : Nat) ∧ mc 54 k = iI (b : Nat) := fun k => La_mem hA
  obtain ⟨t1, p1, p2, p3, r52, p4, p5⟩ := sp_giveL (m := mc) hA (a := iI (a : Nat)) (b := iI (b : Nat)) (lim := lim) (by omega) hr
  obtain ⟨t2, q1, q2, q3, r26, q4, q5⟩ := sp_giveLM (m := mc) (mm := mm) hA hM (a := iI (a : Nat)) (b := iI (b : Nat)) (lim := lim) (by omega)
  obtain ⟨s1, w1, w2⟩ := sp_diffM hd h00 ha hb
  have hgb : ∀ k, (rs (aP mc) (aU mc) lim 0 (La mc MA (iI (a : Nat)) (iI (b : Nat)))).2.2.2 k ≤ aU mc k := fun k => rs_gb _ k
  have hW : (rs (aP mc) (aU mc) lim 0 (La mc MA (iI (a : Nat)) (iI (b : Nat)))).2.2.1 ≤ 200 := by
    have hlen : (La mc MA (iI (a : Nat)) (iI (b : Nat))).length ≤ 20 := by
      have h2 : (La mc MA (iI (a : Nat)) (iI (b : Nat))).length ≤ MA.length := List.length_filter_le _ _
      rw [hA.2.2.1.1] at h2
      have := hA.2.1
      omega
    have h3 := rs_wb (P := aP mc) (U := aU mc) (q0 := lim) (p0 := 0) (B := 10) (La mc MA (iI (a : Nat)) (iI (b : Nat))) (fun k hk => (aU_of (hA.2.2.2 k ((hmem k).1 hk).1).2.2.2.2.2.1).2.2)
    omega
  generalize hLL : La mc MA (iI (a : Nat)) (iI (b : Nat)) = L at *
  generalize hS : rs (aP mc) (aU mc) lim 0 L = S at *
  obtain ⟨y6, y7, y8, y9, m10⟩ := t1
  obtain ⟨z21, z22, z23, z24, m25⟩ := t2
  obtain ⟨d7, d8⟩ := s1
  have p2 : y7 = S.2.1 := p2
  have p3 : y8 = (if S.2.2.1 = 0 then 1 else 0) := p3
  have p4 : m10 = g_up mc 52 r52 := p4
  have q2 : z22 = iI (S.2.2.1 : Nat) := q2
  have q3 : z23 = S.2.1 := q3
  have q4 : m25 = g_up mm 26 r26 := q4
  have w2 : d7 = dsF (fun i => mm 41 (12 * d + i)) a b 4 := w2
  have f10 : ∀ c, c ≠ 52 → m10 c = mc c := fun c hc => by rw [p4, g_up_ne _ _ hc]
  have f25 : ∀ c, c ≠ 26 → m25 c = mm c := fun c hc => by rw [q4, g_up_ne _ _ hc]
  have e52 : m10 52 = r52 := by rw [p4, g_up_at]
  have e26 : m25 26 = r26 := by rw [q4, g_up_at]
  have l1 : a_ld 3 3 (iI (lnF a b : Nat)) mc = some (iI (lim : Nat)) := by
    rw [a_ldI (by omega) (by omega) (by omega), Int.toNat_natCast, elim]
  have l2 : a_ld 3 1 (iI (lnF a b : Nat)) mm = some (iI (lim : Nat)) := by
    rw [a_ldI (by omega) (by omega) (by omega), Int.toNat_natCast, ← (hl _ g3).1, elim]
  have hdf : f_X5_differenceOf (69 + 16 * d) (iI (a : Nat)) (iI (b : Nat)) m10 = some d7 := by
    rw [w2]
    exact sp_diff ha hb (fun i hi => by rw [f10 _ (by omega)]; exact hP i hi)
  unfold f_X1_giveOut f_X10_givesRights
  simp only [g1, ob_sm, l1, p1, g2, l2, w1, q1, hdf]
  have e34 : ∀ {α : Type} (G : Int32 → Option α), ob (if y8 = 0 then some y7 else some 0) G = G (if S.2.2.1 = 0 then 0 else S.2.1) := by
    intro α G
    rw [p3, p2]
    by_cases u : S.2.2.1 = 0
    · rw [if_pos u, if_neg (by decide), ob_some, if_pos u]
    · rw [if_neg u, if_pos rfl, ob_some, if_neg u]
  rw [e34]
  have key : T2 (f_X1_giveOut_L163 (69 + 16 * d) (iI (a : Nat)) (iI (b : Nat)) (d7 - (if S.2.2.1 = 0 then 0 else S.2.1)) f_fuel 0 m10) (f_X10_givesRights_L259 (iI (a : Nat)) (iI (b : Nat)) z22 z23 d7 f_fuel 0 m25) (fun t t2 => csE d t.2 t2.2 ∧ (∀ c, c ≠ 69 + 16 * d + 5 → t.2 c = m10 c) ∧ (∀ c, c ≠ 45 → t2.2 c = m25 c) ∧ ∀ i, (i < 6 * d ∨ 6 * d + 6 ≤ i) → t2.2 45 i = mm 45 i) := by
    refine T2_cnt (f_X1_giveOut_L163 (69 + 16 * d) (iI (a : Nat)) (iI (b : Nat)) (d7 - (if S.2.2.1 = 0 then 0 else S.2.1))) (f_X10_givesRights_L259 (iI (a : Nat)) (iI (b : Nat)) z22 z23 d7) (fun k m1 m2 => csE d m1 m2 ∧ (∀ c, c ≠ 69 + 16 * d + 5 → m1 c = m10 c) ∧ (∀ c, c ≠ 45 → m2 c = m25 c) ∧ ∀ i, (i < 6 * d ∨ 6 * d + 6 ≤ i) → m2 45 i = mm 45 i) _ na (by have := hA.2.1; omega) ⟨fun i hi => by rw [f10 _ (by omega), f25 _ (by decide)]; exact hE i hi, fun c _ => rfl, fun c _ => rfl, fun i _ => by rw [f25 _ (by decide)]⟩ ?_
    intro k m1 m2 f hI hkn hcont
    obtain ⟨i1, i2, i3, i4⟩ := hI
    have hna := hA.2.1
    unfold f_X1_giveOut_L163 f_X10_givesRights_L259
    rw [i2 45 (by omega), f10 45 (by decide), hA.1, i3 0 (by decide), f25 0 (by decide), hM.1, iI_le (by omega) (by omega) (by omega) (by omega), iI_le (by omega) (by omega) (by omega) (by omega)]
    by_cases c : (na : Int) ≤ k
    · rw [if_pos c, if_pos c]
      exact ⟨_, _, rfl, rfl, i1, i2, i3, i4⟩
    · have hk := hA.2.2.2 k (by omega)
      obtain ⟨v, ev, lv⟩ := rgN hk.1
      have n22 : a_ld 20 22 (iI (k : Nat)) m2 = some (mc 47 k) := by
        rw [a_ldI (by omega) (by omega) (by omega), Int.toNat_natCast, i3 22 (by decide), f25 22 (by decide), hM.2.2.1]
      have n23 : a_ld 20 23 (iI (k : Nat)) m2 = some (mc 54 k) := by
        rw [a_ldI (by omega) (by omega) (by omega), Int.toNat_natCast, i3 23 (by decide), f25 23 (by decide), hM.2.2.2.1]
      have hisb : isB m1 (iI (a : Nat)) (iI (b : Nat)) k = isB mc (iI (a : Nat)) (iI (b : Nat)) k := by
        unfold isB
        rw [i2 47 (by omega), i2 54 (by omega), f10 47 (by decide), f10 54 (by decide)]
      rw [if_neg c, if_neg c, sp_between (by omega), ob_some, hisb, n22, ob_some]
      by_cases hb9 : isB mc (iI (a : Nat)) (iI (b : Nat)) k = true
      · have hab9 := of_decide_eq_true hb9
        have hkL : k ∈ L := (hmem k).2 ⟨by omega, hab9⟩
        have n21 : a_ld 20 21 (iI (k : Nat)) m2 = some (iI (v : Nat)) := by
          rw [a_ldI (by omega) (by omega) (by omega), Int.toNat_natCast, i3 21 (by decide), f25 21 (by decide), hM.2.1, ev]
        have n26 : a_ld 20 26 (iI (k : Nat)) m2 = some (iI (S.2.2.2 k : Nat)) := by
          rw [a_ldI (by omega) (by omega) (by omega), Int.toNat_natCast, i3 26 (by decide), e26, q5 k, if_pos hkL]
        have n45 : a_ld 60 45 (6 * iI (d : Nat) + iI (v : Nat)) m2 = some (m2 45 (6 * d + v)) := by
          rw [iL_6, iI_mul, iI_add, a_ldI (by omega) (by omega) (by omega), show ((6 : Int) * (d : Nat) + (v : Nat)).toNat = 6 * d + v by omega]
        have s45 : ∀ x, a_st 60 45 (6 * iI (d : Nat) + iI (v : Nat)) x m2 = some (g_up m2 45 (upd (m2 45) (6 * d + v) x)) := by
          intro x
          rw [iL_6, iI_mul, iI_add, a_stI (by omega) (by omega) (by omega), show ((6 : Int) * (d : Nat) + (v : Nat)).toNat = 6 * d + v by omega]
        have l46 : a_ld 20 46 (iI (k : Nat)) m1 = some (iI (v : Nat)) := by
          rw [a_ldI (by omega) (by omega) (by omega), Int.toNat_natCast, i2 46 (by omega), f10 46 (by decide), ev]
        have hus : f_X8_used 45 (iI (k : Nat)) m1 = some (iI (S.2.2.2 k : Nat)) := by
          rw [sp_used (by rw [oln45]; omega) (by rw [oln45]; omega), show (45 + 6 : Nat) = 51 from rfl, show (45 + 7 : Nat) = 52 from rfl, i2 51 (by omega), f10 51 (by decide), i2 52 (by omega), e52, p5 k, if_pos hkL]
          rw [i32_ssc]
        rw [if_pos hb9, if_neg (by decide), l46, ob_some, a_ldI (by omega) (by omega) (by omega), ob_some, hus, ob_some, a_stI (by omega) (by omega) (by omega), ob_some, ob_some, if_pos hab9.1, n23, ob_some, if_pos hab9.2, n21, ob_some]
        have h0 : m2 0 0 = iI (d : Nat) := by rw [i3 0 (by decide), f25 0 (by decide)]; exact h00
        have h0b : mm 0 0 = iI (d : Nat) := h00
        rw [h0b, n45, ob_some, n26, ob_some]
        have e77 : ∀ {α : Type} (G : Int32 → Option α), ob (if z22 ≤ 0 then some 0 else some z23) G = G (if S.2.2.1 = 0 then 0 else S.2.1) := by
          intro α G
          rw [q2, q3]
          by_cases u : S.2.2.1 = 0
          · rw [if_pos (by rw [le0 (by omega) (by omega)]; omega), ob_some, if_pos u]
          · rw [if_neg (by rw [le0 (by omega) (by omega)]; omega), ob_some, if_neg u]
        rw [e77, s45, ob_some, ob_some, iI_succ, Int.toNat_natCast]
        refine hcont (by omega) _ _ ⟨?_, ?_, ?_, ?_⟩
        · intro i hi
          rw [g_up_at, g_up_at, updA, updA]
          by_cases u : i = v
          · rw [if_pos u, if_pos (show 6 * d + i = 6 * d + v by omega), i1 v (by omega), Int32.mul_comm]
          · rw [if_neg u, if_neg (show ¬ 6 * d + i = 6 * d + v by omega), i1 i hi]
        · intro c hc
          rw [g_up_ne _ _ hc]
          exact i2 c hc
        · intro c hc
          rw [g_up_ne _ _ hc]
          exact i3 c hc
        · intro i hi
          rw [g_up_at, updA, if_neg (by omega)]
          exact i4 i hi
      · have hab9 : ¬ (mc 47 k = iI (a : Nat) ∧ mc 54 k = iI (b : Nat)) := fun h => hb9 (decide_eq_true h)
        have hgo : T2 (f_X1_giveOut_L163 (69 + 16 * d) (iI (a : Nat)) (iI (b : Nat)) (d7 - (if S.2.2.1 = 0 then 0 else S.2.1)) f (iI (k : Nat) + 1) m1) (ob (some m2) fun m70 => f_X10_givesRights_L259 (iI (a : Nat)) (iI (b : Nat)) z22 z23 d7 f (iI (k : Nat) + 1) m70) (fun t t2 => csE d t.2 t2.2 ∧ (∀ c, c ≠ 69 + 16 * d + 5 → t.2 c = m10 c) ∧ (∀ c, c ≠ 45 → t2.2 c = m25 c) ∧ ∀ i, (i < 6 * d ∨ 6 * d + 6 ≤ i) → t2.2 45 i = mm 45 i) := by
          rw [ob_some, iI_succ]
          exact hcont (by omega) m1 m2 ⟨i1, i2, i3, i4⟩
        rw [if_neg hb9, if_pos rfl, ob_some]
        by_cases u1 : mc 47 k = iI (a : Nat)
        · rw [if_pos u1, n23, ob_some, if_neg (fun u2 => hab9 ⟨u1, u2⟩)]
          exact hgo
        · rw [if_neg u1]
          exact hgo
  obtain ⟨u1, u2, x1, x2, x3, x4, x5, x6⟩ := key
  rw [x1, x2]
  simp only [ob_sm]
  refine ⟨_, _, rfl, rfl, x3, ?_, ?_, ?_, ?_, x6⟩
  · intro k hk
    rw [x4 52 (by omega), e52, p5 k, if_pos hk, x5 26 (by decide), e26, q5 k, if_pos hk]
    rw [i32_ssc]
  · intro k hk
    rw [x4 52 (by omega), e52, p5 k, if_neg hk, x5 26 (by decide), e26, q5 k, if_neg hk]
    exact ⟨rfl, rfl⟩
  · intro c c1 c2
    rw [x4 c c2, f10 c c1]
  · intro c c1 c2
    rw [x5 c c2, f25 c c1]
