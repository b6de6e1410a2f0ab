theorem bH_of {d j : Nat} {mc mm : gM} (hj : j < 10) (h : rDy d j mc mm) (ha : rAid mc mm) : ∃ na MD, bH j na MD mc mm := by
  obtain ⟨na, MD, hR⟩ := ha j hj
  exact ⟨na, MD, hj, hR, h.1, h.2.2.1, h.2.2.2.2.2.2⟩
theorem op_gapPrice : l_op_26 RelG := by
  intro mc mm p1 p2 hR
  show opOK (f_Q_gapPrice p1 p2 mc) (f_X10_gapPrice p1 p2 mm)
  obtain ⟨d, st, l, n, M, nb, TO, GR, na, MA, no, MO, hA⟩ := id hR
  obtain ⟨a1, a2, a3, a4, a5, a6, a7, a8, a9, a10, a11, a12⟩ := id hA
  obtain ⟨hd9, hst1, hd1, hd2, hs1, hs2⟩ := id a1
  rcases chk_closed p1 hd1 hd2 (by omega) with ⟨v0, l0, e0, x0, y0⟩ | ⟨x0, y0⟩
  rotate_left
  · have hX : f_X9_gapPrice p1 p2 mc = some (.inl 1) := by
      unfold f_X9_gapPrice
      simp only [x0, ox_r, ox_l]
    refine fin_thr (z := 1) hR (by decide) (by unfold f_Q_gapPrice; rw [hX]; rfl) ⟨0, ?_⟩
    unfold f_X10_gapPrice
    have h1 := thM_0 mm 1
    unfold thM at h1
    simp only [y0, ob_sm, i00, i10, if_true, h1]
    rfl
  rcases chk_hour p2 with ⟨v1, l1, e1, x1, y1⟩ | ⟨x1, y1⟩
  rotate_left
  · have hX : f_X9_gapPrice p1 p2 mc = some (.inl 1) := by
      unfold f_X9_gapPrice
      simp only [x0, x1, ox_r, ox_l]
    refine fin_thr (z := 1) hR (by decide) (by unfold f_Q_gapPrice; rw [hX]; rfl) ⟨0, ?_⟩
    unfold f_X10_gapPrice
    have h1 := thM_0 mm 1
    unfold thM at h1
    simp only [y0, y1, ob_sm, i00, i10, if_true, h1]
    rfl
  subst e0
  subst e1
  have hv : v0 < 10 := by omega
  obtain ⟨ka, MD, hB⟩ := bH_of hv (a9 v0 hv) a11
  have hB3 : bH v0 ka MD mc (thM mm 0) := bH_fr hB (fun c _ _ _ _ => rfl) (fun c _ _ _ => thM_c _ _ (by omega))
  obtain ⟨v, row, ug, s1, s2, _, _, _⟩ := sim_price hB3 l1 (gap := gA (fun i => gpM (thM mm 0) (72 * v0 + i)) v1 6) rfl
  have hgc := sp_gapC (o := 69 + 16 * v0) (m := mc) (g := fun i => gpM (thM mm 0) (72 * v0 + i)) hB3.2.2.2.1 l1
  generalize hgap : gA (fun i => gpM (thM mm 0) (72 * v0 + i)) v1 6 = gap at *
  have hX : f_X9_gapPrice (iI (v0 : Nat)) (iI (v1 : Nat)) mc = some (.inr (if gap = 0 then -1 else v)) := by
    unfold f_X9_gapPrice
    simp only [x0, x1, ox_r, ox_l]
    rw [a_rfI (by omega) (by omega) (by omega), ob_some, Int.toNat_natCast, hgc, ob_some]
    by_cases q : gap = 0
    · rw [if_pos q, if_pos q, ob_some]
    · rw [if_neg q, if_neg q, s2 q, ob_some, ob_some]
  refine fin_ret (r := if gap = 0 then -1 else v) (mc2 := mc) (mm2 := g_up (thM mm 0) 40 row) (RelG_fr hR (fun c _ => rfl) (fun c h0 h40 => by rw [g_up_ne _ _ h40, thM_c _ _ h0]) (fun k hk => by rw [g_up_ne _ _ (by decide), thM_k _ _ hk])) (by unfold f_Q_gapPrice; rw [hX, os_r2, ob_some, a_lst0, ob_some]) ?_ (by rw [g_up_ne _ _ (by decide), thM_0])
  have h1 := thM_0 mm 0
  have e : g_up mm 0 (upd (mm 0) 67 0) = thM mm 0 := rfl
  unfold f_X10_gapPrice
  simp only [y0, y1, ob_sm, i10, e, h1, i00, if_true]
  rw [s1]
  simp only [ob_sm]
theorem op_bill : l_op_27 RelG := by
  intro mc mm p1 p2 hR
  show opOK (f_Q_bill p1 p2 mc) (f_X10_bill p1 p2 mm)
  obtain ⟨d, st, l, n, M, nb, TO, GR, na, MA, no, MO, hA⟩ := id hR
  obtain ⟨a1, a2, a3, a4, a5, a6, a7, a8, a9, a10, a11, a12⟩ := id hA
  obtain ⟨hd9, hst1, hd1, hd2, hs1, hs2⟩ := id a1
  rcases chk_closed p1 hd1 hd2 (by omega) with ⟨v0, l0, e0, x0, y0⟩ | ⟨x0, y0⟩
  rotate_left
  · have hX : f_X9_bill p1 p2 mc = some (.inl 1) := by
      unfold f_X9_bill
      simp only [x0, ox_r, ox_l]
    refine fin_thr (z := 1) hR (by decide) (by unfold f_Q_bill; rw [hX]; rfl) ⟨0, ?_⟩
    unfold f_X10_bill
    rw [isBill_a y0]
    rfl
  rcases chk_firm p2 with ⟨v1, l1, e1, x1, y1⟩ | ⟨x1, y1⟩
  rotate_left
  · have hX : f_X9_bill p1 p2 mc = some (.inl 1) := by
      unfold f_X9_bill
      simp only [x0, x1, ox_r, ox_l]
    refine fin_thr (z := 1) hR (by decide) (by unfold f_Q_bill; rw [hX]; rfl) ⟨0, ?_⟩
    unfold f_X10_bill
    rw [isBill_b y0 y1]
    rfl
  subst e0
  subst e1
  have hv : v0 < 10 := by omega
  obtain ⟨ka, MD, hB⟩ := bH_of hv (a9 v0 hv) a11
  have hB3 : bH v0 ka MD mc (thM mm 0) := bH_fr hB (fun c _ _ _ _ => rfl) (fun c _ _ _ => thM_c _ _ (by omega))
  obtain ⟨v, row, s1, s2⟩ := sim_bill (f := v1) hB3 (fun i hi => by rw [thM_c _ _ (by decide)]; exact (a9 v0 hv).2.1.2 i hi) l1
  have hX : f_X9_bill (iI (v0 : Nat)) (iI (v1 : Nat)) mc = some (.inr v) := by
    unfold f_X9_bill
    simp only [x0, x1, ox_r, ox_l]
    rw [a_rfI (by omega) (by omega) (by omega), ob_some, Int.toNat_natCast, s1, ob_some]
  refine fin_ret (r := v) (mc2 := mc) (mm2 := g_up (thM mm 0) 40 row) (RelG_fr hR (fun c _ => rfl) (fun c h0 h40 => by rw [g_up_ne _ _ h40, thM_c _ _ h0]) (fun k hk => by rw [g_up_ne _ _ (by decide), thM_k _ _ hk])) (by unfold f_Q_bill; rw [hX, os_r2, ob_some, a_lst0, ob_some]) ?_ (by rw [g_up_ne _ _ (by decide), thM_0])
  unfold f_X10_bill
  rw [isBill_1 y0 y1, ob_some, ob_some, ob_some]
  dsimp only
  rw [if_neg (by decide), s2]
  simp only [ob_sm]
theorem ld_eq {n c1 c2 : Nat} {x : Int32} {m1 m2 : gM} (h : m2 c2 = m1 c1) : a_ld n c2 x m2 = a_ld n c1 x m1 := by
  unfold a_ld
  rw [h]
def accE (mc mm : gM) : Prop := mm 2 = mc 66 ∧ mm 3 = mc 67 ∧ mm 4 = mc 68 ∧ (∀ k, k < 6 → mc 68 k = 0 ∨ mc 68 k = 1)
theorem sim_next {mc mm : gM} (h : accE mc mm) : ∃ r, f_X0_nextToFail mc = some r ∧ f_X10_lowestBelow mm = some r ∧ (r = -1 ∧ (∀ k, k < 6 → mc 68 k = 0 → ¬ mc 66 k < 0) ∨ ∃ k : Nat, k < 6 ∧ r = iI (k : Nat) ∧ mc 68 k = 0 ∧ mc 66 k < 0) := by
  obtain ⟨h2, h3, h4, hz⟩ := h
  have hl : ∀ (n k : Nat), k ≤ 6 → 6 < k + n → (∀ i, i < k → mc 68 i = 0 → ¬ mc 66 i < 0) → ∃ v, f_X0_nextToFail_L2 mc n (iI (k : Nat)) = some v ∧ f_X10_lowestBelow_L2 mm n (iI (k : Nat)) = some v ∧ ((∃ x, v = .inl x ∧ ∀ i, i < 6 → mc 68 i = 0 → ¬ mc 66 i < 0) ∨ ∃ k : Nat, k < 6 ∧ v = .inr (iI (k : Nat)) ∧ mc 68 k = 0 ∧ mc 66 k < 0) := by
    intro n
    induction n with
    | zero => intro k a b; exact absurd b (by omega)
    | succ n ih =>
      intro k a b hp
      unfold f_X0_nextToFail_L2 f_X10_lowestBelow_L2
      have h6 : (6 ≤ iI (k : Nat)) = ((6 : Int) ≤ (k : Nat)) := by rw [iL_6, iI_leP (by omega) (by omega) (by omega) (by omega)]
      by_cases c : (6 : Int) ≤ k
      · rw [if_pos (by rw [h6]; exact c), if_pos (by rw [h6]; exact c)]
        exact ⟨_, rfl, rfl, Or.inl ⟨_, rfl, fun i hi => hp i (by omega)⟩⟩
      · rw [if_neg (by rw [h6]; exact c), if_neg (by rw [h6]; exact c), ld_eq h4, ld_eq h2, a_ldI (by omega) (by omega) (by omega), a_ldI (by omega) (by omega) (by omega), Int.toNat_natCast]
        simp only [ob_sm]
        by_cases q : mc 68 k = 0
        · rw [if_pos q, if_pos q]
          by_cases q2 : 0 ≤ mc 66 k
          · rw [if_pos q2, if_pos q2, iI_succ]
            refine ih (k + 1) (by omega) (by omega) (fun i hi hi0 => ?_)
            by_cases w : i = k
            · rw [w]; exact fun u => i32_not_le.2 u q2
            · exact hp i (by omega) hi0
          · rw [if_neg q2, if_neg q2]
            exact ⟨_, rfl, rfl, Or.inr ⟨k, by omega, rfl, q, i32_not_le.1 q2⟩⟩
        · rw [if_neg q, if_neg q, iI_succ]
          refine ih (k + 1) (by omega) (by omega) (fun i hi hi0 => ?_)
          by_cases w : i = k
          · rw [w] at hi0; exact absurd hi0 q
          · exact hp i (by omega) hi0
  obtain ⟨v, f1, f2, f3⟩ := hl f_fuel 0 (by omega) (by show 6 < 0 + 100000; omega) (fun i hi => absurd hi (by omega))
  have f1 : f_X0_nextToFail_L2 mc f_fuel 0 = some v := f1
  have f2 : f_X10_lowestBelow_L2 mm f_fuel 0 = some v := f2
  unfold f_X0_nextToFail f_X10_lowestBelow oz
  rw [f1, f2]
  rcases f3 with ⟨x, e, hx⟩ | ⟨k, hk, e, g1, g2⟩
  · subst e
    exact ⟨-1, rfl, rfl, Or.inl ⟨rfl, hx⟩⟩
  · subst e
    exact ⟨iI (k : Nat), rfl, rfl, Or.inr ⟨k, hk, rfl, g1, g2⟩⟩
theorem sim_fail {mc mm : gM} {p : Nat} (h : accE mc mm) (h6 : mm 0 6 = mc 65 3) (hp : p < 6) : ∃ mc2 mm2, f_X0_fail (iI (p : Nat)) mc = some mc2 ∧ f_X10_fails (iI (p : Nat)) mm = some mm2 ∧ mm2 2 = mc2 66 ∧ mc2 68 = upd (mc 68) p 1 ∧ mm2 4 = upd (mm 4) p 1 ∧ mm2 0 6 = mc2 65 3 ∧ (∀ c, c ≠ 65 → c ≠ 66 → c ≠ 68 → mc2 c = mc c) ∧ (∀ k, k ≠ 3 → mc2 65 k = mc 65 k) ∧ (∀ c, c ≠ 0 → c ≠ 2 → c ≠ 4 → mm2 c = mm c) ∧ ∀ k, k ≠ 6 → mm2 0 k = mm 0 k := by
  obtain ⟨h2, h3, h4, hz⟩ := h
  obtain ⟨m4, e4⟩ : ∃ m, m = g_up (g_up mc 66 (upd (mc 66) p 0)) 68 (upd (mc 68) p 1) := ⟨_, rfl⟩
  obtain ⟨n4, f4⟩ : ∃ m, m = g_up (g_up mm 4 (upd (mm 4) p 1)) 2 (upd (mm 2) p 0) := ⟨_, rfl⟩
  have c68 : m4 68 = upd (mc 68) p 1 := by rw [e4, g_up_at]
  have c66 : m4 66 = upd (mc 66) p 0 := by rw [e4, g_up_ne _ _ (by decide), g_up_at]
  have cc : ∀ c, c ≠ 66 → c ≠ 68 → m4 c = mc c := fun c x y => by rw [e4, g_up_ne _ _ y, g_up_ne _ _ x]
  have d4 : n4 4 = upd (mm 4) p 1 := by rw [f4, g_up_ne _ _ (by decide), g_up_at]
  have d2 : n4 2 = upd (mm 2) p 0 := by rw [f4, g_up_at]
  have dd : ∀ c, c ≠ 2 → c ≠ 4 → n4 c = mm c := fun c x y => by rw [f4, g_up_ne _ _ x, g_up_ne _ _ y]
  have q2 : n4 2 = m4 66 := by rw [d2, c66, h2]
  have q4 : n4 4 = m4 68 := by rw [d4, c68, h4]
  have q3 : n4 3 = m4 67 := by rw [dd 3 (by decide) (by decide), cc 67 (by decide) (by decide), h3]
  have hl : ∀ (n k : Nat) (x : Int64), k ≤ 6 → 6 < k + n → ∃ y, f_X0_fail_L27 m4 n x (iI (k : Nat)) = some y ∧ f_X10_fails_L29 n4 n x (iI (k : Nat)) = some y := by
    intro n
    induction n with
    | zero => intro k x a b; exact absurd b (by omega)
    | succ n ih =>
      intro k x a b
      unfold f_X0_fail_L27 f_X10_fails_L29
      have h6 : (6 ≤ iI (k : Nat)) = ((6 : Int) ≤ (k : Nat)) := by rw [iL_6, iI_leP (by omega) (by omega) (by omega) (by omega)]
      by_cases c : (6 : Int) ≤ k
      · rw [if_pos (by rw [h6]; exact c), if_pos (by rw [h6]; exact c)]
        exact ⟨_, rfl, rfl⟩
      · rw [if_neg (by rw [h6]; exact c), if_neg (by rw [h6]; exact c), ld_eq q4, ld_eq q3, a_ldI (by omega) (by omega) (by omega), a_ldI (by omega) (by omega) (by omega), Int.toNat_natCast]
        simp only [ob_sm]
        by_cases q : m4 68 k = 0
        · rw [if_pos q]
          simp only [ob_sm]
          rw [iI_succ]
          exact ih (k + 1) _ (by omega) (by omega)
        · rw [if_neg q]
          simp only [ob_sm]
          rw [iI_succ]
          exact ih (k + 1) _ (by omega) (by omega)
  obtain ⟨t36, g1, g2⟩ := hl f_fuel 0 0 (by omega) (by show 6 < 0 + 100000; omega)
  have g1 : f_X0_fail_L27 m4 f_fuel 0 0 = some t36 := g1
  have g2 : f_X10_fails_L29 n4 f_fuel 0 0 = some t36 := g2
  obtain ⟨all, ct⟩ := t36
  have hk : ∀ (n k : Nat) (lf : Int32) (lf2 : Int64) (m n2 : gM), k ≤ 6 → 6 < k + n → lf2.toInt32 = lf → n2 2 = m 66 → (∀ c, c ≠ 66 → m c = m4 c) → (∀ c, c ≠ 2 → n2 c = n4 c) → ∃ a b m2 a2 b2 n3, f_X0_fail_L71 (-(mc 66 p)) all n lf (iI (k : Nat)) m = some (a, b, m2) ∧ f_X10_fails_L75 ((-(mc 66 p)).toInt64) all n lf2 (iI (k : Nat)) n2 = some (a2, b2, n3) ∧ a2.toInt32 = a ∧ n3 2 = m2 66 ∧ (∀ c, c ≠ 66 → m2 c = m4 c) ∧ ∀ c, c ≠ 2 → n3 c = n4 c := by
    intro n
    induction n with
    | zero => intro k lf lf2 m n2 a b; exact absurd b (by omega)
    | succ n ih =>
      intro k lf lf2 m n2 a b hlf hrow hm hn
      unfold f_X0_fail_L71 f_X10_fails_L75
      have h6 : (6 ≤ iI (k : Nat)) = ((6 : Int) ≤ (k : Nat)) := by rw [iL_6, iI_leP (by omega) (by omega) (by omega) (by omega)]
      by_cases c : (6 : Int) ≤ k
      · rw [if_pos (by rw [h6]; exact c), if_pos (by rw [h6]; exact c)]
        exact ⟨_, _, _, _, _, _, rfl, rfl, hlf, hrow, hm, hn⟩
      · have r4 : n2 4 = m 68 := by rw [hn 4 (by decide), hm 68 (by decide), q4]
        have r3 : n2 3 = m 67 := by rw [hn 3 (by decide), hm 67 (by decide), q3]
        have hst : ∀ z : Int32, a_st 6 2 (iI (k : Nat)) (m 66 k - z) n2 = some (g_up n2 2 (upd (m 66) k (m 66 k - z))) := by
          intro z
          rw [a_stI (by omega) (by omega) (by omega), Int.toNat_natCast, hrow]
        have hld : a_ld 6 2 (iI (k : Nat)) n2 = some (m 66 k) := by rw [ld_eq hrow, a_ldI (by omega) (by omega) (by omega), Int.toNat_natCast]
        have c6 : ¬ 6 ≤ iI (k : Nat) := by rw [h6]; exact c
        rw [if_neg c6, if_neg c6, ld_eq r4, ld_eq r3, hld, a_ldI (by omega) (by omega) (by omega), a_ldI (by omega) (by omega) (by omega), Int.toNat_natCast]
        simp only [ob_sm]
        have hno : ∃ a b m2 a2 b2 n3, f_X0_fail_L71 (-(mc 66 p)) all n lf (iI (k : Nat) + 1) m = some (a, b, m2) ∧ (ob (a_st 6 2 (iI (k : Nat)) (m 66 k - 0) n2) fun m29 => f_X10_fails_L75 ((-(mc 66 p)).toInt64) all n (lf2 - (0 : Int32).toInt64) (iI (k : Nat) + 1) m29) = some (a2, b2, n3) ∧ a2.toInt32 = a ∧ n3 2 = m2 66 ∧ (∀ c, c ≠ 66 → m2 c = m4 c) ∧ ∀ c, c ≠ 2 → n3 c = n4 c := by
          rw [hst, ob_some, iI_succ]
          refine ih (k + 1) lf (lf2 - (0 : Int32).toInt64) m _ (by omega) (by omega) ?_ ?_ hm ?_
          · rw [Int64.toInt32_sub, Int32.toInt32_toInt64, Int32.sub_zero, hlf]
          · rw [g_up_at, upd_same _ _ _ (Int32.sub_zero _)]
          · intro c hc
            rw [g_up_ne _ _ hc]
            exact hn c hc
        by_cases q : m 68 k = 0
        · rw [if_pos q, if_pos q]
          by_cases q2 : lg_cmp all 0 ≤ 0
          · rw [if_pos q2, if_pos q2]
            exact hno
          · have hall : ¬ all = 0 := fun e => q2 (by rw [e]; decide)
            have hdv : ∀ x, a_dv x all = some (x / all) := fun x => by
              unfold a_dv
              rw [if_neg hall]
            rw [if_neg q2, if_neg q2, hdv, ob_some, a_ldI (by omega) (by omega) (by omega), ob_some, Int.toNat_natCast, a_stI (by omega) (by omega) (by omega), ob_some, Int.toNat_natCast]
            simp only [ob_sm]
            rw [hst, ob_some, iI_succ]
            refine ih (k + 1) _ _ _ _ (by omega) (by omega) ?_ ?_ ?_ ?_
            · rw [Int64.toInt32_sub, Int32.toInt32_toInt64, hlf]
            · rw [g_up_at, g_up_at]
            · intro c hc
              rw [g_up_ne _ _ hc]
              exact hm c hc
            · intro c hc
              rw [g_up_ne _ _ hc]
              exact hn c hc
        · rw [if_neg q, if_neg q]
          exact hno
  obtain ⟨a, b, m2, a2, b2, n3, k1, k2, k3, k4, k5, k6⟩ := hk f_fuel 0 (-(mc 66 p)) ((-(mc 66 p)).toInt64) m4 n4 (by omega) (by show 6 < 0 + 100000; omega) (Int32.toInt32_toInt64 _) q2 (fun c _ => rfl) (fun c _ => rfl)
  have k1 : f_X0_fail_L71 (-(mc 66 p)) all f_fuel (-(mc 66 p)) 0 m4 = some (a, b, m2) := k1
  have k2 : f_X10_fails_L75 ((-(mc 66 p)).toInt64) all f_fuel ((-(mc 66 p)).toInt64) 0 n4 = some (a2, b2, n3) := k2
  refine ⟨g_up m2 65 (upd (m2 65) 3 (m2 65 3 - a)), g_up n3 0 (upd (n3 0) 6 (n3 0 6 - a2.toInt32)), ?_, ?_, ?_, ?_, ?_, ?_, ?_, ?_, ?_, ?_⟩
  · unfold f_X0_fail
    rw [a_ldI (by omega) (by omega) (by omega), ob_some, Int.toNat_natCast, ob_some, a_stI (by omega) (by omega) (by omega), ob_some, Int.toNat_natCast, a_zst_st (Or.inr rfl), a_stI (by omega) (by omega) (by omega), ob_some, Int.toNat_natCast, g_up_ne _ _ (show (68 : Nat) ≠ 66 by decide), ← e4, g1]
    simp only [ob_sm]
    rw [k1]
    simp only [ob_sm]
  · unfold f_X10_fails
    rw [a_ldI (by omega) (by omega) (by omega), ob_some, Int.toNat_natCast, ob_some, a_stI (by omega) (by omega) (by omega), ob_some, Int.toNat_natCast, a_stI (by omega) (by omega) (by omega), ob_some, Int.toNat_natCast, g_up_ne _ _ (show (2 : Nat) ≠ 4 by decide), ← f4, g2]
    simp only [ob_sm]
    rw [show mm 2 p = mc 66 p by rw [h2], k2]
    simp only [ob_sm]
  · rw [g_up_ne _ _ (by decide), g_up_ne _ _ (by decide), k4]
  · rw [g_up_ne _ _ (by decide), k5 68 (by decide), c68]
  · rw [g_up_ne _ _ (by decide), k6 4 (by decide), d4]
  · rw [g_up_at, g_up_at, updA, updA, if_pos rfl, if_pos rfl, k3, k5 65 (by decide), k6 0 (by decide), cc 65 (by decide) (by decide), dd 0 (by decide) (by decide), h6]
  · intro c x y z
    rw [g_up_ne _ _ x, k5 c y, cc c y z]
  · intro k hk
    rw [g_up_at, updA, if_neg hk, k5 65 (by decide), cc 65 (by decide) (by decide)]
  · intro c x y z
    rw [g_up_ne _ _ x, k6 c y, dd c y z]
  · intro k hk
    rw [g_up_at, updA, if_neg hk, k6 0 (by decide), dd 0 (by decide) (by decide)]
def outC (m : gM) : Int := isum 6 (fun k => if m 68 k = 0 then 0 else 1)
theorem outC_up {m m2 : gM} {p : Nat} (hp : p < 6) (h0 : m 68 p = 0) (h : m2 68 = upd (m 68) p 1) : outC m2 = outC m + 1 := by
  unfold outC
  have e : isum 6 (fun k => if m2 68 k = 0 then (0 : Int) else 1) = isum 6 (fun k => (if m 68 k = 0 then (0 : Int) else 1) + if k = p then 1 else 0) := by
    apply isum_congr
    intro k _
    rw [h, updA]
    by_cases q : k = p
    · rw [if_pos q, if_neg (by decide), if_pos q, q, if_pos h0]; rfl
    · rw [if_neg q, if_neg q]; omega
  rw [e, isum_add, isum_one, if_pos hp]
theorem outC_6 {m : gM} (h : 6 ≤ outC m) : ∀ k, k < 6 → ¬ m 68 k = 0 := by
  intro p hp h0
  have h1 : isum 6 (fun k => (if m 68 k = 0 then (0 : Int) else 1) + if k = p then 1 else 0) ≤ 1 * (6 : Nat) := by
    refine (isum_rng (B := 1) (by omega) 6 (fun k _ => ?_)).2
    by_cases q : k = p
    · rw [q, if_pos h0, if_pos rfl]; omega
    · rw [if_neg q]
      by_cases q2 : m 68 k = 0
      · rw [if_pos q2]; omega
      · rw [if_neg q2]; omega
  rw [isum_add, isum_one, if_pos hp] at h1
  unfold outC at h
  omega
theorem sim_failAll {mc mm : gM} (h : accE mc mm) (h6 : mm 0 6 = mc 65 3) : ∃ r mc2 y mm2, f_X0_failAll mc = some (r, mc2) ∧ (ob (f_X10_lowestBelow mm) fun r28 => f_X10_run_L134 f_fuel 0 r28 mm) = some (r, y, mm2) ∧ accE mc2 mm2 ∧ mm2 0 6 = mc2 65 3 ∧ (∀ c, c ≠ 65 → c ≠ 66 → c ≠ 68 → mc2 c = mc c) ∧ (∀ k, k ≠ 3 → mc2 65 k = mc 65 k) ∧ (∀ c, c ≠ 0 → c ≠ 2 → c ≠ 4 → mm2 c = mm c) ∧ ∀ k, k ≠ 6 → mm2 0 k = mm 0 k := by
  have hl : ∀ (n t : Nat) (rr : Int32) (m1 m2 : gM), t ≤ 6 → 6 < t + n → accE m1 m2 → m2 0 6 = m1 65 3 → (t : Int) ≤ outC m1 → (rr = -1 ∧ (∀ k, k < 6 → m1 68 k = 0 → ¬ m1 66 k < 0) ∨ ∃ k : Nat, k < 6 ∧ rr = iI (k : Nat) ∧ m1 68 k = 0 ∧ m1 66 k < 0) → ∃ r y mc2 y2 mm2, f_X0_failAll_L7 n (iI (t : Nat)) rr m1 = some (r, y, mc2) ∧ f_X10_run_L134 n (iI (t : Nat)) rr m2 = some (r, y2, mm2) ∧ accE mc2 mm2 ∧ mm2 0 6 = mc2 65 3 ∧ (∀ c, c ≠ 65 → c ≠ 66 → c ≠ 68 → mc2 c = m1 c) ∧ (∀ k, k ≠ 3 → mc2 65 k = m1 65 k) ∧ (∀ c, c ≠ 0 → c ≠ 2 → c ≠ 4 → mm2 c = m2 c) ∧ ∀ k, k ≠ 6 → mm2 0 k = m2 0 k := by
    intro n
    induction n with
    | zero => intro t rr m1 m2 a b; exact absurd b (by omega)
    | succ n ih =>
      intro t rr m1 m2 ht hn hA h6 hcnt hr
      unfold f_X0_failAll_L7 f_X10_run_L134
      rcases hr with ⟨e, hx⟩ | ⟨k, hk, e, g1, g2⟩
      · subst e
        rw [if_pos rfl, if_pos rfl]
        exact ⟨_, _, _, _, _, rfl, rfl, hA, h6, fun c _ _ _ => rfl, fun k _ => rfl, fun c _ _ _ => rfl, fun k _ => rfl⟩
      · subst e
        have hne : ¬ iI (k : Nat) = -1 := by
          rw [iL_1, iI_neg, iI_eqP (by omega) (by omega) (by omega) (by omega)]
          omega
        have ht6 : t < 6 := by
          by_cases w : t < 6
          · exact w
          · exact absurd g1 (outC_6 (by omega) k hk)
        have h6t : (6 ≤ iI (t : Nat)) = ((6 : Int) ≤ (t : Nat)) := by rw [iL_6, iI_leP (by omega) (by omega) (by omega) (by omega)]
        obtain ⟨m3, m4, f1, f2, f3, f4, f5, f6, f7, f8, f9, f10⟩ := sim_fail hA h6 hk
        rw [if_neg hne, if_neg hne, if_neg (by rw [h6t]; omega), f1, ob_some, f2, ob_some]
        have hA3 : accE m3 m4 := by
          refine ⟨f3, by rw [f9 3 (by decide) (by decide) (by decide), f7 67 (by decide) (by decide) (by decide)]; exact hA.2.1, by rw [f5, f4, hA.2.2.1], fun i hi => ?_⟩
          rw [f4, updA]
          by_cases w : i = k
          · rw [if_pos w]; exact Or.inr rfl
          · rw [if_neg w]; exact hA.2.2.2 i hi
        obtain ⟨r2, n1, n2, n3⟩ := sim_next hA3
        rw [n1, ob_some, n2, ob_some, iI_succ]
        have hco := outC_up hk g1 f4
        obtain ⟨r, y, mc2, y2, mm2, j1, j2, j3, j4, j5, j6, j7, j8⟩ := ih (t + 1) r2 m3 m4 (by omega) (by omega) hA3 f6 (by omega) n3
        exact ⟨r, y, mc2, y2, mm2, j1, j2, j3, j4, fun c x y z => by rw [j5 c x y z, f7 c x y z], fun k hk => by rw [j6 k hk, f8 k hk], fun c x y z => by rw [j7 c x y z, f9 c x y z], fun k hk => by rw [j8 k hk, f10 k hk]⟩
  obtain ⟨r0, n1, n2, n3⟩ := sim_next h
  have hc0 : ((0 : Nat) : Int) ≤ outC mc := by
    have hp : ∀ n, 0 ≤ isum n (fun k => if mc 68 k = 0 then (0 : Int) else 1) := by
      intro n
      induction n with
      | zero => exact Int.le_refl _
      | succ n ih =>
        show 0 ≤ isum n (fun k => if mc 68 k = 0 then (0 : Int) else 1) + (if mc 68 n = 0 then (0 : Int) else 1)
        by_cases q : mc 68 n = 0
        · rw [if_pos q]; omega
        · rw [if_neg q]; omega
    exact hp 6
  obtain ⟨r, y, mc2, y2, mm2, j1, j2, j3⟩ := hl f_fuel 0 r0 mc mm (by omega) (by show 6 < 0 + 100000; omega) h h6 hc0 n3
  have j1 : f_X0_failAll_L7 f_fuel 0 r0 mc = some (r, y, mc2) := j1
  have j2 : f_X10_run_L134 f_fuel 0 r0 mm = some (r, y2, mm2) := j2
  refine ⟨r, mc2, y2, mm2, ?_, ?_, j3⟩
  · unfold f_X0_failAll
    rw [n1, ob_some, j1]
    rfl
  · rw [n2, ob_some, j2]
