theorem ob_as2 {α β γ : Type} {a : Option α} {K : α → Option β} {v : β} (h : ob a K = some v) (G : β → Option γ) : (ob a fun x => ob (K x) G) = G v := by
  cases a with
  | none => exact nomatch h
  | some x =>
    have h2 : K x = some v := h
    show ob (K x) G = G v
    rw [h2]
    rfl
def rnI (j : Nat) (mc mm m1 m2 : gM) : Prop := (∀ c, c ≠ 69 + 16 * j + 6 → c ≠ 65 → c ≠ 66 → m1 c = mc c) ∧ (∀ k, k ≠ 3 → m1 65 k = mc 65 k) ∧ (∀ c, c ≠ 0 → c ≠ 2 → c ≠ 40 → c ≠ 46 → m2 c = mm c) ∧ (∀ k, k ≠ 6 → m2 0 k = mm 0 k) ∧ accE m1 m2 ∧ m2 0 6 = m1 65 3 ∧ (∀ i, i < 6 → m1 (69 + 16 * j + 6) i = m2 46 (6 * j + i)) ∧ ∀ i, (i < 6 * j ∨ 6 * j + 6 ≤ i) → m2 46 i = mm 46 i
theorem sim_pay {j na : Nat} {MD : List Nat} {mc mm : gM} (hB : bH j na MD mc mm) (hC : csE j mc mm) (h0 : rnI j mc mm mc mm) : T2 (f_X9_run_L43 (69 + 16 * j) f_fuel 0 mc) (f_X10_run_L52 (iI (j : Nat)) f_fuel 0 mm) (fun t t2 => rnI j mc mm t.2 t2.2) := by
  have hj := hB.1
  refine T2_cnt (f_X9_run_L43 (69 + 16 * j)) (f_X10_run_L52 (iI (j : Nat))) (fun _ m1 m2 => rnI j mc mm m1 m2) _ 6 (by omega) h0 ?_
  intro k m1 m2 n hI hk hcont
  obtain ⟨i1, i2, i3, i4, i5, i6, i7, i8⟩ := id hI
  unfold f_X9_run_L43 f_X10_run_L52
  have h6 : (6 ≤ iI (k : Nat)) = ((6 : Int) ≤ (k : Nat)) := by rw [iL_6, iI_leP (by omega) (by omega) (by omega) (by omega)]
  by_cases c : (6 : Int) ≤ k
  · have c6 : 6 ≤ iI (k : Nat) := by rw [h6]; exact c
    rw [if_pos c6, if_pos c6]
    exact ⟨_, _, rfl, rfl, hI⟩
  · have c6 : ¬ 6 ≤ iI (k : Nat) := by rw [h6]; exact c
    have hk6 : k < 6 := by omega
    have hz := i5.2.2.2 k hk6
    rw [if_neg c6, if_neg c6, ld_eq i5.2.2.1, a_ldI (by omega) (by omega) (by omega), Int.toNat_natCast]
    simp only [ob_sm]
    by_cases q : m1 68 k = 0
    · have hB2 : bH j na MD m1 m2 := bH_fr hB (fun c x y _ z => i1 c z (by omega) (by omega)) (fun c x y z => i3 c (by omega) (by omega) z (by omega))
      have hC2 : csE j m1 m2 := fun i hi => by rw [i1 _ (by omega) (by omega) (by omega), i3 45 (by decide) (by decide) (by decide) (by decide)]; exact hC i hi
      obtain ⟨v, row, s1, s2⟩ := sim_bill hB2 hC2 hk6
      have e6 : (6 : Int32) * iI (j : Nat) + iI (k : Nat) = iI ((6 * j + k : Nat) : Int) := by rw [iL_6, iI_mul, iI_add]; rfl
      rw [if_pos q, if_pos q, s1, s2]
      simp only [ob_sm]
      unfold f_X0_payFromHouse
      rw [e6]
      rw [a_ldI (by omega) (by omega) (by omega), Int.toNat_natCast]
      simp only [ob_sm]
      rw [a_ldI (by omega) (by omega) (by omega), Int.toNat_natCast]
      simp only [ob_sm]
      rw [g_up_ne _ _ (show (46 : Nat) ≠ 40 by decide), ← i7 k hk6]
      generalize v - m1 (69 + 16 * j + 6) k = x
      rw [a_stI (by omega) (by omega) (by omega), Int.toNat_natCast]
      simp only [ob_sm]
      rw [a_stI (by omega) (by omega) (by omega), Int.toNat_natCast]
      simp only [ob_sm]
      rw [a_ldI (by omega) (by omega) (by omega), Int.toNat_natCast]
      simp only [ob_sm]
      rw [a_ldI (by omega) (by omega) (by omega), Int.toNat_natCast]
      simp only [ob_sm]
      rw [a_stI (by omega) (by omega) (by omega), Int.toNat_natCast]
      simp only [ob_sm]
      rw [a_stI (by omega) (by omega) (by omega), Int.toNat_natCast]
      simp only [ob_sm]
      rw [iI_succ]
      have j1 : (66 : Nat) ≠ 69 + 16 * j + 6 := by omega
      have j2 : (65 : Nat) ≠ 69 + 16 * j + 6 := by omega
      have j3 : (67 : Nat) ≠ 69 + 16 * j + 6 := by omega
      have j4 : (68 : Nat) ≠ 69 + 16 * j + 6 := by omega
      have j5 : 69 + 16 * j + 6 ≠ 65 := by omega
      have j6 : 69 + 16 * j + 6 ≠ 66 := by omega
      refine hcont hk6 _ _ ⟨?_, ?_, ?_, ?_, ⟨?_, ?_, ?_, ?_⟩, ?_, ?_, ?_⟩
      · intro c x y z
        rw [g_up_ne _ _ y, g_up_ne _ _ z, g_up_ne _ _ x]
        exact i1 c x y z
      · intro k hk
        rw [g_up_at, updA, if_neg hk, g_up_ne _ _ (by decide), g_up_ne _ _ j2]
        exact i2 k hk
      · intro c x y z w
        rw [g_up_ne _ _ x, g_up_ne _ _ y, g_up_ne _ _ w, g_up_ne _ _ z]
        exact i3 c x y z w
      · intro k hk
        rw [g_up_at, updA, if_neg hk, g_up_ne _ _ (by decide), g_up_ne _ _ (by decide), g_up_ne _ _ (by decide)]
        exact i4 k hk
      · rw [g_up_ne _ _ (show (2 : Nat) ≠ 0 by decide), g_up_at, g_up_ne _ _ (show (2 : Nat) ≠ 46 by decide), g_up_ne _ _ (show (2 : Nat) ≠ 40 by decide), g_up_ne _ _ (show (66 : Nat) ≠ 65 by decide), g_up_at, g_up_ne _ _ j1, i5.1]
      · rw [g_up_ne _ _ (show (3 : Nat) ≠ 0 by decide), g_up_ne _ _ (show (3 : Nat) ≠ 2 by decide), g_up_ne _ _ (show (3 : Nat) ≠ 46 by decide), g_up_ne _ _ (show (3 : Nat) ≠ 40 by decide), g_up_ne _ _ (show (67 : Nat) ≠ 65 by decide), g_up_ne _ _ (show (67 : Nat) ≠ 66 by decide), g_up_ne _ _ j3]
        exact i5.2.1
      · rw [g_up_ne _ _ (show (4 : Nat) ≠ 0 by decide), g_up_ne _ _ (show (4 : Nat) ≠ 2 by decide), g_up_ne _ _ (show (4 : Nat) ≠ 46 by decide), g_up_ne _ _ (show (4 : Nat) ≠ 40 by decide), g_up_ne _ _ (show (68 : Nat) ≠ 65 by decide), g_up_ne _ _ (show (68 : Nat) ≠ 66 by decide), g_up_ne _ _ j4]
        exact i5.2.2.1
      · rw [g_up_ne _ _ (show (68 : Nat) ≠ 65 by decide), g_up_ne _ _ (show (68 : Nat) ≠ 66 by decide), g_up_ne _ _ j4]
        exact i5.2.2.2
      · rw [g_up_at, updA, if_pos rfl, g_up_at, updA, if_pos rfl, g_up_ne _ _ (show (0 : Nat) ≠ 2 by decide), g_up_ne _ _ (show (0 : Nat) ≠ 46 by decide), g_up_ne _ _ (show (0 : Nat) ≠ 40 by decide), g_up_ne _ _ (show (65 : Nat) ≠ 66 by decide), g_up_ne _ _ j2, i6]
      · intro i hi
        rw [g_up_ne _ _ j5, g_up_ne _ _ j6, g_up_at, g_up_ne _ _ (show (46 : Nat) ≠ 0 by decide), g_up_ne _ _ (show (46 : Nat) ≠ 2 by decide), g_up_at, updA, updA]
        by_cases w : i = k
        · rw [if_pos w, if_pos (by omega)]
        · rw [if_neg w, if_neg (by omega), g_up_ne _ _ (show (46 : Nat) ≠ 40 by decide)]
          exact i7 i hi
      · intro i hi
        rw [g_up_ne _ _ (show (46 : Nat) ≠ 0 by decide), g_up_ne _ _ (show (46 : Nat) ≠ 2 by decide), g_up_at, updA, if_neg (by omega), g_up_ne _ _ (show (46 : Nat) ≠ 40 by decide)]
        exact i8 i hi
    · rw [if_neg q, if_neg q]
      simp only [ob_sm]
      rw [iI_succ]
      exact hcont hk6 _ _ hI
theorem rDy_run {d j v0 : Nat} {mc mm mc2 mm2 : gM} (h : rDy d j mc mm) (hc : ∀ c, 69 + 16 * j + 1 ≤ c → c ≤ 69 + 16 * j + 5 → mc2 c = mc c) (hm : ∀ c, 41 ≤ c → c ≤ 45 → mm2 c = mm c) (h1 : ∀ i, i < 6 → mc2 (69 + 16 * j + 6) i = mm2 46 (6 * j + i)) (h2 : ∃ r : Nat, r ≤ 3 ∧ mc2 (69 + 16 * j) 7 = iI (r : Nat) ∧ mm2 47 j = iI (r : Nat)) : rDy d j mc2 mm2 := by
  obtain ⟨a1, a2, a3, a4, a5, a6, a7⟩ := h
  have e1 := hc (69 + 16 * j + 1) (by omega) (by omega)
  have e3 := hc (69 + 16 * j + 3) (by omega) (by omega)
  have e4 := hc (69 + 16 * j + 4) (by omega) (by omega)
  have e5 := hc (69 + 16 * j + 5) (by omega) (by omega)
  refine ⟨?_, ?_, ?_, ?_, h1, h2, ?_⟩
  · unfold prE at *
    rw [e1, hm 41 (by decide) (by decide)]
    exact a1
  · unfold pcE at *
    rw [e3, e5, hm 42 (by decide) (by decide), hm 45 (by decide) (by decide)]
    exact a2
  · rw [e4, hm 42 (by decide) (by decide), hm 43 (by decide) (by decide), hm 44 (by decide) (by decide)]
    exact a3
  · rw [hm 44 (by decide) (by decide)]
    exact a4
  · rw [e4]
    exact a7
theorem op_run : l_op_12 RelG := by
  intro mc mm p1 hR
  show opOK (f_Q_run p1 mc) (f_X10_run p1 mm)
  obtain ⟨d, st, l, n, M, nb, TO, GR, na, MA, no, MO, hA⟩ := id hR
  obtain ⟨a1, a2, a3, a4, a5, a6, a7, a8, a9, a10, a11, a12⟩ := id hA
  obtain ⟨hd9, hst1, hd1, hd2, hs1, hs2⟩ := id a1
  rcases chk_closed p1 hd1 hd2 (by omega) with ⟨v0, l0, e0, x0, y0⟩ | ⟨x0, y0⟩
  rotate_left
  · have hX : f_X9_run p1 mc = some (.inl 1) := by
      unfold f_X9_run
      simp only [x0, ox_r, ox_l]
    refine fin_thr (z := 1) hR (by decide) (by unfold f_Q_run; rw [hX]; rfl) ?_
    unfold f_X10_run
    rw [y0, ob_some]
    exact thr_M (z := 1) (by rw [if_pos rfl]) (by decide)
  subst e0
  have hv : v0 < 10 := by omega
  have hD := a9 v0 hv
  obtain ⟨r0, hr3, q7, q47⟩ := hD.2.2.2.2.2.1
  by_cases c3 : r0 = 3
  · have z1 : 3 ≤ mc (69 + 16 * v0) 7 := by rw [q7, iL_3, iI_leP (by omega) (by omega) (by omega) (by omega)]; omega
    have hX : f_X9_run (iI (v0 : Nat)) mc = some (.inl 3) := by
      unfold f_X9_run f_X9_checkState
      simp only [x0, ox_r, ox_l]
      rw [a_rfI (by omega) (by omega) (by omega), ob_some, Int.toNat_natCast, if_pos z1, ob_some, if_pos rfl]
      rfl
    refine fin_thr (z := 2) hR (by decide) (by unfold f_Q_run; rw [hX]; rfl) ?_
    unfold f_X10_run
    rw [y0, ob_some]
    exact thr_M (z := 2) (by rw [if_neg (by decide), a_ldI (by omega) (by omega) (by omega), ob_some, Int.toNat_natCast, q47, c3, if_pos (show iI ((3 : Nat) : Int) = 3 from rfl)]) (by decide)
  have z1 : ¬ 3 ≤ mc (69 + 16 * v0) 7 := by rw [q7, iL_3, iI_leP (by omega) (by omega) (by omega) (by omega)]; omega
  have z2 : ¬ mm 47 v0 = 3 := by rw [q47, iL_3, iI_eqP (by omega) (by omega) (by omega) (by omega)]; omega
  obtain ⟨ka, MD, hB⟩ := bH_of hv hD a11
  obtain ⟨mc1, e1⟩ : ∃ m, m = g_up mc (69 + 16 * v0) (upd (mc (69 + 16 * v0)) 7 (mc (69 + 16 * v0) 7 + 1)) := ⟨_, rfl⟩
  obtain ⟨mm1, e2⟩ : ∃ m, m = g_up (thM mm 0) 47 (upd (thM mm 0 47) v0 (thM mm 0 47 v0 + 1)) := ⟨_, rfl⟩
  have k1 : ∀ c, c ≠ 69 + 16 * v0 → mc1 c = mc c := fun c x => by rw [e1, g_up_ne _ _ x]
  have k2 : ∀ c, c ≠ 47 → c ≠ 0 → mm1 c = mm c := fun c x y => by rw [e2, g_up_ne _ _ x, thM_c _ _ y]
  have k3 : mc1 (69 + 16 * v0) 7 = iI ((r0 + 1 : Nat) : Int) := by rw [e1, g_up_at, updA, if_pos rfl, q7, iI_succ]
  have k4 : ∀ i, mm1 47 i = if i = v0 then iI ((r0 + 1 : Nat) : Int) else mm 47 i := fun i => by rw [e2, g_up_at, updA, thM_c _ _ (by decide), q47, iI_succ]
  have k5 : ∀ k, k ≠ 67 → mm1 0 k = mm 0 k := fun k hk => by rw [e2, g_up_ne _ _ (by decide), thM_k _ _ hk]
  have k6 : mm1 0 67 = 0 := by rw [e2, g_up_ne _ _ (by decide), thM_0]
  have hB1 : bH v0 ka MD mc1 mm1 := bH_fr hB (fun c x _ _ _ => k1 c (by omega)) (fun c x y _ => k2 c (by omega) (by omega))
  have hC1 : csE v0 mc1 mm1 := fun i hi => by rw [k1 _ (by omega), k2 45 (by decide) (by decide)]; exact hD.2.1.2 i hi
  have hI1 : rnI v0 mc1 mm1 mc1 mm1 := by
    refine ⟨fun c _ _ _ => rfl, fun k _ => rfl, fun c _ _ _ _ => rfl, fun k _ => rfl, ⟨?_, ?_, ?_, ?_⟩, ?_, ?_, fun i _ => rfl⟩
    · rw [k2 2 (by decide) (by decide), k1 66 (by omega)]; exact a2.1
    · rw [k2 3 (by decide) (by decide), k1 67 (by omega)]; exact a2.2.1
    · rw [k2 4 (by decide) (by decide), k1 68 (by omega)]; exact a2.2.2.1
    · rw [k1 68 (by omega)]; exact a2.2.2.2.1
    · rw [k5 6 (by decide), k1 65 (by omega)]; exact a2.2.2.2.2
    · intro i hi
      rw [k1 _ (by omega), k2 46 (by decide) (by decide)]
      exact hD.2.2.2.2.1 i hi
  obtain ⟨t, t2, f1, f2, j1, j2, j3, j4, j5, j6, j7, j8⟩ := sim_pay hB1 hC1 hI1
  obtain ⟨r, mc2, y, mm2, g1, g2, g3, g4, g5, g6, g7, g8⟩ := sim_failAll j5 j6
  have hX : f_X9_run (iI (v0 : Nat)) mc = some (.inr (r, mc2)) := by
    unfold f_X9_run f_X9_checkState
    simp only [x0, ox_r, ox_l]
    rw [a_rfI (by omega) (by omega) (by omega), ob_some, Int.toNat_natCast, if_neg z1, ob_some, if_neg (by decide), ob_some]
    simp only [ox_r]
    rw [← e1, f1]
    simp only [ob_sm]
    rw [g1]
    simp only [ob_sm]
  have hM : f_X10_run (iI (v0 : Nat)) mm = some (r, mm2) := by
    unfold f_X10_run
    rw [y0, ob_some, go_M (by rw [if_neg (by decide), a_ldI (by omega) (by omega) (by omega), ob_some, Int.toNat_natCast, if_neg z2])]
    rw [a_ldI (by omega) (by omega) (by omega), ob_some, Int.toNat_natCast, a_stI (by omega) (by omega) (by omega), ob_some, Int.toNat_natCast, ← e2, f2]
    simp only [ob_sm]
    rw [ob_as2 g2]
  have hc : ∀ c, c ≠ 69 + 16 * v0 → c ≠ 69 + 16 * v0 + 6 → c ≠ 65 → c ≠ 66 → c ≠ 68 → mc2 c = mc c := fun c x1 x2 x3 x4 x5 => by rw [g5 c x3 x4 x5, j1 c x2 x3 x4, k1 c x1]
  have hm : ∀ c, c ≠ 0 → c ≠ 2 → c ≠ 4 → c ≠ 40 → c ≠ 46 → c ≠ 47 → mm2 c = mm c := fun c x1 x2 x3 x4 x5 x6 => by rw [g7 c x1 x2 x3, j3 c x1 x2 x4 x5, k2 c x6 x1]
  have h0 : ∀ k, k ≠ 6 → k ≠ 67 → mm2 0 k = mm 0 k := fun k x1 x2 => by rw [g8 k x1, j4 k x1, k5 k x2]
  refine fin_ret (r := r) (mc2 := mc2) (mm2 := mm2) ?_ (by unfold f_Q_run; rw [hX, os_r2, ob_some, ob_some, a_lst0, ob_some]) hM (by rw [g8 67 (by decide), j4 67 (by decide), k6])
  refine ⟨d, st, l, n, M, nb, TO, GR, na, MA, no, MO, rDay_fr a1 (by rw [hc 0 (by omega) (by omega) (by omega) (by omega) (by omega)]) (by rw [hc 0 (by omega) (by omega) (by omega) (by omega) (by omega)]) (h0 0 (by omega) (by omega)) (h0 1 (by omega) (by omega)), ?_, rLim_fr a3 (hc 3 (by omega) (by omega) (by omega) (by omega) (by omega)) (hm 1 (by omega) (by omega) (by omega) (by omega) (by omega) (by omega)), rBid_fr a4 (fun c _ _ => hc c (by omega) (by omega) (by omega) (by omega) (by omega)) (h0 7 (by omega) (by omega)) (fun c _ _ => hm c (by omega) (by omega) (by omega) (by omega) (by omega) (by omega)), rBlk_fr a5 (fun c _ _ => hc c (by omega) (by omega) (by omega) (by omega) (by omega)) (h0 16 (by omega) (by omega)) (h0 25 (by omega) (by omega)) (fun c _ _ => hm c (by omega) (by omega) (by omega) (by omega) (by omega) (by omega)), rAsk_fr a6 (fun c _ _ => hc c (by omega) (by omega) (by omega) (by omega) (by omega)) (h0 26 (by omega) (by omega)) (fun c _ _ => hm c (by omega) (by omega) (by omega) (by omega) (by omega) (by omega)), rOff_fr a7 (fun c _ _ => hc c (by omega) (by omega) (by omega) (by omega) (by omega)) (h0 33 (by omega) (by omega)) (fun c _ _ => hm c (by omega) (by omega) (by omega) (by omega) (by omega) (by omega)), rNet_fr a8 (hc _ (by omega) (by omega) (by omega) (by omega) (by omega)) (hc 3 (by omega) (by omega) (by omega) (by omega) (by omega)) (hm 48 (by omega) (by omega) (by omega) (by omega) (by omega) (by omega)), ?_, rPB_fr a10 (fun j hj => hc _ (by omega) (by omega) (by omega) (by omega) (by omega)) (by omega), rAid_fr a11 (fun j hj c _ _ => hc c (by omega) (by omega) (by omega) (by omega) (by omega)) (fun c _ _ => hm c (by omega) (by omega) (by omega) (by omega) (by omega) (by omega)), rScr_fr a12 (fun c _ _ => hc c (by omega) (by omega) (by omega) (by omega) (by omega)) (fun c _ _ => hm c (by omega) (by omega) (by omega) (by omega) (by omega) (by omega))⟩
  · exact ⟨g3.1, g3.2.1, g3.2.2.1, g3.2.2.2, g4⟩
  · intro j hj
    have hDj := a9 j hj
    have w46 : mm2 46 = t2.2 46 := g7 46 (by decide) (by decide) (by decide)
    have w47 : mm2 47 = mm1 47 := by rw [g7 47 (by decide) (by decide) (by decide), j3 47 (by decide) (by decide) (by decide) (by decide)]
    refine rDy_run (v0 := v0) hDj (fun c _ _ => hc c (by omega) (by omega) (by omega) (by omega) (by omega)) (fun c _ _ => hm c (by omega) (by omega) (by omega) (by omega) (by omega) (by omega)) ?_ ?_
    · intro i hi
      rw [w46, g5 _ (by omega) (by omega) (by omega)]
      by_cases w : j = v0
      · rw [w]; exact j7 i hi
      · rw [j8 _ (by omega), k2 46 (by decide) (by decide), j1 _ (by omega) (by omega) (by omega), k1 _ (by omega)]
        exact hDj.2.2.2.2.1 i hi
    · rw [w47, k4, g5 _ (by omega) (by omega) (by omega), j1 _ (by omega) (by omega) (by omega)]
      by_cases w : j = v0
      · rw [if_pos w, w]
        exact ⟨r0 + 1, by omega, k3, rfl⟩
      · rw [if_neg w, k1 _ (by omega)]
        exact hDj.2.2.2.2.2.1
