theorem pf_ones {l : List Int} (h : ∀ x ∈ l, x = 1) : ∀ q : Nat, q ≤ l.length → pf l q = q
  | 0, _ => rfl
  | q + 1, hq => by
    rw [pf_succ l (by omega), pf_ones h q (by omega), h _ (getD_mem l 0 (by omega))]
    omega
theorem tk_units {U : Nat → Nat} {P : Nat → Int} {L : List Nat} {q : Nat} (hn : L.Nodup) (hq : q ≤ (ups P U L).length) : (L.map (fun k => (tk U L q k : Int))).sum = q := by
  have h1 : q ≤ (ups (fun _ => 1) U L).length := by
    rw [ups_lenS] at *
    exact hq
  have h2 := tk_sum (P := fun _ => 1) hn h1
  rw [pf_ones (fun x hx => by obtain ⟨k, _, e⟩ := ups_mem hx; exact e) q h1] at h2
  rw [← h2]
  congr 1
  apply List.map_congr_left
  intro k _
  omega
theorem unit_sum {m0 : gM} {l : Nat → Int} {n : Nat} {M : List Nat} {nb : Nat} {TO GR : Nat → Int} (hD : cDat m0 l n M nb TO GR) {c : Nat} (hpos : ∀ h, h < 4 → cR l m0 M nb c h ≠ none) {z h : Nat} (hz : z < 3) (hh : h < 4) : isum n (bT m0 (tkA l m0 M nb c) (4 * z + h)) = mkF l m0 M nb c h z := by
  have hM := hD.2.1.2.2.1
  have hrow := hD.2.1.2.2.2
  have hlr : ∀ k, k < 3 → 0 ≤ l k ∧ l k ≤ 10 := fun k hk => (hD.1 k hk).2
  have hLm : ∀ (b : Int32) (k : Nat), k ∈ Lz m0 M (iI (z : Nat)) (iI (h : Nat)) b ↔ k < n ∧ m0 6 k = iI (z : Nat) ∧ m0 7 k = iI (h : Nat) ∧ m0 8 k = b := by
    intro b k
    constructor
    · exact fun hk => Lz_sub hM hk
    · intro hk
      exact List.mem_filter.2 ⟨(hM.2.2.1 k).2 hk.1, decide_eq_true hk.2⟩
  have hnd : ∀ (b : Int32), (Lz m0 M (iI (z : Nat)) (iI (h : Nat)) b).Nodup := fun b => srt_nodup (hM.2.1.filter _)
  obtain ⟨w, a, b, hR⟩ : ∃ w a b, cR l m0 M nb c h = some (w, a, b) := by
    cases q : cR l m0 M nb c h with
    | none => exact absurd q (hpos h hh)
    | some u => obtain ⟨w, a, b⟩ := u; exact ⟨w, a, b, rfl⟩
  have hfe := cR_feas hlr hR
  obtain ⟨_, _, f1, f2⟩ := hfe.2.1 z hz
  have hcd := cwd_rng (ls := lsF m0 M h z) (lb := lbF m0 M h z) f1 f2
  have eqb : cwd (lsF m0 M h z) (lbF m0 M h z) (mkF l m0 M nb c h z) = qbF l m0 M nb c h z := rfl
  rw [eqb] at hcd
  have hqs : ((qsF l m0 M nb c h z : Nat) : Int) = mkF l m0 M nb c h z + qbF l m0 M nb c h z := by unfold qsF; omega
  have e1 : ((qbF l m0 M nb c h z : Nat) : Int) = isum n (fun k => if k ∈ Lz m0 M (iI (z : Nat)) (iI (h : Nat)) 1 then (tk (uU m0) (Lz m0 M (iI (z : Nat)) (iI (h : Nat)) 1) (qbF l m0 M nb c h z) k : Int) else 0) := by
    rw [← list_isum (hnd 1) (fun k hk => ((hLm 1 k).1 hk).1)]
    exact (tk_units (P := pP m0) (hnd 1) (by show _ ≤ (lbF m0 M h z).length; omega)).symm
  have e0 : ((qsF l m0 M nb c h z : Nat) : Int) = isum n (fun k => if k ∈ Lz m0 M (iI (z : Nat)) (iI (h : Nat)) 0 then (tk (uU m0) (Lz m0 M (iI (z : Nat)) (iI (h : Nat)) 0) (qsF l m0 M nb c h z) k : Int) else 0) := by
    rw [← list_isum (hnd 0) (fun k hk => ((hLm 0 k).1 hk).1)]
    exact (tk_units (P := pP m0) (hnd 0) (by show _ ≤ (lsF m0 M h z).length; omega)).symm
  have e2 : mkF l m0 M nb c h z = ((qsF l m0 M nb c h z : Nat) : Int) - ((qbF l m0 M nb c h z : Nat) : Int) := by omega
  rw [e2, e1, e0, ← isum_sub]
  apply isum_congr
  intro k hk
  obtain ⟨e6, e7, l6, l7⟩ := zh_m hD.2.1 hk
  have hr := hrow k hk
  unfold bT
  by_cases u : znF m0 k = z ∧ hnF m0 k = h
  · obtain ⟨u1, u2⟩ := u
    have e6 : m0 6 k = iI (z : Nat) := by rw [e6, u1]
    have e7 : m0 7 k = iI (h : Nat) := by rw [e7, u2]
    rw [if_pos (by omega)]
    unfold sgB tkA tkv
    rw [u1, u2, e6, e7]
    rcases hr.2.2.2.1 with b0 | b1
    · rw [if_pos b0, if_pos b0, if_pos ((hLm 0 k).2 ⟨hk, e6, e7, b0⟩), if_neg (fun w => by have := ((hLm 1 k).1 w).2.2.2; rw [b0] at this; exact absurd this (by decide))]
      omega
    · have nb0 : ¬ m0 8 k = 0 := by rw [b1]; decide
      rw [if_neg nb0, if_neg nb0, if_pos ((hLm 1 k).2 ⟨hk, e6, e7, b1⟩), if_neg (fun w => by have := ((hLm 0 k).1 w).2.2.2; rw [b1] at this; exact absurd this (by decide))]
      omega
  · have hno : ∀ b, k ∉ Lz m0 M (iI (z : Nat)) (iI (h : Nat)) b := by
      intro b hm
      obtain ⟨_, g6, g7, _⟩ := (hLm b k).1 hm
      exact u ⟨iI_injN (e6.symm.trans g6) (by omega) (by omega), iI_injN (e7.symm.trans g7) (by omega) (by omega)⟩
    rw [if_neg (by omega), if_neg (hno 0), if_neg (hno 1)]
    rfl
theorem net_eq {m0 : gM} {l : Nat → Int} {n : Nat} {M : List Nat} {nb : Nat} {TO GR : Nat → Int} (hD : cDat m0 l n M nb TO GR) {c : Nat} (hpos : ∀ h, h < 4 → cR l m0 M nb c h ≠ none) {z h : Nat} (hz : z < 3) (hh : h < 4) : iI (isum n (bT m0 (tkA l m0 M nb c) (4 * z + h))) + iI (bs (m0 15) (m0 16) (m0 17) (m0 19) nb c h z) = iI (nzF (cR l m0 M nb c h) z) := by
  rw [unit_sum hD hpos hz hh, iI_add, ← bs_pt hD.2.2.2.1.1]
  congr 1
  unfold mkF BP
  omega
theorem rs_gq {P : Nat → Int32} {U : Nat → Nat} {q0 : Nat} {p0 : Int32} : ∀ A : List Nat, ∀ j, (rs P U q0 p0 A).2.2.2 j ≤ q0 := by
  apply snoc_ind (p := fun A => ∀ j, (rs P U q0 p0 A).2.2.2 j ≤ q0)
  · intro j
    exact Nat.zero_le _
  · intro A k ih j
    rw [rs_app]
    have h1 := rs_le P U q0 p0 A
    show (if j = k then min (U k) (rs P U q0 p0 A).1 else (rs P U q0 p0 A).2.2.2 j) ≤ q0
    by_cases c : j = k
    · rw [if_pos c]; omega
    · rw [if_neg c]; exact ih j
theorem giveOut_ok {m : gM} {d na a b lim : Nat} {MA : List Nat} (hd : d < 10) (ha : a < 3) (hb : b < 3) (hA : akC m na MA) (hlim : lim ≤ 10) (hr : ∀ k, k ∈ La m MA (iI (a : Nat)) (iI (b : Nat)) → m 52 k = m 51 k) : T (f_X1_giveOut (iI (a : Nat)) (iI (b : Nat)) (iI (lim : Nat)) (69 + 16 * d) m) (fun m2 => (∀ c, c ≠ 52 → c ≠ 69 + 16 * d + 5 → m2 c = m c) ∧ (∀ k, k ∈ La m MA (iI (a : Nat)) (iI (b : Nat)) → ∃ u : Nat, u ≤ lim ∧ m2 52 k = m 51 k - iI (u : Nat)) ∧ ∀ k, k ∉ La m MA (iI (a : Nat)) (iI (b : Nat)) → m2 52 k = m 52 k) := by
  obtain ⟨t1, p1, p2, p3, r52, p4, p5⟩ := sp_giveL (m := m) hA (a := iI (a : Nat)) (b := iI (b : Nat)) (lim := lim) (by omega) hr
  obtain ⟨y6, y7, y8, y9, m10⟩ := t1
  have p4 : m10 = g_up m 52 r52 := p4
  have f10 : ∀ c, c ≠ 52 → m10 c = m c := fun c hc => by rw [p4, g_up_ne _ _ hc]
  have e52 : m10 52 = r52 := by rw [p4, g_up_at]
  have hdf := sp_diff (d := d) (a := a) (b := b) (m := m10) (pr := m (69 + 16 * d + 1)) ha hb (fun i _ => by rw [f10 _ (by omega)])
  generalize dsF (m (69 + 16 * d + 1)) a b 4 = d7 at hdf
  have hna := hA.2.1
  unfold f_X1_giveOut
  simp only [p1, ob_sm, hdf]
  have e34 : ∃ x, (if y8 = 0 then some y7 else some 0) = some x := by
    by_cases u : y8 = 0
    · exact ⟨_, if_pos u⟩
    · exact ⟨_, if_neg u⟩
  obtain ⟨x, ex⟩ := e34
  rw [ex, ob_some]
  have key : T (f_X1_giveOut_L163 (69 + 16 * d) (iI (a : Nat)) (iI (b : Nat)) (d7 - x) f_fuel 0 m10) (fun t => ∀ c, c ≠ 69 + 16 * d + 5 → t.2 c = m10 c) := by
    refine T_run2 (f_X1_giveOut_L163 (69 + 16 * d) (iI (a : Nat)) (iI (b : Nat)) (d7 - x)) (fun k y m1 => y = iI (k : Nat) ∧ ∀ c, c ≠ 69 + 16 * d + 5 → m1 c = m10 c) _ na 0 _ _ ⟨rfl, fun c _ => rfl⟩ (Nat.zero_le _) (by omega) ?_
    intro k y m1 f hI hkn hcont
    obtain ⟨e, i2⟩ := hI
    subst e
    unfold f_X1_giveOut_L163
    rw [i2 45 (by omega), f10 45 (by decide), hA.1, iI_le (by omega) (by omega) (by omega) (by omega)]
    by_cases c : (na : Int) ≤ k
    · rw [if_pos c]
      exact T_some i2
    · have hk := hA.2.2.2 k (by omega)
      obtain ⟨v, ev, lv⟩ := rgN hk.1
      rw [if_neg c, sp_between (by omega), ob_some]
      by_cases hb9 : isB m1 (iI (a : Nat)) (iI (b : Nat)) k = true
      · have q46 : a_ld 20 46 (iI (k : Nat)) m1 = some (iI (v : Nat)) := by rw [ldN (by omega) (by omega), i2 46 (by omega), f10 46 (by decide), ev]
        rw [if_pos hb9, if_neg (by decide), q46, ob_some, ldN (by omega) (by omega), ob_some, sp_used (by rw [oln45]; omega) (by rw [oln45]; omega), ob_some, stN (by omega) (by omega), ob_some, ob_some]
        exact hcont (by omega) _ _ ⟨iI_succ k, fun c hc => by rw [g_up_ne _ _ hc]; exact i2 c hc⟩
      · rw [if_neg hb9, if_pos rfl, ob_some]
        exact hcont (by omega) _ _ ⟨iI_succ k, i2⟩
  obtain ⟨t, ft, et⟩ := key
  rw [ft, ob_some]
  try simp only [ob_sm]
  refine T_some ⟨fun c c1 c2 => by rw [et c c2]; exact f10 c c1, fun k hk => ?_, fun k hk => ?_⟩
  · refine ⟨_, rs_gq (P := aP m) (U := aU m) (p0 := 0) (La m MA (iI (a : Nat)) (iI (b : Nat))) k, ?_⟩
    rw [et 52 (by omega), e52, p5 k, if_pos hk]
  · rw [et 52 (by omega), e52, p5 k, if_neg hk]
def gvI (d na a b L : Nat) (m m1 : gM) : Prop := (∀ c, c ≠ 52 → c ≠ 69 + 16 * d + 5 → m1 c = m c) ∧ (∀ k, k < na → pdn m a b k → ∃ u : Nat, u ≤ L ∧ m1 52 k = m 51 k - iI (u : Nat)) ∧ ∀ k, k < na → ¬ pdn m a b k → m1 52 k = m 51 k
theorem giveRights_ok {m : gM} {d na L : Nat} {MA : List Nat} (hd : d < 10) (hA : akC m na MA) (hL : L ≤ 10) (hl : ∀ k, k < 3 → m 3 k = iI (L : Nat)) (hr : ∀ k, k < na → m 52 k = m 51 k) : T (f_X9_giveRights (69 + 16 * d) m) (fun m2 => (∀ c, c ≠ 52 → c ≠ 69 + 16 * d + 5 → m2 c = m c) ∧ ∀ k, k < na → ∃ u : Nat, u ≤ L ∧ m2 52 k = m 51 k - iI (u : Nat)) := by
  have hrng : ∀ k, k < na → ∃ a b : Nat, a < 3 ∧ b < 3 ∧ a ≠ b ∧ m 47 k = iI (a : Nat) ∧ m 54 k = iI (b : Nat) ∧ (m 47 k).toInt.toNat = a ∧ (m 54 k).toInt.toNat = b := by
    intro k hk
    obtain ⟨_, r2, r3, _, _, _, r7⟩ := hA.2.2.2 k hk
    obtain ⟨a, ea, la⟩ := rgN r2
    obtain ⟨b, eb, lb⟩ := rgN r3
    refine ⟨a, b, by omega, by omega, fun e => r7 (by rw [ea, eb, e]), ea, eb, ?_, ?_⟩
    · rw [ea, iI_toInt (by omega) (by omega), Int.toNat_natCast]
    · rw [eb, iI_toInt (by omega) (by omega), Int.toNat_natCast]
  have hin : ∀ a : Nat, a < 3 → ∀ m1, gvI d na a 0 L m m1 → T (f_X9_giveRights_L9 (69 + 16 * d) (iI (a : Nat)) f_fuel 0 m1) (fun t => gvI d na (a + 1) 0 L m t.2) := by
    intro a ha m1 hI0
    refine T_run2 (f_X9_giveRights_L9 (69 + 16 * d) (iI (a : Nat))) (fun b y m1 => y = iI (b : Nat) ∧ gvI d na a b L m m1) _ 3 0 _ _ ⟨rfl, hI0⟩ (Nat.zero_le _) (by omega) ?_
    intro b y m3 f hI hb hcont
    obtain ⟨e, i2, i5, i6⟩ := hI
    subst e
    unfold f_X9_giveRights_L9
    rw [iL_3, iI_le (by omega) (by omega) (by omega) (by omega)]
    by_cases c : (3 : Int) ≤ b
    · rw [if_pos c]
      refine T_some ⟨i2, ?_, ?_⟩
      · intro k hk hp
        obtain ⟨x, y, hx, hy, hxy, _, _, ex, ey⟩ := hrng k hk
        refine i5 k hk ?_
        unfold pdn at *
        omega
      · intro k hk hp
        obtain ⟨x, y, hx, hy, hxy, _, _, ex, ey⟩ := hrng k hk
        refine i6 k hk ?_
        unfold pdn at *
        omega
    · rw [if_neg c]
      by_cases hab : a = b
      · have eab : iI (a : Nat) = iI (b : Nat) := by rw [hab]
        rw [if_pos eab, ob_some]
        refine hcont (by omega) _ m3 ⟨iI_succ b, i2, ?_, ?_⟩
        · intro k hk hp
          obtain ⟨x, y, hx, hy, hxy, _, _, ex, ey⟩ := hrng k hk
          refine i5 k hk ?_
          unfold pdn at *
          omega
        · intro k hk hp
          obtain ⟨x, y, hx, hy, hxy, _, _, ex, ey⟩ := hrng k hk
          refine i6 k hk ?_
          unfold pdn at *
          omega
      · have eab : ¬ iI (a : Nat) = iI (b : Nat) := by
          rw [iI_eqP (by omega) (by omega) (by omega) (by omega)]
          omega
        have hA3 : akC m3 na MA := akC_fr hA (fun c c1 c2 c3 => i2 c c3 (by omega))
        have hLm : ∀ k, k ∈ La m3 MA (iI (a : Nat)) (iI (b : Nat)) ↔ k < na ∧ m 47 k = iI (a : Nat) ∧ m 54 k = iI (b : Nat) := by
          intro k
          rw [La_mem hA3, i2 47 (by decide) (by omega), i2 54 (by decide) (by omega)]
        have hLm2 : ∀ k, k < na → (k ∈ La m3 MA (iI (a : Nat)) (iI (b : Nat)) ↔ (m 47 k).toInt.toNat = a ∧ (m 54 k).toInt.toNat = b) := by
          intro k hk
          obtain ⟨x, y, hx, hy, hxy, e47, e54, ex, ey⟩ := hrng k hk
          rw [hLm, ex, ey, e47, e54, iI_eqP (by omega) (by omega) (by omega) (by omega), iI_eqP (by omega) (by omega) (by omega) (by omega)]
          omega
        obtain ⟨g1, _, g3⟩ := tb_line a ha b (by omega) hab
        have l1 : a_ld 3 3 (iI (lnF a b : Nat)) m3 = some (iI (L : Nat)) := by
          rw [ldN g3 (by omega), i2 3 (by decide) (by omega), hl _ g3]
        obtain ⟨m5, q1, q2, q4, q5⟩ := giveOut_ok (m := m3) hd ha (show b < 3 by omega) hA3 hL (fun k hk => by
          have h2 := (hLm k).1 hk
          have h3 := (hLm2 k h2.1).1 hk
          rw [i6 k h2.1 (by unfold pdn; omega), i2 51 (by decide) (by omega)])
        rw [if_neg eab, g1, ob_some, l1, ob_some, q1, ob_some, ob_some]
        refine hcont (by omega) _ m5 ⟨iI_succ b, fun c c1 c2 => by rw [q2 c c1 c2]; exact i2 c c1 c2, ?_, ?_⟩
        · intro k hk hp
          by_cases u : k ∈ La m3 MA (iI (a : Nat)) (iI (b : Nat))
          · obtain ⟨v, hv, ev⟩ := q4 k u
            rw [i2 51 (by decide) (by omega)] at ev
            exact ⟨v, hv, ev⟩
          · have h5 := q5 k u
            rw [h5]
            refine i5 k hk ?_
            rw [hLm2 k hk] at u
            unfold pdn at *
            omega
        · intro k hk hp
          have u : k ∉ La m3 MA (iI (a : Nat)) (iI (b : Nat)) := by
            rw [hLm2 k hk]
            unfold pdn at *
            omega
          rw [q5 k u]
          refine i6 k hk ?_
          unfold pdn at *
          omega
  have key : T (f_X9_giveRights_L2 (69 + 16 * d) f_fuel 0 m) (fun t => gvI d na 3 0 L m t.2) := by
    refine T_run2 (f_X9_giveRights_L2 (69 + 16 * d)) (fun a y m1 => y = iI (a : Nat) ∧ gvI d na a 0 L m m1) _ 3 0 _ _ ⟨rfl, fun c _ _ => rfl, fun k _ hp => by unfold pdn at hp; omega, fun k hk _ => hr k hk⟩ (Nat.zero_le _) (by omega) ?_
    intro a y m1 f hI ha hcont
    obtain ⟨e, hI⟩ := hI
    subst e
    unfold f_X9_giveRights_L2
    rw [iL_3, iI_le (by omega) (by omega) (by omega) (by omega)]
    by_cases c : (3 : Int) ≤ a
    · rw [if_pos c]
      have e : a = 3 := by omega
      subst e
      exact T_some hI
    · obtain ⟨t, ft, et⟩ := hin a (by omega) m1 hI
      rw [if_neg c, ft, ob_some]
      try simp only [ob_sm]
      exact hcont (by omega) _ _ ⟨iI_succ a, et⟩
  obtain ⟨t, ft, et⟩ := key
  refine ⟨t.2, ?_, et.1, fun k hk => ?_⟩
  · unfold f_X9_giveRights
    rw [ft]
    try simp only [ob_sm]
  · obtain ⟨x, y, hx, hy, hxy, _, _, ex, ey⟩ := hrng k hk
    exact et.2.1 k hk (by unfold pdn; omega)
