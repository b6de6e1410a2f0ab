theorem t_B664 {N : Nat} {x2 x3 x4 x5 x6 x7 x8 : Int32} {m : gM} (hI : LInv N x2 x3 x4 x5 x6 x7 x8 m) (v : Int32) {s f z h p u : Nat} {y : Int32} (hs20 : s < 20) (hf : f < 6) (hz3 : z < 3) (hh : h < 4) (hp : p < 60) (hu : 1 ≤ u ∧ u ≤ 10) (hy : y = 0 ∨ y = 1) : TurnOK N (f_L_law_B664 x2 x3 x4 x5 x6 x7 x8 1 v (iI (s : Nat)) (iI (f : Nat)) (iI (z : Nat)) (iI (h : Nat)) (iI (p : Nat)) (iI (u : Nat)) y m) := by
  obtain ⟨mm, d, st, l, n, M, nb, TO, GR, na, MA, no, MO, hR, h8, h9, hd, hst, e3, hn, e4, hnb, e5, hna, e6, hno, e7, ⟨L, hL, e8, hl⟩, hm, hs, k3, k4, k5, k6, k8, hz⟩ := LInv_rel hI
  unfold f_L_law_B664
  by_cases c14 : (14 : Int32) ≤ iI (s : Nat)
  · rw [if_pos c14]
    exact t_B775 hI v (fun w => absurd c14 w) hs20 hf hz3 hh hp hu hy
  · rw [if_neg c14, ex_phase, ob_some]
    by_cases h90 : m 0 9 = 0
    · have es : st = 0 := iI_injN (h9.symm.trans h90) (by omega) (by omega)
      subst es
      obtain ⟨r, m8, c, hX, hrel, hr0, hwa, f0, f9, F, f13, h13, hc32, hs2, hgv⟩ := clear_ok hR hs.1 hL (fun k hk => by rw [k8 k hk, e8])
      have hI2 : LInv (N + 1) x2 x3 x4 x5 x6 x7 x8 m8 := ⟨hrel, d, 1, hd, by omega, by rw [f0 8 (by decide)]; exact h8, f9, by rw [F 4 (by omega) (by omega) (by omega) (by omega) (by omega) (by omega) (by omega) (by omega) (by omega)]; exact k3, by rw [f13 8 (by decide)]; exact k4, ⟨nb, hnb, e4⟩, by rw [F 45 (by omega) (by omega) (by omega) (by omega) (by omega) (by omega) (by omega) (by omega) (by omega)]; exact k5, by rw [F 55 (by omega) (by omega) (by omega) (by omega) (by omega) (by omega) (by omega) (by omega) (by omega)]; exact k6, by rw [F _ (by omega) (by omega) (by omega) (by omega) (by omega) (by omega) (by omega) (by omega) (by omega)]; exact e7, fun k hk => by rw [F 3 (by omega) (by omega) (by omega) (by omega) (by omega) (by omega) (by omega) (by omega) (by omega)]; exact k8 k hk, monN_fr hm (by rw [F 65 (by omega) (by omega) (by omega) (by omega) (by omega) (by omega) (by omega) (by omega) (by omega)]) (F 66 (by omega) (by omega) (by omega) (by omega) (by omega) (by omega) (by omega) (by omega) (by omega)) (F 67 (by omega) (by omega) (by omega) (by omega) (by omega) (by omega) (by omega) (by omega) (by omega)) (F 68 (by omega) (by omega) (by omega) (by omega) (by omega) (by omega) (by omega) (by omega) (by omega)), hs2, fun j2 h1 h2 => by rw [F _ (by omega) (by omega) (by omega) (by omega) (by omega) (by omega) (by omega) (by omega) (by omega)]; exact hz j2 h1 h2⟩
      have key : T (f_L_law_L727 m8 x5 x8 f_fuel 1 0) (fun t => t.1 = 1) := by
        rw [e5, e8]
        refine T_run2 (f_L_law_L727 m8 (iI (na : Nat)) (iI (L : Nat))) (fun k a b => a = 1 ∧ b = iI (k : Nat)) _ na 0 _ _ ⟨rfl, rfl⟩ (Nat.zero_le _) (by omega) ?_
        intro k a b f2 hJ hk hcont
        obtain ⟨e1, e2⟩ := hJ
        subst e1
        subst e2
        unfold f_L_law_L727
        rw [iI_le (by omega) (by omega) (by omega) (by omega)]
        by_cases q : (na : Int) ≤ k
        · rw [if_pos q]
          exact T_some rfl
        · obtain ⟨w, hw, ew⟩ := hgv k (by omega)
          have w0 : ¬ iI (w : Nat) < 0 := by rw [iL_0, iI_ltP (by omega) (by omega) (by omega) (by omega)]; omega
          have w1 : ¬ iI (L : Nat) < iI (w : Nat) := by rw [iI_ltP (by omega) (by omega) (by omega) (by omega)]; omega
          rw [if_neg q, i10, ew, ot_r, if_neg w0, ot_r, if_neg w1, ob_some]
          exact hcont (by omega) _ _ ⟨rfl, iI_succ k⟩
      obtain ⟨t, ft, et⟩ := key
      rw [if_pos h90, hX, ot_r]
      try simp only [ob_sm, if_true]
      rw [if_neg (nneg hr0), hwa, ot_r, if_pos rfl, ex_phase, ob_some, f9, if_pos rfl, cleared_L hI2 f9, ob_some, i10, ob_some, ft, ob_some]
      try simp only [ob_sm, if_true]
      rw [et]
      exact t_fin hI2
    · rw [if_neg h90]
      exact t_B775 hI v (fun _ => h90) hs20 hf hz3 hh hp hu hy
theorem t_B594 {N : Nat} {x2 x3 x4 x5 x6 x7 x8 : Int32} {m : gM} (hI : LInv N x2 x3 x4 x5 x6 x7 x8 m) (v : Int32) {s f z h p u : Nat} {y : Int32} (hs20 : s < 20) (hf : f < 6) (hz3 : z < 3) (hh : h < 4) (hp : p < 60) (hu : 1 ≤ u ∧ u ≤ 10) (hy : y = 0 ∨ y = 1) : TurnOK N (f_L_law_B594 x2 x3 x4 x5 x6 x7 x8 1 v (iI (s : Nat)) (iI (f : Nat)) (iI (z : Nat)) (iI (h : Nat)) (iI (p : Nat)) (iI (u : Nat)) y m) := by
  obtain ⟨mm, d, st, l, n, M, nb, TO, GR, na, MA, no, MO, hR, h8, h9, hd, hst, e3, hn, e4, hnb, e5, hna, e6, hno, e7, ⟨L, hL, e8, hl⟩, hm, hs, k3, k4, k5, k6, k8, hz⟩ := LInv_rel hI
  unfold f_L_law_B594
  by_cases c12 : (12 : Int32) ≤ iI (s : Nat)
  · rw [if_pos c12]
    exact t_B664 hI v hs20 hf hz3 hh hp hu hy
  · rw [if_neg c12, ex_phase, ob_some]
    by_cases h90 : m 0 9 = 0
    · obtain ⟨q, hq, eq⟩ := low_ok v (n := 11) (y := 11) rfl (by omega) (by omega)
      have key : T (f_L_law_L620 (iI (q : Nat)) x8 f_fuel 1 0 m) (fun t => t.1 = 1 ∧ RelC t.2.2 ∧ (∀ c, c ≠ 3 → t.2.2 c = m c) ∧ ∀ i, i < 3 → t.2.2 3 i = iI (q : Nat)) := by
        refine T_run3 (f_L_law_L620 (iI (q : Nat)) x8) (fun k a b m2 => a = 1 ∧ b = iI (k : Nat) ∧ RelC m2 ∧ (∀ c, c ≠ 3 → m2 c = m c) ∧ ∀ i, i < 3 → m2 3 i = if i < k then iI (q : Nat) else x8) _ 3 0 _ _ _ ⟨rfl, rfl, hI.1, fun _ _ => rfl, fun i hi => by rw [if_neg (by omega)]; exact k8 i hi⟩ (Nat.zero_le _) (by omega) ?_
        intro k a b m2 f2 hJ hk hcont
        obtain ⟨e1, e2, j1, j2, j3⟩ := hJ
        subst e1
        subst e2
        unfold f_L_law_L620
        rw [iL_3, iI_le (by omega) (by omega) (by omega) (by omega)]
        by_cases w : (3 : Int) ≤ k
        · rw [if_pos w]
          refine T_some ⟨rfl, j1, j2, fun i hi => ?_⟩
          have := j3 i hi
          rw [if_pos (by omega)] at this
          exact this
        · have hk3 : k < 3 := by omega
          have hX := ex_setLimit (m := m2) (k := k) (L := q) hk3 (by omega) (by rw [j2 0 (by decide)]; exact h90)
          obtain ⟨v9, hv, hv2⟩ := br_setLimit (a1 := iI (k : Nat)) (a2 := iI (q : Nat)) j1
          have hrel := hv2 _ _ (Option.some.inj (hv.symm.trans hX))
          have e0 : m2 3 k = x8 := by rw [j3 k hk3, if_neg (by omega)]
          rw [if_neg w, i10, hX, ot_r]
          try simp only [ob_sm, if_true]
          rw [if_pos e0, ob_some]
          try simp only [ob_sm, if_true]
          refine hcont (by omega) _ _ _ ⟨rfl, iI_succ k, hrel, fun c hc => by rw [g_up_ne _ _ hc]; exact j2 c hc, fun i hi => ?_⟩
          rw [g_up_at, updA]
          by_cases u1 : i = k
          · rw [if_pos u1, if_pos (by omega)]
          · rw [if_neg u1, j3 i hi]
            by_cases u2 : i < k
            · rw [if_pos u2, if_pos (by omega)]
            · rw [if_neg u2, if_neg (by omega)]
      obtain ⟨t, ft, et, j1, j2, j3⟩ := key
      rw [if_pos h90, eq, ob_some, ft, ob_some]
      try simp only [ob_sm, if_true]
      rw [et]
      exact t_fin (LInv_p0 hI h90 j1 (j2 0 (by decide)) (by rw [j2 4 (by decide)]; exact k3) (by rw [j2 13 (by decide)]; exact k4) ⟨nb, hnb, e4⟩ (by rw [j2 45 (by decide)]; exact k5) (by rw [j2 55 (by decide)]; exact k6) j3 (fun c c1 c2 => j2 c (by omega)) (fun c c1 => j2 c (by omega)))
    · rw [if_neg h90]
      exact t_B664 hI v hs20 hf hz3 hh hp hu hy
theorem tb_rm : ∀ z, z < 3 → ∀ w, w < 2 → a_rm ((iI ((z : Nat) : Int) + 1) + iI ((w : Nat) : Int)) 3 = some (iI (((z + 1 + w) % 3 : Nat) : Int)) := by decide +kernel
theorem t_B486 {N : Nat} {x2 x3 x4 x5 x6 x7 x8 : Int32} {m : gM} (hI : LInv N x2 x3 x4 x5 x6 x7 x8 m) (v : Int32) {s f z h p u : Nat} {y : Int32} (hs20 : s < 20) (hf : f < 6) (hz3 : z < 3) (hh : h < 4) (hp : p < 60) (hu : 1 ≤ u ∧ u ≤ 10) (hy : y = 0 ∨ y = 1) : TurnOK N (f_L_law_B486 x2 x3 x4 x5 x6 x7 x8 1 v (iI (s : Nat)) (iI (f : Nat)) (iI (z : Nat)) (iI (h : Nat)) (iI (p : Nat)) (iI (u : Nat)) y m) := by
  obtain ⟨mm, d, st, l, n, M, nb, TO, GR, na, MA, no, MO, hR, h8, h9, hd, hst, e3, hn, e4, hnb, e5, hna, e6, hno, e7, ⟨L, hL, e8, hl⟩, hm, hs, k3, k4, k5, k6, k8, hz⟩ := LInv_rel hI
  unfold f_L_law_B486
  by_cases c11 : (11 : Int32) ≤ iI (s : Nat)
  · rw [if_pos c11]
    exact t_B594 hI v hs20 hf hz3 hh hp hu hy
  · rw [if_neg c11, ex_phase, ob_some]
    by_cases h90 : m 0 9 = 0
    · obtain ⟨q, hq, eq⟩ := low_ok (v >>> (4 &&& 31)) (n := 2) (y := 2) rfl (by omega) (by omega)
      have h68 := mon68 hm hf
      have hF : f_X9_hasFailed (iI (f : Nat)) m = some (.inr (m 68 f)) := ex_hasFailed hf h68
      rw [if_pos h90, eq, ob_some, tb_rm z hz3 q hq, ob_some]
      have hw3 : (z + 1 + q) % 3 < 3 := by omega
      have hzw : z ≠ (z + 1 + q) % 3 := by omega
      generalize (z + 1 + q) % 3 = w at hw3 hzw ⊢
      rcases ex_ask hR.2.2.2.2.2.1.1 h90 (p := (p : Int)) (u := (u : Int)) hf hz3 hw3 hzw (by omega) (by omega) h68 with ⟨hX, ht⟩ | ⟨m2, hX, F, g8⟩
      · have eL : f_L_ask (iI (f : Nat)) (iI (z : Nat)) (iI (w : Nat)) (iI (u : Nat)) (iI (p : Nat)) m = some (-9, m) := by
          unfold f_L_ask
          rw [hX, os_l2]
          exact if_pos rfl
        rw [eL, ob_some]
        try simp only [ob_sm, if_true]
        rw [told_thr2 (x := x5) (c := 20) hF (ht.imp id (fun w => by rw [e5, w] <;> rfl)), ob_some, i32_z]
        exact t_fin (LInv_up hI)
      · have eL : f_L_ask (iI (f : Nat)) (iI (z : Nat)) (iI (w : Nat)) (iI (u : Nat)) (iI (p : Nat)) m = some (iI (na : Nat), m2) := by
          unfold f_L_ask
          rw [hX, os_r2]
          rfl
        obtain ⟨v9, hv, hv2⟩ := br_ask (a1 := iI (f : Nat)) (a2 := iI (z : Nat)) (a3 := iI (w : Nat)) (a4 := iI (u : Nat)) (a5 := iI (p : Nat)) hI.1
        have hrel : RelC m2 := hv2 _ m2 (Option.some.inj (hv.symm.trans hX))
        have n9 := ne9 (n := na) (by omega)
        rw [eL, ob_some]
        try simp only [ob_sm, if_true]
        rw [told_ok n9 e5.symm, ob_some, if_neg n9, ob_some, e5, iI_succ]
        exact t_fin (LInv_p0 hI h90 hrel (F 0 (by omega)) (by rw [F 4 (by omega)]; exact k3) (by rw [F 13 (by omega)]; exact k4) ⟨nb, hnb, e4⟩ g8 (by rw [F 55 (by omega)]; exact k6) (fun k hk => by rw [F 3 (by omega)]; exact k8 k hk) (fun c c1 c2 => F c (by omega)) (fun c c1 => F c (by omega)))
    · rw [if_neg h90]
      exact t_B594 hI v hs20 hf hz3 hh hp hu hy
theorem t_B331 {N : Nat} {x2 x3 x4 x5 x6 x7 x8 : Int32} {m : gM} (hI : LInv N x2 x3 x4 x5 x6 x7 x8 m) (v : Int32) {s f z h p u : Nat} {y : Int32} (hs20 : s < 20) (hf : f < 6) (hz3 : z < 3) (hh : h < 4) (hp : p < 60) (hu : 1 ≤ u ∧ u ≤ 10) (hy : y = 0 ∨ y = 1) : TurnOK N (f_L_law_B331 x2 x3 x4 x5 x6 x7 x8 1 v (iI (s : Nat)) (iI (f : Nat)) (iI (z : Nat)) (iI (h : Nat)) (iI (p : Nat)) (iI (u : Nat)) y m) := by
  obtain ⟨mm, d, st, l, n, M, nb, TO, GR, na, MA, no, MO, hR, h8, h9, hd, hst, e3, hn, e4, hnb, e5, hna, e6, hno, e7, ⟨L, hL, e8, hl⟩, hm, hs, k3, k4, k5, k6, k8, hz⟩ := LInv_rel hI
  unfold f_L_law_B331
  by_cases c10 : (10 : Int32) ≤ iI (s : Nat)
  · rw [if_pos c10]
    exact t_B486 hI v hs20 hf hz3 hh hp hu hy
  · rw [if_neg c10, ex_phase, ob_some]
    by_cases h90 : m 0 9 = 0
    · rw [if_pos h90]
      have n90 : (-9 : Int32) ≤ 0 := by decide
      by_cases c3 : nb = 3
      · have x3' : x4 = 3 := by rw [e4, c3]; rfl
        rw [if_pos x3', ob_some]
        try simp only [ob_sm, if_true]
        rw [if_pos x3', ob_some, i32_z, if_pos n90, ob_some]
        exact t_fin (LInv_up hI)
      · have x3' : ¬ x4 = 3 := by rw [e4, iL_3, iI_eqP (by omega) (by omega) (by omega) (by omega)]; omega
        obtain ⟨q, hq, eq⟩ := low_ok (v >>> (4 &&& 31)) (n := 15) (y := 15) rfl (by omega) (by omega)
        have h68 := mon68 hm hf
        have hF : f_X9_hasFailed (iI (f : Nat)) m = some (.inr (m 68 f)) := ex_hasFailed hf h68
        have e1q : 1 + iI (q : Nat) = iI (1 + (q : Int)) := by rw [iL_1, iI_add]
        rw [if_neg x3', eq, ob_some, e1q]
        rcases ex_block (k4.trans e4) (show nb < 3 by omega) h90 (h := 1 + (q : Int)) (p := (p : Int)) (u := (u : Int)) hf hz3 (by omega) (by omega) (by omega) hy h68 with ⟨hX, ht⟩ | ⟨m2, hX, F, g8⟩
        · have eL : f_L_block (iI (f : Nat)) (iI (z : Nat)) (iI (1 + (q : Int))) y (iI (p : Nat)) (iI (u : Nat)) m = some (-9, m) := by
            unfold f_L_block
            rw [hX, os_l2]
            exact if_pos rfl
          rw [eL, ob_some]
          try simp only [ob_sm, if_true]
          rw [if_neg x3', hF, ot_r, ht, i10, ob_some, i32_z, if_pos n90, ob_some]
          exact t_fin (LInv_up hI)
        · have eL : f_L_block (iI (f : Nat)) (iI (z : Nat)) (iI (1 + (q : Int))) y (iI (p : Nat)) (iI (u : Nat)) m = some (iI (nb : Nat), m2) := by
            unfold f_L_block
            rw [hX, os_r2]
            rfl
          obtain ⟨v9, hv, hv2⟩ := br_block (a1 := iI (f : Nat)) (a2 := iI (z : Nat)) (a3 := iI (1 + (q : Int))) (a4 := y) (a5 := iI (p : Nat)) (a6 := iI (u : Nat)) hI.1 hy
          have hrel : RelC m2 := hv2 _ m2 (Option.some.inj (hv.symm.trans hX))
          have n9 := ne9 (n := nb) (by omega)
          rw [eL, ob_some]
          try simp only [ob_sm, if_true]
          rw [told_ok n9 e4.symm, ob_some, if_neg n9, ob_some, e4, iI_succ]
          have done : ∀ m3 : gM, RelC m3 → (∀ c, c ≠ 20 → c ≠ 21 → m3 c = m2 c) → TurnOK N (f_L_law_B1341 x2 x3 (iI ((nb + 1 : Nat) : Int)) x5 x6 x7 x8 1 m3) := by
            intro m3 hr3 F3
            have F4 : ∀ c, (c < 13 ∨ 21 < c) → m3 c = m c := fun c hc => by rw [F3 c (by omega) (by omega), F c hc]
            exact t_fin (LInv_p0 hI h90 hr3 (F4 0 (by omega)) (by rw [F4 4 (by omega)]; exact k3) (by rw [F3 13 (by omega) (by omega)]; exact g8) ⟨nb + 1, by omega, rfl⟩ (by rw [F4 45 (by omega)]; exact k5) (by rw [F4 55 (by omega)]; exact k6) (fun k hk => by rw [F4 3 (by omega)]; exact k8 k hk) (fun c c1 c2 => F4 c (by omega)) (fun c c1 => F4 c (by omega)))
          by_cases c0 : nb = 0
          · have l0 : iI (nb : Nat) ≤ 0 := by rw [iL_0, iI_leP (by omega) (by omega) (by omega) (by omega)]; omega
            rw [if_pos l0, ob_some]
            exact done m2 hrel (fun _ _ _ => rfl)
          · have l0 : ¬ iI (nb : Nat) ≤ 0 := by rw [iL_0, iI_leP (by omega) (by omega) (by omega) (by omega)]; omega
            obtain ⟨q2, hq2, eq2⟩ := low_ok v (n := 2) (y := 2) rfl (by omega) (by omega)
            obtain ⟨q3, hq3, eq3⟩ := low_ok (v >>> (9 &&& 31)) (n := 4) (y := 4) rfl (by omega) (by omega)
            have hto : ∃ t : Int, -1 ≤ t ∧ t ≤ (nb : Int) - 1 ∧ (if iI (q2 : Nat) = 0 then some (-1 : Int32) else some (iI (nb : Nat) - 1)) = some (iI t) := by
              by_cases w : iI (q2 : Nat) = 0
              · exact ⟨-1, by omega, by omega, by rw [if_pos w]; rfl⟩
              · exact ⟨(nb : Int) - 1, by omega, by omega, by rw [if_neg w, iL_1, iI_sub]⟩
            obtain ⟨t, ht1, ht2, et⟩ := hto
            have e31 : iI (q3 : Nat) - 1 = iI ((q3 : Int) - 1) := by rw [iL_1, iI_sub]
            obtain ⟨m3, hL3, F3⟩ := ex_link (m := m2) (nb := nb + 1) (b := nb) (t := t) (g := (q3 : Int) - 1) g8 (by omega) (by omega) (by rw [F 0 (by omega)]; exact h90) ⟨ht1, ht2⟩ (by omega)
            obtain ⟨v10, hw, hw2⟩ := br_link (a1 := iI (nb : Nat)) (a2 := iI t) (a3 := iI ((q3 : Int) - 1)) hrel
            have hrel3 : RelC m3 := hw2 m3 (Option.some.inj (hw.symm.trans hL3))
            rw [if_neg l0, eq2, ob_some, et, ob_some, eq3, ob_some, e31, hL3, ot_r, ob_some]
            exact done m3 hrel3 F3
    · rw [if_neg h90]
      exact t_B486 hI v hs20 hf hz3 hh hp hu hy
theorem t_B238 {N : Nat} {x2 x3 x4 x5 x6 x7 x8 : Int32} {m : gM} (hI : LInv N x2 x3 x4 x5 x6 x7 x8 m) (v : Int32) {s f z h p u : Nat} {y : Int32} (hs20 : s < 20) (hf : f < 6) (hz3 : z < 3) (hh : h < 4) (hp : p < 60) (hu : 1 ≤ u ∧ u ≤ 10) (hy : y = 0 ∨ y = 1) : TurnOK N (f_L_law_B238 x2 x3 x4 x5 x6 x7 x8 1 v (iI (s : Nat)) (iI (f : Nat)) (iI (z : Nat)) (iI (h : Nat)) (iI (p : Nat)) (iI (u : Nat)) y m) := by
  obtain ⟨mm, d, st, l, n, M, nb, TO, GR, na, MA, no, MO, hR, h8, h9, hd, hst, e3, hn, e4, hnb, e5, hna, e6, hno, e7, ⟨L, hL, e8, hl⟩, hm, hs, k3, k4, k5, k6, k8, hz⟩ := LInv_rel hI
  unfold f_L_law_B238
  by_cases c9 : (9 : Int32) ≤ iI (s : Nat)
  · rw [if_pos c9]
    exact t_B331 hI v hs20 hf hz3 hh hp hu hy
  · rw [if_neg c9, ex_phase, ob_some]
    by_cases h90 : m 0 9 = 0
    · have h68 := mon68 hm hf
      have hF : f_X9_hasFailed (iI (f : Nat)) m = some (.inr (m 68 f)) := ex_hasFailed hf h68
      rw [if_pos h90]
      rcases ex_bid hR.2.2.2.1.1 h90 (p := (p : Int)) (u := (u : Int)) hf hz3 hh (by omega) (by omega) hy h68 with ⟨hX, ht⟩ | ⟨m2, hX, F, g8⟩
      · have eL : f_L_bid (iI (f : Nat)) (iI (z : Nat)) (iI (h : Nat)) y (iI (p : Nat)) (iI (u : Nat)) m = some (-9, m) := by
          unfold f_L_bid
          rw [hX, os_l2]
          exact if_pos rfl
        rw [eL, ob_some]
        try simp only [ob_sm, if_true]
        rw [told_thr2 (x := x3) (c := 40) hF (ht.imp id (fun w => by rw [e3, w] <;> rfl)), ob_some, i32_z]
        exact t_fin (LInv_up hI)
      · have eL : f_L_bid (iI (f : Nat)) (iI (z : Nat)) (iI (h : Nat)) y (iI (p : Nat)) (iI (u : Nat)) m = some (iI (n : Nat), m2) := by
          unfold f_L_bid
          rw [hX, os_r2]
          rfl
        obtain ⟨v9, hv, hv2⟩ := br_bid (a1 := iI (f : Nat)) (a2 := iI (z : Nat)) (a3 := iI (h : Nat)) (a4 := y) (a5 := iI (p : Nat)) (a6 := iI (u : Nat)) hI.1 hy
        have hrel : RelC m2 := hv2 _ m2 (Option.some.inj (hv.symm.trans hX))
        have n9 := ne9 (n := n) (by omega)
        rw [eL, ob_some]
        try simp only [ob_sm, if_true]
        rw [told_ok n9 e3.symm, ob_some, if_neg n9, ob_some, e3, iI_succ]
        exact t_fin (LInv_p0 hI h90 hrel (F 0 (by omega)) g8 (by rw [F 13 (by omega)]; exact k4) ⟨nb, hnb, e4⟩ (by rw [F 45 (by omega)]; exact k5) (by rw [F 55 (by omega)]; exact k6) (fun k hk => by rw [F 3 (by omega)]; exact k8 k hk) (fun c c1 c2 => F c (by omega)) (fun c c1 => F c (by omega)))
    · rw [if_neg h90]
      exact t_B331 hI v hs20 hf hz3 hh hp hu hy
theorem turn_ok {N : Nat} (hN : N ≤ 1000) {x2 x3 x4 x5 x6 x7 x8 : Int32} {m : gM} (hI : LInv N x2 x3 x4 x5 x6 x7 x8 m) (v : Int32) : TurnOK N (f_L_law_B70 x2 x3 x4 x5 x6 x7 x8 1 v m) := by
  obtain ⟨s, hs20, es⟩ := low_ok (v >>> (20 &&& 31)) (n := 20) (y := 20) rfl (by omega) (by omega)
  obtain ⟨f, hf, ef⟩ := low_ok v (n := 6) (y := 6) rfl (by omega) (by omega)
  obtain ⟨z, hz3, ez⟩ := low_ok (v >>> (3 &&& 31)) (n := 3) (y := 3) rfl (by omega) (by omega)
  obtain ⟨h, hh, eh⟩ := low_ok (v >>> (5 &&& 31)) (n := 4) (y := 4) rfl (by omega) (by omega)
  obtain ⟨p, hp, ep⟩ := low_ok (v >>> (7 &&& 31)) (n := 60) (y := 60) rfl (by omega) (by omega)
  obtain ⟨u, hu, eu⟩ := low_ok (v >>> (11 &&& 31)) (n := 10) (y := 10) rfl (by omega) (by omega)
  obtain ⟨b, hb, eb⟩ := low_ok (v >>> (2 &&& 31)) (n := 2) (y := 2) rfl (by omega) (by omega)
  have eu1 : 1 + iI (u : Nat) = iI ((u + 1 : Nat) : Int) := by
    rw [iL_1, iI_add]
    congr 1
    omega
  have hy : ∃ y : Int32, (y = 0 ∨ y = 1) ∧ (if iI (b : Nat) = 0 then some (1 : Int32) else some 0) = some y := by
    by_cases w : iI (b : Nat) = 0
    · exact ⟨1, Or.inr rfl, if_pos w⟩
    · exact ⟨0, Or.inl rfl, if_neg w⟩
  obtain ⟨y, hy, ey⟩ := hy
  unfold f_L_law_B70
  rw [es, ob_some, ef, ob_some, ez, ob_some, eh, ob_some, ep, ob_some, eu, ob_some, ob_some, eb, ob_some, ey, ob_some, eu1]
  by_cases c2 : (2 : Int32) ≤ iI (s : Nat)
  · rw [if_pos c2]
    exact t_B238 hI v hs20 hf hz3 hh hp (by omega) hy
  · obtain ⟨a, ha, ea⟩ := low_ok (v >>> (4 &&& 31)) (n := 500) (y := 500) rfl (by omega) (by omega)
    have ea1 : 1 + iI (a : Nat) = iI (1 + (a : Int)) := by rw [iL_1, iI_add]
    have hI' := hI
    obtain ⟨hr, d, st, hd, hst, h8, h9, k3, k4, k4', k5, k6, k7, k8, hm, hs, hz⟩ := hI'
    have h68 := mon68 hm hf
    obtain ⟨w1, w2, w3⟩ := hm.2 f hf
    rw [if_neg c2, ea, ob_some, ob_some, ea1]
    rcases ex_deposit (a := 1 + (a : Int)) hf (by omega) h68 (by omega) with ⟨q, hX⟩ | ⟨q, hX⟩
    · have eL : f_L_deposit (iI (f : Nat)) (iI (1 + (a : Int))) m = some (-9, m) := by
        unfold f_L_deposit
        rw [hX, os_l2]
        exact if_pos rfl
      rw [eL, ob_some]
      try simp only [ob_sm, if_true]
      rw [ex_hasFailed hf h68, ot_r, q, ob_some, i32_z]
      exact t_fin (LInv_up hI)
    · obtain ⟨m2, e2⟩ : ∃ m2, m2 = g_up (g_up m 67 (upd (m 67) f (m 67 f + iI (1 + (a : Int))))) 66 (upd (m 66) f (m 66 f + iI (1 + (a : Int)))) := ⟨_, rfl⟩
      rw [← e2] at hX
      have F : ∀ c, c ≠ 66 → c ≠ 67 → m2 c = m c := fun c c1 c2 => by rw [e2, g_up_ne _ _ c1, g_up_ne _ _ c2]
      have r66 : ∀ k, m2 66 k = if k = f then m 66 f + iI (1 + (a : Int)) else m 66 k := fun k => by rw [e2, g_up_at, updA]
      have r67 : ∀ k, m2 67 k = if k = f then m 67 f + iI (1 + (a : Int)) else m 67 k := fun k => by rw [e2, g_up_ne _ _ (by decide), g_up_at, updA]
      have eL : f_L_deposit (iI (f : Nat)) (iI (1 + (a : Int))) m = some (m 66 f + iI (1 + (a : Int)), m2) := by
        unfold f_L_deposit
        rw [hX, os_r2]
        rfl
      obtain ⟨v9, hv, hv2⟩ := br_deposit (a1 := iI (f : Nat)) (a2 := iI (1 + (a : Int))) hr
      have hrel : RelC m2 := hv2 _ m2 (Option.some.inj (hv.symm.trans hX))
      have hbal : 0 ≤ (m 66 f).toInt ∨ (m 66 f).toInt ≤ -2147483648 + 500 * (N : Int) := by
        rcases w1 with w | w
        · exact w.2
        · rw [q] at w
          exact absurd w.1 (by decide)
      have hrg := iI_ltR (m 66 f)
      have hnew : 0 ≤ (m 66 f + iI (1 + (a : Int))).toInt ∨ (m 66 f + iI (1 + (a : Int))).toInt ≤ -2147483648 + 500 * ((N + 1 : Nat) : Int) := by
        rw [Int32.toInt_add, iI_toInt (by omega) (by omega)]
        by_cases w : (m 66 f).toInt + (1 + (a : Int)) < 2147483648
        · rw [Int.bmod_eq_of_le (by omega) (by omega)]
          omega
        · right
          have e : ((m 66 f).toInt + (1 + (a : Int))).bmod (2 ^ 32) = (m 66 f).toInt + (1 + (a : Int)) - 4294967296 := by
            have h1 : ((m 66 f).toInt + (1 + (a : Int)) - 4294967296).bmod (2 ^ 32) = (m 66 f).toInt + (1 + (a : Int)) - 4294967296 := Int.bmod_eq_of_le (by omega) (by omega)
            rw [← h1, show (4294967296 : Int) = ((2 ^ 32 : Nat) : Int) from rfl, Int.sub_bmod_right]
          rw [e]
          omega
      have n9 : ¬ m 66 f + iI (1 + (a : Int)) = -9 := by
        intro e
        rw [e] at hnew
        have : (-9 : Int32).toInt = -9 := by decide
        omega
      have e67 : (m 67 f + iI (1 + (a : Int))).toInt = (m 67 f).toInt + (1 + (a : Int)) := by rw [Int32.toInt_add, iI_toInt (by omega) (by omega), Int.bmod_eq_of_le (by omega) (by omega)]
      have ea2 := acS_up (m := m) (m2 := m2) (p := f) (x := iI (1 + (a : Int))) (y := 0) (by rw [F 65 (by decide) (by decide), Int32.add_zero]) r66 6
      rw [if_pos hf, Int32.add_zero] at ea2
      rw [eL, ob_some]
      try simp only [ob_sm, if_true]
      rw [if_neg n9, ex_account hf, ot_r, r66, if_pos rfl, if_pos rfl, ob_some, if_neg n9, ob_some]
      refine t_fin ⟨hrel, d, st, hd, hst, by rw [F 0 (by omega) (by omega)]; exact h8, by rw [F 0 (by omega) (by omega)]; exact h9, by rw [F 4 (by omega) (by omega)]; exact k3, by rw [F 13 (by omega) (by omega)]; exact k4, k4', by rw [F 45 (by omega) (by omega)]; exact k5, by rw [F 55 (by omega) (by omega)]; exact k6, by rw [F _ (by omega) (by omega)]; exact k7, fun k hk => by rw [F 3 (by omega) (by omega)]; exact k8 k hk, ⟨by rw [ea2, hm.1], fun k hk => ?_⟩, semD_fr hs (fun j2 _ => F _ (by omega) (by omega)) (by omega) (F _ (by omega) (by omega)) (F _ (by omega) (by omega)) (F _ (by omega) (by omega)) (fun c c1 c2 => F _ (by omega) (by omega)), fun j2 h1 h2 => by rw [F _ (by omega) (by omega)]; exact hz j2 h1 h2⟩
      rw [F 68 (by omega) (by omega), r66, r67]
      obtain ⟨v1, v2, v3⟩ := hm.2 k hk
      by_cases w : k = f
      · subst w
        rw [if_pos rfl, if_pos rfl, e67]
        exact ⟨Or.inl ⟨q, hnew⟩, by omega, by omega⟩
      · rw [if_neg w, if_neg w]
        refine ⟨?_, v2, by omega⟩
        rcases v1 with ⟨u0, u1 | u1⟩ | u1
        · exact Or.inl ⟨u0, Or.inl u1⟩
        · exact Or.inl ⟨u0, Or.inr (by omega)⟩
        · exact Or.inr u1
