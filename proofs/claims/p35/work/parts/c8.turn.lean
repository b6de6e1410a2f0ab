theorem told_thr2 {F : Option (Nat ⊕ Int32)} {v x c : Int32} (hF : F = some (.inr v)) (hv : v = 1 ∨ x = c) : (ot F fun r => if r = 0 then (if x = c then some (1 : Int32) else some 0) else some 1) = some 1 := by
  rw [hF, ot_r]
  by_cases q : v = 0
  · rw [if_pos q]
    rcases hv with w | w
    · rw [w] at q; cases q
    · rw [if_pos w]
  · rw [if_neg q]
theorem LInv_up {N : Nat} {x2 x3 x4 x5 x6 x7 x8 : Int32} {m : gM} (h : LInv N x2 x3 x4 x5 x6 x7 x8 m) : LInv (N + 1) x2 x3 x4 x5 x6 x7 x8 m := by
  obtain ⟨hr, d, st, h1, h2, h3, h4, h5, h6, h7, h8, h9, h10, h11, hm, hs⟩ := h
  exact ⟨hr, d, st, h1, h2, h3, h4, h5, h6, h7, h8, h9, h10, h11, monN_fr hm rfl rfl rfl rfl, hs⟩
theorem LInv_p0 {N : Nat} {x2 x3 x4 x5 x6 x7 x8 y3 y4 y5 y6 y8 : Int32} {m m2 : gM} (hI : LInv N x2 x3 x4 x5 x6 x7 x8 m) (h90 : m 0 9 = 0) (hrel : RelC m2) (h0 : m2 0 = m 0) (e3 : m2 4 8 = y3) (e4 : m2 13 8 = y4) (e4' : ∃ nb : Nat, nb ≤ 3 ∧ y4 = iI (nb : Nat)) (e5 : m2 45 8 = y5) (e6 : m2 55 8 = y6) (h3 : ∀ k, k < 3 → m2 3 k = y8) (hac : ∀ c, 65 ≤ c → c ≤ 68 → m2 c = m c) (hday : ∀ c, 69 ≤ c → m2 c = m c) : LInv (N + 1) x2 y3 y4 y5 y6 x7 y8 m2 := by
  obtain ⟨hr, d, st, hd, hst, h8, h9, -, -, -, -, -, e7, -, hm, hs, hz⟩ := hI
  have es : st = 0 := iI_injN (h9.symm.trans h90) (by omega) (by omega)
  subst es
  exact ⟨hrel, d, 0, hd, by omega, by rw [h0]; exact h8, by rw [h0]; exact h9, e3, e4, e4', e5, e6, by rw [hday _ (by omega)]; exact e7, h3, monN_fr hm (by rw [hac 65 (by omega) (by omega)]) (hac 66 (by omega) (by omega)) (hac 67 (by omega) (by omega)) (hac 68 (by omega) (by omega)), semD_0 (posP_fr hs.1 (fun j _ => hday _ (by omega))), fun j h1 h2 => by rw [hday _ (by omega)]; exact hz j h1 h2⟩
theorem mon68 {N : Nat} {x : Int32} {m : gM} (h : monN N x m) {k : Nat} (hk : k < 6) : m 68 k = 0 ∨ m 68 k = 1 := by
  rcases (h.2 k hk).1 with w | w
  · exact Or.inl w.1
  · exact Or.inr w.1
theorem cleared_L {N : Nat} {x2 x3 x4 x5 x6 x7 x8 : Int32} {m : gM} (hI : LInv N x2 x3 x4 x5 x6 x7 x8 m) (h91 : m 0 9 = 1) : f_L_cleared x8 x4 m = some 1 := by
  obtain ⟨mm, d, st, l, n, M, nb, TO, GR, na, MA, no, MO, hR, h8, h9, hd, hst, e3, hn, e4, hnb, e5, hna, e6, hno, e7, ⟨L, hL, e8, hl⟩, hm, hs, k3, k4, k5, k6, k8, hz⟩ := LInv_rel hI
  have es : st = 1 := iI_injN (h9.symm.trans h91) (by omega) (by omega)
  subst es
  obtain ⟨a1, a2, a3, a4, a5, a6, a7, a8, a9, a10, a11, a12⟩ := id hR
  obtain ⟨c, hc, ec, _⟩ := a5.2.2.2.2.2.2.2.2 rfl
  rw [e4]
  exact cleared_ok hd h8 h91 hs (afl_of (n := 0) a3 a8) k8 a5.1 ec hc
theorem t_B1197 {N : Nat} {x2 x3 x4 x5 x6 x7 x8 : Int32} {m : gM} (hI : LInv N x2 x3 x4 x5 x6 x7 x8 m) (v : Int32) : TurnOK N (f_L_law_B1197 x2 x3 x4 x5 x6 x7 x8 1 v m) := by
  obtain ⟨mm, d, st, l, n, M, nb, TO, GR, na, MA, no, MO, hR, h8, h9, hd, hst, e3, hn, e4, hnb, e5, hna, e6, hno, e7, ⟨L, hL, e8, hl⟩, hm, hs, k3, k4, k5, k6, k8, hz⟩ := LInv_rel hI
  unfold f_L_law_B1197
  rw [ex_day, ob_some, h8, iL_0, iI_le (by omega) (by omega) (by omega) (by omega), ← iL_0]
  by_cases c : ((d : Nat) : Int) ≤ 0
  · rw [if_pos c]
    exact t_fin (LInv_up hI)
  · obtain ⟨j, hj, ej⟩ := low_ok (v >>> (9 &&& 31)) (n := d) (y := iI (d : Nat)) rfl (by omega) (by omega)
    rw [if_neg c, ob_some, ej, ob_some]
    have hacI : acI m := fun k hk => by
      rcases (hm.2 k hk).1 with w | w
      · exact Or.inl w.1
      · exact Or.inr w
    rcases run_ok hR hacI hj with hX | ⟨i, m2, hX, hi, hrel, F, hac, hk⟩
    · have eL : f_L_run (iI (j : Nat)) m = some (-9, m) := by
        unfold f_L_run
        rw [hX, os_l2]
        exact if_pos rfl
      have eLp : f_L_law_L1255 m (iI (j : Nat)) (-9) f_fuel 1 0 = some (1, 0) := by
        show f_L_law_L1255 m (iI (j : Nat)) (-9) (99999 + 1) 1 0 = some (1, 0)
        rw [f_L_law_L1255, if_neg (by decide), i10, if_pos rfl]
      rw [eL, ob_some]
      try simp only [ob_sm, if_true]
      rw [eLp, ob_some]
      exact t_fin (LInv_up hI)
    · have eL : f_L_run (iI (j : Nat)) m = some (iI (i : Nat), m2) := by
        unfold f_L_run
        rw [hX, os_r2]
        rfl
      have n9 := ne9 (n := i) (by omega)
      have n0 : ¬ iI (i : Nat) < 0 := by rw [iL_0, iI_ltP (by omega) (by omega) (by omega) (by omega)]; omega
      have n6 : ¬ 6 < iI (i : Nat) := by rw [iL_6, iI_ltP (by omega) (by omega) (by omega) (by omega)]; omega
      have key : T (f_L_law_L1255 m2 (iI (j : Nat)) (iI (i : Nat)) f_fuel 1 0) (fun t => t.1 = 1) := by
        refine T_run2 (f_L_law_L1255 m2 (iI (j : Nat)) (iI (i : Nat))) (fun k a b => a = 1 ∧ b = iI (k : Nat)) _ 6 0 _ _ ⟨rfl, rfl⟩ (Nat.zero_le _) (by omega) ?_
        intro k a b f hJ hk6 hcont
        obtain ⟨e1, e2⟩ := hJ
        subst e1
        subst e2
        unfold f_L_law_L1255
        rw [iL_6, iI_le (by omega) (by omega) (by omega) (by omega)]
        by_cases q : (6 : Int) ≤ k
        · rw [if_pos q]
          exact T_some rfl
        · have hk6 : k < 6 := by omega
          rw [if_neg q, i10, if_neg n9]
          rcases hk k hk6 with ⟨u1, u2, v9, u3, u4⟩ | ⟨u1, u2⟩
          · rw [ex_hasFailed hk6 (Or.inl u1), ot_r, if_pos u1, ex_account hk6, ot_r, if_neg (nneg u2), u3, ot_r, u4, ot_r, if_pos rfl, ob_some]
            exact hcont (by omega) _ _ ⟨rfl, iI_succ k⟩
          · rw [ex_hasFailed hk6 (Or.inr u1), ot_r, u1, i10, ex_account hk6, ot_r, if_pos u2, ob_some]
            exact hcont (by omega) _ _ ⟨rfl, iI_succ k⟩
      obtain ⟨t, ft, et⟩ := key
      rw [eL, ob_some]
      try simp only [ob_sm, if_true]
      rw [if_neg n9, if_neg n0, if_neg n6, ob_some, ft, ob_some]
      try simp only [ob_sm, if_true]
      rw [et]
      refine t_fin ⟨hrel, d, st, hd, hst, by rw [F 0 (by omega) (by omega) (by omega) (by omega) (by omega)]; exact h8, by rw [F 0 (by omega) (by omega) (by omega) (by omega) (by omega)]; exact h9, by rw [F 4 (by omega) (by omega) (by omega) (by omega) (by omega)]; exact k3, by rw [F 13 (by omega) (by omega) (by omega) (by omega) (by omega)]; exact k4, ⟨nb, hnb, e4⟩, by rw [F 45 (by omega) (by omega) (by omega) (by omega) (by omega)]; exact k5, by rw [F 55 (by omega) (by omega) (by omega) (by omega) (by omega)]; exact k6, by rw [F _ (by omega) (by omega) (by omega) (by omega) (by omega)]; exact e7, fun k hk => by rw [F 3 (by omega) (by omega) (by omega) (by omega) (by omega)]; exact k8 k hk, ⟨hac.trans hm.1, fun k hk6 => ?_⟩, semD_fr hs (fun j2 _ => F _ (by omega) (by omega) (by omega) (by omega) (by omega)) (by omega) (F _ (by omega) (by omega) (by omega) (by omega) (by omega)) (F _ (by omega) (by omega) (by omega) (by omega) (by omega)) (F _ (by omega) (by omega) (by omega) (by omega) (by omega)) (fun c c1 c2 => F _ (by omega) (by omega) (by omega) (by omega) (by omega)), fun j2 h1 h2 => by rw [F _ (by omega) (by omega) (by omega) (by omega) (by omega)]; exact hz j2 h1 h2⟩
      rw [F 67 (by omega) (by omega) (by omega) (by omega) (by omega)]
      obtain ⟨_, w2, w3⟩ := hm.2 k hk6
      refine ⟨?_, w2, by omega⟩
      rcases hk k hk6 with ⟨u1, u2, _⟩ | u
      · exact Or.inl ⟨u1, Or.inl u2⟩
      · exact Or.inr u
theorem t_B1066 {N : Nat} {x2 x3 x4 x5 x6 x7 x8 : Int32} {m : gM} (hI : LInv N x2 x3 x4 x5 x6 x7 x8 m) (v : Int32) {s f z h : Nat} (hs20 : s < 20) (hf : f < 6) (hz3 : z < 3) (hh : h < 4) : TurnOK N (f_L_law_B1066 x2 x3 x4 x5 x6 x7 x8 1 v (iI (s : Nat)) (iI (f : Nat)) (iI (z : Nat)) (iI (h : Nat)) m) := by
  obtain ⟨mm, d, st, l, n, M, nb, TO, GR, na, MA, no, MO, hR, h8, h9, hd, hst, e3, hn, e4, hnb, e5, hna, e6, hno, e7, ⟨L, hL, e8, hl⟩, hm, hs, k3, k4, k5, k6, k8, hz⟩ := LInv_rel hI
  unfold f_L_law_B1066
  by_cases c17 : (17 : Int32) ≤ iI (s : Nat)
  · rw [if_pos c17]
    exact t_B1197 hI v
  · rw [if_neg c17, ex_day, ob_some, h8, iL_0, iI_le (by omega) (by omega) (by omega) (by omega), ← iL_0]
    by_cases c : ((d : Nat) : Int) ≤ 0
    · rw [if_pos c]
      exact t_B1197 hI v
    · obtain ⟨j, hj, ej⟩ := low_ok (v >>> (9 &&& 31)) (n := d) (y := iI (d : Nat)) rfl (by omega) (by omega)
      obtain ⟨q, hq, eq⟩ := low_ok (v >>> (4 &&& 31)) (n := 41) (y := 41) rfl (by omega) (by omega)
      obtain ⟨m2, hX, F⟩ := ex_read (m := m) (p := (q : Int) - 20) hd h8 hj hf hz3 hh (by omega)
      obtain ⟨v9, hv, hv2⟩ := br_read (a1 := iI (j : Nat)) (a2 := iI (f : Nat)) (a3 := iI (z : Nat)) (a4 := iI (h : Nat)) (a5 := iI ((q : Int) - 20)) hI.1
      have hrel : RelC m2 := hv2 _ m2 (Option.some.inj (hv.symm.trans hX))
      have hI2 : LInv (N + 1) x2 x3 x4 x5 x6 x7 x8 m2 := ⟨hrel, d, st, hd, hst, by rw [F 0 (by omega)]; exact h8, by rw [F 0 (by omega)]; exact h9, by rw [F 4 (by omega)]; exact k3, by rw [F 13 (by omega)]; exact k4, ⟨nb, hnb, e4⟩, by rw [F 45 (by omega)]; exact k5, by rw [F 55 (by omega)]; exact k6, by rw [F _ (by omega)]; exact e7, fun k hk => by rw [F 3 (by omega)]; exact k8 k hk, monN_fr hm (by rw [F 65 (by omega)]) (F 66 (by omega)) (F 67 (by omega)) (F 68 (by omega)), semD_fr hs (fun j2 _ => F _ (by omega)) (by omega) (F _ (by omega)) (F _ (by omega)) (F _ (by omega)) (fun c c1 c2 => F _ (by omega)), fun j2 h1 h2 => by rw [F _ (by omega)]; exact hz j2 h1 h2⟩
      obtain ⟨mm', d', st', l', n', M', nb', TO', GR', na', MA', no', MO', hR', h8', -⟩ := LInv_rel hI2
      have ed : d' = d := iI_injN (h8'.symm.trans (by rw [F 0 (by omega)]; exact h8)) (by have := hR'.1.1; omega) (by omega)
      subst ed
      have hs2 : semD d' st m2 := semD_fr hs (fun j2 _ => F _ (by omega)) (by omega) (F _ (by omega)) (F _ (by omega)) (F _ (by omega)) (fun c c1 c2 => F _ (by omega))
      obtain ⟨g, w, eg, ew, g1, g2⟩ := gap_ok hR' hs2.1 hj hh
      have e20 : iI (q : Nat) - 20 = iI ((q : Int) - 20) := by rw [iL_20, iI_sub]
      have epl := ex_plan (m := m2) (j := j) hd h8' (by omega) hf hz3 hh
      rw [F _ (by omega)] at epl
      rw [if_neg c, ob_some, ej, ob_some, eq, ob_some, ob_some, e20, hX, ot_r]
      try simp only [ob_sm, if_true]
      rw [epl, ot_r, if_pos rfl, ob_some, i10, eg, ot_r]
      by_cases cg : g = 0
      · rw [if_pos cg, ob_some, ew, ot_r, g1 cg, if_pos (by decide), ob_some, if_pos rfl, ob_some]
        exact t_fin hI2
      · rw [if_neg cg, ob_some, ew, ot_r, if_neg (nneg (g2 cg)), ob_some, if_pos rfl, ob_some]
        exact t_fin hI2
theorem t_B978 {N : Nat} {x2 x3 x4 x5 x6 x7 x8 : Int32} {m : gM} (hI : LInv N x2 x3 x4 x5 x6 x7 x8 m) (v : Int32) {s f z h p u : Nat} {y : Int32} (hs20 : s < 20) (hf : f < 6) (hz3 : z < 3) (hh : h < 4) (hp : p < 60) (hu : 1 ≤ u ∧ u ≤ 10) (hy : y = 0 ∨ y = 1) : TurnOK N (f_L_law_B978 x2 x3 x4 x5 x6 x7 x8 1 v (iI (s : Nat)) (iI (f : Nat)) (iI (z : Nat)) (iI (h : Nat)) (iI (p : Nat)) (iI (u : Nat)) y m) := by
  obtain ⟨mm, d, st, l, n, M, nb, TO, GR, na, MA, no, MO, hR, h8, h9, hd, hst, e3, hn, e4, hnb, e5, hna, e6, hno, e7, ⟨L, hL, e8, hl⟩, hm, hs, k3, k4, k5, k6, k8, hz⟩ := LInv_rel hI
  unfold f_L_law_B978
  by_cases c15 : (15 : Int32) ≤ iI (s : Nat)
  · rw [if_pos c15]
    exact t_B1066 hI v hs20 hf hz3 hh
  · rw [if_neg c15]
    obtain ⟨ka, MD, hAd⟩ := hR.2.2.2.2.2.2.2.2.2.2.1 d (by omega)
    have hA := adC_of (show d < 10 by omega) hAd
    have hka : x7 = iI (ka : Nat) := e7.symm.trans hA.2.1
    have hka30 := hA.2.2.1
    have h68 := mon68 hm hf
    have hF : f_X9_hasFailed (iI (f : Nat)) m = some (.inr (m 68 f)) := ex_hasFailed hf h68
    rcases ex_aid hd h8 hA (p := (p : Int)) (u := (u : Int)) hf hh (by omega) (by omega) hy h68 with ⟨hX, ht⟩ | ⟨m2, hX, F, g8⟩
    · have eL : f_L_aid (iI (f : Nat)) (iI (h : Nat)) y (iI (p : Nat)) (iI (u : Nat)) m = some (-9, m) := by
        unfold f_L_aid
        rw [hX, os_l2]
        exact if_pos rfl
      rw [eL, ob_some]
      try simp only [ob_sm, if_true]
      rw [told_thr2 (x := x7) (c := 30) hF (ht.imp id (fun w => by rw [hka, w] <;> rfl)), ob_some, i32_z]
      exact t_fin (LInv_up hI)
    · have eL : f_L_aid (iI (f : Nat)) (iI (h : Nat)) y (iI (p : Nat)) (iI (u : Nat)) m = some (iI (ka : Nat), m2) := by
        unfold f_L_aid
        rw [hX, os_r2]
        rfl
      obtain ⟨v9, hv, hv2⟩ := br_aid (a1 := iI (f : Nat)) (a2 := iI (h : Nat)) (a3 := y) (a4 := iI (p : Nat)) (a5 := iI (u : Nat)) hI.1 hy
      have hrel : RelC m2 := hv2 _ m2 (Option.some.inj (hv.symm.trans hX))
      have n9 := ne9 (n := ka) (by omega)
      rw [eL, ob_some]
      try simp only [ob_sm, if_true]
      rw [told_ok n9 hka.symm, ob_some, if_neg n9, ob_some, hka, iI_succ]
      exact t_fin ⟨hrel, d, st, hd, hst, by rw [F 0 (by omega)]; exact h8, by rw [F 0 (by omega)]; exact h9, by rw [F 4 (by omega)]; exact k3, by rw [F 13 (by omega)]; exact k4, ⟨nb, hnb, e4⟩, by rw [F 45 (by omega)]; exact k5, by rw [F 55 (by omega)]; exact k6, g8, fun k hk => by rw [F 3 (by omega)]; exact k8 k hk, monN_fr hm (by rw [F 65 (by omega)]) (F 66 (by omega)) (F 67 (by omega)) (F 68 (by omega)), semD_fr hs (fun j2 _ => F _ (by omega)) (by omega) (F _ (by omega)) (F _ (by omega)) (F _ (by omega)) (fun c c1 c2 => F _ (by omega)), fun j2 h1 h2 => by rw [F _ (by omega)]; exact hz j2 h1 h2⟩
theorem t_B908 {N : Nat} {x2 x3 x4 x5 x6 x7 x8 : Int32} {m : gM} (hI : LInv N x2 x3 x4 x5 x6 x7 x8 m) (v : Int32) {s f z h p u : Nat} {y : Int32} (hph : ¬ (14 : Int32) ≤ iI (s : Nat) → ¬ m 0 9 = 0) (hs20 : s < 20) (hf : f < 6) (hz3 : z < 3) (hh : h < 4) (hp : p < 60) (hu : 1 ≤ u ∧ u ≤ 10) (hy : y = 0 ∨ y = 1) : TurnOK N (f_L_law_B908 x2 x3 x4 x5 x6 x7 x8 1 v (iI (s : Nat)) (iI (f : Nat)) (iI (z : Nat)) (iI (h : Nat)) (iI (p : Nat)) (iI (u : Nat)) y m) := by
  obtain ⟨mm, d, st, l, n, M, nb, TO, GR, na, MA, no, MO, hR, h8, h9, hd, hst, e3, hn, e4, hnb, e5, hna, e6, hno, e7, ⟨L, hL, e8, hl⟩, hm, hs, k3, k4, k5, k6, k8, hz⟩ := LInv_rel hI
  unfold f_L_law_B908
  by_cases c14 : (14 : Int32) ≤ iI (s : Nat)
  · rw [if_pos c14]
    exact t_B978 hI v hs20 hf hz3 hh hp hu hy
  · have h90 := hph c14
    have es : st = 1 := by
      have : st = 0 ∨ st = 1 := by omega
      rcases this with w | w
      · exact absurd (by rw [h9, w]; rfl) h90
      · exact w
    subst es
    have h91 : m 0 9 = 1 := h9
    rw [if_neg c14, ex_day, ob_some, h8]
    by_cases c9 : d = 9
    · have e9 : iI (d : Nat) = (9 : Int32) := by rw [c9]; rfl
      rw [if_pos e9, ob_some]
      try simp only [ob_sm, if_true]
      rw [i10, ex_phase, ob_some, if_neg h90]
      exact t_fin (LInv_up hI)
    · have e9 : ¬ iI (d : Nat) = (9 : Int32) := by rw [iL_9, iI_eqP (by omega) (by omega) (by omega) (by omega)]; omega
      obtain ⟨m2, hX, F, g8, g9, g4, g13, g45, g55⟩ := ex_close (show d < 9 by omega) h8 h91
      obtain ⟨v9, hv, hv2⟩ := br_close hI.1
      have hrel : RelC m2 := hv2 _ m2 (Option.some.inj (hv.symm.trans hX))
      rw [if_neg e9, hX, ot_r]
      try simp only [ob_sm, if_true]
      rw [ex_day, ob_some, g8, if_pos rfl, ex_phase, ob_some, g9, if_pos rfl, ob_some]
      try simp only [ob_sm, if_true]
      rw [i10, ex_phase, ob_some, g9, if_pos rfl]
      refine t_fin ⟨hrel, d + 1, 0, by omega, by omega, g8, g9, g4, g13, ⟨0, by omega, rfl⟩, g45, g55, ?_, fun k hk => by rw [F 3 (by omega) (by omega) (by omega) (by omega) (by omega)]; exact k8 k hk, monN_fr hm (by rw [F 65 (by omega) (by omega) (by omega) (by omega) (by omega)]) (F 66 (by omega) (by omega) (by omega) (by omega) (by omega)) (F 67 (by omega) (by omega) (by omega) (by omega) (by omega)) (F 68 (by omega) (by omega) (by omega) (by omega) (by omega)), semD_0 (posP_fr hs.1 (fun j2 _ => F _ (by omega) (by omega) (by omega) (by omega) (by omega))), fun j2 h1 h2 => by rw [F _ (by omega) (by omega) (by omega) (by omega) (by omega)]; exact hz j2 (by omega) h2⟩
      rw [F _ (by omega) (by omega) (by omega) (by omega) (by omega)]
      exact hz (d + 1) (by omega) (by omega)
theorem t_B775 {N : Nat} {x2 x3 x4 x5 x6 x7 x8 : Int32} {m : gM} (hI : LInv N x2 x3 x4 x5 x6 x7 x8 m) (v : Int32) {s f z h p u : Nat} {y : Int32} (hph : ¬ (14 : Int32) ≤ iI (s : Nat) → ¬ m 0 9 = 0) (hs20 : s < 20) (hf : f < 6) (hz3 : z < 3) (hh : h < 4) (hp : p < 60) (hu : 1 ≤ u ∧ u ≤ 10) (hy : y = 0 ∨ y = 1) : TurnOK N (f_L_law_B775 x2 x3 x4 x5 x6 x7 x8 1 v (iI (s : Nat)) (iI (f : Nat)) (iI (z : Nat)) (iI (h : Nat)) (iI (p : Nat)) (iI (u : Nat)) y m) := by
  obtain ⟨mm, d, st, l, n, M, nb, TO, GR, na, MA, no, MO, hR, h8, h9, hd, hst, e3, hn, e4, hnb, e5, hna, e6, hno, e7, ⟨L, hL, e8, hl⟩, hm, hs, k3, k4, k5, k6, k8, hz⟩ := LInv_rel hI
  unfold f_L_law_B775
  by_cases c12 : (12 : Int32) ≤ iI (s : Nat)
  · rw [if_pos c12]
    exact t_B908 hI v hph hs20 hf hz3 hh hp hu hy
  · have c14 : ¬ (14 : Int32) ≤ iI (s : Nat) := by
      rw [iL_12, iI_leP (by omega) (by omega) (by omega) (by omega)] at c12
      rw [show (14 : Int32) = iI 14 from rfl, iI_leP (by omega) (by omega) (by omega) (by omega)]
      omega
    have h90 := hph c14
    have es : st = 1 := by
      have : st = 0 ∨ st = 1 := by omega
      rcases this with w | w
      · exact absurd (by rw [h9, w]; rfl) h90
      · exact w
    subst es
    have h91 : m 0 9 = 1 := h9
    have h68 := mon68 hm hf
    have hF : f_X9_hasFailed (iI (f : Nat)) m = some (.inr (m 68 f)) := ex_hasFailed hf h68
    rw [if_neg c12]
    rcases offer_ok hR hs (p := (p : Int)) (u := (u : Int)) hf hz3 hh (by omega) (by omega) hy with ⟨hX, ht⟩ | ⟨m2, hX, hrel, F, g8, hs2, hl2, hn2, hu2⟩
    · have eL : f_L_offer (iI (f : Nat)) (iI (z : Nat)) (iI (h : Nat)) y (iI (p : Nat)) (iI (u : Nat)) m = some (-9, m) := by
        unfold f_L_offer
        rw [hX, os_l2]
        exact if_pos rfl
      rw [eL, ob_some]
      try simp only [ob_sm, if_true]
      rw [told_thr2 (x := x6) (c := 60) hF (ht.imp id (fun w => by rw [e6, w] <;> rfl)), ob_some, i32_z, i10, cleared_L hI h91, ob_some, i10, ob_some]
      exact t_fin (LInv_up hI)
    · have eL : f_L_offer (iI (f : Nat)) (iI (z : Nat)) (iI (h : Nat)) y (iI (p : Nat)) (iI (u : Nat)) m = some (iI (no : Nat), m2) := by
        unfold f_L_offer
        rw [hX, os_r2]
        rfl
      have n9 := ne9 (n := no) (by omega)
      have nu : ¬ iI (u : Nat) < m2 62 no := by
        rw [Int32.lt_iff_toInt_lt, iI_toInt (by omega) (by omega)]
        omega
      have hI2 : LInv (N + 1) x2 x3 x4 x5 (iI ((no + 1 : Nat) : Int)) x7 x8 m2 := ⟨hrel, d, 1, hd, hst, by rw [F 0 (by omega) (by omega) (by omega) (by omega)]; exact h8, by rw [F 0 (by omega) (by omega) (by omega) (by omega)]; exact h9, by rw [F 4 (by omega) (by omega) (by omega) (by omega)]; exact k3, by rw [F 13 (by omega) (by omega) (by omega) (by omega)]; exact k4, ⟨nb, hnb, e4⟩, by rw [F 45 (by omega) (by omega) (by omega) (by omega)]; exact k5, g8, by rw [F _ (by omega) (by omega) (by omega) (by omega)]; exact e7, fun k hk => by rw [F 3 (by omega) (by omega) (by omega) (by omega)]; exact k8 k hk, monN_fr hm (by rw [F 65 (by omega) (by omega) (by omega) (by omega)]) (F 66 (by omega) (by omega) (by omega) (by omega)) (F 67 (by omega) (by omega) (by omega) (by omega)) (F 68 (by omega) (by omega) (by omega) (by omega)), hs2, fun j2 h1 h2 => by rw [F _ (by omega) (by omega) (by omega) (by omega)]; exact hz j2 h1 h2⟩
      rw [eL, ob_some]
      try simp only [ob_sm, if_true]
      rw [if_neg n9, if_pos e6.symm, hl2, ot_r, if_neg (nneg hn2), ot_r, if_neg nu, ob_some, if_neg n9, ob_some, i10, cleared_L hI2 (by rw [F 0 (by omega) (by omega) (by omega) (by omega)]; exact h91), ob_some, i10, ob_some, e6, iI_succ]
      exact t_fin hI2
