theorem lesser_min (x y : Int32) : f_X10_lesser x y = some (a_min x y) := by
  obtain ⟨a, ea, a1, a2⟩ := iI_ex x
  obtain ⟨b, eb, b1, b2⟩ := iI_ex y
  subst ea
  subst eb
  unfold f_X10_lesser
  rw [a_minI a1 a2 b1 b2, iI_le b1 b2 a1 a2]
  by_cases c : b ≤ a
  · rw [if_pos c, ob_some, Int.min_eq_right c]
  · rw [if_neg c, ob_some, Int.min_eq_left (by omega)]
theorem greater_max (x y : Int32) : f_X10_greater x y = some (a_max x y) := by
  obtain ⟨a, ea, a1, a2⟩ := iI_ex x
  obtain ⟨b, eb, b1, b2⟩ := iI_ex y
  subst ea
  subst eb
  unfold f_X10_greater
  rw [a_maxI a1 a2 b1 b2, iI_le a1 a2 b1 b2]
  by_cases c : a ≤ b
  · rw [if_pos c, ob_some, Int.max_eq_right c]
  · rw [if_neg c, ob_some, Int.max_eq_left (by omega)]
theorem amin_as (x y z : Int32) : a_min (a_min x y) z = a_min x (a_min y z) := by
  obtain ⟨a, ea, a1, a2⟩ := iI_ex x
  obtain ⟨b, eb, b1, b2⟩ := iI_ex y
  obtain ⟨c, ec, c1, c2⟩ := iI_ex z
  subst ea
  subst eb
  subst ec
  rw [a_minI a1 a2 b1 b2, a_minI b1 b2 c1 c2, a_minI (by omega) (by omega) c1 c2, a_minI a1 a2 (by omega) (by omega)]
  congr 1
  omega
theorem amax_as (x y z : Int32) : a_max (a_max x y) z = a_max x (a_max y z) := by
  obtain ⟨a, ea, a1, a2⟩ := iI_ex x
  obtain ⟨b, eb, b1, b2⟩ := iI_ex y
  obtain ⟨c, ec, c1, c2⟩ := iI_ex z
  subst ea
  subst eb
  subst ec
  rw [a_maxI a1 a2 b1 b2, a_maxI b1 b2 c1 c2, a_maxI (by omega) (by omega) c1 c2, a_maxI a1 a2 (by omega) (by omega)]
  congr 1
  omega
def fmF (gap : Int32) (pr : Nat → Int32) (x : Int32) : Nat → Int32
  | 0 => x
  | z + 1 => if 0 ≤ gap then a_min (fmF gap pr x z) (pr z) else a_max (fmF gap pr x z) (pr z)
theorem sp_L103 {j h : Nat} {m : gM} {gap x : Int32} {pr : Nat → Int32} (hh : h < 4) (hP : ∀ z, z < 3 → m (69 + 16 * j + 1) (4 * z + h) = pr z) : T (f_X5_priceOfGap_L103 (69 + 16 * j) m (iI (h : Nat)) gap f_fuel x 0) (fun t => t.1 = fmF gap pr x 3) := by
  refine T_run2 (f_X5_priceOfGap_L103 (69 + 16 * j) m (iI (h : Nat)) gap) (fun z y w => y = fmF gap pr x z ∧ w = iI (z : Nat)) _ 3 0 _ _ ⟨rfl, rfl⟩ (Nat.zero_le _) (by omega) ?_
  intro z y w f hI hz hcont
  obtain ⟨e1, e2⟩ := hI
  subst e1
  subst e2
  unfold f_X5_priceOfGap_L103
  have h3 : (3 ≤ iI (z : Nat)) = ((3 : Int) ≤ (z : Nat)) := by rw [iL_3, iI_leP (by omega) (by omega) (by omega) (by omega)]
  by_cases c : (3 : Int) ≤ z
  · rw [if_pos (by rw [h3]; exact c)]
    have e : z = 3 := by omega
    subst e
    exact T_some rfl
  · rw [if_neg (by rw [h3]; exact c), sp_spot, ob_some, a_ldI (by omega) (by omega) (by omega), ob_some, show (((z : Nat) : Int) * 4 + (h : Nat)).toNat = 4 * z + h by omega, hP z (by omega)]
    by_cases q : 0 ≤ gap
    · rw [if_pos q, ob_some]
      exact hcont (by omega) _ _ ⟨by show _ = if 0 ≤ gap then _ else _; rw [if_pos q], iI_succ z⟩
    · rw [if_neg q, ob_some]
      exact hcont (by omega) _ _ ⟨by show _ = if 0 ≤ gap then _ else _; rw [if_neg q], iI_succ z⟩
def bH (j na : Nat) (MD : List Nat) (mc mm : gM) : Prop := j < 10 ∧ rAd j na MD mc mm ∧ prE j mc mm ∧ (∀ i, i < 72 → mc (69 + 16 * j + 4) i = gpM mm (72 * j + i)) ∧ ∀ i, i < 72 → rg (mc (69 + 16 * j + 4) i) (-100200) 100200
theorem bH_fr {j na : Nat} {MD : List Nat} {mc mm mc2 mm2 : gM} (h : bH j na MD mc mm) (hc : ∀ c, 69 + 16 * j + 1 ≤ c → c ≤ 69 + 16 * j + 15 → c ≠ 69 + 16 * j + 5 → c ≠ 69 + 16 * j + 6 → mc2 c = mc c) (hm : ∀ c, 34 ≤ c → c ≤ 44 → c ≠ 40 → mm2 c = mm c) : bH j na MD mc2 mm2 := by
  obtain ⟨a1, a2, a3, a4, a5⟩ := h
  refine ⟨a1, rAd_fr a2 (fun c x y => hc c (by omega) y (by omega) (by omega)) (fun c x y => hm c x (by omega) (by omega)), fun i hi => by rw [hc _ (by omega) (by omega) (by omega) (by omega), hm 41 (by decide) (by decide) (by decide)]; exact a3 i hi, fun i hi => ?_, fun i hi => by rw [hc _ (by omega) (by omega) (by omega) (by omega)]; exact a5 i hi⟩
  unfold gpM at *
  rw [hc _ (by omega) (by omega) (by omega) (by omega), hm 42 (by decide) (by decide) (by decide), hm 43 (by decide) (by decide) (by decide), hm 44 (by decide) (by decide) (by decide)]
  exact a4 i hi
theorem usz {fr : Nat → Int32} {G : Nat → Nat} {p : Int32} : ∀ B : List Nat, (∀ k, k ∈ B → G k = 0) → (B.map (usF fr G p)).sum = 0 := by
  intro B
  induction B with
  | nil => intro _; rfl
  | cons a B ih =>
    intro hB
    rw [List.map_cons, List.sum_cons, ih (fun k hk => hB k (List.mem_cons_of_mem _ hk))]
    unfold usF
    rw [hB a List.mem_cons_self]
    by_cases q : fr a = p
    · rw [if_pos q]; rfl
    · rw [if_neg q]; rfl
theorem sim_price {j na h : Nat} {MD : List Nat} {mc mm : gM} (hB : bH j na MD mc mm) (hh : h < 4) {gap : Int32} (hgap : gap = gA (fun i => gpM mm (72 * j + i)) h 6) : ∃ (v : Int32) (row : Nat → Int32) (ug : Nat → Nat), f_X10_helps (iI (j : Nat)) (iI (h : Nat)) mm = some (if gap = 0 then -1 else v, g_up mm 40 row) ∧ (gap ≠ 0 → f_X5_priceOfGap (69 + 16 * j) (iI (h : Nat)) gap mc = some v) ∧ (∀ k, k < na → row (30 * j + k) = iI (ug k : Nat)) ∧ (gap = 0 → ∀ k, ug k = 0) ∧ ∀ p : Int32, f_X5_unitsUsed (69 + 16 * j) p (iI (h : Nat)) gap mc = some (iI (isum na (usF (mc (69 + 16 * j + 7 + 1)) ug p))) := by
  obtain ⟨hj, hR, hP, hg, hgr⟩ := hB
  have hA := adC_of hj hR
  have hgr2 : rg gap (-2000000) 2000000 := by
    rw [hgap]
    exact gA_rng (fun i hi => by rw [← hg i hi]; exact hgr i hi) hh
  obtain ⟨gv, egv, gv1, gv2⟩ := rg_ex hgr2
  have hin := sp_gapMM (mm := mm) (g := fun i => gpM mm (72 * j + i)) hj (fun i _ => rfl) hh
  rw [← hgap] at hin
  have hna : na ≤ 30 := hR.2.2.1
  -- the need
  obtain ⟨need, hneed⟩ : ∃ need : Nat, (need : Int) = aI gv := ⟨(aI gv).toNat, by have := (aI_rng (a := gv) (B := 2000000) gv1 gv2).1; omega⟩
  have hneed2 := aI_rng (a := gv) (B := 2000000) gv1 gv2
  have haw : f_X10_away gap = some (iI (need : Nat)) := by rw [egv, sp_away (by omega) (by omega), hneed]
  have habs : a_abs gap = iI (need : Nat) := by rw [egv, a_absI (by omega) (by omega), hneed]
  have e0le : (0 ≤ gap) = (0 ≤ gv) := by rw [egv, iL_0, iI_leP (by omega) (by omega) (by omega) (by omega)]
  have ele0 : (gap ≤ 0) = (gv ≤ 0) := by rw [egv, le0 (by omega) (by omega)]
  have eeq0 : (gap = 0) = (gv = 0) := by rw [egv, eq0 (by omega) (by omega)]
  obtain ⟨t69, g69, row0, z1, z2⟩ := sp_zero40 (m := mm) hj
  obtain ⟨y8, m9⟩ := t69
  have z1 : m9 = g_up mm 40 row0 := z1
  have hR9 : rAd j na MD mc m9 := rAd_fr hR (fun c _ _ => rfl) (fun c x y => by rw [z1, g_up_ne _ _ (by omega)])
  have hz40 : ∀ k, k < 30 → m9 40 (30 * j + k) = 0 := fun k hk => by rw [z1, g_up_at]; exact z2 k hk
  have f41 : ∀ (row : Nat → Int32) (z : Nat), z < 3 → a_ld 120 41 (iI ((12 * j + (4 * z + h) : Nat) : Int)) (g_up mm 40 row) = some (mm 41 (12 * j + (4 * z + h))) := by
    intro row z hz
    rw [a_ldI (by omega) (by omega) (by omega), Int.toNat_natCast, g_up_ne _ _ (by decide)]
  have i0 : (12 : Int32) * iI (j : Nat) + iI (h : Nat) = iI ((12 * j + (4 * 0 + h) : Nat) : Int) := by
    rw [iL_12, iI_mul, iI_add]
    congr 1
    omega
  have i1 : (12 : Int32) * iI (j : Nat) + 4 + iI (h : Nat) = iI ((12 * j + (4 * 1 + h) : Nat) : Int) := by
    rw [iL_12, iL_4, iI_mul, iI_add, iI_add]
    congr 1
    omega
  have i2 : (12 : Int32) * iI (j : Nat) + 8 + iI (h : Nat) = iI ((12 * j + (4 * 2 + h) : Nat) : Int) := by
    rw [iL_12, iL_8, iI_mul, iI_add, iI_add]
    congr 1
    omega
  have e30 : (30 : Int32) * iI (j : Nat) = iI ((30 * j : Nat) : Int) := by rw [iL_30, iI_mul]; rfl
  by_cases hz0 : gv = 0
  · -- no gap
    have hgz : gap = 0 := by rw [eeq0]; exact hz0
    have hneed0 : need = 0 := by
      rw [hz0] at hneed
      have : aI 0 = 0 := rfl
      omega
    obtain ⟨t68, g68, s1, s2, row1, s3, s4⟩ := sp_helpsM (mc := mc) (mm := m9) (z4 := 0) (b := 1) (need := need) hj hh hR9 (Or.inr ⟨rfl, rfl⟩) (by omega) hz40
    obtain ⟨y16, y17, y18, m19⟩ := t68
    have s3 : m19 = g_up m9 40 row1 := s3
    have hG0 : ∀ (L : List Nat), ∀ k, (rs (dP mc (69 + 16 * j + 7)) (dU mc (69 + 16 * j + 7)) need (-1) L).2.2.2 k = 0 := by
      intro L k
      have hz := rs_z (P := dP mc (69 + 16 * j + 7)) (U := dU mc (69 + 16 * j + 7)) (q0 := need) (p0 := -1) (A := []) hneed0 L
      rw [List.nil_append] at hz
      by_cases q : k ∈ L
      · exact hz.2.2.2 k q
      · rw [hz.2.2.1 k q]; rfl
    refine ⟨0, row1, fun _ => 0, ?_, fun h9 => absurd hgz h9, fun k hk => ?_, fun _ _ => rfl, fun p => ?_⟩
    · unfold f_X10_helps
      rw [hin, ob_some, haw, ob_some, if_pos (by rw [e0le]; omega), ob_some, e30, ob_some, g69, ob_some, ob_some, ob_some, g68]
      simp only [ob_sm]
      rw [if_pos hgz, if_pos hgz, s3, z1, g_up2]
    · rw [s4 k hk]
      by_cases q : k ∈ Lh mc (69 + 16 * j + 7) MD (iI (h : Nat)) 1
      · rw [if_pos q, hG0]
      · rw [if_neg q]; rfl
    · obtain ⟨t23, g23, u1⟩ := sp_usedL (o := 69 + 16 * j) (h := h) (need := need) (gap := gap) (p := p) hA (by omega)
      unfold f_X5_unitsUsed
      rw [habs, ob_some, g23, ob_some, ob_some, ob_some, ob_some, u1, usz _ (fun k _ => hG0 _ k)]
      congr 2
      rw [isum_congr na (t2 := fun _ => 0) (fun k _ => by unfold usF; by_cases q : mc (69 + 16 * j + 7 + 1) k = p; rw [if_pos q]; rfl; rw [if_neg q]), isum_zero]
  · have hgz : ¬ gap = 0 := by rw [eeq0]; exact hz0
    have hneedp : 0 < need := by
      unfold aI at hneed
      by_cases q : 0 ≤ gv
      · rw [if_pos q] at hneed; omega
      · rw [if_neg q] at hneed; omega
    have hsg : ∃ z4 : Int32, (∀ {α : Type} (K : Int32 → Option α), ob (if 0 ≤ gap then some 0 else some 1) K = K z4) ∧ ((z4 = 1 ∧ sdB gap = 0 ∧ gv < 0) ∨ (z4 = 0 ∧ sdB gap = 1 ∧ 0 < gv)) := by
      unfold sdB
      by_cases q : 0 ≤ gv
      · refine ⟨0, fun K => by rw [if_pos (by rw [e0le]; exact q), ob_some], Or.inr ⟨rfl, ?_, by omega⟩⟩
        rw [if_neg (by rw [ele0]; omega)]
      · refine ⟨1, fun K => by rw [if_neg (by rw [e0le]; exact q), ob_some], Or.inl ⟨rfl, ?_, by omega⟩⟩
        rw [if_pos (by rw [ele0]; omega)]
    obtain ⟨z4, ez4, hz4⟩ := hsg
    obtain ⟨t68, g68, s1, s2, row1, s3, s4⟩ := sp_helpsM (mc := mc) (mm := m9) (z4 := z4) (b := sdB gap) (need := need) hj hh hR9 (by rcases hz4 with u | u; exact Or.inl ⟨u.1, u.2.1⟩; exact Or.inr ⟨u.1, u.2.1⟩) (by omega) hz40
    obtain ⟨y16, y17, y18, m19⟩ := t68
    have s1 : y16 = _ := s1
    have s2 : y17 = _ := s2
    have s3 : m19 = g_up m9 40 row1 := s3
    have hLle := rs_le (dP mc (69 + 16 * j + 7)) (dU mc (69 + 16 * j + 7)) need (-1) (Lh mc (69 + 16 * j + 7) MD (iI (h : Nat)) (sdB gap))
    have hmem : ∀ k, k ∈ Lh mc (69 + 16 * j + 7) MD (iI (h : Nat)) (sdB gap) ↔ k < na ∧ mc (69 + 16 * j + 7 + 3) k = iI (h : Nat) ∧ mc (69 + 16 * j + 7 + 4) k = sdB gap := fun k => Lh_mem hA
    have hnd : (Lh mc (69 + 16 * j + 7) MD (iI (h : Nat)) (sdB gap)).Nodup := (srt_nodup hR.2.2.2.1.2.1).filter _
    obtain ⟨t33, g33, w1⟩ := sp_priceL (o := 69 + 16 * j) (h := h) (need := need) (gap := gap) (dflt := if 0 ≤ gap then 0 else 300) hA hneedp (by omega)
    have hused : ∀ p : Int32, f_X5_unitsUsed (69 + 16 * j) p (iI (h : Nat)) gap mc = some (iI (((Lh mc (69 + 16 * j + 7) MD (iI (h : Nat)) (sdB gap)).map (usF (mc (69 + 16 * j + 7 + 1)) (rs (dP mc (69 + 16 * j + 7)) (dU mc (69 + 16 * j + 7)) need (-1) (Lh mc (69 + 16 * j + 7) MD (iI (h : Nat)) (sdB gap))).2.2.2 p)).sum)) := by
      intro p
      obtain ⟨t23, g23, u1⟩ := sp_usedL (o := 69 + 16 * j) (h := h) (need := need) (gap := gap) (p := p) hA (by omega)
      unfold f_X5_unitsUsed
      rw [habs, ob_some, g23, ob_some, ob_some, ob_some, ob_some, u1]
    generalize hLL : Lh mc (69 + 16 * j + 7) MD (iI (h : Nat)) (sdB gap) = L at *
    generalize hS : rs (dP mc (69 + 16 * j + 7)) (dU mc (69 + 16 * j + 7)) need (-1) L = S at *
    obtain ⟨y7, y8b, y9⟩ := t33
    have w1 : y8b = if S.1 = 0 then S.2.1 else (if 0 ≤ gap then 0 else 300) := w1
    obtain ⟨t32, g32, w2⟩ := sp_L103 (j := j) (h := h) (m := mc) (gap := gap) (x := y8b) (pr := fun z => mm 41 (12 * j + (4 * z + h))) hh (fun z hz => hP _ (by omega))
    obtain ⟨y25, y26⟩ := t32
    have w2 : y25 = fmF gap (fun z => mm 41 (12 * j + (4 * z + h))) y8b 3 := w2
    obtain ⟨ug, hug⟩ : ∃ ug : Nat → Nat, ∀ k, ug k = if k ∈ L then S.2.2.2 k else 0 := ⟨_, fun _ => rfl⟩
    refine ⟨y25, row1, ug, ?_, fun _ => ?_, fun k hk => ?_, fun h9 => absurd h9 hgz, fun p => ?_⟩
    · unfold f_X10_helps
      rw [hin, ob_some, haw, ob_some, ez4, e30, ob_some, g69, ob_some, ob_some, ob_some, g68]
      simp only [ob_sm]
      rw [if_neg hgz, if_neg hgz, s3, z1, g_up2, i0, i1, i2, f41 _ 0 (by decide), f41 _ 1 (by decide), f41 _ 2 (by decide)]
      simp only [ob_sm, lesser_min, greater_max]
      have ey : (y16 ≤ 0) = (S.1 = 0) := by
        rw [s1, le0 (by omega) (by omega)]
        apply propext
        omega
      rcases hz4 with ⟨u1, u2, u3⟩ | ⟨u1, u2, u3⟩
      · have q : ¬ 0 ≤ gap := by rw [e0le]; omega
        rw [if_neg q] at w1
        have ev : ∀ {α : Type} (K : Int32 → Option α), ob (if y16 ≤ 0 then some y17 else some 300) K = K y8b := by
          intro α K
          rw [w1, s2]
          by_cases v : S.1 = 0
          · rw [if_pos (by rw [ey]; exact v), if_pos v, ob_some]
          · rw [if_neg (by rw [ey]; exact v), if_neg v, ob_some]
        rw [if_pos u1, ev, w2]
        show some (a_max y8b _, _) = some (fmF gap _ y8b 3, _)
        unfold fmF
        rw [if_neg q]
        unfold fmF
        rw [if_neg q]
        unfold fmF
        rw [if_neg q]
        unfold fmF
        rw [amax_as, amax_as]
      · have q : 0 ≤ gap := by rw [e0le]; omega
        rw [if_pos q] at w1
        have ev : ∀ {α : Type} (K : Int32 → Option α), ob (if y16 ≤ 0 then some y17 else some 0) K = K y8b := by
          intro α K
          rw [w1, s2]
          by_cases v : S.1 = 0
          · rw [if_pos (by rw [ey]; exact v), if_pos v, ob_some]
          · rw [if_neg (by rw [ey]; exact v), if_neg v, ob_some]
        rw [if_neg (by rw [u1]; decide), ev, w2]
        show some (a_min y8b _, _) = some (fmF gap _ y8b 3, _)
        unfold fmF
        rw [if_pos q]
        unfold fmF
        rw [if_pos q]
        unfold fmF
        rw [if_pos q]
        unfold fmF
        rw [amin_as, amin_as]
    · unfold f_X5_priceOfGap
      have ed : ∀ {α : Type} (K : Int32 → Option α), ob (if 0 ≤ gap then some 0 else some 300) K = K (if 0 ≤ gap then 0 else 300) := by
        intro α K
        by_cases q : 0 ≤ gap
        · rw [if_pos q, if_pos q, ob_some]
        · rw [if_neg q, if_neg q, ob_some]
      rw [habs, ob_some, ed, g33]
      simp only [ob_sm]
      rw [g32, ob_some]
    · rw [s4 k hk, hug]
      by_cases q : k ∈ L
      · rw [if_pos q, if_pos q]
      · rw [if_neg q, if_neg q]; rfl
    · rw [hused p, list_isum hnd (fun k hk => ((hmem k).1 hk).1)]
      congr 2
      apply isum_congr
      intro k _
      unfold usF
      rw [hug]
      by_cases q : k ∈ L
      · rw [if_pos q, if_pos q]
      · rw [if_neg q, if_neg q]
        by_cases u : mc (69 + 16 * j + 7 + 1) k = p
        · rw [if_pos u]; rfl
        · rw [if_neg u]
