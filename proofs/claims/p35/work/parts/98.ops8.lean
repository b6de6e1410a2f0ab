def opOKb (fL fM : Option (Int32 × gM)) : Prop := ∃ (k : Int32) (mc2 : gM) (r : Int32) (mm2 : gM), fL = some (k, mc2) ∧ fM = some (r, mm2) ∧ f_X10_thrown mm2 = some k ∧ (k = 0 → (r = 0 ∨ r = 1) ∧ mc2 229 0 = r) ∧ RelG mc2 mm2
theorem fin_thrb {mc mm : gM} {fL fM : Option (Int32 × gM)} {z : Int32} (hR : RelG mc mm) (hz : z ≠ 0) (h1 : fL = some (z, mc)) (h2 : ∃ r, fM = some (r, thM mm z)) : opOKb fL fM := by
  obtain ⟨r, h2⟩ := h2
  refine ⟨z, mc, r, thM mm z, h1, h2, ?_, fun h => absurd h hz, thM_R hR z⟩
  show some (thM mm z 0 67) = some z
  rw [thM_0]
theorem fin_getb {mc mm : gM} {fL fM : Option (Int32 × gM)} {r : Int32} (hR : RelG mc mm) (hr : r = 0 ∨ r = 1) (h1 : fL = some (0, g_up mc 229 (upd (mc 229) 0 r))) (h2 : fM = some (r, thM mm 0)) : opOKb fL fM := by
  refine ⟨0, _, r, thM mm 0, h1, h2, ?_, fun _ => ⟨hr, ?_⟩, RelG_fr (thM_R hR 0) (fun c hc => g_up_ne _ _ hc) (fun c _ _ => rfl) (fun k _ => rfl)⟩
  · show some (thM mm 0 0 67) = some 0
    rw [thM_0]
  · rw [g_up_at, updA, if_pos rfl]
theorem a_lstb {r : Int32} (hr : r = 0 ∨ r = 1) (m : gM) : (ob (if r = 0 then some 0 else some 1) fun (z5 : Int64) => ob (a_lst 1 229 0 z5 m) fun m6 => some ((0 : Int32), m6)) = some (0, g_up m 229 (upd (m 229) 0 r)) := by
  rcases hr with q | q
  · subst q
    rw [if_pos rfl, ob_some, show (0 : Int64) = (0 : Int32).toInt64 from rfl, a_lst0, ob_some]
  · subst q
    rw [if_neg (by decide), ob_some, show (1 : Int64) = (1 : Int32).toInt64 from rfl, a_lst0, ob_some]
theorem op_isTaken : l_op_19 RelG := by
  intro mc mm p1 hR
  show opOKb (f_Q_isTaken p1 mc) (f_X10_isTaken p1 mm)
  obtain ⟨d, st, l, n, M, nb, TO, GR, na, MA, no, MO, hA⟩ := id hR
  obtain ⟨a1, a2, a3, a4, a5, a6, a7, a8, a9, a10, a11, a12⟩ := id hA
  obtain ⟨hd9, hst1, hd1, hd2, hs1, hs2⟩ := id a1
  obtain ⟨b1, b2, w13, w14, w15, w16, w17, w18, b9⟩ := id a5
  have hnb5 := b1.2.1.1
  rcases chk_cnt p1 b1.1 b2.1 (by omega) with ⟨v0, l0, e0, x0, y0⟩ | ⟨x0, y0⟩
  rotate_left
  · have hX : f_X9_isTaken p1 mc = some (.inl 1) := by
      unfold f_X9_isTaken
      simp only [x0, ox_r, ox_l]
    refine fin_thrb (z := 1) hR (by decide) (by unfold f_Q_isTaken; rw [hX]; rfl) ⟨0, ?_⟩
    unfold f_X10_isTaken
    simp only [y0, ob_sm, i00, i10, if_true, isT_0, a_zc0]
  subst e0
  have hst01 : st = 0 ∨ st = 1 := by omega
  rcases hst01 with s0 | s1
  · have z1 : ¬ mc 0 9 = 1 := by rw [hs1, s0]; decide
    have z2 : mm 0 1 = 0 := by rw [hs2, s0]; rfl
    have hX : f_X9_isTaken (iI (v0 : Nat)) mc = some (.inl 3) := by
      unfold f_X9_isTaken f_X9_checkState
      simp only [x0, ob_sm, ox_r, ox_l, if_neg z1, i00, if_true]
    refine fin_thrb (z := 2) hR (by decide) (by unfold f_Q_isTaken; rw [hX]; rfl) ⟨0, ?_⟩
    unfold f_X10_isTaken
    simp only [y0, ob_sm, i00, i10, if_true, isT_b z2, a_zc0]
  have z1 : mc 0 9 = 1 := by rw [hs1, s1]; rfl
  have z2 : ¬ mm 0 1 = 0 := by rw [hs2, s1]; decide
  have t0 : thM mm 0 0 0 = iI (d : Nat) := by rw [thM_k _ _ (by decide)]; exact hd2
  have hrf : a_rf 10 69 16 (mc 0 8) = some (69 + 16 * d) := by rw [hd1, a_rfI (by omega) (by omega) (by omega), Int.toNat_natCast]
  have hd : d < 10 := by omega
  obtain ⟨ch, hch, k9, k25⟩ := b9 s1
  have hr : (if Nat.testBit ch v0 = true then (1 : Int32) else 0) = 0 ∨ (if Nat.testBit ch v0 = true then (1 : Int32) else 0) = 1 := by
    by_cases q : Nat.testBit ch v0 = true
    · rw [if_pos q]; exact Or.inr rfl
    · rw [if_neg q]; exact Or.inl rfl
  have hX : f_X9_isTaken (iI (v0 : Nat)) mc = some (.inr (if Nat.testBit ch v0 = true then (1 : Int32) else 0)) := by
    unfold f_X9_isTaken f_X9_checkState
    simp only [x0, ox_r, ox_l, ob_sm, if_pos z1, i10]
    rw [k9, sp_mem hch (by omega), ob_some, a_zcz hr, ob_some]
  refine fin_getb (r := if Nat.testBit ch v0 = true then (1 : Int32) else 0) hR hr (by unfold f_Q_isTaken; rw [hX, os_r2, ob_some, a_lstb hr]) ?_
  unfold f_X10_isTaken
  simp only [y0, ob_sm, i10, isT_1 z2]
  have ec : ((thM mm 0 0 25 >>> (iI (v0 : Nat) &&& 31)) &&& 1) = if Nat.testBit ch v0 = true then (1 : Int32) else 0 := by
    rw [thM_k _ _ (by decide), k25]
    exact tb_sh ch hch v0 (by omega)
  by_cases q : Nat.testBit ch v0 = true
  · rw [if_pos q] at ec
    rw [if_pos ec, if_pos q]; rfl
  · rw [if_neg q] at ec
    rw [if_neg (by rw [ec]; decide), if_neg q]; rfl
theorem op_hasFailed : l_op_30 RelG := by
  intro mc mm p1 hR
  show opOKb (f_Q_hasFailed p1 mc) (f_X10_hasFailed p1 mm)
  obtain ⟨d, st, l, n, M, nb, TO, GR, na, MA, no, MO, hA⟩ := id hR
  obtain ⟨a1, a2, a3, a4, a5, a6, a7, a8, a9, a10, a11, a12⟩ := id hA
  obtain ⟨hd9, hst1, hd1, hd2, hs1, hs2⟩ := id a1
  rcases chk_firm p1 with ⟨v0, l0, e0, x0, y0⟩ | ⟨x0, y0⟩
  rotate_left
  · have hX : f_X9_hasFailed p1 mc = some (.inl 1) := by
      unfold f_X9_hasFailed
      simp only [x0, ox_r, ox_l]
    refine fin_thrb (z := 1) hR (by decide) (by unfold f_Q_hasFailed; rw [hX]; rfl) ⟨0, ?_⟩
    unfold f_X10_hasFailed
    have h1 := thM_0 mm 1
    unfold thM at h1
    simp only [y0, ob_sm, i00, i10, if_true, h1]
    rfl
  subst e0
  have hr := a2.2.2.2.1 v0 l0
  have hX : f_X9_hasFailed (iI (v0 : Nat)) mc = some (.inr (mc 68 v0)) := by
    unfold f_X9_hasFailed
    simp only [x0, ox_r, ox_l]
    rw [a_ldI (by omega) (by omega) (by omega), ob_some, Int.toNat_natCast, a_zcz hr, ob_some]
  refine fin_getb (r := mc 68 v0) hR hr (by unfold f_Q_hasFailed; rw [hX, os_r2, ob_some, a_lstb hr]) ?_
  have h1 := thM_0 mm 0
  have e : g_up mm 0 (upd (mm 0) 67 0) = thM mm 0 := rfl
  unfold f_X10_hasFailed
  simp only [y0, ob_sm, i10, e, h1, i00, if_true]
  rw [a_ldI (by omega) (by omega) (by omega), ob_some, Int.toNat_natCast, thM_c _ _ (by decide), a2.2.2.1]
  rcases hr with q | q
  · rw [q, if_neg (by decide)]; rfl
  · rw [q, if_pos rfl]; rfl
theorem op_worthAnew : l_op_21 RelG := by
  intro mc mm hR
  show opOK (f_Q_worthAnew mc) (f_X10_worthAnew mm)
  obtain ⟨d, st, l, n, M, nb, TO, GR, na, MA, no, MO, hA⟩ := id hR
  obtain ⟨a1, a2, a3, a4, a5, a6, a7, a8, a9, a10, a11, a12⟩ := id hA
  obtain ⟨hd9, hst1, hd1, hd2, hs1, hs2⟩ := id a1
  obtain ⟨b1, b2, w13, w14, w15, w16, w17, w18, b9⟩ := id a5
  obtain ⟨c1, c2, c3, c4⟩ := id a4
  have hn40 := c1.1
  have hst01 : st = 0 ∨ st = 1 := by omega
  rcases hst01 with s0 | s1
  · have z1 : ¬ mc 0 9 = 1 := by rw [hs1, s0]; decide
    have z2 : mm 0 1 = 0 := by rw [hs2, s0]; rfl
    have hX : f_X9_worthAnew mc = some (.inl 3) := by
      unfold f_X9_worthAnew f_X9_checkState
      simp only [ob_sm, ox_r, ox_l, if_neg z1, i00, if_true]
    have h1 := thM_0 mm 1
    have e : g_up mm 0 (upd (mm 0) 67 1) = thM mm 1 := rfl
    have hL : f_X10_worthAnew_L38 (thM mm 1) f_fuel 0 0 = some (0, 0) := by
      show f_X10_worthAnew_L38 (thM mm 1) (99999 + 1) 0 0 = some (0, 0)
      rw [f_X10_worthAnew_L38, h1, if_neg (show ¬ (1 : Int32) = 0 by decide)]
      by_cases q : thM mm 1 0 7 ≤ 0
      · rw [if_pos q]
      · rw [if_neg q]
    refine fin_thr (z := 1) hR (by decide) (by unfold f_Q_worthAnew; rw [hX]; rfl) ⟨0, ?_⟩
    unfold f_X10_worthAnew
    rw [if_pos z2, ob_some, e, ob_some, h1, if_neg (by decide), ob_some, hL]
    rfl
  · have z1 : mc 0 9 = 1 := by rw [hs1, s1]; rfl
    have z2 : ¬ mm 0 1 = 0 := by rw [hs2, s1]; decide
    obtain ⟨ch, hch, k9, k25⟩ := b9 s1
    have hwt := sp_worthTaken (m := mc) (t := fun k => (mm 11 k).toInt) b1 k9 hch c1.2.1 hn40 (fun k hk => (c1.2.2.2 k hk).2.2.2.1) (fun k hk => by rw [(c4 s1 k hk).1, iI_of])
    have hX : f_X9_worthAnew mc = some (.inr (iI (isum nb (wT (mc 16) (mc 17) (mc 18) (mc 19) ch) + isum n (fun k => pvF mc k * (mm 11 k).toInt)))) := by
      unfold f_X9_worthAnew f_X9_checkState
      simp only [ob_sm, ox_r, ox_l, if_pos z1, i10, hwt]
    refine fin_get (r := iI (isum nb (wT (mc 16) (mc 17) (mc 18) (mc 19) ch) + isum n (fun k => pvF mc k * (mm 11 k).toInt))) hR (by unfold f_Q_worthAnew; rw [hX, os_r2, ob_some, a_lst0, ob_some]) ?_
    have h1 := thM_0 mm 0
    have e : g_up mm 0 (upd (mm 0) 67 0) = thM mm 0 := rfl
    have hk3 : blkM (thM mm 0) nb TO GR := blkM_fr b2 (thM_k _ _ (by decide)) (fun c c1 c2 => thM_c _ _ (by omega))
    have hwb := sp_worthOfBM hk3 hch
    rw [thM_c _ _ (by decide), thM_c _ _ (by decide), thM_c _ _ (by decide), thM_c _ _ (by decide), w15, w16, w17, w18] at hwb
    unfold f_X10_worthAnew
    rw [if_neg z2, ob_some, e, ob_some, h1, if_pos rfl, thM_k _ _ (by decide), k25, hwb, ob_some, ob_some]
    generalize isum nb (wT (mc 16) (mc 17) (mc 18) (mc 19) ch) = WW
    have key : T (f_X10_worthAnew_L38 (thM mm 0) f_fuel (iI WW) 0) (fun t => t.1 = iI (WW + isum n (fun k => pvF mc k * (mm 11 k).toInt))) := by
      refine T_run2 (f_X10_worthAnew_L38 (thM mm 0)) (fun k x y => x = iI (WW + isum k (fun k => pvF mc k * (mm 11 k).toInt)) ∧ y = iI (k : Nat)) _ n 0 _ _ ⟨by show iI WW = iI (WW + 0); rw [Int.add_zero], rfl⟩ (Nat.zero_le _) (by omega) ?_
      intro k x y f hI hk hcont
      obtain ⟨e1, e2⟩ := hI
      subst e1
      subst e2
      unfold f_X10_worthAnew_L38
      rw [thM_k _ _ (show (7 : Nat) ≠ 67 by decide), c2, iI_le (by omega) (by omega) (by omega) (by omega), h1]
      by_cases c : (n : Int) ≤ k
      · rw [if_pos c]
        have e : k = n := by omega
        subst e
        exact T_some rfl
      · rw [if_neg c, if_pos rfl, a_ldI (by omega) (by omega) (by omega), a_ldI (by omega) (by omega) (by omega), a_ldI (by omega) (by omega) (by omega), Int.toNat_natCast, ob_some, thM_c _ _ (by decide), thM_c _ _ (by decide), thM_c _ _ (by decide), c3 8 (by decide) (by decide), c3 9 (by decide) (by decide)]
        simp only [ob_sm]
        have ez : ∀ {α : Type} (G : Int32 → Option α), ob (if mc 8 k = 1 then some (mm 11 k) else some (-(mm 11 k))) (fun z15 => G (z15 * mc 9 k)) = G (iI (pvF mc k * (mm 11 k).toInt)) := by
          intro α G
          unfold pvF
          have hp : mm 11 k * mc 9 k = iI ((mc 9 k).toInt * (mm 11 k).toInt) := by
            rw [Int32.mul_comm, ← iI_mul, iI_of, iI_of]
          rcases (c1.2.2.2 k (by omega)).2.2.2.1 with u | u
          · rw [if_neg (by rw [u]; decide), if_pos u, ob_some, Int32.neg_mul, hp, iI_neg, Int.neg_mul]
          · rw [if_pos u, if_neg (by rw [u]; decide), ob_some, hp]
        rw [ez (fun q => f_X10_worthAnew_L38 (thM mm 0) f (iI (WW + isum k (fun k => pvF mc k * (mm 11 k).toInt)) + q) (iI (k : Nat) + 1)), iI_add, Int.add_assoc]
        exact hcont (by omega) _ _ ⟨rfl, iI_succ k⟩
    obtain ⟨t, ft, et⟩ := key
    rw [ft, ob_some, ob_some, ob_some, et]
def g3 (g : Nat → Int32) (f h : Nat) (acc : Int32) : Nat → Int32
  | 0 => acc
  | z + 1 => g3 g f h acc z + g (12 * f + 4 * z + h)
def gA (g : Nat → Int32) (h : Nat) : Nat → Int32
  | 0 => 0
  | f + 1 => g3 g f h (gA g h f) 3
theorem sp_gapC {o h : Nat} {m : gM} {g : Nat → Int32} (hg : ∀ i, i < 72 → m (o + 4) i = g i) (hh : h < 4) : f_X5_gapOf o (iI (h : Nat)) m = some (gA g h 6) := by
  unfold f_X5_gapOf
  refine T_eq (T_ob (P := fun t => t.1 = gA g h 6) ?_ (fun t ht => T_some ht))
  refine T_run2 (f_X5_gapOf_L4 o m (iI (h : Nat))) (fun f x y => x = gA g h f ∧ y = iI (f : Nat)) _ 6 0 _ _ ⟨rfl, rfl⟩ (Nat.zero_le _) (by omega) ?_
  intro f x y n hI hk hcont
  obtain ⟨e1, e2⟩ := hI
  subst e1
  subst e2
  unfold f_X5_gapOf_L4
  have h6 : (6 ≤ iI (f : Nat)) = ((6 : Int) ≤ (f : Nat)) := by rw [iL_6, iI_leP (by omega) (by omega) (by omega) (by omega)]
  by_cases c : (6 : Int) ≤ f
  · rw [if_pos (by rw [h6]; exact c)]
    have e : f = 6 := by omega
    subst e
    exact T_some rfl
  · rw [if_neg (by rw [h6]; exact c)]
    have key : T (f_X5_gapOf_L13 o m (iI (h : Nat)) (iI (f : Nat)) f_fuel (gA g h f) 0) (fun t => t.1 = gA g h (f + 1)) := by
      refine T_run2 (f_X5_gapOf_L13 o m (iI (h : Nat)) (iI (f : Nat))) (fun z x y => x = g3 g f h (gA g h f) z ∧ y = iI (z : Nat)) _ 3 0 _ _ ⟨rfl, rfl⟩ (Nat.zero_le _) (by omega) ?_
      intro z x y n2 hJ hz hcont9
      obtain ⟨e3, e4⟩ := hJ
      subst e3
      subst e4
      unfold f_X5_gapOf_L13
      have h3 : (3 ≤ iI (z : Nat)) = ((3 : Int) ≤ (z : Nat)) := by rw [iL_3, iI_leP (by omega) (by omega) (by omega) (by omega)]
      by_cases c9 : (3 : Int) ≤ z
      · rw [if_pos (by rw [h3]; exact c9)]
        have e : z = 3 := by omega
        subst e
        exact T_some rfl
      · rw [if_neg (by rw [h3]; exact c9), sp_place, ob_some, a_ldI (by omega) (by omega) (by omega), ob_some, ob_some, Int.toNat_natCast, hg _ (by omega)]
        exact hcont9 (by omega) _ _ ⟨rfl, iI_succ z⟩
    obtain ⟨t, ft, et⟩ := key
    rw [ft, ob_some, ob_some, ob_some, et]
    exact hcont (by omega) _ _ ⟨rfl, iI_succ f⟩
theorem sp_gapMM {j h : Nat} {mm : gM} {g : Nat → Int32} (hj : j < 10) (hg : ∀ i, i < 72 → gpM mm (72 * j + i) = g i) (hh : h < 4) : f_X10_gapIn (iI (j : Nat)) (iI (h : Nat)) mm = some (gA g h 6) := by
  unfold f_X10_gapIn
  refine T_eq (T_ob (P := fun t => t.1 = gA g h 6) ?_ (fun t ht => T_some ht))
  refine T_run2 (f_X10_gapIn_L5 mm (iI (j : Nat)) (iI (h : Nat))) (fun f x y => x = gA g h f ∧ y = iI (f : Nat)) _ 6 0 _ _ ⟨rfl, rfl⟩ (Nat.zero_le _) (by omega) ?_
  intro f x y n hI hk hcont
  obtain ⟨e1, e2⟩ := hI
  subst e1
  subst e2
  unfold f_X10_gapIn_L5
  have h6 : (6 ≤ iI (f : Nat)) = ((6 : Int) ≤ (f : Nat)) := by rw [iL_6, iI_leP (by omega) (by omega) (by omega) (by omega)]
  by_cases c : (6 : Int) ≤ f
  · rw [if_pos (by rw [h6]; exact c)]
    have e : f = 6 := by omega
    subst e
    exact T_some rfl
  · rw [if_neg (by rw [h6]; exact c)]
    have key : T (f_X10_gapIn_L15 mm (iI (j : Nat)) (iI (h : Nat)) (iI (f : Nat)) f_fuel (gA g h f) 0) (fun t => t.1 = gA g h (f + 1)) := by
      refine T_run2 (f_X10_gapIn_L15 mm (iI (j : Nat)) (iI (h : Nat)) (iI (f : Nat))) (fun z x y => x = g3 g f h (gA g h f) z ∧ y = iI (z : Nat)) _ 3 0 _ _ ⟨rfl, rfl⟩ (Nat.zero_le _) (by omega) ?_
      intro z x y n2 hJ hz hcont9
      obtain ⟨e3, e4⟩ := hJ
      subst e3
      subst e4
      unfold f_X10_gapIn_L15
      have h3 : (3 ≤ iI (z : Nat)) = ((3 : Int) ≤ (z : Nat)) := by rw [iL_3, iI_leP (by omega) (by omega) (by omega) (by omega)]
      by_cases c9 : (3 : Int) ≤ z
      · rw [if_pos (by rw [h3]; exact c9)]
        have e : z = 3 := by omega
        subst e
        exact T_some rfl
      · rw [if_neg (by rw [h3]; exact c9), sp_gapOfM hj (show f < 6 by omega) (show z < 3 by omega) hh, ob_some, ob_some, hg _ (by omega)]
        exact hcont9 (by omega) _ _ ⟨rfl, iI_succ z⟩
    obtain ⟨t, ft, et⟩ := key
    rw [ft, ob_some, ob_some, ob_some, et]
    exact hcont (by omega) _ _ ⟨rfl, iI_succ f⟩
theorem gA_rng {g : Nat → Int32} (hg : ∀ i, i < 72 → rg (g i) (-100200) 100200) {h : Nat} (hh : h < 4) : rg (gA g h 6) (-2000000) 2000000 := by
  have h3 : ∀ f, f < 6 → ∀ acc B, 0 ≤ B → B ≤ 1600000 → rg acc (-B) B → rg (g3 g f h acc 3) (-(B + 300600)) (B + 300600) := by
    intro f hf acc B hB0 hB ha
    have s1 := rg_add ha (hg (12 * f + 4 * 0 + h) (by omega)) (by omega)
    have s2 := rg_add s1 (hg (12 * f + 4 * 1 + h) (by omega)) (by omega)
    have s3 := rg_add s2 (hg (12 * f + 4 * 2 + h) (by omega)) (by omega)
    rw [show B + 100200 + 100200 + 100200 = B + 300600 by omega] at s3
    exact s3
  have z : rg (0 : Int32) (-(0 : Int)) 0 := by unfold rg; exact ⟨by decide, by decide⟩
  have q1 := h3 0 (by omega) _ _ (by omega) (by omega) z
  have q2 := h3 1 (by omega) _ _ (by omega) (by omega) q1
  have q3 := h3 2 (by omega) _ _ (by omega) (by omega) q2
  have q4 := h3 3 (by omega) _ _ (by omega) (by omega) q3
  have q5 := h3 4 (by omega) _ _ (by omega) (by omega) q4
  have q6 := h3 5 (by omega) _ _ (by omega) (by omega) q5
  have q6 : rg (gA g h 6) _ _ := q6
  unfold rg at *
  omega
theorem gpE {d j : Nat} {mc mm : gM} (h : rDy d j mc mm) : ∀ i, i < 72 → mc (69 + 16 * j + 4) i = gpM mm (72 * j + i) := fun i hi => h.2.2.1 i hi
theorem gpM_th {mm : gM} {z : Int32} {i : Nat} : gpM (thM mm z) i = gpM mm i := by
  unfold gpM
  rw [thM_c _ _ (by decide), thM_c _ _ (by decide), thM_c _ _ (by decide)]
theorem op_gap : l_op_25 RelG := by
  intro mc mm p1 p2 hR
  show opOK (f_Q_gap p1 p2 mc) (f_X10_gap p1 p2 mm)
  obtain ⟨d, st, l, n, M, nb, TO, GR, na, MA, no, MO, hA⟩ := id hR
  obtain ⟨a1, a2, a3, a4, a5, a6, a7, a8, a9, a10, a11, a12⟩ := id hA
  obtain ⟨hd9, hst1, hd1, hd2, hs1, hs2⟩ := id a1
  rcases chk_closed p1 hd1 hd2 (by omega) with ⟨v0, l0, e0, x0, y0⟩ | ⟨x0, y0⟩
  rotate_left
  · have hX : f_X9_gap p1 p2 mc = some (.inl 1) := by
      unfold f_X9_gap
      simp only [x0, ox_r, ox_l]
    refine fin_thr (z := 1) hR (by decide) (by unfold f_Q_gap; rw [hX]; rfl) ⟨0, ?_⟩
    unfold f_X10_gap
    have h1 := thM_0 mm 1
    unfold thM at h1
    simp only [y0, ob_sm, i00, i10, if_true, h1]
    rfl
  rcases chk_hour p2 with ⟨v1, l1, e1, x1, y1⟩ | ⟨x1, y1⟩
  rotate_left
  · have hX : f_X9_gap p1 p2 mc = some (.inl 1) := by
      unfold f_X9_gap
      simp only [x0, x1, ox_r, ox_l]
    refine fin_thr (z := 1) hR (by decide) (by unfold f_Q_gap; rw [hX]; rfl) ⟨0, ?_⟩
    unfold f_X10_gap
    have h1 := thM_0 mm 1
    unfold thM at h1
    simp only [y0, y1, ob_sm, i00, i10, if_true, h1]
    rfl
  subst e0
  subst e1
  have hv : v0 < 10 := by omega
  have hg := gpE (a9 v0 hv)
  have hX : f_X9_gap (iI (v0 : Nat)) (iI (v1 : Nat)) mc = some (.inr (gA (fun i => gpM mm (72 * v0 + i)) v1 6)) := by
    unfold f_X9_gap
    simp only [x0, x1, ox_r, ox_l]
    rw [a_rfI (by omega) (by omega) (by omega), ob_some, Int.toNat_natCast, sp_gapC (g := fun i => gpM mm (72 * v0 + i)) hg l1, ob_some]
  refine fin_get (r := gA (fun i => gpM mm (72 * v0 + i)) v1 6) hR (by unfold f_Q_gap; rw [hX, os_r2, ob_some, a_lst0, ob_some]) ?_
  have h1 := thM_0 mm 0
  have e : g_up mm 0 (upd (mm 0) 67 0) = thM mm 0 := rfl
  unfold f_X10_gap
  simp only [y0, y1, ob_sm, i10, e, h1, i00, if_true]
  rw [sp_gapMM (g := fun i => gpM mm (72 * v0 + i)) hv (fun i _ => gpM_th) l1, ob_some, ob_some]
theorem isBill_1 {p1 p2 : Int32} {mm : gM} (h1 : f_X10_isClosed p1 mm = some 1) (h2 : f_X10_isFirm p2 = some 1) : f_X10_isBill p1 p2 mm = some (1, thM mm 0) := by
  have h := thM_0 mm 0
  have e : g_up mm 0 (upd (mm 0) 67 0) = thM mm 0 := rfl
  unfold f_X10_isBill
  rw [h1, ob_some, if_neg (by decide), h2, ob_some, if_neg (by decide), ob_some, e, ob_some, h, if_pos rfl]
  rfl
theorem isBill_a {p1 p2 : Int32} {mm : gM} (h1 : f_X10_isClosed p1 mm = some 0) : f_X10_isBill p1 p2 mm = some (0, thM mm 1) := by
  have h := thM_0 mm 1
  have e : g_up mm 0 (upd (mm 0) 67 1) = thM mm 1 := rfl
  unfold f_X10_isBill
  rw [h1, ob_some, if_pos rfl, ob_some, e, ob_some, h, if_neg (by decide)]
  rfl
theorem isBill_b {p1 p2 : Int32} {mm : gM} (h1 : f_X10_isClosed p1 mm = some 1) (h2 : f_X10_isFirm p2 = some 0) : f_X10_isBill p1 p2 mm = some (0, thM mm 1) := by
  have h := thM_0 mm 1
  have e : g_up mm 0 (upd (mm 0) 67 1) = thM mm 1 := rfl
  unfold f_X10_isBill
  rw [h1, ob_some, if_neg (by decide), h2, ob_some, if_pos rfl, ob_some, e, ob_some, h, if_neg (by decide)]
  rfl
theorem op_settled : l_op_28 RelG := by
  intro mc mm p1 p2 hR
  show opOK (f_Q_settled p1 p2 mc) (f_X10_settled p1 p2 mm)
  obtain ⟨d, st, l, n, M, nb, TO, GR, na, MA, no, MO, hA⟩ := id hR
  obtain ⟨a1, a2, a3, a4, a5, a6, a7, a8, a9, a10, a11, a12⟩ := id hA
  obtain ⟨hd9, hst1, hd1, hd2, hs1, hs2⟩ := id a1
  rcases chk_closed p1 hd1 hd2 (by omega) with ⟨v0, l0, e0, x0, y0⟩ | ⟨x0, y0⟩
  rotate_left
  · have hX : f_X9_settled p1 p2 mc = some (.inl 1) := by
      unfold f_X9_settled
      simp only [x0, ox_r, ox_l]
    refine fin_thr (z := 1) hR (by decide) (by unfold f_Q_settled; rw [hX]; rfl) ⟨0, ?_⟩
    unfold f_X10_settled
    rw [isBill_a y0]
    rfl
  rcases chk_firm p2 with ⟨v1, l1, e1, x1, y1⟩ | ⟨x1, y1⟩
  rotate_left
  · have hX : f_X9_settled p1 p2 mc = some (.inl 1) := by
      unfold f_X9_settled
      simp only [x0, x1, ox_r, ox_l]
    refine fin_thr (z := 1) hR (by decide) (by unfold f_Q_settled; rw [hX]; rfl) ⟨0, ?_⟩
    unfold f_X10_settled
    rw [isBill_b y0 y1]
    rfl
  subst e0
  subst e1
  have hv : v0 < 10 := by omega
  have hX : f_X9_settled (iI (v0 : Nat)) (iI (v1 : Nat)) mc = some (.inr (mm 46 (6 * v0 + v1))) := by
    unfold f_X9_settled
    simp only [x0, x1, ox_r, ox_l]
    rw [a_rfI (by omega) (by omega) (by omega), ob_some, Int.toNat_natCast, a_ldI (by omega) (by omega) (by omega), ob_some, Int.toNat_natCast, (a9 v0 hv).2.2.2.2.1 v1 l1]
  refine fin_get (r := mm 46 (6 * v0 + v1)) hR (by unfold f_Q_settled; rw [hX, os_r2, ob_some, a_lst0, ob_some]) ?_
  unfold f_X10_settled
  rw [isBill_1 y0 y1, ob_some, ob_some, ob_some]
  dsimp only
  rw [if_neg (by decide), iL_6, iI_mul, iI_add, a_ldI (by omega) (by omega) (by omega), ob_some, ob_some, show ((6 : Int) * (v0 : Nat) + (v1 : Nat)).toNat = 6 * v0 + v1 by omega, thM_c _ _ (by decide)]
