theorem prc_nn {res : Option (Int × Int × Int)} {mx : Option Int} (hres : res = none ∨ ∃ w a2 b2, res = some (w, a2, b2) ∧ -240000 ≤ w ∧ w ≤ 240000) (hmx : okV mx) : 0 ≤ prc res mx ∧ prc res mx ≤ 480000 := by
  rcases hres with q | ⟨w, a2, b2, q, q1, q2⟩
  · rw [q]
    exact ⟨by show (0 : Int) ≤ 0; omega, by show (0 : Int) ≤ 480000; omega⟩
  · rw [q]
    cases h : mx with
    | none => exact ⟨by show (0 : Int) ≤ 0; omega, by show (0 : Int) ≤ 480000; omega⟩
    | some v =>
      have hv := hmx v h
      show 0 ≤ (if v < w then 0 else v - w) ∧ (if v < w then 0 else v - w) ≤ 480000
      by_cases c : v < w
      · rw [if_pos c]; omega
      · rw [if_neg c]; omega
theorem hwS_nn {R : Nat → Option (Int × Int × Int)} : ∀ (n : Nat), (∀ h, h < n → ∃ w a b, R h = some (w, a, b) ∧ 0 ≤ w ∧ w ≤ 240000) → ∃ v, hwS R n = some v ∧ 0 ≤ v ∧ v ≤ 240000 * (n : Int)
  | 0, _ => ⟨0, rfl, by omega, by omega⟩
  | n + 1, hr => by
    obtain ⟨v, e, h1, h2⟩ := hwS_nn n (fun h hh => hr h (by omega))
    obtain ⟨w, a, b, q, q1, q2⟩ := hr n (by omega)
    exact ⟨v + w, hwS_succS e q, by omega, by omega⟩
theorem vlS_nn {l : Nat → Int} {m0 : gM} {n : Nat} {M : List Nat} {nb : Nat} {TO GR : Nat → Int} (hD : cDat m0 l n M nb TO GR) : 0 ≤ (vlS l m0 M nb 0).toInt := by
  have e0 : isum nb (wT (m0 16) (m0 17) (m0 18) (m0 19) 0) = 0 := by
    have := isum_rng (B := 0) (by omega) (t := wT (m0 16) (m0 17) (m0 18) (m0 19) 0) nb (fun k _ => by
      unfold wT
      rw [Nat.zero_testBit, if_neg (by decide)]
      exact ⟨by omega, by omega⟩)
    omega
  obtain ⟨v, e, h1, h2⟩ := hwS_nn 4 (okS_0 hD).2
  have e : hwS (fun h => slR l m0 M nb h (pt (m0 16) 0 h nb)) 4 = some v := e
  unfold vlS wvI
  rw [e0, e]
  show 0 ≤ (iI (0 + v)).toInt
  rw [iI_toInt (by omega) (by omega)]
  omega
theorem vl_cho {l : Nat → Int} {m0 : gM} {n : Nat} {M : List Nat} {nb : Nat} {TO GR : Nat → Int} (hD : cDat m0 l n M nb TO GR) : 0 ≤ (vlS l m0 M nb (cho l m0 M nb TO GR)).toInt := by
  have h0 := vlS_nn hD
  have h1 := bst_ge (ok := okS l m0 M nb TO GR) (v := vlS l m0 M nb) (2 ^ nb - 1)
  have h2 := (bst_in (v := vlS l m0 M nb) (okS_0 hD).1 (2 ^ nb - 1)).2.2
  rw [h2, Int32.le_iff_toInt_le] at h1
  show 0 ≤ (vlS l m0 M nb (bst (okS l m0 M nb TO GR) (vlS l m0 M nb) (2 ^ nb - 1)).1).toInt
  omega
set_option maxHeartbeats 1000000 in
theorem clear_ok {d : Nat} {l : Nat → Int} {n : Nat} {M : List Nat} {nb : Nat} {TO GR : Nat → Int} {na : Nat} {MA : List Nat} {no : Nat} {MO : List Nat} {m mm : gM} (hR : RelA d 0 l n M nb TO GR na MA no MO m mm) (hP : posP m) {L : Nat} (hL : L ≤ 10) (hl : ∀ k, k < 3 → m 3 k = iI (L : Nat)) : ∃ (r : Int32) (m8 : gM) (c : Nat), f_X9_clear m = some (.inr (r, m8)) ∧ RelC m8 ∧ 0 ≤ r.toInt ∧ f_X9_worthAnew m8 = some (.inr r) ∧ (∀ k, k ≠ 9 → m8 0 k = m 0 k) ∧ m8 0 9 = 1 ∧ (∀ c, c ≠ 0 → c ≠ 11 → c ≠ 13 → (c < 22 ∨ 43 < c) → c ≠ 52 → c ≠ 69 + 16 * d + 1 → c ≠ 69 + 16 * d + 2 → c ≠ 69 + 16 * d + 3 → c ≠ 69 + 16 * d + 5 → m8 c = m c) ∧ (∀ k, k ≠ 9 → m8 13 k = m 13 k) ∧ m8 13 9 = iI (c : Nat) ∧ c < 32 ∧ semD d 1 m8 ∧ ∀ k, k < na → ∃ u : Nat, u ≤ L ∧ f_X9_given (iI (k : Nat)) m8 = some (.inr (iI (u : Nat))) := by
  obtain ⟨a1, a2, a3, a4, a5, a6, a7, a8, a9, a10, a11, a12⟩ := id hR
  obtain ⟨hd9, _, hd1, hd2, hs1, hs2⟩ := id a1
  have hd : d < 10 := by omega
  have hD : cDat m l n M nb TO GR := ⟨a3.1, a4.1, a5.1⟩
  have hlr : ∀ k, k < 3 → 0 ≤ l k ∧ l k ≤ 10 := fun k hk => (a3.1 k hk).2
  have hvl := vl_cho hD
  obtain ⟨hch1, hch32, hok, hchp⟩ := cho_ok hD
  obtain ⟨m4, e4, k1, k2, k3, k4, k5, k6⟩ := sp_clearDay hD a12.1 (o := 69 + 16 * d) (by omega)
  generalize hch : cho l m M nb TO GR = ch at *
  have hn40 := a4.1.1
  have hb4 : bidsOk m4 n M := bids_fr hD.2.1 (fun c c1 c2 c3 => k4 c (by omega) c3 (by omega) (by omega) (by omega))
  obtain ⟨m5, e5, h5, f5⟩ := takeBids_pl (d := d) (t := tkA l m M nb ch) hd hb4 (fun k hk => by rw [k2 k hk, k4 10 (by omega) (by omega) (by omega) (by omega) (by omega), i32_ssc])
  have ebT : ∀ i, bT m4 (tkA l m M nb ch) i = bT m (tkA l m M nb ch) i := by
    intro i
    funext k
    unfold bT sgB znF hnF
    rw [k4 6 (by omega) (by omega) (by omega) (by omega) (by omega), k4 7 (by omega) (by omega) (by omega) (by omega) (by omega), k4 8 (by omega) (by omega) (by omega) (by omega) (by omega)]
  have q5 : ∀ c, (c < 22 ∨ 43 < c) → c ≠ 11 → c ≠ 13 → c ≠ 69 + 16 * d + 1 → c ≠ 69 + 16 * d + 2 → c ≠ 69 + 16 * d + 3 → c ≠ 69 + 16 * d + 5 → m5 c = m c := fun c c1 c2 c3 c4 c5 c6 c7 => by rw [f5 c c6 c7, k4 c c1 c2 c3 c4 c5]
  have e513 : m5 13 = m4 13 := f5 13 (by omega) (by omega)
  have hb5 : blkC m5 nb TO GR := blkC_fr hD.2.2 (by rw [e513, k5 8 (by decide)]) (fun c c1 c2 => q5 c (by omega) (by omega) (by omega) (by omega) (by omega) (by omega) (by omega))
  obtain ⟨m6, e6, h6, f6⟩ := takeBlocks_pl (d := d) hd hb5 (by rw [e513]; exact k1) hch32
  have q6 : ∀ c, (c < 22 ∨ 43 < c) → c ≠ 11 → c ≠ 13 → c ≠ 69 + 16 * d + 1 → c ≠ 69 + 16 * d + 2 → c ≠ 69 + 16 * d + 3 → c ≠ 69 + 16 * d + 5 → m6 c = m c := fun c c1 c2 c3 c4 c5 c6 c7 => by rw [f6 c c6 c7, q5 c c1 c2 c3 c4 c5 c6 c7]
  have hA6 : akC m6 na MA := akC_fr a6.1 (fun c c1 c2 c3 => q6 c (by omega) (by omega) (by omega) (by omega) (by omega) (by omega) (by omega))
  obtain ⟨m7, e7, f7, g7⟩ := giveRights_ok (d := d) (L := L) hd hA6 hL (fun k hk => by rw [q6 3 (by omega) (by omega) (by omega) (by omega) (by omega) (by omega) (by omega)]; exact hl k hk) (fun k hk => by rw [q6 52 (by omega) (by omega) (by omega) (by omega) (by omega) (by omega) (by omega), q6 51 (by omega) (by omega) (by omega) (by omega) (by omega) (by omega) (by omega)]; exact a6.2.2.1 rfl k hk)
  obtain ⟨m8, e8⟩ : ∃ m8, m8 = g_up m7 0 (upd (m7 0) 9 1) := ⟨_, rfl⟩
  have f8 : ∀ c, c ≠ 0 → m8 c = m7 c := fun c hc => by rw [e8, g_up_ne _ _ hc]
  have f80 : ∀ k, k ≠ 9 → m8 0 k = m7 0 k := fun k hk => by rw [e8, g_up_at, updA, if_neg hk]
  have f89 : m8 0 9 = 1 := by rw [e8, g_up_at, updA, if_pos rfl]
  have q7 : ∀ c, c ≠ 11 → c ≠ 13 → (c < 22 ∨ 43 < c) → c ≠ 52 → c ≠ 69 + 16 * d + 1 → c ≠ 69 + 16 * d + 2 → c ≠ 69 + 16 * d + 3 → c ≠ 69 + 16 * d + 5 → m7 c = m c := fun c c2 c3 c1 c8 c4 c5 c6 c7 => by rw [f7 c c8 c7, q6 c c1 c2 c3 c4 c5 c6 c7]
  have q8 : ∀ c, c ≠ 0 → c ≠ 11 → c ≠ 13 → (c < 22 ∨ 43 < c) → c ≠ 52 → c ≠ 69 + 16 * d + 1 → c ≠ 69 + 16 * d + 2 → c ≠ 69 + 16 * d + 3 → c ≠ 69 + 16 * d + 5 → m8 c = m c := fun c c0 c2 c3 c1 c8 c4 c5 c6 c7 => by rw [f8 c c0, q7 c c2 c3 c1 c8 c4 c5 c6 c7]
  have r13 : m8 13 = m4 13 := by rw [f8 13 (by decide), f7 13 (by omega) (by omega), f6 13 (by omega) (by omega), e513]
  have r11 : m8 11 = m4 11 := by rw [f8 11 (by decide), f7 11 (by omega) (by omega), f6 11 (by omega) (by omega), f5 11 (by omega) (by omega)]
  have rp : m8 (69 + 16 * d + 1) = m4 (69 + 16 * d + 1) := by rw [f8 _ (by omega), f7 _ (by omega) (by omega), f6 _ (by omega) (by omega), f5 _ (by omega) (by omega)]
  have rn : m8 (69 + 16 * d + 2) = m4 (69 + 16 * d + 2) := by rw [f8 _ (by omega), f7 _ (by omega) (by omega), f6 _ (by omega) (by omega), f5 _ (by omega) (by omega)]
  have rl : m8 (69 + 16 * d + 3) = m6 (69 + 16 * d + 3) := by rw [f8 _ (by omega), f7 _ (by omega) (by omega)]
  have hb8 : blkC m8 nb TO GR := blkC_fr hD.2.2 (by rw [r13, k5 8 (by decide)]) (fun c c1 c2 => q8 c (by omega) (by omega) (by omega) (by omega) (by omega) (by omega) (by omega) (by omega) (by omega))
  have hc8 : m8 13 9 = iI (ch : Nat) := by rw [r13]; exact k1
  have s8 : ∀ c, 4 ≤ c → c ≤ 10 → m8 c = m c := fun c c1 c2 => q8 c (by omega) (by omega) (by omega) (by omega) (by omega) (by omega) (by omega) (by omega) (by omega)
  have t8 : ∀ c, 15 ≤ c → c ≤ 19 → m8 c = m c := fun c c1 c2 => q8 c (by omega) (by omega) (by omega) (by omega) (by omega) (by omega) (by omega) (by omega) (by omega)
  have hwt := sp_worthTaken (m := m8) (n := n) (t := fun k => (tkA l m M nb ch k : Int)) hb8 hc8 hch32 (by rw [s8 4 (by decide) (by decide)]; exact a4.1.2.1) hn40 (fun k hk => by rw [s8 8 (by decide) (by decide)]; exact (a4.1.2.2.2 k hk).2.2.2.1) (fun k hk => by rw [s8 10 (by decide) (by decide), r11, k2 k hk, i32_ssc])
  have epv : ∀ k, pvF m8 k = pvF m k := fun k => by
    unfold pvF
    rw [s8 8 (by decide) (by decide), s8 9 (by decide) (by decide)]
  rw [t8 16 (by decide) (by decide), t8 17 (by decide) (by decide), t8 18 (by decide) (by decide), t8 19 (by decide) (by decide), isum_congr n (fun k _ => by rw [epv k])] at hwt
  have hws := worth_sum hD hchp
  have hws : hwS (fun h => slR l m M nb h (pt (m 16) ch h nb)) 4 = some (isum n (fun k => pvF m k * (tkA l m M nb ch k : Nat))) := hws
  have evl : vlS l m M nb ch = iI (isum nb (wT (m 16) (m 17) (m 18) (m 19) ch) + isum n (fun k => pvF m k * (tkA l m M nb ch k : Int))) := by
    unfold vlS wvI
    rw [hws]
  rw [← evl] at hwt
  have h9 : m 0 9 = 0 := by rw [hs1]; rfl
  have hX : f_X9_clear m = some (.inr (vlS l m M nb ch, m8)) := by
    unfold f_X9_clear
    simp only [if_pos h9, ob_sm, cs1, ox_r]
    rw [hd1, rfN hd (by omega), ob_some, e4, ob_some, e5, ob_some, e6, ob_some, e7, ob_some, ← e8, hwt, ob_some]
  obtain ⟨v, hv, hv2⟩ := br_clear ⟨mm, d, 0, l, n, M, nb, TO, GR, na, MA, no, MO, hR⟩
  have hrel : RelC m8 := hv2 _ m8 (Option.some.inj (hv.symm.trans hX))
  have hnets : ∀ z, z < 3 → ∀ h, h < 4 → m8 (69 + 16 * d + 2) (4 * z + h) = iI (nzF (cR l m M nb ch h) z) := fun z hz h hh => by rw [rn]; exact (k3 z hz h hh).1
  have hprs : ∀ z, z < 3 → ∀ h, h < 4 → m8 (69 + 16 * d + 1) (4 * z + h) = iI (cP l m M nb ch h z) := fun z hz h hh => by rw [rp]; exact (k3 z hz h hh).2
  refine ⟨vlS l m M nb ch, m8, ch, hX, hrel, hvl, ?_, fun k hk => by rw [f80 k hk, q7 0 (by omega) (by omega) (by omega) (by omega) (by omega) (by omega) (by omega) (by omega)], f89, q8, fun k hk => by rw [r13]; exact k5 k hk, hc8, hch32, ⟨?_, fun _ => ⟨⟨?_, ?_⟩, ?_⟩⟩, ?_⟩
  · unfold f_X9_worthAnew
    simp only [if_pos f89, ob_sm, cs1, ox_r, hwt]
  · intro j hj i hi
    by_cases w : j = d
    · subst w
      revert i
      refine spot12 (P := fun i => 0 ≤ (m8 (69 + 16 * j + 1) i).toInt) ?_
      intro z hz h hh
      show 0 ≤ (m8 (69 + 16 * j + 1) (4 * z + h)).toInt
      have hcr : ∀ z, z < 3 → crvOk (lsF m M h z) (lbF m M h z) := fun z _ => crv_of hD.2.1 _ _
      have hpr : 0 ≤ cP l m M nb ch h z ∧ cP l m M nb ch h z ≤ 480000 := prc_nn (RS_rng hcr) (MS_ok hcr z)
      rw [hprs z hz h hh, iI_toInt (by omega) (by omega)]
      exact hpr.1
    · rw [q8 _ (by omega) (by omega) (by omega) (by omega) (by omega) (by omega) (by omega) (by omega) (by omega)]
      exact hP j hj i hi
  · intro h hh
    have n0 := hnets 0 (by decide) h hh
    have n1 := hnets 1 (by decide) h hh
    have n2 := hnets 2 (by decide) h hh
    rw [show 4 * 0 + h = h by omega] at n0
    rw [show 4 * 1 + h = 4 + h by omega] at n1
    rw [show 4 * 2 + h = 8 + h by omega] at n2
    rw [n0, n1, n2]
    cases q : cR l m M nb ch h with
    | none => exact absurd q (hchp h hh)
    | some u =>
      obtain ⟨w, a, b⟩ := u
      rw [iI_add, iI_add]
      show iI (a + b + (-a - b)) = 0
      rw [show a + b + (-a - b) = 0 by omega]
      rfl
  · refine spot12 (P := fun i => plA (m8 (69 + 16 * d + 3)) i 6 = m8 (69 + 16 * d + 2) i) ?_
    intro z hz h hh
    show plA (m8 (69 + 16 * d + 3)) (4 * z + h) 6 = m8 (69 + 16 * d + 2) (4 * z + h)
    have h0 : plA (m4 (69 + 16 * d + 3)) (4 * z + h) 6 = 0 := by
      rw [k4 _ (by omega) (by omega) (by omega) (by omega) (by omega)]
      have hz0 : ∀ i, i < 72 → m (69 + 16 * d + 3) i = 0 := by
        intro i hi
        have := a10.2.2.1 rfl i hi
        unfold rg at this
        rw [← iI_of (m (69 + 16 * d + 3) i), show (m (69 + 16 * d + 3) i).toInt = 0 by omega]
        rfl
      have hpl : ∀ f, f ≤ 6 → plA (m (69 + 16 * d + 3)) (4 * z + h) f = 0 := by
        intro f
        induction f with
        | zero => intro _; rfl
        | succ f ih =>
          intro hf
          show plA (m (69 + 16 * d + 3)) (4 * z + h) f + m (69 + 16 * d + 3) (12 * f + (4 * z + h)) = 0
          rw [ih (by omega), hz0 _ (by omega)]
          rfl
      exact hpl 6 (by omega)
    have eq := net_eq hD hchp hz hh
    rw [rl, h6 z hz h hh, h5 _ (by omega), h0, ebT, hnets z hz h hh, ← eq, Int32.zero_add]
    have g5 : ∀ c, 15 ≤ c → c ≤ 19 → m5 c = m c := fun c c1 c2 => q5 c (by omega) (by omega) (by omega) (by omega) (by omega) (by omega) (by omega)
    rw [g5 15 (by decide) (by decide), g5 16 (by decide) (by decide), g5 17 (by decide) (by decide), g5 19 (by decide) (by decide)]
  · intro nb' c' x1 x2 x3 x4
    have y1 : nb' = nb := iI_injN (x1.symm.trans hb8.1) (by omega) (by have := hb8.2.1.1; omega)
    have y2 : c' = ch := iI_injN (x3.symm.trans hc8) (by omega) (by omega)
    subst y1
    subst y2
    rw [t8 15 (by decide) (by decide), t8 16 (by decide) (by decide), t8 17 (by decide) (by decide), t8 18 (by decide) (by decide)]
    intro hlos
    refine hok.2.2 ((losS_congr hD.2.2.2.1 ?_).1 hlos)
    intro z hz h hh
    rw [hprs z hz h hh]
    unfold srP
    rw [show (4 * z + h) % 4 = h by omega, show (4 * z + h) / 4 = z by omega]
    rfl
  · intro k hk
    obtain ⟨u, hu, eu⟩ := g7 k hk
    refine ⟨u, hu, ?_⟩
    have hna := a6.1.2.1
    have w8 : ∀ c, c ≠ 52 → 45 ≤ c → c ≤ 54 → m8 c = m c := fun c c3 c1 c2 => q8 c (by omega) (by omega) (by omega) (by omega) (by omega) (by omega) (by omega) (by omega) (by omega)
    have x0 := ci_ok (ct := m8 45 8) (v := k) (n := na) (by rw [w8 45 (by decide) (by decide) (by decide)]; exact a6.1.1) hk (by omega)
    unfold f_X9_given
    simp only [x0, ox_r, ob_sm, if_pos f89, cs1]
    rw [sp_used (by rw [oln45]; omega) (by rw [oln45]; omega), ob_some, show (45 + 6 : Nat) = 51 from rfl, show (45 + 7 : Nat) = 52 from rfl, w8 51 (by decide) (by decide) (by decide), f8 52 (by decide), eu, q6 51 (by omega) (by omega) (by omega) (by omega) (by omega) (by omega) (by omega), i32_ssc]
