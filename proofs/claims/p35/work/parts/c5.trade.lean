theorem ez_sum {zs zb : Nat} (u : Int) (h1 : zs < 3) (h2 : zb < 3) : ((if 0 = zs then u else 0) - (if 0 = zb then u else 0)) + ((if 1 = zs then u else 0) - (if 1 = zb then u else 0)) + ((if 2 = zs then u else 0) - (if 2 = zb then u else 0)) = 0 := by
  have a : zs = 0 ∨ zs = 1 ∨ zs = 2 := by omega
  have b : zb = 0 ∨ zb = 1 ∨ zb = 2 := by omega
  rcases a with rfl | rfl | rfl <;> rcases b with rfl | rfl | rfl <;> first | (simp; done) | (simp; omega)
theorem xs2_dl (x : Nat → Int32) (s b : Nat) (u : Int) (i : Nat) : xs2 x s b u i = x i + (if i = s then iI u else 0) + (if i = b then -(iI u) else 0) := by
  rw [xs2_at]
  by_cases c : i = b
  · rw [if_pos c, if_pos c]
    by_cases c2 : b = s
    · rw [if_pos c2, if_pos (by omega), c, c2, Int32.add_assoc, Int32.add_right_neg, Int32.add_zero]
    · rw [if_neg c2, if_neg (by omega), c, Int32.add_zero, Int32.sub_eq_add_neg]
  · rw [if_neg c, if_neg c, Int32.add_zero]
    by_cases c2 : i = s
    · rw [if_pos c2, if_pos c2, c2]
    · rw [if_neg c2, if_neg c2, Int32.add_zero]
def ofC (N : Nat) (m : gM) : Prop := ∀ k, k < N → rg (m 56 k) 0 5 ∧ rg (m 57 k) 0 2 ∧ rg (m 58 k) 0 3 ∧ (m 59 k = 0 ∨ m 59 k = 1) ∧ rg (m 60 k) 0 300 ∧ rg (m 62 k) 0 10
theorem dl_sum {x : Nat → Int32} {zs zb h h2 : Nat} (u : Int) (lzs : zs < 3) (lzb : zb < 3) (hh : h < 4) (hh2 : h2 < 4) (h0 : x h2 + x (4 + h2) + x (8 + h2) = 0) : xs2 x (4 * zs + h) (4 * zb + h) u h2 + xs2 x (4 * zs + h) (4 * zb + h) u (4 + h2) + xs2 x (4 * zs + h) (4 * zb + h) u (8 + h2) = 0 := by
  have key : ∀ z, z < 3 → xs2 x (4 * zs + h) (4 * zb + h) u (4 * z + h2) = x (4 * z + h2) + iI (if h2 = h then (if z = zs then u else 0) - (if z = zb then u else 0) else 0) := by
    intro z hz
    rw [xs2_dl, Int32.add_assoc]
    congr 1
    by_cases c : h2 = h
    · subst c
      rw [if_pos rfl]
      by_cases c1 : z = zs
      · rw [if_pos (by omega), if_pos c1]
        by_cases c2 : z = zb
        · rw [if_pos (by omega), if_pos c2, iI_neg, iI_add]
          rfl
        · rw [if_neg (by omega), if_neg c2, Int32.add_zero]
          congr 1
          omega
      · rw [if_neg (by omega), if_neg c1, Int32.zero_add]
        by_cases c2 : z = zb
        · rw [if_pos (by omega), if_pos c2, iI_neg]
          congr 1
          omega
        · rw [if_neg (by omega), if_neg c2]
          rfl
    · rw [if_neg c, if_neg (by omega), if_neg (by omega)]
      rfl
  have k0 := key 0 (by decide)
  have k1 := key 1 (by decide)
  have k2 := key 2 (by decide)
  rw [show 4 * 0 + h2 = h2 by omega] at k0
  rw [show 4 * 1 + h2 = 4 + h2 by omega] at k1
  rw [show 4 * 2 + h2 = 8 + h2 by omega] at k2
  rw [k0, k1, k2]
  obtain ⟨a, ea, -, -⟩ := iI_ex (x h2)
  obtain ⟨b, eb, -, -⟩ := iI_ex (x (4 + h2))
  obtain ⟨c, ec, -, -⟩ := iI_ex (x (8 + h2))
  rw [ea, eb, ec] at h0 ⊢
  rw [iI_add, iI_add] at h0
  rw [iI_add, iI_add, iI_add, iI_add, iI_add]
  have hs : (if h2 = h then (if 0 = zs then u else 0) - (if 0 = zb then u else 0) else 0) + (if h2 = h then (if 1 = zs then u else 0) - (if 1 = zb then u else 0) else 0) + (if h2 = h then (if 2 = zs then u else 0) - (if 2 = zb then u else 0) else 0) = (0 : Int) := by
    by_cases w : h2 = h
    · rw [if_pos w, if_pos w, if_pos w]
      exact ez_sum u lzs lzb
    · rw [if_neg w, if_neg w, if_neg w]
      rfl
  rw [← h0]
  congr 1
  omega
theorem trade_ok {m1 : gM} {d N c r : Nat} (hd : d < 10) (h08 : m1 0 8 = iI (d : Nat)) (hN : N ≤ 60) (hk : ofC N m1) (hnp : netP d m1) (hc : c < N) (hr : r < N) (hcr : c ≠ r) : T (f_X9_trade (iI (c : Nat)) (iI (r : Nat)) m1) (fun m3 => tfC d m1 m3 ∧ ofC N m3 ∧ netP d m3 ∧ (m3 62 c).toInt ≤ (m1 62 c).toInt) := by
  obtain ⟨c56, c57, c58, c59, c60, c62⟩ := hk c hc
  obtain ⟨r56, r57, r58, r59, r60, r62⟩ := hk r hr
  obtain ⟨s, b, hs, hb, es, eb⟩ : ∃ s b, s < N ∧ b < N ∧ (∀ {α : Type} (G : Int32 → Option α), ob (if m1 59 c = 0 then some (iI (c : Nat)) else some (iI (r : Nat))) G = G (iI (s : Nat))) ∧ (∀ {α : Type} (G : Int32 → Option α), ob (if m1 59 c = 0 then some (iI (r : Nat)) else some (iI (c : Nat))) G = G (iI (b : Nat))) := by
    rcases c59 with q | q
    · exact ⟨c, r, hc, hr, fun G => by rw [if_pos q, ob_some], fun G => by rw [if_pos q, ob_some]⟩
    · refine ⟨r, c, hr, hc, fun G => ?_, fun G => ?_⟩
      · rw [if_neg (by rw [q]; decide), ob_some]
      · rw [if_neg (by rw [q]; decide), ob_some]
  obtain ⟨s56, s57, _⟩ := hk s hs
  obtain ⟨b56, b57, _⟩ := hk b hb
  obtain ⟨fs, efs, lfs⟩ := rgN s56
  obtain ⟨zs, ezs, lzs⟩ := rgN s57
  obtain ⟨fb, efb, lfb⟩ := rgN b56
  obtain ⟨zb, ezb, lzb⟩ := rgN b57
  obtain ⟨h, eh, lh⟩ := rgN c58
  obtain ⟨qc, eqc, lqc⟩ := rgN c62
  obtain ⟨qr, eqr, lqr⟩ := rgN r62
  have hS : 4 * zs + h < 12 := by omega
  have hBb : 4 * zb + h < 12 := by omega
  have ln : ∀ (C k : Nat) (m : gM), k < N → a_ld 60 C (iI (k : Nat)) m = some (m C k) := fun C k m hk => ldN (by omega) (by omega)
  have sn : ∀ (C k : Nat) (x : Int32) (m : gM), k < N → a_st 60 C (iI (k : Nat)) x m = some (g_up m C (upd (m C) k x)) := fun C k x m hk => stN (by omega) (by omega)
  have e4s : ((zs : Nat) : Int) * 4 + (h : Nat) = ((4 * zs + h : Nat) : Int) := by omega
  have e4b : ((zb : Nat) : Int) * 4 + (h : Nat) = ((4 * zb + h : Nat) : Int) := by omega
  obtain ⟨t35, g35, u, t1, t2, hu⟩ := sp_L118 (o := 69 + 16 * d) (s := 4 * zs + h) (b := 4 * zb + h) (h := h) (most := min qc qr) (m := m1) (by omega) hS hBb (by omega) (by omega)
  obtain ⟨y18, m19⟩ := t35
  have t1 : y18 = iI (u : Nat) := t1
  have t2 : m19 = g_up m1 (69 + 16 * d + 2) (xs2 (m1 (69 + 16 * d + 2)) (4 * zs + h) (4 * zb + h) (u : Nat)) := t2
  have hum : u ≤ min qc qr := hu.1
  obtain ⟨m28, e28⟩ : ∃ m28, m28 = g_up (g_up m19 62 (upd (m19 62) c (iI ((qc - u : Nat) : Int)))) 62 (upd (upd (m19 62) c (iI ((qc - u : Nat) : Int))) r (iI ((qr - u : Nat) : Int))) := ⟨_, rfl⟩
  have f19 : ∀ k, k ≠ 69 + 16 * d + 2 → m19 k = m1 k := fun k hk => by rw [t2, g_up_ne _ _ hk]
  have f28 : ∀ k, k ≠ 62 → m28 k = m19 k := fun k hk => by rw [e28, g_up_ne _ _ hk, g_up_ne _ _ hk]
  have r28 : m28 62 = upd (upd (m1 62) c (iI ((qc - u : Nat) : Int))) r (iI ((qr - u : Nat) : Int)) := by rw [e28, g_up_at, f19 62 (by omega)]
  have f28b : ∀ k, k ≠ 62 → k ≠ 69 + 16 * d + 2 → m28 k = m1 k := fun k h1 h2 => by rw [f28 k h1, f19 k h2]
  have n28 : m28 (69 + 16 * d + 2) = xs2 (m1 (69 + 16 * d + 2)) (4 * zs + h) (4 * zb + h) (u : Nat) := by rw [f28 _ (by omega), t2, g_up_at]
  have b1 := sp_book (d := d) (f := fs) (z := zs) (h := h) (mc := m28) (u := iI (u : Nat)) (p := m1 60 r) (by omega) (by omega) (by omega)
  obtain ⟨m31, e31⟩ : ∃ m31, m31 = g_up (g_up m28 (69 + 16 * d + 3) (upd (m28 (69 + 16 * d + 3)) (12 * fs + 4 * zs + h) (m28 (69 + 16 * d + 3) (12 * fs + 4 * zs + h) + iI (u : Nat)))) (69 + 16 * d + 5) (upd (m28 (69 + 16 * d + 5)) fs (m28 (69 + 16 * d + 5) fs + iI (u : Nat) * m1 60 r)) := ⟨_, rfl⟩
  rw [← e31] at b1
  have g1 := sp_book (d := d) (f := fb) (z := zb) (h := h) (mc := m31) (u := -(iI (u : Nat))) (p := m1 60 r) (by omega) (by omega) (by omega)
  obtain ⟨m34, e34⟩ : ∃ m34, m34 = g_up (g_up m31 (69 + 16 * d + 3) (upd (m31 (69 + 16 * d + 3)) (12 * fb + 4 * zb + h) (m31 (69 + 16 * d + 3) (12 * fb + 4 * zb + h) + -(iI (u : Nat))))) (69 + 16 * d + 5) (upd (m31 (69 + 16 * d + 5)) fb (m31 (69 + 16 * d + 5) fb + -(iI (u : Nat)) * m1 60 r)) := ⟨_, rfl⟩
  rw [← e34] at g1
  have b5 : ∀ k, k ≠ 69 + 16 * d + 3 → k ≠ 69 + 16 * d + 5 → m31 k = m28 k := fun k h1 h2 => by rw [e31, g_up_ne _ _ h2, g_up_ne _ _ h1]
  have g5 : ∀ k, k ≠ 69 + 16 * d + 3 → k ≠ 69 + 16 * d + 5 → m34 k = m31 k := fun k h1 h2 => by rw [e34, g_up_ne _ _ h2, g_up_ne _ _ h1]
  have f31 : ∀ k, k ≠ 62 → k ≠ 69 + 16 * d + 2 → k ≠ 69 + 16 * d + 3 → k ≠ 69 + 16 * d + 5 → m31 k = m1 k := fun k h1 h2 h3 h4 => by rw [b5 k h3 h4, f28b k h1 h2]
  have f34 : ∀ k, k ≠ 62 → k ≠ 69 + 16 * d + 2 → k ≠ 69 + 16 * d + 3 → k ≠ 69 + 16 * d + 5 → m34 k = m1 k := fun k h1 h2 h3 h4 => by rw [g5 k h3 h4, f31 k h1 h2 h3 h4]
  have p31 : m31 (69 + 16 * d + 3) = upd (m1 (69 + 16 * d + 3)) (12 * fs + (4 * zs + h)) (m1 (69 + 16 * d + 3) (12 * fs + (4 * zs + h)) + iI (u : Nat)) := by
    rw [e31, g_up_ne _ _ (by omega), g_up_at, f28b _ (by omega) (by omega), show 12 * fs + 4 * zs + h = 12 * fs + (4 * zs + h) by omega]
  have p34 : m34 (69 + 16 * d + 3) = upd (m31 (69 + 16 * d + 3)) (12 * fb + (4 * zb + h)) (m31 (69 + 16 * d + 3) (12 * fb + (4 * zb + h)) + -(iI (u : Nat))) := by
    rw [e34, g_up_ne _ _ (by omega), g_up_at, show 12 * fb + 4 * zb + h = 12 * fb + (4 * zb + h) by omega]
  have n34 : m34 (69 + 16 * d + 2) = xs2 (m1 (69 + 16 * d + 2)) (4 * zs + h) (4 * zb + h) (u : Nat) := by rw [g5 _ (by omega) (by omega), b5 _ (by omega) (by omega), n28]
  have r34 : m34 62 = upd (upd (m1 62) c (iI ((qc - u : Nat) : Int))) r (iI ((qr - u : Nat) : Int)) := by rw [g5 _ (by omega) (by omega), b5 _ (by omega) (by omega), r28]
  refine ⟨m34, ?_, f34, ?_, ⟨?_, ?_⟩, ?_⟩
  · unfold f_X9_trade
    have hmin : a_min (iI (qc : Nat)) (iI (qr : Nat)) = iI ((min qc qr : Nat) : Int) := by
      rw [a_minI (by omega) (by omega) (by omega) (by omega)]
      congr 1
      omega
    rw [ln 59 c m1 hc, ob_some, es, ob_some, eb, ln 58 c m1 hc, ob_some, h08, a_rfI (by omega) (by omega) (by omega), ob_some, Int.toNat_natCast, ln 57 s m1 hs, ob_some, ezs, eh, sp_spot, ob_some, ln 57 b m1 hb, ob_some, ezb, sp_spot, ob_some, ln 62 c m1 hc, ob_some, ln 62 r m1 hr, ob_some, eqc, eqr, hmin, ob_some, e4s, e4b, g35, ob_some, ob_some, ob_some, ln 62 c m19 hc, ob_some, f19 62 (by omega), eqc, t1, iI_sub, show ((qc : Nat) : Int) - (u : Nat) = ((qc - u : Nat) : Int) by omega, sn 62 c _ m19 hc, ob_some, ln 62 r _ hr, ob_some, g_up_at, f19 62 (by omega), updA, if_neg (Ne.symm hcr), eqr, iI_sub, show ((qr : Nat) : Int) - (u : Nat) = ((qr - u : Nat) : Int) by omega, sn 62 r _ _ hr, ob_some, g_up_at]
    have e28b : g_up (g_up m19 62 (upd (m1 62) c (iI ((qc - u : Nat) : Int)))) 62 (upd (upd (m1 62) c (iI ((qc - u : Nat) : Int))) r (iI ((qr - u : Nat) : Int))) = m28 := by rw [e28, f19 62 (by omega)]
    rw [e28b, ln 56 s m28 hs, ob_some, ln 60 r m28 hr, ob_some, f28b 56 (by decide) (by omega), efs, f28b 60 (by decide) (by omega), ← e4s, b1, ob_some, ln 56 b m31 hb, ob_some, ln 60 r m31 hr, ob_some, f31 56 (by decide) (by omega) (by omega) (by omega), efb, f31 60 (by decide) (by omega) (by omega) (by omega), ← e4b, g1, ob_some]
  · intro k hkN
    obtain ⟨w1, w2, w3, w4, w5, w6⟩ := hk k hkN
    rw [f34 56 (by decide) (by omega) (by omega) (by omega), f34 57 (by decide) (by omega) (by omega) (by omega), f34 58 (by decide) (by omega) (by omega) (by omega), f34 59 (by decide) (by omega) (by omega) (by omega), f34 60 (by decide) (by omega) (by omega) (by omega)]
    refine ⟨w1, w2, w3, w4, w5, ?_⟩
    rw [r34, updA]
    by_cases c1 : k = r
    · rw [if_pos c1]
      exact rg_iI (by omega) (by omega) (by omega) (by omega)
    · rw [if_neg c1, updA]
      by_cases c2 : k = c
      · rw [if_pos c2]
        exact rg_iI (by omega) (by omega) (by omega) (by omega)
      · rw [if_neg c2]
        exact w6
  · intro h2 hh2
    rw [n34]
    exact dl_sum (u : Int) (by omega) (by omega) (by omega) hh2 (hnp.1 h2 hh2)
  · intro i hi
    rw [n34, xs2_dl, p34, plA_upd _ _ hBb hi, p31, plA_upd _ _ hS hi, hnp.2 i hi]
    congr 1
    · congr 1
      by_cases w : i = 4 * zs + h
      · rw [if_pos ⟨w, by omega⟩, if_pos w]
      · rw [if_neg (fun q => w q.1), if_neg w]
    · by_cases w : i = 4 * zb + h
      · rw [if_pos ⟨w, by omega⟩, if_pos w]
      · rw [if_neg (fun q => w q.1), if_neg w]
  · rw [r34, updA, if_neg hcr, updA, if_pos rfl, eqc, iI_toInt (by omega) (by omega), iI_toInt (by omega) (by omega)]
    omega
theorem tradeAll_pc {d N c : Nat} {m0 : gM} {MO : List Nat} (hd : d < 10) (hN : N ≤ 60) (hc : c < N) (h55 : m0 55 8 = iI (N : Nat)) (h08 : m0 0 8 = iI (d : Nat)) (hM : Mer N (keyO m0 55) (m0 63) MO) : ∀ (n : Nat) (i : Nat) (m1 : gM) (y : Int32) (m2 : gM), i ≤ 1000 → tfC d m0 m1 → ofC N m1 → netP d m1 → f_X9_tradeAll_L2 (iI (c : Nat)) n (iI (i : Nat)) m1 = some (y, m2) → tfC d m0 m2 ∧ ofC N m2 ∧ netP d m2 ∧ (m2 62 c).toInt ≤ (m1 62 c).toInt := by
  intro n
  induction n with
  | zero =>
    intro i m1 y m2 _ _ _ _ h
    cases h
  | succ n ih =>
    intro i m1 y m2 hi ht ho hp h
    rw [f_X9_tradeAll_L2, ht 55 (by omega) (by omega) (by omega) (by omega), h55, iI_le (by omega) (by omega) (by omega) (by omega)] at h
    by_cases q : (N : Int) ≤ i
    · rw [if_pos q] at h
      cases h
      exact ⟨ht, ho, hp, Int.le_refl _⟩
    · have hiN : i < N := by omega
      rw [if_neg q, ldN (by omega) (by omega), ob_some] at h
      by_cases q2 : m1 62 c ≤ 0
      · rw [if_pos q2] at h
        cases h
        exact ⟨ht, ho, hp, Int.le_refl _⟩
      · rw [if_neg q2, ldN (by omega) (by omega), ob_some, ht 63 (by omega) (by omega) (by omega) (by omega), hM.2.2.2 i hiN] at h
        have hr := Mer_lt hM hiN
        obtain ⟨r9, hf, h⟩ := ob_inv h
        obtain ⟨m3, h3, h⟩ := ob_inv h
        rw [iI_succ] at h
        by_cases q3 : r9 = 0
        · rw [if_pos q3] at h3
          cases h3
          exact ih (i + 1) m1 y m2 (by omega) ht ho hp h
        · rw [if_neg q3] at h3
          have hcr : c ≠ MO.getD i 0 := by
            intro e
            rw [← e] at hf
            unfold f_X8_fits at hf
            rw [show (55 + 4 : Nat) = 59 from rfl, show f_oln 55 = 60 from rfl, ldN (by omega) (by omega), ob_some, ob_some, if_pos rfl, ob_some, a_zc0, ob_some] at hf
            have hf : (0 : Int32) = r9 := Option.some.inj hf
            exact q3 hf.symm
          obtain ⟨m4, e4, k1, k2, k3, k4⟩ := trade_ok hd (by rw [ht 0 (by omega) (by omega) (by omega) (by omega)]; exact h08) hN ho hp hc hr hcr
          rw [e4, ob_some] at h3
          rw [← Option.some.inj h3] at h
          obtain ⟨j1, j2, j3, j4⟩ := ih (i + 1) m4 y m2 (by omega) (tfC_tr ht k1) k2 k3 h
          exact ⟨j1, j2, j3, Int.le_trans j4 k4⟩
theorem offer_ok {d : Nat} {l : Nat → Int} {n : Nat} {M : List Nat} {nb : Nat} {TO GR : Nat → Int} {na : Nat} {MA : List Nat} {no : Nat} {MO : List Nat} {m mm : gM} (hR : RelA d 1 l n M nb TO GR na MA no MO m mm) (hS : semD d 1 m) {f z h : Nat} {p u : Int} {y : Int32} (hf : f < 6) (hz : z < 3) (hh : h < 4) (hp : 0 ≤ p ∧ p ≤ 300) (hu : 1 ≤ u ∧ u ≤ 10) (hy : y = 0 ∨ y = 1) : (f_X9_offer (iI (f : Nat)) (iI (z : Nat)) (iI (h : Nat)) y (iI p) (iI u) m = some (.inl 3) ∧ (m 68 f = 1 ∨ no = 60)) ∨ ∃ m2, f_X9_offer (iI (f : Nat)) (iI (z : Nat)) (iI (h : Nat)) y (iI p) (iI u) m = some (.inr (iI (no : Nat), m2)) ∧ RelC m2 ∧ (∀ c, (c < 55 ∨ 63 < c) → c ≠ 69 + 16 * d + 2 → c ≠ 69 + 16 * d + 3 → c ≠ 69 + 16 * d + 5 → m2 c = m c) ∧ m2 55 8 = iI ((no + 1 : Nat) : Int) ∧ semD d 1 m2 ∧ f_X9_left (iI (no : Nat)) m2 = some (.inr (m2 62 no)) ∧ 0 ≤ (m2 62 no).toInt ∧ (m2 62 no).toInt ≤ u := by
  obtain ⟨a1, a2, a3, a4, a5, a6, a7, a8, a9, a10, a11, a12⟩ := id hR
  obtain ⟨hd9, _, hd1, hd2, hs1, hs2⟩ := id a1
  have hd : d < 10 := by omega
  obtain ⟨o1, o2, o3, _, o5, o6, _⟩ := id a7
  have h9 : m 0 9 = 1 := by rw [hs1]; rfl
  have x0 := ci_ok (ct := 6) (v := f) (n := 6) rfl hf (by omega)
  have x1 := ci_ok (ct := 3) (v := z) (n := 3) rfl hz (by omega)
  have x2 := ci_ok (ct := 4) (v := h) (n := 4) rfl hh (by omega)
  have x3 := cr_ok (v := p) (lo := 0) (hi := 300) (a := 0) (b := 300) rfl rfl (by omega) (by omega) (by omega) (by omega)
  have x4 := cr_ok (v := u) (lo := 1) (hi := 10) (a := 1) (b := 10) rfl rfl (by omega) (by omega) (by omega) (by omega)
  have l68 := ldN (n := 6) (c := 68) (m := m) hf (by omega)
  have h68 := a2.2.2.2.1 f hf
  have hrm := sp_hasRoom (o := 55) o1 (by omega) (by rw [oln55]; omega)
  rw [oln55] at hrm
  rcases h68 with q | q
  · by_cases hn : no < 60
    · right
      rw [if_pos hn] at hrm
      obtain ⟨rr, er, M2, g1, g2, g3, g4, g5, g6, g7, g8, g9, g10, g11⟩ := sp_add (o := 55) (p1 := iI (f : Nat)) (p2 := iI (z : Nat)) (p3 := iI (h : Nat)) (p4 := y) (p5 := iI p) (p6 := iI u) (B := 300) (M := MO) (m := m) (by rw [oln55]; omega) (show no < f_oln 55 by rw [oln55]; exact hn) (by omega) o1 (fun k hk => (o6 k hk).2.2.2.2.1) (rg_iI hp.1 hp.2 (by omega) (by omega)) hy o5
      obtain ⟨r1, m8⟩ := rr
      have g1 : r1 = iI (no : Nat) := g1
      subst g1
      have g2 : ∀ c, (c < 55 ∨ 63 < c) → m8 c = m c := g2
      have g3 : m8 55 = upd (m 55) 8 (iI ((no + 1 : Nat) : Int)) := g3
      have g4 : m8 56 = upd (m 56) no (iI (f : Nat)) := g4
      have g5 : m8 57 = upd (m 57) no (iI (z : Nat)) := g5
      have g6 : m8 58 = upd (m 58) no (iI (h : Nat)) := g6
      have g7 : m8 59 = upd (m 59) no y := g7
      have g8 : m8 60 = upd (m 60) no (iI p) := g8
      have g10 : m8 62 = upd (m 62) no (iI u) := g10
      have g11 : Mer (no + 1) (keyO m8 55) (m8 63) M2 := g11
      have h8 : m8 55 8 = iI ((no + 1 : Nat) : Int) := by rw [g3, updA, if_pos rfl]
      have hoC : ofC (no + 1) m8 := by
        intro k hk
        rw [g4, g5, g6, g7, g8, g10, updA, updA, updA, updA, updA, updA]
        by_cases w : k = no
        · rw [if_pos w, if_pos w, if_pos w, if_pos w, if_pos w, if_pos w]
          exact ⟨rg_iI (by omega) (by omega) (by omega) (by omega), rg_iI (by omega) (by omega) (by omega) (by omega), rg_iI (by omega) (by omega) (by omega) (by omega), hy, rg_iI (by omega) (by omega) (by omega) (by omega), rg_iI (by omega) (by omega) (by omega) (by omega)⟩
        · rw [if_neg w, if_neg w, if_neg w, if_neg w, if_neg w, if_neg w]
          exact o6 k (by omega)
      have hnp : netP d m8 := by
        have := (hS.2 rfl).1
        unfold netP at *
        rw [g2 _ (by omega), g2 _ (by omega)]
        exact this
      have hpre : f_X9_offer (iI (f : Nat)) (iI (z : Nat)) (iI (h : Nat)) y (iI p) (iI u) m = ob (f_X9_tradeAll (iI (no : Nat)) m8) fun m10 => some (.inr (iI (no : Nat), m10)) := by
        unfold f_X9_offer
        simp only [x0, x1, x2, x3, x4, ox_r, ob_sm, l68, if_pos q, if_pos h9, hrm, i10, cs1, er]
      obtain ⟨v, hv, hv2⟩ := br_offer (a1 := iI (f : Nat)) (a2 := iI (z : Nat)) (a3 := iI (h : Nat)) (a4 := y) (a5 := iI p) (a6 := iI u) ⟨mm, d, 1, l, n, M, nb, TO, GR, na, MA, no, MO, hR⟩ hy
      have hv3 := hv
      rw [hpre] at hv3
      obtain ⟨m10, hta, hv4⟩ := ob_inv hv3
      have hv5 : v = .inr (iI (no : Nat), m10) := (Option.some.inj hv4).symm
      have hrel := hv2 _ _ hv5
      unfold f_X9_tradeAll at hta
      obtain ⟨t13, h13, hta⟩ := ob_inv hta
      obtain ⟨y3, m4⟩ := t13
      try simp only [ob_sm] at hta
      have hta : m4 = m10 := Option.some.inj hta
      subst hta
      obtain ⟨k1, k2, k3, k4⟩ := tradeAll_pc (d := d) (N := no + 1) (c := no) hd (by omega) (by omega) h8 (by rw [g2 0 (by decide)]; exact hd1) g11 _ 0 m8 y3 m4 (by omega) (fun c _ _ _ _ => rfl) hoC hnp h13
      have F : ∀ c, (c < 55 ∨ 63 < c) → c ≠ 69 + 16 * d + 2 → c ≠ 69 + 16 * d + 3 → c ≠ 69 + 16 * d + 5 → m4 c = m c := fun c c1 c2 c3 c4 => by rw [k1 c (by omega) c2 c3 c4, g2 c c1]
      have e8 : m4 55 8 = iI ((no + 1 : Nat) : Int) := by rw [k1 55 (by omega) (by omega) (by omega) (by omega)]; exact h8
      have hrr := (k2 no (by omega)).2.2.2.2.2
      refine ⟨m4, hv.trans (congrArg some hv5), hrel, F, e8, ⟨posP_fr hS.1 (fun j hj => F _ (by omega) (by omega) (by omega) (by omega)), fun _ => ⟨k3, ?_⟩⟩, ?_, hrr.1, ?_⟩
      · have := (hS.2 rfl).2
        unfold losP at *
        rw [F 13 (by omega) (by omega) (by omega) (by omega), F _ (by omega) (by omega) (by omega) (by omega), F 15 (by omega) (by omega) (by omega) (by omega), F 16 (by omega) (by omega) (by omega) (by omega), F 17 (by omega) (by omega) (by omega) (by omega), F 18 (by omega) (by omega) (by omega) (by omega)]
        exact this
      · have w0 := ci_ok (ct := m4 55 8) (v := no) (n := no + 1) e8 (by omega) (by omega)
        unfold f_X9_left
        simp only [w0, ox_r, ldN (show no < 60 by omega) (show (60 : Nat) ≤ 100000 by omega), ob_sm]
      · have e : m8 62 no = iI u := by rw [g10, updA, if_pos rfl]
        rw [e, iI_toInt (by omega) (by omega)] at k4
        exact k4
    · left
      rw [if_neg hn] at hrm
      refine ⟨?_, Or.inr (by omega)⟩
      unfold f_X9_offer
      simp only [x0, x1, x2, x3, x4, ox_r, ox_l, ob_sm, l68, if_pos q, if_pos h9, hrm, i00, if_true, cs0]
  · left
    have q0 : ¬ m 68 f = 0 := by rw [q]; decide
    refine ⟨?_, Or.inl q⟩
    unfold f_X9_offer
    simp only [x0, x1, x2, x3, x4, ox_r, ox_l, ob_sm, l68, if_neg q0, cs0]
