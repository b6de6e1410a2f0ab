def ofR (N : Nat) (m1 m2 : gM) : Prop := N ≤ 60 ∧ (m2 27 = m1 56 ∧ m2 28 = m1 57 ∧ m2 29 = m1 58 ∧ m2 30 = m1 59 ∧ m2 31 = m1 60 ∧ m2 32 = m1 62) ∧ ∀ k, k < N → rg (m1 56 k) 0 5 ∧ rg (m1 57 k) 0 2 ∧ rg (m1 58 k) 0 3 ∧ (m1 59 k = 0 ∨ m1 59 k = 1) ∧ rg (m1 60 k) 0 300 ∧ rg (m1 62 k) 0 10
def ntR (d : Nat) (m1 m2 : gM) : Prop := (∀ i, i < 12 → m1 (69 + 16 * d + 2) i = m2 48 i) ∧ (∀ h, h < 4 → aFl (m2 1 0) (m2 1 1) (m2 1 2) (m2 48 h) (m2 48 (4 + h)) (m2 48 (8 + h))) ∧ ∀ k, k < 3 → m1 3 k = m2 1 k
def tI (d N : Nat) (m1 m2 : gM) : Prop := d < 10 ∧ m1 0 8 = iI (d : Nat) ∧ m2 0 0 = iI (d : Nat) ∧ ofR N m1 m2 ∧ ntR d m1 m2 ∧ pcE d m1 m2
def tfC (d : Nat) (m m2 : gM) : Prop := ∀ c, c ≠ 62 → c ≠ 69 + 16 * d + 2 → c ≠ 69 + 16 * d + 3 → c ≠ 69 + 16 * d + 5 → m2 c = m c
def tfM (d : Nat) (m m2 : gM) : Prop := (∀ c, c ≠ 32 → c ≠ 33 → c ≠ 42 → c ≠ 45 → c ≠ 48 → m2 c = m c) ∧ (∀ i, (i < 72 * d ∨ 72 * d + 72 ≤ i) → m2 42 i = m 42 i) ∧ ∀ i, (i < 6 * d ∨ 6 * d + 6 ≤ i) → m2 45 i = m 45 i
theorem tfC_tr {d : Nat} {m m2 m3 : gM} (h : tfC d m m2) (h2 : tfC d m2 m3) : tfC d m m3 := fun c a b e f => by rw [h2 c a b e f, h c a b e f]
theorem tfM_tr {d : Nat} {m m2 m3 : gM} (h : tfM d m m2) (h2 : tfM d m2 m3) : tfM d m m3 := ⟨fun c a b e f g => by rw [h2.1 c a b e f g, h.1 c a b e f g], fun i a => by rw [h2.2.1 i a, h.2.1 i a], fun i a => by rw [h2.2.2 i a, h.2.2 i a]⟩
theorem aL_cong {r r2 x y : Nat → Int32} (hr : ∀ k, k < 3 → r k = r2 k) (h : ∀ i, i < 12 → x i = y i) {s b : Nat} (hs : s < 12) (hb : b < 12) {hh : Nat} (h4 : hh < 4) (j : Int) : aL r x s b hh j ↔ aL r2 y s b hh j := by
  unfold aL
  rw [hr 0 (by decide), hr 1 (by decide), hr 2 (by decide), xs2_cong h hs hb j hh (by omega), xs2_cong h hs hb j (4 + hh) (by omega), xs2_cong h hs hb j (8 + hh) (by omega)]
theorem uP_cong {r r2 x y : Nat → Int32} (hr : ∀ k, k < 3 → r k = r2 k) (h : ∀ i, i < 12 → x i = y i) {s b : Nat} (hs : s < 12) (hb : b < 12) {hh : Nat} (h4 : hh < 4) {most u : Nat} (hu : uP r x s b hh most u) : uP r2 y s b hh most u := by
  obtain ⟨a1, a2, a3⟩ := hu
  exact ⟨a1, fun j h1 h2 => (aL_cong hr h hs hb h4 _).1 (a2 j h1 h2), fun h1 h2 => a3 h1 ((aL_cong hr h hs hb h4 _).2 h2)⟩
theorem sp_meets0 {d N c r : Nat} {m1 m2 : gM} (hT : tI d N m1 m2) (hc : c < N) (hr : r < N) (he : m1 56 c = m1 56 r) : f_X10_meets (iI (c : Nat)) (iI (r : Nat)) m2 = some m2 := by
  obtain ⟨hd, h08, h00, ⟨hN, ⟨w27, w28, w29, w30, w31, w32⟩, hk⟩, hn, hE⟩ := hT
  have ln : ∀ (C k : Nat), k < N → a_ld 60 C (iI (k : Nat)) m2 = some (m2 C k) := by
    intro C k hk
    rw [a_ldI (by omega) (by omega) (by omega), Int.toNat_natCast]
  have hsl : ∀ (x : Nat), x = c ∨ x = r → x < N := fun x hx => by omega
  have hsel : ∃ s, s < N ∧ ∀ {α : Type} (G : Int32 → Option α), ob (if m2 30 c = 1 then some (iI (r : Nat)) else some (iI (c : Nat))) G = G (iI (s : Nat)) := by
    by_cases u : m2 30 c = 1
    · exact ⟨r, hr, fun G => by rw [if_pos u, ob_some]⟩
    · exact ⟨c, hc, fun G => by rw [if_neg u, ob_some]⟩
  have hbuy : ∃ b, b < N ∧ ∀ {α : Type} (G : Int32 → Option α), ob (if m2 30 c = 1 then some (iI (c : Nat)) else some (iI (r : Nat))) G = G (iI (b : Nat)) := by
    by_cases u : m2 30 c = 1
    · exact ⟨c, hc, fun G => by rw [if_pos u, ob_some]⟩
    · exact ⟨r, hr, fun G => by rw [if_neg u, ob_some]⟩
  obtain ⟨s, hs, es⟩ := hsel
  obtain ⟨b, hb, eb⟩ := hbuy
  have hmin : ∃ q, ∀ {α : Type} (G : Int32 → Option α), ob (if m2 32 r ≤ m2 32 c then ob (some (m2 32 r)) fun v12 => some v12 else ob (some (m2 32 c)) fun v13 => some v13) G = G q := by
    by_cases u : m2 32 r ≤ m2 32 c
    · exact ⟨_, fun G => by rw [if_pos u, ob_some, ob_some]⟩
    · exact ⟨_, fun G => by rw [if_neg u, ob_some, ob_some]⟩
  obtain ⟨q, eq⟩ := hmin
  have hf : m2 27 c = m2 27 r := by rw [w27]; exact he
  obtain ⟨rs1, rs2, _⟩ := hk s hs
  obtain ⟨rb1, rb2, _⟩ := hk b hb
  rw [← w27] at rs1 rb1
  rw [← w28] at rs2 rb2
  have rh := (hk c hc).2.2.1
  rw [← w29] at rh
  obtain ⟨fs, efs, lfs⟩ := rgN rs1
  obtain ⟨zs, ezs, lzs⟩ := rgN rs2
  obtain ⟨fb, efb, lfb⟩ := rgN rb1
  obtain ⟨zb, ezb, lzb⟩ := rgN rb2
  obtain ⟨h, eh, lh⟩ := rgN rh
  have hst : ∀ k, k < N → ∀ x, x = m2 32 k → a_st 60 32 (iI (k : Nat)) x m2 = some m2 := by
    intro k hk x hx
    rw [a_stI (by omega) (by omega) (by omega), Int.toNat_natCast, upd_same _ _ _ hx, g_upE m2 32 _ rfl]
  have hst2 : ∀ z : Nat, z < 3 → ∀ x, x = m2 48 (4 * z + h) → a_st 12 48 (4 * iI (z : Nat) + iI (h : Nat)) x m2 = some m2 := by
    intro z hz x hx
    rw [iL_4, iI_mul, iI_add, a_stI (by omega) (by omega) (by omega), show ((4 : Int) * (z : Nat) + (h : Nat)).toNat = 4 * z + h by omega, upd_same _ _ _ hx, g_upE m2 48 _ rfl]
  have hld2 : ∀ z : Nat, z < 3 → a_ld 12 48 (4 * iI (z : Nat) + iI (h : Nat)) m2 = some (m2 48 (4 * z + h)) := by
    intro z hz
    rw [iL_4, iI_mul, iI_add, a_ldI (by omega) (by omega) (by omega), show ((4 : Int) * (z : Nat) + (h : Nat)).toNat = 4 * z + h by omega]
  unfold f_X10_meets
  rw [ln 29 c hc, ob_some, ln 30 c hc, ob_some, es, ob_some, eb, ln 32 c hc, ob_some, ln 32 r hr, ob_some, eq, ln 27 c hc, ob_some, ln 27 r hr, ob_some, if_pos hf, ob_some, ob_some, ob_some]
  dsimp only
  rw [ln 32 c hc, ob_some, hst c hc _ (Int32.sub_zero _), ob_some, ln 32 r hr, ob_some, hst r hr _ (Int32.sub_zero _), ob_some, ln 28 s hs, ob_some, ezs, eh, hld2 zs (by omega), ob_some, hst2 zs (by omega) _ (Int32.add_zero _), ob_some, ln 28 b hb, ob_some, ezb, hld2 zb (by omega), ob_some, hst2 zb (by omega) _ (Int32.sub_zero _), ob_some, ln 27 s hs, ob_some, ln 28 s hs, ob_some, ezs, ln 31 r hr, ob_some, efs, sp_trades0 hd h00 (by omega) (by omega) (by omega) rfl, ob_some, ln 27 b hb, ob_some, ln 28 b hb, ob_some, ezb, ln 31 r hr, ob_some, efb, sp_trades0 hd h00 (by omega) (by omega) (by omega) (by decide), ob_some]
theorem sim_trade {d N c r : Nat} {B : Int} {m1 m2 : gM} (hT : tI d N m1 m2) (hB : pB d B m1) (hB0 : B ≤ 100000) (hc : c < N) (hr : r < N) (hcr : c ≠ r) (hne : m1 56 c ≠ m1 56 r) (hhr : m1 58 c = m1 58 r) : ∃ m3 m4, f_X9_trade (iI (c : Nat)) (iI (r : Nat)) m1 = some m3 ∧ f_X10_meets (iI (c : Nat)) (iI (r : Nat)) m2 = some m4 ∧ tI d N m3 m4 ∧ pB d (B + 20) m3 ∧ tfC d m1 m3 ∧ tfM d m2 m4 ∧ m4 33 = m2 33 ∧ ∀ k, k ≠ c → k ≠ r → m3 62 k = m1 62 k := by
  obtain ⟨hd, h08, h00, ⟨hN, ⟨w27, w28, w29, w30, w31, w32⟩, hk⟩, ⟨hn1, hn2, hn3⟩, hE⟩ := id hT
  obtain ⟨c56, c57, c58, c59, c60, c62⟩ := hk c hc
  obtain ⟨r56, r57, r58, r59, r60, r62⟩ := hk r hr
  -- who sells, who buys
  obtain ⟨s, b, hs, hb, es, eb, es2, eb2⟩ : ∃ s b, s < N ∧ b < N ∧ (∀ {α : Type} (G : Int32 → Option α), ob (if m1 59 c = 0 then some (iI (c : Nat)) else some (iI (r : Nat))) G = G (iI (s : Nat))) ∧ (∀ {α : Type} (G : Int32 → Option α), ob (if m1 59 c = 0 then some (iI (r : Nat)) else some (iI (c : Nat))) G = G (iI (b : Nat))) ∧ (∀ {α : Type} (G : Int32 → Option α), ob (if m1 59 c = 1 then some (iI (r : Nat)) else some (iI (c : Nat))) G = G (iI (s : Nat))) ∧ (∀ {α : Type} (G : Int32 → Option α), ob (if m1 59 c = 1 then some (iI (c : Nat)) else some (iI (r : Nat))) G = G (iI (b : Nat))) := by
    rcases c59 with q | q
    · refine ⟨c, r, hc, hr, fun G => by rw [if_pos q, ob_some], fun G => by rw [if_pos q, ob_some], fun G => ?_, fun G => ?_⟩
      · rw [if_neg (by rw [q]; decide), ob_some]
      · rw [if_neg (by rw [q]; decide), ob_some]
    · refine ⟨r, c, hr, hc, fun G => ?_, fun G => ?_, fun G => by rw [if_pos q, ob_some], fun G => by rw [if_pos q, ob_some]⟩
      · rw [if_neg (by rw [q]; decide), ob_some]
      · rw [if_neg (by rw [q]; decide), ob_some]
  obtain ⟨s56, s57, _⟩ := hk s hs
  obtain ⟨b56, b57, _⟩ := hk b hb
  obtain ⟨fs, efs, lfs⟩ := rgN s56
  obtain ⟨zs, ezs, lzs⟩ := rgN s57
  obtain ⟨fb, efb, lfb⟩ := rgN b56
  obtain ⟨zb, ezb, lzb⟩ := rgN b57
  obtain ⟨h, eh, lh⟩ := rgN c58
  obtain ⟨qc, eqc, lqc⟩ := rgN c62
  obtain ⟨qr, eqr, lqr⟩ := rgN r62
  have hS : 4 * zs + h < 12 := by omega
  have hBb : 4 * zb + h < 12 := by omega
  have ln : ∀ (C k : Nat) (m : gM), k < N → a_ld 60 C (iI (k : Nat)) m = some (m C k) := by
    intro C k m hk
    rw [a_ldI (by omega) (by omega) (by omega), Int.toNat_natCast]
  have sn : ∀ (C k : Nat) (x : Int32) (m : gM), k < N → a_st 60 C (iI (k : Nat)) x m = some (g_up m C (upd (m C) k x)) := by
    intro C k x m hk
    rw [a_stI (by omega) (by omega) (by omega), Int.toNat_natCast]
  have e4s : ((zs : Nat) : Int) * 4 + (h : Nat) = ((4 * zs + h : Nat) : Int) := by omega
  have e4b : ((zb : Nat) : Int) * 4 + (h : Nat) = ((4 * zb + h : Nat) : Int) := by omega
  -- the class's count
  obtain ⟨t35, g35, u, t1, t2, hu⟩ := sp_L118 (o := 69 + 16 * d) (s := 4 * zs + h) (b := 4 * zb + h) (h := h) (most := min qc qr) (m := m1) (by omega) hS hBb (by omega) (by omega)
  obtain ⟨y18, m19⟩ := t35
  have t1 : y18 = iI (u : Nat) := t1
  have t2 : m19 = g_up m1 (69 + 16 * d + 2) (xs2 (m1 (69 + 16 * d + 2)) (4 * zs + h) (4 * zb + h) (u : Nat)) := t2
  have hum : u ≤ min qc qr := hu.1
  have hu2 : uP (m2 1) (m2 48) (4 * zs + h) (4 * zb + h) h (min qc qr) u := uP_cong hn3 hn1 hS hBb (by omega) hu
  -- the reference's count
  have hroom : f_X10_room (iI (zs : Nat)) (iI (zb : Nat)) (iI (h : Nat)) (iI ((min qc qr : Nat) : Int)) m2 = some (iI (u : Nat), m2) := by
    by_cases hz : zs = zb
    · have hum2 : u = min qc qr := by
        by_cases w : u < min qc qr
        · exfalso
          refine hu2.2.2 w ?_
          unfold aL
          rw [hz, xs2_same]
          exact hn2 h (by omega)
        · omega
      unfold f_X10_room
      rw [if_pos (by rw [hz]), hum2]
    · obtain ⟨rr, er, v, ev, hv⟩ := sp_room (m := m2) (show zs < 3 by omega) (show zb < 3 by omega) (show h < 4 by omega) hz (most := min qc qr) (by omega)
      rw [er, ev, uP_uniq hv hu2]
  -- class
  obtain ⟨m28, e28⟩ : ∃ m28, m28 = g_up (g_up m19 62 (upd (m19 62) c (iI ((qc - u : Nat) : Int)))) 62 (upd (upd (m19 62) c (iI ((qc - u : Nat) : Int))) r (iI ((qr - u : Nat) : Int))) := ⟨_, rfl⟩
  have f19 : ∀ k, k ≠ 69 + 16 * d + 2 → m19 k = m1 k := fun k hk => by rw [t2, g_up_ne _ _ hk]
  have f28 : ∀ k, k ≠ 62 → m28 k = m19 k := fun k hk => by rw [e28, g_up_ne _ _ hk, g_up_ne _ _ hk]
  have r28 : m28 62 = upd (upd (m1 62) c (iI ((qc - u : Nat) : Int))) r (iI ((qr - u : Nat) : Int)) := by rw [e28, g_up_at, f19 62 (by omega)]
  have f28b : ∀ k, k ≠ 62 → k ≠ 69 + 16 * d + 2 → m28 k = m1 k := fun k h1 h2 => by rw [f28 k h1, f19 k h2]
  -- reference
  obtain ⟨m33, e33⟩ : ∃ m33, m33 = g_up (g_up m2 32 (upd (upd (m2 32) c (iI ((qc - u : Nat) : Int))) r (iI ((qr - u : Nat) : Int)))) 48 (xs2 (m2 48) (4 * zs + h) (4 * zb + h) (u : Nat)) := ⟨_, rfl⟩
  have f33 : ∀ k, k ≠ 32 → k ≠ 48 → m33 k = m2 k := fun k h1 h2 => by rw [e33, g_up_ne _ _ h2, g_up_ne _ _ h1]
  have r33 : m33 32 = upd (upd (m2 32) c (iI ((qc - u : Nat) : Int))) r (iI ((qr - u : Nat) : Int)) := by rw [e33, g_up_ne _ _ (by decide), g_up_at]
  have n33 : m33 48 = xs2 (m2 48) (4 * zs + h) (4 * zb + h) (u : Nat) := by rw [e33, g_up_at]
  have hE28 : pcE d m28 m33 := ⟨fun i hi => by rw [f28b _ (by omega) (by omega), f33 42 (by decide) (by decide)]; exact hE.1 i hi, fun i hi => by rw [f28b _ (by omega) (by omega), f33 45 (by decide) (by decide)]; exact hE.2 i hi⟩
  have hB28 : pB d B m28 := fun i hi => by rw [f28b _ (by omega) (by omega)]; exact hB i hi
  have hur : rg (iI (u : Nat)) 0 10 := rg_iI (by omega) (by omega) (by omega) (by omega)
  have hurn := rg_neg hur (by omega)
  obtain ⟨m31, m37, b1, b2, b3, b4, b5, b6⟩ := bk_sim (f := fs) (z := zs) (h := h) (p := m1 60 r) hd (show m33 0 0 = iI (d : Nat) by rw [f33 0 (by decide) (by decide)]; exact h00) (by omega) (by omega) (by omega) hE28 hB28 (by omega) hurn.2
  obtain ⟨m34, m41, g1, g2, g3, g4, g5, g6⟩ := bk_sim (f := fb) (z := zb) (h := h) (p := m1 60 r) hd (show m37 0 0 = iI (d : Nat) by rw [b6.1 0 (by decide) (by decide), f33 0 (by decide) (by decide)]; exact h00) (by omega) (by omega) (by omega) b3 b4 (by omega) hurn.1
  have f31 : ∀ k, k ≠ 62 → k ≠ 69 + 16 * d + 2 → k ≠ 69 + 16 * d + 3 → k ≠ 69 + 16 * d + 5 → m31 k = m1 k := fun k h1 h2 h3 h4 => by rw [b5 k h3 h4, f28b k h1 h2]
  have f34 : ∀ k, k ≠ 62 → k ≠ 69 + 16 * d + 2 → k ≠ 69 + 16 * d + 3 → k ≠ 69 + 16 * d + 5 → m34 k = m1 k := fun k h1 h2 h3 h4 => by rw [g5 k h3 h4, f31 k h1 h2 h3 h4]
  have f41 : ∀ k, k ≠ 32 → k ≠ 42 → k ≠ 45 → k ≠ 48 → m41 k = m2 k := fun k h1 h2 h3 h4 => by rw [g6.1 k h2 h3, b6.1 k h2 h3, f33 k h1 h4]
  refine ⟨m34, m41, ?_, ?_, ?_, pB_up g4 (by omega), fun k h1 h2 h3 h4 => f34 k h1 h2 h3 h4, ?_, f41 33 (by decide) (by decide) (by decide) (by decide), ?_⟩
  · unfold f_X9_trade
    have hmin : a_min (iI (qc : Nat)) (iI (qr : Nat)) = iI ((min qc qr : Nat) : Int) := by
      rw [a_minI (by omega) (by omega) (by omega) (by omega)]
      congr 1
      omega
    rw [ln 59 c m1 hc, ob_some, es, ob_some, eb, ln 58 c m1 hc, ob_some, h08, a_rfI (by omega) (by omega) (by omega), ob_some, Int.toNat_natCast, ln 57 s m1 hs, ob_some, ezs, eh, sp_spot, ob_some, ln 57 b m1 hb, ob_some, ezb, sp_spot, ob_some, ln 62 c m1 hc, ob_some, ln 62 r m1 hr, ob_some, eqc, eqr, hmin, ob_some, e4s, e4b, g35, ob_some, ob_some, ob_some, ln 62 c m19 hc, ob_some, f19 62 (by omega), eqc, t1, iI_sub, show ((qc : Nat) : Int) - (u : Nat) = ((qc - u : Nat) : Int) by omega, sn 62 c _ m19 hc, ob_some, ln 62 r _ hr, ob_some, g_up_at, f19 62 (by omega), updA, if_neg (Ne.symm hcr), eqr, iI_sub, show ((qr : Nat) : Int) - (u : Nat) = ((qr - u : Nat) : Int) by omega, sn 62 r _ _ hr, ob_some, g_up_at]
    have e28b : g_up (g_up m19 62 (upd (m1 62) c (iI ((qc - u : Nat) : Int)))) 62 (upd (upd (m1 62) c (iI ((qc - u : Nat) : Int))) r (iI ((qr - u : Nat) : Int))) = m28 := by rw [e28, f19 62 (by omega)]
    rw [e28b, ln 56 s m28 hs, ob_some, ln 60 r m28 hr, ob_some, f28b 56 (by decide) (by omega), efs, f28b 60 (by decide) (by omega), ← e4s, b1, ob_some, ln 56 b m31 hb, ob_some, ln 60 r m31 hr, ob_some, f31 56 (by decide) (by omega) (by omega) (by omega), efb, f31 60 (by decide) (by omega) (by omega) (by omega), ← e4b, g1, ob_some]
  · unfold f_X10_meets
    have hmin : ∀ {α : Type} (G : Int32 → Option α), ob (if iI (qr : Nat) ≤ iI (qc : Nat) then ob (some (iI (qr : Nat))) fun v12 => some v12 else ob (some (iI (qc : Nat))) fun v13 => some v13) G = G (iI ((min qc qr : Nat) : Int)) := by
      intro α G
      rw [iI_le (by omega) (by omega) (by omega) (by omega)]
      by_cases w : ((qr : Nat) : Int) ≤ (qc : Nat)
      · rw [if_pos w, ob_some, ob_some, Nat.min_eq_right (by omega)]
      · rw [if_neg w, ob_some, ob_some, Nat.min_eq_left (by omega)]
    have e2c : m2 32 c = iI (qc : Nat) := by rw [w32]; exact eqc
    have e2r : m2 32 r = iI (qr : Nat) := by rw [w32]; exact eqr
    have i1 : ∀ z : Nat, (4 : Int32) * iI (z : Nat) + iI (h : Nat) = iI ((4 * z + h : Nat) : Int) := by
      intro z
      rw [iL_4, iI_mul, iI_add]
      congr 1
    rw [ln 29 c m2 hc, ob_some, ln 30 c m2 hc, ob_some, w30, es2, ob_some, eb2, ln 32 c m2 hc, ob_some, ln 32 r m2 hr, ob_some, e2c, e2r, hmin, ln 27 c m2 hc, ob_some, ln 27 r m2 hr, ob_some, w27, if_neg hne, ln 28 s m2 hs, ob_some, ln 28 b m2 hb, ob_some, w28, ezs, ezb, w29, eh, hroom, ob_some, ob_some, ob_some, ob_some, ob_some, ob_some, ln 32 c m2 hc, ob_some, e2c, iI_sub, show ((qc : Nat) : Int) - (u : Nat) = ((qc - u : Nat) : Int) by omega, sn 32 c _ m2 hc, ob_some, ln 32 r _ hr, ob_some, g_up_at, updA, if_neg (Ne.symm hcr), e2r, iI_sub, show ((qr : Nat) : Int) - (u : Nat) = ((qr - u : Nat) : Int) by omega, sn 32 r _ _ hr, ob_some, g_up_at, g_up2]
    generalize hm27 : g_up m2 32 (upd (upd (m2 32) c (iI ((qc - u : Nat) : Int))) r (iI ((qr - u : Nat) : Int))) = m27 at *
    have k27 : ∀ k, k ≠ 32 → m27 k = m2 k := fun k hk => by rw [← hm27, g_up_ne _ _ hk]
    rw [ln 28 s m27 hs, ob_some, k27 28 (by decide), w28, ezs, i1, a_ldI (by omega) (by omega) (by omega), ob_some, a_stI (by omega) (by omega) (by omega), ob_some, Int.toNat_natCast, ln 28 b _ hb, ob_some, g_up_ne _ _ (show (28 : Nat) ≠ 48 by decide), k27 28 (by decide), w28, ezb, i1, a_ldI (by omega) (by omega) (by omega), ob_some, a_stI (by omega) (by omega) (by omega), ob_some, Int.toNat_natCast, g_up_at, g_up2, k27 48 (by decide)]
    have e33b : g_up m27 48 (upd (upd (m2 48) (4 * zs + h) (m2 48 (4 * zs + h) + iI (u : Nat))) (4 * zb + h) ((upd (m2 48) (4 * zs + h) (m2 48 (4 * zs + h) + iI (u : Nat))) (4 * zb + h) - iI (u : Nat))) = m33 := by rw [e33]; rfl
    rw [e33b, ln 27 s m33 hs, ob_some, ln 28 s m33 hs, ob_some, ln 31 r m33 hr, ob_some, f33 27 (by decide) (by decide), f33 28 (by decide) (by decide), f33 31 (by decide) (by decide), w27, w28, w31, efs, ezs, b2, ob_some, ln 27 b m37 hb, ob_some, ln 28 b m37 hb, ob_some, ln 31 r m37 hr, ob_some, b6.1 27 (by decide) (by decide), b6.1 28 (by decide) (by decide), b6.1 31 (by decide) (by decide), f33 27 (by decide) (by decide), f33 28 (by decide) (by decide), f33 31 (by decide) (by decide), w27, w28, w31, efb, ezb, g2, ob_some]
  · refine ⟨hd, by rw [f34 0 (by decide) (by omega) (by omega) (by omega)]; exact h08, by rw [f41 0 (by decide) (by decide) (by decide) (by decide)]; exact h00, ⟨hN, ?_, ?_⟩, ⟨?_, ?_, ?_⟩, g3⟩
    · rw [f41 27 (by decide) (by decide) (by decide) (by decide), f41 28 (by decide) (by decide) (by decide) (by decide), f41 29 (by decide) (by decide) (by decide) (by decide), f41 30 (by decide) (by decide) (by decide) (by decide), f41 31 (by decide) (by decide) (by decide) (by decide), f34 56 (by decide) (by omega) (by omega) (by omega), f34 57 (by decide) (by omega) (by omega) (by omega), f34 58 (by decide) (by omega) (by omega) (by omega), f34 59 (by decide) (by omega) (by omega) (by omega), f34 60 (by decide) (by omega) (by omega) (by omega)]
      refine ⟨w27, w28, w29, w30, w31, ?_⟩
      rw [g6.1 32 (by decide) (by decide), b6.1 32 (by decide) (by decide), r33, g5 62 (by omega) (by omega), b5 62 (by omega) (by omega), r28, w32]
    · intro k hkN
      rw [f34 56 (by decide) (by omega) (by omega) (by omega), f34 57 (by decide) (by omega) (by omega) (by omega), f34 58 (by decide) (by omega) (by omega) (by omega), f34 59 (by decide) (by omega) (by omega) (by omega), f34 60 (by decide) (by omega) (by omega) (by omega), g5 62 (by omega) (by omega), b5 62 (by omega) (by omega), r28]
      obtain ⟨y1, y2, y3, y4, y5, y6⟩ := hk k hkN
      refine ⟨y1, y2, y3, y4, y5, ?_⟩
      rw [updA, updA]
      by_cases w : k = r
      · rw [if_pos w]
        exact rg_iI (by omega) (by omega) (by omega) (by omega)
      · rw [if_neg w]
        by_cases w2 : k = c
        · rw [if_pos w2]
          exact rg_iI (by omega) (by omega) (by omega) (by omega)
        · rw [if_neg w2]
          exact y6
    · intro i hi
      rw [g5 _ (by omega) (by omega), b5 _ (by omega) (by omega), f28 _ (by omega), t2, g_up_at, g6.1 48 (by decide) (by decide), b6.1 48 (by decide) (by decide), n33]
      exact xs2_cong hn1 hS hBb _ i hi
    · intro h2 hh2
      rw [f41 1 (by decide) (by decide) (by decide) (by decide), g6.1 48 (by decide) (by decide), b6.1 48 (by decide) (by decide), n33]
      by_cases w : h2 = h
      · subst w
        by_cases w0 : u = 0
        · rw [w0]
          show aFl (m2 1 0) (m2 1 1) (m2 1 2) (xs2 (m2 48) (4 * zs + h2) (4 * zb + h2) 0 h2) (xs2 (m2 48) (4 * zs + h2) (4 * zb + h2) 0 (4 + h2)) (xs2 (m2 48) (4 * zs + h2) (4 * zb + h2) 0 (8 + h2))
          rw [xs2_0]
          exact hn2 h2 hh2
        · exact hu2.2.1 u (by omega) (Nat.le_refl _)
      · rw [xs2_at, xs2_at, xs2_at, if_neg (show ¬ h2 = 4 * zb + h by omega), if_neg (show ¬ h2 = 4 * zs + h by omega), if_neg (show ¬ 4 + h2 = 4 * zb + h by omega), if_neg (show ¬ 4 + h2 = 4 * zs + h by omega), if_neg (show ¬ 8 + h2 = 4 * zb + h by omega), if_neg (show ¬ 8 + h2 = 4 * zs + h by omega)]
        exact hn2 h2 hh2
    · intro k hk3
      rw [f34 3 (by decide) (by omega) (by omega) (by omega), f41 1 (by decide) (by decide) (by decide) (by decide)]
      exact hn3 k hk3
  · refine ⟨fun k h1 h2 h3 h4 h5 => f41 k h1 h3 h4 h5, fun i hi => ?_, fun i hi => ?_⟩
    · rw [g6.2.1 i hi, b6.2.1 i hi, f33 42 (by decide) (by decide)]
    · rw [g6.2.2 i hi, b6.2.2 i hi, f33 45 (by decide) (by decide)]
  · intro k h1 h2
    rw [g5 62 (by omega) (by omega), b5 62 (by omega) (by omega), r28, updA, updA, if_neg h2, if_neg h1]
