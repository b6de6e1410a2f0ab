def rDay (d st : Nat) (mc mm : gM) : Prop := d ≤ 9 ∧ st ≤ 1 ∧ mc 0 8 = iI (d : Nat) ∧ mm 0 0 = iI (d : Nat) ∧ mc 0 9 = iI (st : Nat) ∧ mm 0 1 = iI (st : Nat)
def rAcc (mc mm : gM) : Prop := mm 2 = mc 66 ∧ mm 3 = mc 67 ∧ mm 4 = mc 68 ∧ (∀ k, k < 6 → mc 68 k = 0 ∨ mc 68 k = 1) ∧ mm 0 6 = mc 65 3
def rLim (l : Nat → Int) (mc mm : gM) : Prop := limC mc l ∧ limM mm l
def rBid (st n : Nat) (M : List Nat) (mc mm : gM) : Prop := bidsOk mc n M ∧ mm 0 7 = iI (n : Nat) ∧ (∀ c, 5 ≤ c → c ≤ 10 → mm c = mc c) ∧ (st = 1 → ∀ k, k < n → mc 10 k - mc 11 k = mm 11 k ∧ rg (mm 11 k) 0 10)
def rBlk (st nb : Nat) (TO GR : Nat → Int) (mc mm : gM) : Prop := blkC mc nb TO GR ∧ blkM mm nb TO GR ∧ mm 13 = mc 14 ∧ mm 14 = mc 15 ∧ mm 15 = mc 16 ∧ mm 16 = mc 17 ∧ mm 17 = mc 18 ∧ mm 18 = mc 19 ∧ (st = 1 → ∃ c : Nat, c < 32 ∧ mc 13 9 = iI (c : Nat) ∧ mm 0 25 = iI (c : Nat))
def rAsk (st na : Nat) (MA : List Nat) (mc mm : gM) : Prop := akC mc na MA ∧ akM mc mm na ∧ (st = 0 → ∀ k, k < na → mc 52 k = mc 51 k) ∧ (st = 1 → ∀ k, k < na → mc 51 k - mc 52 k = mm 26 k)
def rOff (st no : Nat) (MO : List Nat) (mc mm : gM) : Prop := mc 55 8 = iI (no : Nat) ∧ mm 0 33 = iI (no : Nat) ∧ no ≤ 60 ∧ (mm 27 = mc 56 ∧ mm 28 = mc 57 ∧ mm 29 = mc 58 ∧ mm 30 = mc 59 ∧ mm 31 = mc 60 ∧ mm 32 = mc 62) ∧ Mer no (keyO mc 55) (mc 63) MO ∧ (∀ k, k < no → rg (mc 56 k) 0 5 ∧ rg (mc 57 k) 0 2 ∧ rg (mc 58 k) 0 3 ∧ (mc 59 k = 0 ∨ mc 59 k = 1) ∧ rg (mc 60 k) 0 300 ∧ rg (mc 62 k) 0 10) ∧ (st = 0 → no = 0)
def rNet (st d : Nat) (mc mm : gM) : Prop := st = 1 → (∀ i, i < 12 → mc (69 + 16 * d + 2) i = mm 48 i) ∧ ∀ h, h < 4 → f_X6_allows (mm 48 h) (mm 48 (4 + h)) (mm 48 (8 + h)) mc = some 1
def rDy (d j : Nat) (mc mm : gM) : Prop := prE j mc mm ∧ pcE j mc mm ∧ (∀ i, i < 72 → mc (69 + 16 * j + 4) i = if mm 44 (72 * j + i) = 1 then mm 43 (72 * j + i) - mm 42 (72 * j + i) else 0) ∧ (d ≤ j → ∀ i, i < 72 → mm 44 (72 * j + i) = 0) ∧ (∀ i, i < 6 → mc (69 + 16 * j + 6) i = mm 46 (6 * j + i)) ∧ (∃ r : Nat, r ≤ 3 ∧ mc (69 + 16 * j) 7 = iI (r : Nat) ∧ mm 47 j = iI (r : Nat)) ∧ ∀ i, i < 72 → rg (mc (69 + 16 * j + 4) i) (-100200) 100200
def rDays (d : Nat) (mc mm : gM) : Prop := ∀ j, j < 10 → rDy d j mc mm
def rPB (d st no : Nat) (mc : gM) : Prop := (∀ j, j < 10 → pB j 100000 mc) ∧ (st = 1 → pB d (600 + 1200 * (no : Nat)) mc) ∧ (st = 0 → pB d 0 mc) ∧ ∀ j, d < j → j < 10 → pB j 0 mc
def rAd (j na : Nat) (MA : List Nat) (mc mm : gM) : Prop := mc (69 + 16 * j + 7) 8 = iI (na : Nat) ∧ mm 34 j = iI (na : Nat) ∧ na ≤ 30 ∧ Mer na (keyO mc (69 + 16 * j + 7)) (mc (69 + 16 * j + 7 + 8)) MA ∧ ∀ k, k < na → (mc (69 + 16 * j + 7 + 1) k = mm 35 (30 * j + k) ∧ mc (69 + 16 * j + 7 + 3) k = mm 36 (30 * j + k) ∧ ((mc (69 + 16 * j + 7 + 4) k = 0 ∧ mm 37 (30 * j + k) = 1) ∨ (mc (69 + 16 * j + 7 + 4) k = 1 ∧ mm 37 (30 * j + k) = 0)) ∧ mc (69 + 16 * j + 7 + 5) k = mm 38 (30 * j + k) ∧ mc (69 + 16 * j + 7 + 6) k = mm 39 (30 * j + k)) ∧ rg (mc (69 + 16 * j + 7 + 1) k) 0 5 ∧ rg (mc (69 + 16 * j + 7 + 3) k) 0 3 ∧ rg (mc (69 + 16 * j + 7 + 5) k) 0 300 ∧ rg (mc (69 + 16 * j + 7 + 6) k) 1 10
def rAid (mc mm : gM) : Prop := ∀ j, j < 10 → ∃ na MA, rAd j na MA mc mm
def rScr (mc mm : gM) : Prop := crv0 mc ∧ mm 49 0 = iI 0 ∧ mm 50 0 = iI 0
def RelA (d st : Nat) (l : Nat → Int) (n : Nat) (M : List Nat) (nb : Nat) (TO GR : Nat → Int) (na : Nat) (MA : List Nat) (no : Nat) (MO : List Nat) (mc mm : gM) : Prop := rDay d st mc mm ∧ rAcc mc mm ∧ rLim l mc mm ∧ rBid st n M mc mm ∧ rBlk st nb TO GR mc mm ∧ rAsk st na MA mc mm ∧ rOff st no MO mc mm ∧ rNet st d mc mm ∧ rDays d mc mm ∧ rPB d st no mc ∧ rAid mc mm ∧ rScr mc mm
def RelG (mc mm : gM) : Prop := ∃ d st l n M nb TO GR na MA no MO, RelA d st l n M nb TO GR na MA no MO mc mm
theorem rDay_fr {d st : Nat} {mc mm mc2 mm2 : gM} (h : rDay d st mc mm) (h1 : mc2 0 8 = mc 0 8) (h2 : mc2 0 9 = mc 0 9) (h3 : mm2 0 0 = mm 0 0) (h4 : mm2 0 1 = mm 0 1) : rDay d st mc2 mm2 := by
  unfold rDay at *
  rw [h1, h2, h3, h4]
  exact h
theorem rAcc_fr {mc mm mc2 mm2 : gM} (h : rAcc mc mm) (hc : ∀ c, 65 ≤ c → c ≤ 68 → mc2 c = mc c) (hm : ∀ c, 2 ≤ c → c ≤ 4 → mm2 c = mm c) (h6 : mm2 0 6 = mm 0 6) : rAcc mc2 mm2 := by
  unfold rAcc at *
  rw [hc 65 (by decide) (by decide), hc 66 (by decide) (by decide), hc 67 (by decide) (by decide), hc 68 (by decide) (by decide), hm 2 (by decide) (by decide), hm 3 (by decide) (by decide), hm 4 (by decide) (by decide), h6]
  exact h
theorem rLim_fr {l : Nat → Int} {mc mm mc2 mm2 : gM} (h : rLim l mc mm) (hc : mc2 3 = mc 3) (hm : mm2 1 = mm 1) : rLim l mc2 mm2 := by
  unfold rLim limC limM at *
  rw [hc, hm]
  exact h
theorem rBid_fr {st n : Nat} {M : List Nat} {mc mm mc2 mm2 : gM} (h : rBid st n M mc mm) (hc : ∀ c, 4 ≤ c → c ≤ 12 → mc2 c = mc c) (h7 : mm2 0 7 = mm 0 7) (hm : ∀ c, 5 ≤ c → c ≤ 11 → mm2 c = mm c) : rBid st n M mc2 mm2 := by
  obtain ⟨a1, a2, a3, a4⟩ := h
  refine ⟨bids_fr a1 (fun c c1 c2 _ => hc c c1 c2), by rw [h7]; exact a2, fun c c1 c2 => by rw [hm c c1 (by omega), hc c (by omega) (by omega)]; exact a3 c c1 c2, ?_⟩
  rw [hc 10 (by decide) (by decide), hc 11 (by decide) (by decide), hm 11 (by decide) (by decide)]
  exact a4
theorem rBlk_fr {st nb : Nat} {TO GR : Nat → Int} {mc mm mc2 mm2 : gM} (h : rBlk st nb TO GR mc mm) (hc : ∀ c, 13 ≤ c → c ≤ 21 → mc2 c = mc c) (h16 : mm2 0 16 = mm 0 16) (h25 : mm2 0 25 = mm 0 25) (hm : ∀ c, 13 ≤ c → c ≤ 20 → mm2 c = mm c) : rBlk st nb TO GR mc2 mm2 := by
  obtain ⟨a1, a2, a3, a4, a5, a6, a7, a8, a9⟩ := h
  refine ⟨blkC_fr a1 (by rw [hc 13 (by decide) (by decide)]) (fun c c1 c2 => hc c (by omega) c2), blkM_fr a2 h16 hm, ?_⟩
  rw [hm 13 (by decide) (by decide), hm 14 (by decide) (by decide), hm 15 (by decide) (by decide), hm 16 (by decide) (by decide), hm 17 (by decide) (by decide), hm 18 (by decide) (by decide), hc 13 (by decide) (by decide), hc 14 (by decide) (by decide), hc 15 (by decide) (by decide), hc 16 (by decide) (by decide), hc 17 (by decide) (by decide), hc 18 (by decide) (by decide), hc 19 (by decide) (by decide), h25]
  exact ⟨a3, a4, a5, a6, a7, a8, a9⟩
theorem rAsk_fr {st na : Nat} {MA : List Nat} {mc mm mc2 mm2 : gM} (h : rAsk st na MA mc mm) (hc : ∀ c, 45 ≤ c → c ≤ 54 → mc2 c = mc c) (h26 : mm2 0 26 = mm 0 26) (hm : ∀ c, 21 ≤ c → c ≤ 26 → mm2 c = mm c) : rAsk st na MA mc2 mm2 := by
  obtain ⟨a1, a2, a3, a4⟩ := h
  refine ⟨akC_fr a1 (fun c c1 c2 _ => hc c c1 c2), ?_, ?_, ?_⟩
  · unfold akM at *
    rw [h26, hm 21 (by decide) (by decide), hm 22 (by decide) (by decide), hm 23 (by decide) (by decide), hm 24 (by decide) (by decide), hm 25 (by decide) (by decide), hc 46 (by decide) (by decide), hc 47 (by decide) (by decide), hc 54 (by decide) (by decide), hc 51 (by decide) (by decide), hc 50 (by decide) (by decide)]
    exact a2
  · rw [hc 52 (by decide) (by decide), hc 51 (by decide) (by decide)]
    exact a3
  · rw [hc 52 (by decide) (by decide), hc 51 (by decide) (by decide), hm 26 (by decide) (by decide)]
    exact a4
theorem rOff_fr {st no : Nat} {MO : List Nat} {mc mm mc2 mm2 : gM} (h : rOff st no MO mc mm) (hc : ∀ c, 55 ≤ c → c ≤ 63 → mc2 c = mc c) (h33 : mm2 0 33 = mm 0 33) (hm : ∀ c, 27 ≤ c → c ≤ 32 → mm2 c = mm c) : rOff st no MO mc2 mm2 := by
  obtain ⟨a1, a2, a3, a4, a5, a6, a7⟩ := h
  refine ⟨by rw [hc 55 (by decide) (by decide)]; exact a1, by rw [h33]; exact a2, a3, ?_, ?_, ?_, a7⟩
  · rw [hm 27 (by decide) (by decide), hm 28 (by decide) (by decide), hm 29 (by decide) (by decide), hm 30 (by decide) (by decide), hm 31 (by decide) (by decide), hm 32 (by decide) (by decide), hc 56 (by decide) (by decide), hc 57 (by decide) (by decide), hc 58 (by decide) (by decide), hc 59 (by decide) (by decide), hc 60 (by decide) (by decide), hc 62 (by decide) (by decide)]
    exact a4
  · refine Mer_congr a5 (fun k _ => ?_) (fun i _ => by rw [hc 63 (by decide) (by decide)])
    unfold keyO
    rw [hc (55 + 4) (by decide) (by decide), hc (55 + 5) (by decide) (by decide)]
  · rw [hc 56 (by decide) (by decide), hc 57 (by decide) (by decide), hc 58 (by decide) (by decide), hc 59 (by decide) (by decide), hc 60 (by decide) (by decide), hc 62 (by decide) (by decide)]
    exact a6
theorem alw_fr {a b c : Int32} {m m2 : gM} (h : m2 3 = m 3) : f_X6_allows a b c m2 = f_X6_allows a b c m := by
  unfold f_X6_allows a_ld
  rw [h]
theorem rNet_fr {st d : Nat} {mc mm mc2 mm2 : gM} (h : rNet st d mc mm) (hc : mc2 (69 + 16 * d + 2) = mc (69 + 16 * d + 2)) (h3 : mc2 3 = mc 3) (hm : mm2 48 = mm 48) : rNet st d mc2 mm2 := by
  intro hs
  obtain ⟨a1, a2⟩ := h hs
  rw [hc, hm]
  exact ⟨a1, fun h hh => by rw [alw_fr h3]; exact a2 h hh⟩
theorem rDy_fr {d j : Nat} {mc mm mc2 mm2 : gM} (h : rDy d j mc mm) (hc : ∀ c, 69 + 16 * j ≤ c → c ≤ 69 + 16 * j + 6 → c ≠ 69 + 16 * j + 2 → mc2 c = mc c) (hm : ∀ c, 41 ≤ c → c ≤ 47 → mm2 c = mm c) : rDy d j mc2 mm2 := by
  obtain ⟨a1, a2, a3, a4, a5, a6, a7⟩ := h
  have e1 := hc (69 + 16 * j + 1) (by omega) (by omega) (by omega)
  have e3 := hc (69 + 16 * j + 3) (by omega) (by omega) (by omega)
  have e4 := hc (69 + 16 * j + 4) (by omega) (by omega) (by omega)
  have e5 := hc (69 + 16 * j + 5) (by omega) (by omega) (by omega)
  have e6 := hc (69 + 16 * j + 6) (by omega) (by omega) (by omega)
  have e0 := hc (69 + 16 * j) (by omega) (by omega) (by omega)
  unfold rDy prE pcE at *
  rw [e0, e1, e3, e4, e5, e6, hm 41 (by decide) (by decide), hm 42 (by decide) (by decide), hm 43 (by decide) (by decide), hm 44 (by decide) (by decide), hm 45 (by decide) (by decide), hm 46 (by decide) (by decide), hm 47 (by decide) (by decide)]
  exact ⟨a1, a2, a3, a4, a5, a6, a7⟩
theorem rPB_fr {d st no : Nat} {mc mc2 : gM} (h : rPB d st no mc) (hc : ∀ j, j < 10 → mc2 (69 + 16 * j + 3) = mc (69 + 16 * j + 3)) (hd : d < 10) : rPB d st no mc2 := by
  obtain ⟨a1, a2, a3, a4⟩ := h
  have e : ∀ j B, j < 10 → pB j B mc → pB j B mc2 := fun j B hj hp i hi => by rw [hc j hj]; exact hp i hi
  exact ⟨fun j hj => e j _ hj (a1 j hj), fun hs => e d _ hd (a2 hs), fun hs => e d _ hd (a3 hs), fun j h1 h2 => e j _ h2 (a4 j h1 h2)⟩
theorem rAd_fr {j na : Nat} {MA : List Nat} {mc mm mc2 mm2 : gM} (h : rAd j na MA mc mm) (hc : ∀ c, 69 + 16 * j + 7 ≤ c → c ≤ 69 + 16 * j + 15 → mc2 c = mc c) (hm : ∀ c, 34 ≤ c → c ≤ 39 → mm2 c = mm c) : rAd j na MA mc2 mm2 := by
  obtain ⟨a1, a2, a3, a4, a5⟩ := h
  have e0 := hc (69 + 16 * j + 7) (by omega) (by omega)
  have e1 := hc (69 + 16 * j + 7 + 1) (by omega) (by omega)
  have e3 := hc (69 + 16 * j + 7 + 3) (by omega) (by omega)
  have e4 := hc (69 + 16 * j + 7 + 4) (by omega) (by omega)
  have e5 := hc (69 + 16 * j + 7 + 5) (by omega) (by omega)
  have e6 := hc (69 + 16 * j + 7 + 6) (by omega) (by omega)
  have e8 := hc (69 + 16 * j + 7 + 8) (by omega) (by omega)
  refine ⟨by rw [e0]; exact a1, by rw [hm 34 (by decide) (by decide)]; exact a2, a3, ?_, ?_⟩
  · refine Mer_congr a4 (fun k _ => ?_) (fun i _ => by rw [e8])
    unfold keyO
    rw [e4, e5]
  · rw [e1, e3, e4, e5, e6, hm 35 (by decide) (by decide), hm 36 (by decide) (by decide), hm 37 (by decide) (by decide), hm 38 (by decide) (by decide), hm 39 (by decide) (by decide)]
    exact a5
theorem rAid_fr {mc mm mc2 mm2 : gM} (h : rAid mc mm) (hc : ∀ j, j < 10 → ∀ c, 69 + 16 * j + 7 ≤ c → c ≤ 69 + 16 * j + 15 → mc2 c = mc c) (hm : ∀ c, 34 ≤ c → c ≤ 39 → mm2 c = mm c) : rAid mc2 mm2 := by
  intro j hj
  obtain ⟨na, MA, hh⟩ := h j hj
  exact ⟨na, MA, rAd_fr hh (hc j hj) hm⟩
theorem rScr_fr {mc mm mc2 mm2 : gM} (h : rScr mc mm) (hc : ∀ c, 27 ≤ c → c ≤ 38 → mc2 c = mc c) (hm : ∀ c, 49 ≤ c → c ≤ 50 → mm2 c = mm c) : rScr mc2 mm2 := by
  obtain ⟨a1, a2, a3⟩ := h
  refine ⟨fun z hz => ?_, by rw [hm 49 (by decide) (by decide)]; exact a2, by rw [hm 50 (by decide) (by decide)]; exact a3⟩
  rw [hc _ (by omega) (by omega), hc _ (by omega) (by omega)]
  exact a1 z hz
theorem RelA_fr {d st : Nat} {l : Nat → Int} {n : Nat} {M : List Nat} {nb : Nat} {TO GR : Nat → Int} {na : Nat} {MA : List Nat} {no : Nat} {MO : List Nat} {mc mm mc2 mm2 : gM} (h : RelA d st l n M nb TO GR na MA no MO mc mm) (hc : ∀ c, c ≠ 229 → mc2 c = mc c) (hm : ∀ c, c ≠ 0 → c ≠ 40 → mm2 c = mm c) (h0 : ∀ k, k ≠ 67 → mm2 0 k = mm 0 k) : RelA d st l n M nb TO GR na MA no MO mc2 mm2 := by
  obtain ⟨a1, a2, a3, a4, a5, a6, a7, a8, a9, a10, a11, a12⟩ := h
  have hd := a1.1
  exact ⟨rDay_fr a1 (by rw [hc 0 (by decide)]) (by rw [hc 0 (by decide)]) (h0 0 (by decide)) (h0 1 (by decide)), rAcc_fr a2 (fun c _ _ => hc c (by omega)) (fun c _ _ => hm c (by omega) (by omega)) (h0 6 (by decide)), rLim_fr a3 (hc 3 (by decide)) (hm 1 (by decide) (by decide)), rBid_fr a4 (fun c _ _ => hc c (by omega)) (h0 7 (by decide)) (fun c _ _ => hm c (by omega) (by omega)), rBlk_fr a5 (fun c _ _ => hc c (by omega)) (h0 16 (by decide)) (h0 25 (by decide)) (fun c _ _ => hm c (by omega) (by omega)), rAsk_fr a6 (fun c _ _ => hc c (by omega)) (h0 26 (by decide)) (fun c _ _ => hm c (by omega) (by omega)), rOff_fr a7 (fun c _ _ => hc c (by omega)) (h0 33 (by decide)) (fun c _ _ => hm c (by omega) (by omega)), rNet_fr a8 (hc _ (by omega)) (hc 3 (by decide)) (hm 48 (by decide) (by decide)), fun j hj => rDy_fr (a9 j hj) (fun c _ _ _ => hc c (by omega)) (fun c _ _ => hm c (by omega) (by omega)), rPB_fr a10 (fun j hj => hc _ (by omega)) (by omega), rAid_fr a11 (fun j hj c _ _ => hc c (by omega)) (fun c _ _ => hm c (by omega) (by omega)), rScr_fr a12 (fun c _ _ => hc c (by omega)) (fun c _ _ => hm c (by omega) (by omega))⟩
theorem RelG_fr {mc mm mc2 mm2 : gM} (h : RelG mc mm) (hc : ∀ c, c ≠ 229 → mc2 c = mc c) (hm : ∀ c, c ≠ 0 → c ≠ 40 → mm2 c = mm c) (h0 : ∀ k, k ≠ 67 → mm2 0 k = mm 0 k) : RelG mc2 mm2 := by
  obtain ⟨d, st, l, n, M, nb, TO, GR, na, MA, no, MO, hR⟩ := h
  exact ⟨d, st, l, n, M, nb, TO, GR, na, MA, no, MO, RelA_fr hR hc hm h0⟩
theorem bidsM_of {st n : Nat} {M : List Nat} {mc mm : gM} (h : rBid st n M mc mm) : bidsM mm n M := by
  obtain ⟨a1, a2, a3, a4⟩ := h
  have e : keyO mm 4 = keyO mc 4 := by
    funext k
    unfold keyO
    rw [a3 (4 + 4) (by decide) (by decide), a3 (4 + 5) (by decide) (by decide)]
  refine ⟨a1.1, a2, ⟨a1.2.2.1.1, by rw [e]; exact a1.2.2.1.2.1, a1.2.2.1.2.2.1⟩, ?_⟩
  rw [a3 5 (by decide) (by decide), a3 6 (by decide) (by decide), a3 7 (by decide) (by decide), a3 8 (by decide) (by decide), a3 9 (by decide) (by decide), a3 10 (by decide) (by decide)]
  exact a1.2.2.2
