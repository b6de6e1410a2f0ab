theorem and31 (x : Int32) : ∃ k : Nat, k < 32 ∧ (x &&& 31).toInt = (k : Int) := by
  have h1 : (x &&& 31).toBitVec.toNat = x.toBitVec.toNat &&& 31 := by
    rw [Int32.toBitVec_and, BitVec.toNat_and]
    rfl
  have h2 : x.toBitVec.toNat &&& 31 ≤ 31 := Nat.and_le_right
  refine ⟨x.toBitVec.toNat &&& 31, by omega, ?_⟩
  rw [← h1]
  show (x &&& 31).toBitVec.toInt = _
  exact BitVec.toInt_eq_toNat_of_lt (by rw [h1]; omega)
theorem l_more {L i : Nat} (hL : L ≤ 3584) (hi : i ≤ 3584) (h : ¬ Int32.ofNat L - 7 < nI i) : i + 7 ≤ L := by
  rw [show Int32.ofNat L = iI (L : Int) from iI_nI L, iI_nI, show (7 : Int32) = iI 7 from rfl, iI_sub, iI_ltP (by omega) (by omega) (by omega) (by omega)] at h
  omega

set_option maxHeartbeats 4000000 in
set_option maxRecDepth 100000 in
theorem law_loop {p : Program} {l : Launch} {e : Env} {s : State} {m : MethodId} {below : List Frame} {meth : Method} {c : Code} {b L : Nat} {xs : Nat → Int32} (hL : L ≤ 3584) (C0 : lw_At p s m meth c b L xs) (hst : l.stackTraces = false) {G : gG} {ad : Nat → Nat} (hK : l_K G ad s) :
    ∀ (n j : Nat), 7 * j ≤ L → L + 1 ≤ 7 * j + n → ∀ (mc mm : gM) (H : Heap) (locs : List Loc) (ls : Array Slot), RelG mc mm → l_H G ad s H locs mc mm → lv_has ls 7 [(0, .ref b), (1, .ref (G.2.2.1 0)), (2, .ref (ad 0)), (3, .ref (G.2.2.1 229)), (4, .int (nI (7 * j)))] → W p l e room_1 s m #[Value.ref b] below meth c H locs (286 + 8 * j) (19312 + 48 * j) (lw_Z below #[Value.ref b] s) (F0 m 23 ls []) := by
  obtain ⟨hx, hb, hr, hml, hown, hts, hX, hbl, hlocks, hgv⟩ := id C0
  have hC : CallFix p m c cL_law 7 s #[Value.ref b] lw_tbl RL := ⟨hx, hb, hml, hown, hts⟩
  intro n
  induction n with
  | zero =>
    intro j h1 h2
    exact absurd h2 (by omega)
  | succ n ih =>
    intro j h1 h2 mc mm H locs ls hR hW hl
    refine lv_iload hx hb dL_law_23 (lv_at hl 4 rfl) ?_
    refine lv_aload_n hx hb dL_law_25 rfl (lv_at hl 0 rfl) ?_
    refine va_slen hx hb hX hbl (Nat.not_le.mpr hbl) hW.2.2.1 dL_law_26 ?_
    refine lv_bipush (v := 7) hx hb dL_law_27 (by decide) ?_
    refine lv_isub hx hb dL_law_29 ?_
    refine lv_icmp_gt (tgt := 2373) hx hb dL_law_30 (by decide) (fun c9 => ?_) (fun c9 => ?_)
    · refine lv_iconst (v := 1) hx hb dL_law_2373 (by decide) ?_
      refine va_forget (fun q hq => hW.2.2.1.2.2 q hq) ?_
      refine W.widen (k := 601024) (n := 7293034) (by omega) (by omega) ?_
      exact lw_ret hx hb hr hlocks dL_law_2374
    · have hlt : 7 * j + 7 ≤ L := l_more hL (by omega) c9
      have e1 : 286 + 8 * (j + 1) = 286 + 8 * j + 8 := by omega
      have e2 : 19312 + 48 * (j + 1) = 19312 + 48 * j + 48 := by omega
      have e3 : 7 * (j + 1) = 7 * j + 7 := by omega
      have kN : ∀ (mc mm : gM) (H : Heap) (locs : List Loc) (ls : Array Slot), RelG mc mm → l_H G ad s H locs mc mm → lv_has ls 7 [(0, .ref b), (1, .ref (G.2.2.1 0)), (2, .ref (ad 0)), (3, .ref (G.2.2.1 229)), (4, .int (nI (7 * j)))] → W p l e room_1 s m #[Value.ref b] below meth c H locs (286 + 8 * j + 8) (19312 + 48 * j + 48) (lw_Z below #[Value.ref b] s) (F0 m 2367 ls []) := by
        intro mc mm H locs ls hR hW hl
        refine lv_iinc (v := nI (7 * j + 7)) (lv' := [(4, .int (nI (7 * j + 7))), (0, .ref b), (1, .ref (G.2.2.1 0)), (2, .ref (ad 0)), (3, .ref (G.2.2.1 229))]) hx hb dL_law_2367 hl (k := 4) rfl (nI_add (7 * j) 7) (by decide) rfl (fun ls hl => ?_)
        refine lv_goto (tgt := 23) hx hb dL_law_2370 (by decide) ?_
        have h := ih (j + 1) (by omega) (by omega) mc mm H locs ls hR hW (by rw [e3]; exact lv_sub hl [1, 2, 3, 4, 0] rfl)
        rw [e1, e2] at h
        exact h
      refine lv_aload_n hx hb dL_law_33 rfl (lv_at hl 0 rfl) ?_
      refine lv_iload hx hb dL_law_34 (lv_at hl 4 rfl) ?_
      refine l_sld hC hX hbl hW (j := j) (k := 0) (by omega) hL rfl dL_law_36 ?_
      refine lv_bipush (v := 31) hx hb dL_law_37 (by decide) ?_
      refine lv_iand hx hb dL_law_39 ?_
      obtain ⟨k, hk, ek⟩ := and31 (xs (7 * j + 0))
      generalize xs (7 * j + 0) &&& 31 = x at ek ⊢
      have hoff : ∀ (off : Int) (tgt : Nat), (#[144, 212, 280, 414, 548, 608, 712, 756, 890, 946, 1066, 1110, 1214, 1270, 1283, 1296, 1364, 1432, 1500, 1556, 1619, 1675, 1719, 1775, 1831, 1923, 1991, 2059, 2127, 2195, 2251, 2314] : Array Int)[k]? = some off → (40 : Int) + off = (tgt : Int) → W p l e room_1 s m #[Value.ref b] below meth c H locs (286 + 8 * j) (19312 + 48 * j) (lw_Z below #[Value.ref b] s) (F0 m tgt ls []) → W p l e room_1 s m #[Value.ref b] below meth c H locs (286 + 8 * j) (19312 + 48 * j) (lw_Z below #[Value.ref b] s) (F0 m 40 ls [.int x]) := by
        intro off tgt ho ht kk
        exact lv_tableIn hx hb dL_law_40 (by omega) (by omega) (by rw [ek]; exact ho) ht kk
      have hc1 : 286 + 8 * j + 8 ≤ 601024 := by omega
      have hc2 : 19312 + 48 * j + 48 ≤ 7293034 := by omega
      match k, hk, hoff with
      | 0, _, hoff => exact hoff 144 184 rfl (by decide) (law_case_0 hL C0 hst hK op_deposit hlt hR hc1 hc2 hW hl kN)
      | 1, _, hoff => exact hoff 212 252 rfl (by decide) (law_case_1 hL C0 hst hK op_setLimit hlt hR hc1 hc2 hW hl kN)
      | 2, _, hoff => exact hoff 280 320 rfl (by decide) (law_case_2 hL C0 hst hK op_bid hlt hR hc1 hc2 hW hl kN)
      | 3, _, hoff => exact hoff 414 454 rfl (by decide) (law_case_3 hL C0 hst hK op_block hlt hR hc1 hc2 hW hl kN)
      | 4, _, hoff => exact hoff 548 588 rfl (by decide) (law_case_4 hL C0 hst hK op_link hlt hR hc1 hc2 hW hl kN)
      | 5, _, hoff => exact hoff 608 648 rfl (by decide) (law_case_5 hL C0 hst hK op_ask hlt hR hc1 hc2 hW hl kN)
      | 6, _, hoff => exact hoff 712 752 rfl (by decide) (law_case_6 hL C0 hst hK op_clear hlt hR hc1 hc2 hW hl kN)
      | 7, _, hoff => exact hoff 756 796 rfl (by decide) (law_case_7 hL C0 hst hK op_offer hlt hR hc1 hc2 hW hl kN)
      | 8, _, hoff => exact hoff 890 930 rfl (by decide) (law_case_8 hL C0 hst hK op_takeBack hlt hR hc1 hc2 hW hl kN)
      | 9, _, hoff => exact hoff 946 986 rfl (by decide) (law_case_9 hL C0 hst hK op_aid hlt hR hc1 hc2 hW hl kN)
      | 10, _, hoff => exact hoff 1066 1106 rfl (by decide) (law_case_10 hL C0 hst hK op_close hlt hR hc1 hc2 hW hl kN)
      | 11, _, hoff => exact hoff 1110 1150 rfl (by decide) (law_case_11 hL C0 hst hK op_read hlt hR hc1 hc2 hW hl kN)
      | 12, _, hoff => exact hoff 1214 1254 rfl (by decide) (law_case_12 hL C0 hst hK op_run hlt hR hc1 hc2 hW hl kN)
      | 13, _, hoff => exact hoff 1270 1310 rfl (by decide) (law_case_13 hL C0 hst hK op_day hlt hR hc1 hc2 hW hl kN)
      | 14, _, hoff => exact hoff 1283 1323 rfl (by decide) (law_case_14 hL C0 hst hK op_phase hlt hR hc1 hc2 hW hl kN)
      | 15, _, hoff => exact hoff 1296 1336 rfl (by decide) (law_case_15 hL C0 hst hK op_price hlt hR hc1 hc2 hW hl kN)
      | 16, _, hoff => exact hoff 1364 1404 rfl (by decide) (law_case_16 hL C0 hst hK op_net hlt hR hc1 hc2 hW hl kN)
      | 17, _, hoff => exact hoff 1432 1472 rfl (by decide) (law_case_17 hL C0 hst hK op_flow hlt hR hc1 hc2 hW hl kN)
      | 18, _, hoff => exact hoff 1500 1540 rfl (by decide) (law_case_18 hL C0 hst hK op_taken hlt hR hc1 hc2 hW hl kN)
      | 19, _, hoff => exact hoff 1556 1596 rfl (by decide) (law_case_19 hL C0 hst hK op_isTaken hlt hR hc1 hc2 hW hl kN)
      | 20, _, hoff => exact hoff 1619 1659 rfl (by decide) (law_case_20 hL C0 hst hK op_gain hlt hR hc1 hc2 hW hl kN)
      | 21, _, hoff => exact hoff 1675 1715 rfl (by decide) (law_case_21 hL C0 hst hK op_worthAnew hlt hR hc1 hc2 hW hl kN)
      | 22, _, hoff => exact hoff 1719 1759 rfl (by decide) (law_case_22 hL C0 hst hK op_given hlt hR hc1 hc2 hW hl kN)
      | 23, _, hoff => exact hoff 1775 1815 rfl (by decide) (law_case_23 hL C0 hst hK op_left hlt hR hc1 hc2 hW hl kN)
      | 24, _, hoff => exact hoff 1831 1871 rfl (by decide) (law_case_24 hL C0 hst hK op_plan hlt hR hc1 hc2 hW hl kN)
      | 25, _, hoff => exact hoff 1923 1963 rfl (by decide) (law_case_25 hL C0 hst hK op_gap hlt hR hc1 hc2 hW hl kN)
      | 26, _, hoff => exact hoff 1991 2031 rfl (by decide) (law_case_26 hL C0 hst hK op_gapPrice hlt hR hc1 hc2 hW hl kN)
      | 27, _, hoff => exact hoff 2059 2099 rfl (by decide) (law_case_27 hL C0 hst hK op_bill hlt hR hc1 hc2 hW hl kN)
      | 28, _, hoff => exact hoff 2127 2167 rfl (by decide) (law_case_28 hL C0 hst hK op_settled hlt hR hc1 hc2 hW hl kN)
      | 29, _, hoff => exact hoff 2195 2235 rfl (by decide) (law_case_29 hL C0 hst hK op_account hlt hR hc1 hc2 hW hl kN)
      | 30, _, hoff => exact hoff 2251 2291 rfl (by decide) (law_case_30 hL C0 hst hK op_hasFailed hlt hR hc1 hc2 hW hl kN)
      | 31, _, hoff => exact hoff 2314 2354 rfl (by decide) (law_case_31 hL C0 hst hK op_house hlt hR hc1 hc2 hW hl kN)
      | k + 32, hk, _ => exact absurd hk (by omega)
