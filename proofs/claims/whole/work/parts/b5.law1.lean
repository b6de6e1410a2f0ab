set_option maxHeartbeats 4000000 in
set_option maxRecDepth 100000 in
theorem law_case_16 {p : Program} {l : Launch} {e : Env} {s : State} {m : MethodId} {below : List Frame} {meth : Method} {c : Code} {b L : Nat} {xs : Nat → Int32} (hL : L ≤ 3584) (C0 : lw_At p s m meth c b L xs) (hst : l.stackTraces = false) {G : gG} {ad : Nat → Nat} (hK : l_K G ad s) {Rel : gM → gM → Prop} (hop : l_op_16 Rel) {j : Nat} (hj : 7 * j + 7 ≤ L) {mc mm : gM} (hR : Rel mc mm) {H : Heap} {locs : List Loc} {ls : Array Slot} {cells slots : Nat} (hc1 : cells + 8 ≤ 601024) (hc2 : slots + 48 ≤ 7293034) (hW : l_H G ad s H locs mc mm) (hl : lv_has ls 7 [(0, .ref b), (1, .ref (G.2.2.1 0)), (2, .ref (ad 0)), (3, .ref (G.2.2.1 229)), (4, .int (nI (7 * j)))]) (kN : ∀ (mc mm : gM) (H : Heap) (locs : List Loc) (ls : Array Slot), Rel mc mm → l_H G ad s H locs mc mm → lv_has ls 7 [(0, .ref b), (1, .ref (G.2.2.1 0)), (2, .ref (ad 0)), (3, .ref (G.2.2.1 229)), (4, .int (nI (7 * j)))] → W p l e room_1 s m #[Value.ref b] below meth c H locs (cells + 8) (slots + 48) (lw_Z below #[Value.ref b] s) (F0 m 2367 ls [])) : W p l e room_1 s m #[Value.ref b] below meth c H locs cells slots (lw_Z below #[Value.ref b] s) (F0 m 1404 ls []) := by
  obtain ⟨hx, hb, hr, hml, hown, hts, hX, hbl, hlocks, hgv⟩ := id C0
  have hC : CallFix p m c cL_law 7 s #[Value.ref b] lw_tbl RL := ⟨hx, hb, hml, hown, hts⟩
  have hR1 : room_1.cells = 601024 := rfl
  have hR2 : room_1.slots = 7293034 := rfl
  obtain ⟨k1, mc2, r1, mm2, h1, h2, h3, h4, hR⟩ := hop mc mm (xs (7 * j + 1)) (xs (7 * j + 2))  hR
  refine lv_aload_n hx hb dL_law_1404 rfl (lv_at hl 1 rfl) ?_
  refine lv_aload_n hx hb dL_law_1405 rfl (lv_at hl 0 rfl) ?_
  refine lv_iload hx hb dL_law_1406 (lv_at hl 4 rfl) ?_
  refine lv_iconst (v := 1) hx hb dL_law_1408 (by decide) ?_
  refine lv_iadd hx hb dL_law_1409 ?_
  refine l_sld hC hX hbl hW (j := j) (k := 1) (by omega) hL (nI_add (7 * j) 1) dL_law_1410 ?_
  refine lv_aload_n hx hb dL_law_1411 rfl (lv_at hl 0 rfl) ?_
  refine lv_iload hx hb dL_law_1412 (lv_at hl 4 rfl) ?_
  refine lv_iconst (v := 2) hx hb dL_law_1414 (by decide) ?_
  refine lv_iadd hx hb dL_law_1415 ?_
  refine l_sld hC hX hbl hW (j := j) (k := 2) (by omega) hL (nI_add (7 * j) 2) dL_law_1416 ?_
  refine lv_aload_n hx hb dL_law_1417 rfl (lv_at hl 3 rfl) ?_
  refine l_cC hC hK hW (As := [.ref (G.2.2.1 0), .int (xs (7 * j + 1)), .int (xs (7 * j + 2)), .ref (G.2.2.1 229)]) (rest := []) (c_L_net l G hst h1) (vx_cwSW 4 hts tg_L_net rfl rfl rfl (by decide +kernel) ⟨(Nat.le_of_ble_eq_true rfl), (Nat.le_of_ble_eq_true rfl)⟩) rfl hl.1 rfl (Nat.le_of_ble_eq_true rfl) dL_law_1418 ⟨by omega, by omega⟩ (fun H locs hW => ?_)
  refine lv_istore (lv' := [(5, .int k1), (0, .ref b), (1, .ref (G.2.2.1 0)), (2, .ref (ad 0)), (3, .ref (G.2.2.1 229)), (4, .int (nI (7 * j)))]) hx hb dL_law_1421 hl (by decide) rfl (fun ls hl => ?_)
  refine lv_aload_n hx hb dL_law_1423 rfl (lv_at hl 3 rfl) ?_
  refine lv_aload_n hx hb dL_law_1424 rfl (lv_at hl 1 rfl) ?_
  refine lv_iload hx hb dL_law_1425 (lv_at hl 5 rfl) ?_
  refine lv_iconst (v := 1) hx hb dL_law_1427 (by decide) ?_
  refine lv_iadd hx hb dL_law_1428 ?_
  refine l_sld hC hX hbl hW (j := j) (k := 1) (by omega) hL (nI_add (7 * j) 1) dL_law_1429 ?_
  refine lv_aload_n hx hb dL_law_1430 rfl (lv_at hl 1 rfl) ?_
  refine lv_iload hx hb dL_law_1431 (lv_at hl 5 rfl) ?_
  refine lv_iconst (v := 2) hx hb dL_law_1433 (by decide) ?_
  refine lv_iadd hx hb dL_law_1434 ?_
  refine l_sld hC hX hbl hW (j := j) (k := 2) (by omega) hL (nI_add (7 * j) 2) dL_law_1435 ?_
  refine l_cM hC hK hW (As := [.int (xs (7 * j + 1)), .int (xs (7 * j + 2))]) (rest := []) (c_X10_net l (l_GM G ad) h2) (cwV 2 hts tg_X10_net rfl rfl rfl (by decide +kernel) ⟨(Nat.le_of_ble_eq_true rfl), (Nat.le_of_ble_eq_true rfl)⟩) rfl hl.1 rfl (Nat.le_of_ble_eq_true rfl) dL_law_1436 ⟨by omega, by omega⟩ (fun H locs hW => ?_)
  refine lv_istore (lv' := [(6, .int r1), (5, .int k1), (0, .ref b), (1, .ref (G.2.2.1 0)), (2, .ref (ad 0)), (3, .ref (G.2.2.1 229)), (4, .int (nI (7 * j)))]) hx hb dL_law_1439 hl (by decide) rfl (fun ls hl => ?_)
  refine lv_aload_n hx hb dL_law_1441 rfl (lv_at hl 4 rfl) ?_
  refine l_cM hC hK hW (As := []) (rest := []) (c_X10_thrown l (l_GM G ad) h3) (cwV 0 hts tg_X10_thrown rfl rfl rfl (by decide +kernel) ⟨(Nat.le_of_ble_eq_true rfl), (Nat.le_of_ble_eq_true rfl)⟩) rfl hl.1 rfl (Nat.le_of_ble_eq_true rfl) dL_law_1442 ⟨by omega, by omega⟩ (fun H locs hW => ?_)
  refine lv_iload hx hb dL_law_1445 (lv_at hl 1 rfl) ?_
  refine lv_icmp_eq (tgt := 1452) hx hb dL_law_1447 (by decide) (fun _ => ?_) (fun c9 => absurd rfl c9)
  refine lv_iload hx hb dL_law_1452 (lv_at hl 1 rfl) ?_
  refine lv_if_ne (tgt := 1469) hx hb dL_law_1454 (by decide) (fun c9 => ?_) (fun c9 => ?_)
  · refine lv_goto (tgt := 2367) hx hb dL_law_1469 (by decide) ?_
    refine W.widen (k := cells + 8) (n := slots + 48) (by omega) (by omega) ?_
    exact kN _ _ H locs ls hR hW (lv_sub hl [2, 3, 4, 5, 6] rfl)
  · refine lv_aload_n hx hb dL_law_1457 rfl (lv_at hl 5 rfl) ?_
    refine lv_iconst (v := 0) hx hb dL_law_1458 (by decide) ?_
    refine l_lld hC hK hW dL_law_1459 ?_
    refine lv_iload hx hb dL_law_1460 (lv_at hl 0 rfl) ?_
    refine lv_i2l (v := (r1).toInt64) hx hb dL_law_1462 rfl ?_
    refine W.lcmp hx hb dL_law_1463 ?_
    refine lv_if_eq (tgt := 1469) hx hb dL_law_1464 (by decide) (fun _ => ?_) (fun c8 => absurd (l_cmps (h4 c9)) c8)
    refine lv_goto (tgt := 2367) hx hb dL_law_1469 (by decide) ?_
    refine W.widen (k := cells + 8) (n := slots + 48) (by omega) (by omega) ?_
    exact kN _ _ H locs ls hR hW (lv_sub hl [2, 3, 4, 5, 6] rfl)
set_option maxHeartbeats 4000000 in
set_option maxRecDepth 100000 in
theorem law_case_17 {p : Program} {l : Launch} {e : Env} {s : State} {m : MethodId} {below : List Frame} {meth : Method} {c : Code} {b L : Nat} {xs : Nat → Int32} (hL : L ≤ 3584) (C0 : lw_At p s m meth c b L xs) (hst : l.stackTraces = false) {G : gG} {ad : Nat → Nat} (hK : l_K G ad s) {Rel : gM → gM → Prop} (hop : l_op_17 Rel) {j : Nat} (hj : 7 * j + 7 ≤ L) {mc mm : gM} (hR : Rel mc mm) {H : Heap} {locs : List Loc} {ls : Array Slot} {cells slots : Nat} (hc1 : cells + 8 ≤ 601024) (hc2 : slots + 48 ≤ 7293034) (hW : l_H G ad s H locs mc mm) (hl : lv_has ls 7 [(0, .ref b), (1, .ref (G.2.2.1 0)), (2, .ref (ad 0)), (3, .ref (G.2.2.1 229)), (4, .int (nI (7 * j)))]) (kN : ∀ (mc mm : gM) (H : Heap) (locs : List Loc) (ls : Array Slot), Rel mc mm → l_H G ad s H locs mc mm → lv_has ls 7 [(0, .ref b), (1, .ref (G.2.2.1 0)), (2, .ref (ad 0)), (3, .ref (G.2.2.1 229)), (4, .int (nI (7 * j)))] → W p l e room_1 s m #[Value.ref b] below meth c H locs (cells + 8) (slots + 48) (lw_Z below #[Value.ref b] s) (F0 m 2367 ls [])) : W p l e room_1 s m #[Value.ref b] below meth c H locs cells slots (lw_Z below #[Value.ref b] s) (F0 m 1472 ls []) := by
  obtain ⟨hx, hb, hr, hml, hown, hts, hX, hbl, hlocks, hgv⟩ := id C0
  have hC : CallFix p m c cL_law 7 s #[Value.ref b] lw_tbl RL := ⟨hx, hb, hml, hown, hts⟩
  have hR1 : room_1.cells = 601024 := rfl
  have hR2 : room_1.slots = 7293034 := rfl
  obtain ⟨k1, mc2, r1, mm2, h1, h2, h3, h4, hR⟩ := hop mc mm (xs (7 * j + 1)) (xs (7 * j + 2))  hR
  refine lv_aload_n hx hb dL_law_1472 rfl (lv_at hl 1 rfl) ?_
  refine lv_aload_n hx hb dL_law_1473 rfl (lv_at hl 0 rfl) ?_
  refine lv_iload hx hb dL_law_1474 (lv_at hl 4 rfl) ?_
  refine lv_iconst (v := 1) hx hb dL_law_1476 (by decide) ?_
  refine lv_iadd hx hb dL_law_1477 ?_
  refine l_sld hC hX hbl hW (j := j) (k := 1) (by omega) hL (nI_add (7 * j) 1) dL_law_1478 ?_
  refine lv_aload_n hx hb dL_law_1479 rfl (lv_at hl 0 rfl) ?_
  refine lv_iload hx hb dL_law_1480 (lv_at hl 4 rfl) ?_
  refine lv_iconst (v := 2) hx hb dL_law_1482 (by decide) ?_
  refine lv_iadd hx hb dL_law_1483 ?_
  refine l_sld hC hX hbl hW (j := j) (k := 2) (by omega) hL (nI_add (7 * j) 2) dL_law_1484 ?_
  refine lv_aload_n hx hb dL_law_1485 rfl (lv_at hl 3 rfl) ?_
  refine l_cC hC hK hW (As := [.ref (G.2.2.1 0), .int (xs (7 * j + 1)), .int (xs (7 * j + 2)), .ref (G.2.2.1 229)]) (rest := []) (c_L_flow l G hst h1) (vx_cwSW 4 hts tg_L_flow rfl rfl rfl (by decide +kernel) ⟨(Nat.le_of_ble_eq_true rfl), (Nat.le_of_ble_eq_true rfl)⟩) rfl hl.1 rfl (Nat.le_of_ble_eq_true rfl) dL_law_1486 ⟨by omega, by omega⟩ (fun H locs hW => ?_)
  refine lv_istore (lv' := [(5, .int k1), (0, .ref b), (1, .ref (G.2.2.1 0)), (2, .ref (ad 0)), (3, .ref (G.2.2.1 229)), (4, .int (nI (7 * j)))]) hx hb dL_law_1489 hl (by decide) rfl (fun ls hl => ?_)
  refine lv_aload_n hx hb dL_law_1491 rfl (lv_at hl 3 rfl) ?_
  refine lv_aload_n hx hb dL_law_1492 rfl (lv_at hl 1 rfl) ?_
  refine lv_iload hx hb dL_law_1493 (lv_at hl 5 rfl) ?_
  refine lv_iconst (v := 1) hx hb dL_law_1495 (by decide) ?_
  refine lv_iadd hx hb dL_law_1496 ?_
  refine l_sld hC hX hbl hW (j := j) (k := 1) (by omega) hL (nI_add (7 * j) 1) dL_law_1497 ?_
  refine lv_aload_n hx hb dL_law_1498 rfl (lv_at hl 1 rfl) ?_
  refine lv_iload hx hb dL_law_1499 (lv_at hl 5 rfl) ?_
  refine lv_iconst (v := 2) hx hb dL_law_1501 (by decide) ?_
  refine lv_iadd hx hb dL_law_1502 ?_
  refine l_sld hC hX hbl hW (j := j) (k := 2) (by omega) hL (nI_add (7 * j) 2) dL_law_1503 ?_
  refine l_cM hC hK hW (As := [.int (xs (7 * j + 1)), .int (xs (7 * j + 2))]) (rest := []) (c_X10_flow l (l_GM G ad) h2) (cwV 2 hts tg_X10_flow rfl rfl rfl (by decide +kernel) ⟨(Nat.le_of_ble_eq_true rfl), (Nat.le_of_ble_eq_true rfl)⟩) rfl hl.1 rfl (Nat.le_of_ble_eq_true rfl) dL_law_1504 ⟨by omega, by omega⟩ (fun H locs hW => ?_)
  refine lv_istore (lv' := [(6, .int r1), (5, .int k1), (0, .ref b), (1, .ref (G.2.2.1 0)), (2, .ref (ad 0)), (3, .ref (G.2.2.1 229)), (4, .int (nI (7 * j)))]) hx hb dL_law_1507 hl (by decide) rfl (fun ls hl => ?_)
  refine lv_aload_n hx hb dL_law_1509 rfl (lv_at hl 4 rfl) ?_
  refine l_cM hC hK hW (As := []) (rest := []) (c_X10_thrown l (l_GM G ad) h3) (cwV 0 hts tg_X10_thrown rfl rfl rfl (by decide +kernel) ⟨(Nat.le_of_ble_eq_true rfl), (Nat.le_of_ble_eq_true rfl)⟩) rfl hl.1 rfl (Nat.le_of_ble_eq_true rfl) dL_law_1510 ⟨by omega, by omega⟩ (fun H locs hW => ?_)
  refine lv_iload hx hb dL_law_1513 (lv_at hl 1 rfl) ?_
  refine lv_icmp_eq (tgt := 1520) hx hb dL_law_1515 (by decide) (fun _ => ?_) (fun c9 => absurd rfl c9)
  refine lv_iload hx hb dL_law_1520 (lv_at hl 1 rfl) ?_
  refine lv_if_ne (tgt := 1537) hx hb dL_law_1522 (by decide) (fun c9 => ?_) (fun c9 => ?_)
  · refine lv_goto (tgt := 2367) hx hb dL_law_1537 (by decide) ?_
    refine W.widen (k := cells + 8) (n := slots + 48) (by omega) (by omega) ?_
    exact kN _ _ H locs ls hR hW (lv_sub hl [2, 3, 4, 5, 6] rfl)
  · refine lv_aload_n hx hb dL_law_1525 rfl (lv_at hl 5 rfl) ?_
    refine lv_iconst (v := 0) hx hb dL_law_1526 (by decide) ?_
    refine l_lld hC hK hW dL_law_1527 ?_
    refine lv_iload hx hb dL_law_1528 (lv_at hl 0 rfl) ?_
    refine lv_i2l (v := (r1).toInt64) hx hb dL_law_1530 rfl ?_
    refine W.lcmp hx hb dL_law_1531 ?_
    refine lv_if_eq (tgt := 1537) hx hb dL_law_1532 (by decide) (fun _ => ?_) (fun c8 => absurd (l_cmps (h4 c9)) c8)
    refine lv_goto (tgt := 2367) hx hb dL_law_1537 (by decide) ?_
    refine W.widen (k := cells + 8) (n := slots + 48) (by omega) (by omega) ?_
    exact kN _ _ H locs ls hR hW (lv_sub hl [2, 3, 4, 5, 6] rfl)
set_option maxHeartbeats 4000000 in
set_option maxRecDepth 100000 in
theorem law_case_18 {p : Program} {l : Launch} {e : Env} {s : State} {m : MethodId} {below : List Frame} {meth : Method} {c : Code} {b L : Nat} {xs : Nat → Int32} (hL : L ≤ 3584) (C0 : lw_At p s m meth c b L xs) (hst : l.stackTraces = false) {G : gG} {ad : Nat → Nat} (hK : l_K G ad s) {Rel : gM → gM → Prop} (hop : l_op_18 Rel) {j : Nat} (hj : 7 * j + 7 ≤ L) {mc mm : gM} (hR : Rel mc mm) {H : Heap} {locs : List Loc} {ls : Array Slot} {cells slots : Nat} (hc1 : cells + 8 ≤ 601024) (hc2 : slots + 48 ≤ 7293034) (hW : l_H G ad s H locs mc mm) (hl : lv_has ls 7 [(0, .ref b), (1, .ref (G.2.2.1 0)), (2, .ref (ad 0)), (3, .ref (G.2.2.1 229)), (4, .int (nI (7 * j)))]) (kN : ∀ (mc mm : gM) (H : Heap) (locs : List Loc) (ls : Array Slot), Rel mc mm → l_H G ad s H locs mc mm → lv_has ls 7 [(0, .ref b), (1, .ref (G.2.2.1 0)), (2, .ref (ad 0)), (3, .ref (G.2.2.1 229)), (4, .int (nI (7 * j)))] → W p l e room_1 s m #[Value.ref b] below meth c H locs (cells + 8) (slots + 48) (lw_Z below #[Value.ref b] s) (F0 m 2367 ls [])) : W p l e room_1 s m #[Value.ref b] below meth c H locs cells slots (lw_Z below #[Value.ref b] s) (F0 m 1540 ls []) := by
  obtain ⟨hx, hb, hr, hml, hown, hts, hX, hbl, hlocks, hgv⟩ := id C0
  have hC : CallFix p m c cL_law 7 s #[Value.ref b] lw_tbl RL := ⟨hx, hb, hml, hown, hts⟩
  have hR1 : room_1.cells = 601024 := rfl
  have hR2 : room_1.slots = 7293034 := rfl
  obtain ⟨k1, mc2, r1, mm2, h1, h2, h3, h4, hR⟩ := hop mc mm (xs (7 * j + 1))  hR
  refine lv_aload_n hx hb dL_law_1540 rfl (lv_at hl 1 rfl) ?_
  refine lv_aload_n hx hb dL_law_1541 rfl (lv_at hl 0 rfl) ?_
  refine lv_iload hx hb dL_law_1542 (lv_at hl 4 rfl) ?_
  refine lv_iconst (v := 1) hx hb dL_law_1544 (by decide) ?_
  refine lv_iadd hx hb dL_law_1545 ?_
  refine l_sld hC hX hbl hW (j := j) (k := 1) (by omega) hL (nI_add (7 * j) 1) dL_law_1546 ?_
  refine lv_aload_n hx hb dL_law_1547 rfl (lv_at hl 3 rfl) ?_
  refine l_cC hC hK hW (As := [.ref (G.2.2.1 0), .int (xs (7 * j + 1)), .ref (G.2.2.1 229)]) (rest := []) (c_L_taken l G hst h1) (vx_cwSW 3 hts tg_L_taken rfl rfl rfl (by decide +kernel) ⟨(Nat.le_of_ble_eq_true rfl), (Nat.le_of_ble_eq_true rfl)⟩) rfl hl.1 rfl (Nat.le_of_ble_eq_true rfl) dL_law_1548 ⟨by omega, by omega⟩ (fun H locs hW => ?_)
  refine lv_istore (lv' := [(5, .int k1), (0, .ref b), (1, .ref (G.2.2.1 0)), (2, .ref (ad 0)), (3, .ref (G.2.2.1 229)), (4, .int (nI (7 * j)))]) hx hb dL_law_1551 hl (by decide) rfl (fun ls hl => ?_)
  refine lv_aload_n hx hb dL_law_1553 rfl (lv_at hl 3 rfl) ?_
  refine lv_aload_n hx hb dL_law_1554 rfl (lv_at hl 1 rfl) ?_
  refine lv_iload hx hb dL_law_1555 (lv_at hl 5 rfl) ?_
  refine lv_iconst (v := 1) hx hb dL_law_1557 (by decide) ?_
  refine lv_iadd hx hb dL_law_1558 ?_
  refine l_sld hC hX hbl hW (j := j) (k := 1) (by omega) hL (nI_add (7 * j) 1) dL_law_1559 ?_
  refine l_cM hC hK hW (As := [.int (xs (7 * j + 1))]) (rest := []) (c_X10_taken l (l_GM G ad) h2) (cwV 1 hts tg_X10_taken rfl rfl rfl (by decide +kernel) ⟨(Nat.le_of_ble_eq_true rfl), (Nat.le_of_ble_eq_true rfl)⟩) rfl hl.1 rfl (Nat.le_of_ble_eq_true rfl) dL_law_1560 ⟨by omega, by omega⟩ (fun H locs hW => ?_)
  refine lv_istore (lv' := [(6, .int r1), (5, .int k1), (0, .ref b), (1, .ref (G.2.2.1 0)), (2, .ref (ad 0)), (3, .ref (G.2.2.1 229)), (4, .int (nI (7 * j)))]) hx hb dL_law_1563 hl (by decide) rfl (fun ls hl => ?_)
  refine lv_aload_n hx hb dL_law_1565 rfl (lv_at hl 4 rfl) ?_
  refine l_cM hC hK hW (As := []) (rest := []) (c_X10_thrown l (l_GM G ad) h3) (cwV 0 hts tg_X10_thrown rfl rfl rfl (by decide +kernel) ⟨(Nat.le_of_ble_eq_true rfl), (Nat.le_of_ble_eq_true rfl)⟩) rfl hl.1 rfl (Nat.le_of_ble_eq_true rfl) dL_law_1566 ⟨by omega, by omega⟩ (fun H locs hW => ?_)
  refine lv_iload hx hb dL_law_1569 (lv_at hl 1 rfl) ?_
  refine lv_icmp_eq (tgt := 1576) hx hb dL_law_1571 (by decide) (fun _ => ?_) (fun c9 => absurd rfl c9)
  refine lv_iload hx hb dL_law_1576 (lv_at hl 1 rfl) ?_
  refine lv_if_ne (tgt := 1593) hx hb dL_law_1578 (by decide) (fun c9 => ?_) (fun c9 => ?_)
  · refine lv_goto (tgt := 2367) hx hb dL_law_1593 (by decide) ?_
    refine W.widen (k := cells + 8) (n := slots + 48) (by omega) (by omega) ?_
    exact kN _ _ H locs ls hR hW (lv_sub hl [2, 3, 4, 5, 6] rfl)
  · refine lv_aload_n hx hb dL_law_1581 rfl (lv_at hl 5 rfl) ?_
    refine lv_iconst (v := 0) hx hb dL_law_1582 (by decide) ?_
    refine l_lld hC hK hW dL_law_1583 ?_
    refine lv_iload hx hb dL_law_1584 (lv_at hl 0 rfl) ?_
    refine lv_i2l (v := (r1).toInt64) hx hb dL_law_1586 rfl ?_
    refine W.lcmp hx hb dL_law_1587 ?_
    refine lv_if_eq (tgt := 1593) hx hb dL_law_1588 (by decide) (fun _ => ?_) (fun c8 => absurd (l_cmps (h4 c9)) c8)
    refine lv_goto (tgt := 2367) hx hb dL_law_1593 (by decide) ?_
    refine W.widen (k := cells + 8) (n := slots + 48) (by omega) (by omega) ?_
    exact kN _ _ H locs ls hR hW (lv_sub hl [2, 3, 4, 5, 6] rfl)
set_option maxHeartbeats 4000000 in
set_option maxRecDepth 100000 in
theorem law_case_19 {p : Program} {l : Launch} {e : Env} {s : State} {m : MethodId} {below : List Frame} {meth : Method} {c : Code} {b L : Nat} {xs : Nat → Int32} (hL : L ≤ 3584) (C0 : lw_At p s m meth c b L xs) (hst : l.stackTraces = false) {G : gG} {ad : Nat → Nat} (hK : l_K G ad s) {Rel : gM → gM → Prop} (hop : l_op_19 Rel) {j : Nat} (hj : 7 * j + 7 ≤ L) {mc mm : gM} (hR : Rel mc mm) {H : Heap} {locs : List Loc} {ls : Array Slot} {cells slots : Nat} (hc1 : cells + 8 ≤ 601024) (hc2 : slots + 48 ≤ 7293034) (hW : l_H G ad s H locs mc mm) (hl : lv_has ls 7 [(0, .ref b), (1, .ref (G.2.2.1 0)), (2, .ref (ad 0)), (3, .ref (G.2.2.1 229)), (4, .int (nI (7 * j)))]) (kN : ∀ (mc mm : gM) (H : Heap) (locs : List Loc) (ls : Array Slot), Rel mc mm → l_H G ad s H locs mc mm → lv_has ls 7 [(0, .ref b), (1, .ref (G.2.2.1 0)), (2, .ref (ad 0)), (3, .ref (G.2.2.1 229)), (4, .int (nI (7 * j)))] → W p l e room_1 s m #[Value.ref b] below meth c H locs (cells + 8) (slots + 48) (lw_Z below #[Value.ref b] s) (F0 m 2367 ls [])) : W p l e room_1 s m #[Value.ref b] below meth c H locs cells slots (lw_Z below #[Value.ref b] s) (F0 m 1596 ls []) := by
  obtain ⟨hx, hb, hr, hml, hown, hts, hX, hbl, hlocks, hgv⟩ := id C0
  have hC : CallFix p m c cL_law 7 s #[Value.ref b] lw_tbl RL := ⟨hx, hb, hml, hown, hts⟩
  have hR1 : room_1.cells = 601024 := rfl
  have hR2 : room_1.slots = 7293034 := rfl
  obtain ⟨k1, mc2, r1, mm2, h1, h2, h3, h4, hR⟩ := hop mc mm (xs (7 * j + 1))  hR
  refine lv_aload_n hx hb dL_law_1596 rfl (lv_at hl 1 rfl) ?_
  refine lv_aload_n hx hb dL_law_1597 rfl (lv_at hl 0 rfl) ?_
  refine lv_iload hx hb dL_law_1598 (lv_at hl 4 rfl) ?_
  refine lv_iconst (v := 1) hx hb dL_law_1600 (by decide) ?_
  refine lv_iadd hx hb dL_law_1601 ?_
  refine l_sld hC hX hbl hW (j := j) (k := 1) (by omega) hL (nI_add (7 * j) 1) dL_law_1602 ?_
  refine lv_aload_n hx hb dL_law_1603 rfl (lv_at hl 3 rfl) ?_
  refine l_cC hC hK hW (As := [.ref (G.2.2.1 0), .int (xs (7 * j + 1)), .ref (G.2.2.1 229)]) (rest := []) (c_L_isTaken l G hst h1) (vx_cwSW 3 hts tg_L_isTaken rfl rfl rfl (by decide +kernel) ⟨(Nat.le_of_ble_eq_true rfl), (Nat.le_of_ble_eq_true rfl)⟩) rfl hl.1 rfl (Nat.le_of_ble_eq_true rfl) dL_law_1604 ⟨by omega, by omega⟩ (fun H locs hW => ?_)
  refine lv_istore (lv' := [(5, .int k1), (0, .ref b), (1, .ref (G.2.2.1 0)), (2, .ref (ad 0)), (3, .ref (G.2.2.1 229)), (4, .int (nI (7 * j)))]) hx hb dL_law_1607 hl (by decide) rfl (fun ls hl => ?_)
  refine lv_aload_n hx hb dL_law_1609 rfl (lv_at hl 3 rfl) ?_
  refine lv_aload_n hx hb dL_law_1610 rfl (lv_at hl 1 rfl) ?_
  refine lv_iload hx hb dL_law_1611 (lv_at hl 5 rfl) ?_
  refine lv_iconst (v := 1) hx hb dL_law_1613 (by decide) ?_
  refine lv_iadd hx hb dL_law_1614 ?_
  refine l_sld hC hX hbl hW (j := j) (k := 1) (by omega) hL (nI_add (7 * j) 1) dL_law_1615 ?_
  refine l_cM hC hK hW (As := [.int (xs (7 * j + 1))]) (rest := []) (c_X10_isTaken l (l_GM G ad) h2) (cwV 1 hts tg_X10_isTaken rfl rfl rfl (by decide +kernel) ⟨(Nat.le_of_ble_eq_true rfl), (Nat.le_of_ble_eq_true rfl)⟩) rfl hl.1 rfl (Nat.le_of_ble_eq_true rfl) dL_law_1616 ⟨by omega, by omega⟩ (fun H locs hW => ?_)
  refine lv_istore (lv' := [(6, .int r1), (5, .int k1), (0, .ref b), (1, .ref (G.2.2.1 0)), (2, .ref (ad 0)), (3, .ref (G.2.2.1 229)), (4, .int (nI (7 * j)))]) hx hb dL_law_1619 hl (by decide) rfl (fun ls hl => ?_)
  refine lv_aload_n hx hb dL_law_1621 rfl (lv_at hl 4 rfl) ?_
  refine l_cM hC hK hW (As := []) (rest := []) (c_X10_thrown l (l_GM G ad) h3) (cwV 0 hts tg_X10_thrown rfl rfl rfl (by decide +kernel) ⟨(Nat.le_of_ble_eq_true rfl), (Nat.le_of_ble_eq_true rfl)⟩) rfl hl.1 rfl (Nat.le_of_ble_eq_true rfl) dL_law_1622 ⟨by omega, by omega⟩ (fun H locs hW => ?_)
  refine lv_iload hx hb dL_law_1625 (lv_at hl 1 rfl) ?_
  refine lv_icmp_eq (tgt := 1632) hx hb dL_law_1627 (by decide) (fun _ => ?_) (fun c9 => absurd rfl c9)
  refine lv_iload hx hb dL_law_1632 (lv_at hl 1 rfl) ?_
  refine lv_if_ne (tgt := 1656) hx hb dL_law_1634 (by decide) (fun c9 => ?_) (fun c9 => ?_)
  · refine lv_goto (tgt := 2367) hx hb dL_law_1656 (by decide) ?_
    refine W.widen (k := cells + 8) (n := slots + 48) (by omega) (by omega) ?_
    exact kN _ _ H locs ls hR hW (lv_sub hl [2, 3, 4, 5, 6] rfl)
  · refine lv_aload_n hx hb dL_law_1637 rfl (lv_at hl 5 rfl) ?_
    refine lv_iconst (v := 0) hx hb dL_law_1638 (by decide) ?_
    refine l_lld hC hK hW dL_law_1639 ?_
    refine lv_iload hx hb dL_law_1640 (lv_at hl 0 rfl) ?_
    refine lv_if_eq (tgt := 1649) hx hb dL_law_1642 (by decide) (fun c7 => ?_) (fun c7 => ?_)
    · refine lv_lconst (v := 0) hx hb dL_law_1649 (by decide) ?_
      refine W.lcmp hx hb dL_law_1650 ?_
      refine lv_if_eq (tgt := 1656) hx hb dL_law_1651 (by decide) (fun _ => ?_) (fun c8 => absurd (l_cmpb0 (h4 c9).1 (h4 c9).2 c7) c8)
      refine lv_goto (tgt := 2367) hx hb dL_law_1656 (by decide) ?_
      refine W.widen (k := cells + 8) (n := slots + 48) (by omega) (by omega) ?_
      exact kN _ _ H locs ls hR hW (lv_sub hl [2, 3, 4, 5, 6] rfl)
    · refine lv_lconst (v := 1) hx hb dL_law_1645 (by decide) ?_
      refine lv_goto (tgt := 1650) hx hb dL_law_1646 (by decide) ?_
      refine W.lcmp hx hb dL_law_1650 ?_
      refine lv_if_eq (tgt := 1656) hx hb dL_law_1651 (by decide) (fun _ => ?_) (fun c8 => absurd (l_cmpb1 (h4 c9).1 (h4 c9).2 c7) c8)
      refine lv_goto (tgt := 2367) hx hb dL_law_1656 (by decide) ?_
      refine W.widen (k := cells + 8) (n := slots + 48) (by omega) (by omega) ?_
      exact kN _ _ H locs ls hR hW (lv_sub hl [2, 3, 4, 5, 6] rfl)
set_option maxHeartbeats 4000000 in
set_option maxRecDepth 100000 in
theorem law_case_20 {p : Program} {l : Launch} {e : Env} {s : State} {m : MethodId} {below : List Frame} {meth : Method} {c : Code} {b L : Nat} {xs : Nat → Int32} (hL : L ≤ 3584) (C0 : lw_At p s m meth c b L xs) (hst : l.stackTraces = false) {G : gG} {ad : Nat → Nat} (hK : l_K G ad s) {Rel : gM → gM → Prop} (hop : l_op_20 Rel) {j : Nat} (hj : 7 * j + 7 ≤ L) {mc mm : gM} (hR : Rel mc mm) {H : Heap} {locs : List Loc} {ls : Array Slot} {cells slots : Nat} (hc1 : cells + 8 ≤ 601024) (hc2 : slots + 48 ≤ 7293034) (hW : l_H G ad s H locs mc mm) (hl : lv_has ls 7 [(0, .ref b), (1, .ref (G.2.2.1 0)), (2, .ref (ad 0)), (3, .ref (G.2.2.1 229)), (4, .int (nI (7 * j)))]) (kN : ∀ (mc mm : gM) (H : Heap) (locs : List Loc) (ls : Array Slot), Rel mc mm → l_H G ad s H locs mc mm → lv_has ls 7 [(0, .ref b), (1, .ref (G.2.2.1 0)), (2, .ref (ad 0)), (3, .ref (G.2.2.1 229)), (4, .int (nI (7 * j)))] → W p l e room_1 s m #[Value.ref b] below meth c H locs (cells + 8) (slots + 48) (lw_Z below #[Value.ref b] s) (F0 m 2367 ls [])) : W p l e room_1 s m #[Value.ref b] below meth c H locs cells slots (lw_Z below #[Value.ref b] s) (F0 m 1659 ls []) := by
  obtain ⟨hx, hb, hr, hml, hown, hts, hX, hbl, hlocks, hgv⟩ := id C0
  have hC : CallFix p m c cL_law 7 s #[Value.ref b] lw_tbl RL := ⟨hx, hb, hml, hown, hts⟩
  have hR1 : room_1.cells = 601024 := rfl
  have hR2 : room_1.slots = 7293034 := rfl
  obtain ⟨k1, mc2, r1, mm2, h1, h2, h3, h4, hR⟩ := hop mc mm (xs (7 * j + 1))  hR
  refine lv_aload_n hx hb dL_law_1659 rfl (lv_at hl 1 rfl) ?_
  refine lv_aload_n hx hb dL_law_1660 rfl (lv_at hl 0 rfl) ?_
  refine lv_iload hx hb dL_law_1661 (lv_at hl 4 rfl) ?_
  refine lv_iconst (v := 1) hx hb dL_law_1663 (by decide) ?_
  refine lv_iadd hx hb dL_law_1664 ?_
  refine l_sld hC hX hbl hW (j := j) (k := 1) (by omega) hL (nI_add (7 * j) 1) dL_law_1665 ?_
  refine lv_aload_n hx hb dL_law_1666 rfl (lv_at hl 3 rfl) ?_
  refine l_cC hC hK hW (As := [.ref (G.2.2.1 0), .int (xs (7 * j + 1)), .ref (G.2.2.1 229)]) (rest := []) (c_L_gain l G hst h1) (vx_cwSW 3 hts tg_L_gain rfl rfl rfl (by decide +kernel) ⟨(Nat.le_of_ble_eq_true rfl), (Nat.le_of_ble_eq_true rfl)⟩) rfl hl.1 rfl (Nat.le_of_ble_eq_true rfl) dL_law_1667 ⟨by omega, by omega⟩ (fun H locs hW => ?_)
  refine lv_istore (lv' := [(5, .int k1), (0, .ref b), (1, .ref (G.2.2.1 0)), (2, .ref (ad 0)), (3, .ref (G.2.2.1 229)), (4, .int (nI (7 * j)))]) hx hb dL_law_1670 hl (by decide) rfl (fun ls hl => ?_)
  refine lv_aload_n hx hb dL_law_1672 rfl (lv_at hl 3 rfl) ?_
  refine lv_aload_n hx hb dL_law_1673 rfl (lv_at hl 1 rfl) ?_
  refine lv_iload hx hb dL_law_1674 (lv_at hl 5 rfl) ?_
  refine lv_iconst (v := 1) hx hb dL_law_1676 (by decide) ?_
  refine lv_iadd hx hb dL_law_1677 ?_
  refine l_sld hC hX hbl hW (j := j) (k := 1) (by omega) hL (nI_add (7 * j) 1) dL_law_1678 ?_
  refine l_cM hC hK hW (As := [.int (xs (7 * j + 1))]) (rest := []) (c_X10_gain l (l_GM G ad) h2) (cwV 1 hts tg_X10_gain rfl rfl rfl (by decide +kernel) ⟨(Nat.le_of_ble_eq_true rfl), (Nat.le_of_ble_eq_true rfl)⟩) rfl hl.1 rfl (Nat.le_of_ble_eq_true rfl) dL_law_1679 ⟨by omega, by omega⟩ (fun H locs hW => ?_)
  refine lv_istore (lv' := [(6, .int r1), (5, .int k1), (0, .ref b), (1, .ref (G.2.2.1 0)), (2, .ref (ad 0)), (3, .ref (G.2.2.1 229)), (4, .int (nI (7 * j)))]) hx hb dL_law_1682 hl (by decide) rfl (fun ls hl => ?_)
  refine lv_aload_n hx hb dL_law_1684 rfl (lv_at hl 4 rfl) ?_
  refine l_cM hC hK hW (As := []) (rest := []) (c_X10_thrown l (l_GM G ad) h3) (cwV 0 hts tg_X10_thrown rfl rfl rfl (by decide +kernel) ⟨(Nat.le_of_ble_eq_true rfl), (Nat.le_of_ble_eq_true rfl)⟩) rfl hl.1 rfl (Nat.le_of_ble_eq_true rfl) dL_law_1685 ⟨by omega, by omega⟩ (fun H locs hW => ?_)
  refine lv_iload hx hb dL_law_1688 (lv_at hl 1 rfl) ?_
  refine lv_icmp_eq (tgt := 1695) hx hb dL_law_1690 (by decide) (fun _ => ?_) (fun c9 => absurd rfl c9)
  refine lv_iload hx hb dL_law_1695 (lv_at hl 1 rfl) ?_
  refine lv_if_ne (tgt := 1712) hx hb dL_law_1697 (by decide) (fun c9 => ?_) (fun c9 => ?_)
  · refine lv_goto (tgt := 2367) hx hb dL_law_1712 (by decide) ?_
    refine W.widen (k := cells + 8) (n := slots + 48) (by omega) (by omega) ?_
    exact kN _ _ H locs ls hR hW (lv_sub hl [2, 3, 4, 5, 6] rfl)
  · refine lv_aload_n hx hb dL_law_1700 rfl (lv_at hl 5 rfl) ?_
    refine lv_iconst (v := 0) hx hb dL_law_1701 (by decide) ?_
    refine l_lld hC hK hW dL_law_1702 ?_
    refine lv_iload hx hb dL_law_1703 (lv_at hl 0 rfl) ?_
    refine lv_i2l (v := (r1).toInt64) hx hb dL_law_1705 rfl ?_
    refine W.lcmp hx hb dL_law_1706 ?_
    refine lv_if_eq (tgt := 1712) hx hb dL_law_1707 (by decide) (fun _ => ?_) (fun c8 => absurd (l_cmps (h4 c9)) c8)
    refine lv_goto (tgt := 2367) hx hb dL_law_1712 (by decide) ?_
    refine W.widen (k := cells + 8) (n := slots + 48) (by omega) (by omega) ?_
    exact kN _ _ H locs ls hR hW (lv_sub hl [2, 3, 4, 5, 6] rfl)
set_option maxHeartbeats 4000000 in
set_option maxRecDepth 100000 in
theorem law_case_21 {p : Program} {l : Launch} {e : Env} {s : State} {m : MethodId} {below : List Frame} {meth : Method} {c : Code} {b L : Nat} {xs : Nat → Int32} (hL : L ≤ 3584) (C0 : lw_At p s m meth c b L xs) (hst : l.stackTraces = false) {G : gG} {ad : Nat → Nat} (hK : l_K G ad s) {Rel : gM → gM → Prop} (hop : l_op_21 Rel) {j : Nat} (hj : 7 * j + 7 ≤ L) {mc mm : gM} (hR : Rel mc mm) {H : Heap} {locs : List Loc} {ls : Array Slot} {cells slots : Nat} (hc1 : cells + 8 ≤ 601024) (hc2 : slots + 48 ≤ 7293034) (hW : l_H G ad s H locs mc mm) (hl : lv_has ls 7 [(0, .ref b), (1, .ref (G.2.2.1 0)), (2, .ref (ad 0)), (3, .ref (G.2.2.1 229)), (4, .int (nI (7 * j)))]) (kN : ∀ (mc mm : gM) (H : Heap) (locs : List Loc) (ls : Array Slot), Rel mc mm → l_H G ad s H locs mc mm → lv_has ls 7 [(0, .ref b), (1, .ref (G.2.2.1 0)), (2, .ref (ad 0)), (3, .ref (G.2.2.1 229)), (4, .int (nI (7 * j)))] → W p l e room_1 s m #[Value.ref b] below meth c H locs (cells + 8) (slots + 48) (lw_Z below #[Value.ref b] s) (F0 m 2367 ls [])) : W p l e room_1 s m #[Value.ref b] below meth c H locs cells slots (lw_Z below #[Value.ref b] s) (F0 m 1715 ls []) := by
  obtain ⟨hx, hb, hr, hml, hown, hts, hX, hbl, hlocks, hgv⟩ := id C0
  have hC : CallFix p m c cL_law 7 s #[Value.ref b] lw_tbl RL := ⟨hx, hb, hml, hown, hts⟩
  have hR1 : room_1.cells = 601024 := rfl
  have hR2 : room_1.slots = 7293034 := rfl
  obtain ⟨k1, mc2, r1, mm2, h1, h2, h3, h4, hR⟩ := hop mc mm   hR
  refine lv_aload_n hx hb dL_law_1715 rfl (lv_at hl 1 rfl) ?_
  refine lv_aload_n hx hb dL_law_1716 rfl (lv_at hl 3 rfl) ?_
  refine l_cC hC hK hW (As := [.ref (G.2.2.1 0), .ref (G.2.2.1 229)]) (rest := []) (c_L_worthAnew l G hst h1) (vx_cwSW 2 hts tg_L_worthAnew rfl rfl rfl (by decide +kernel) ⟨(Nat.le_of_ble_eq_true rfl), (Nat.le_of_ble_eq_true rfl)⟩) rfl hl.1 rfl (Nat.le_of_ble_eq_true rfl) dL_law_1717 ⟨by omega, by omega⟩ (fun H locs hW => ?_)
  refine lv_istore (lv' := [(5, .int k1), (0, .ref b), (1, .ref (G.2.2.1 0)), (2, .ref (ad 0)), (3, .ref (G.2.2.1 229)), (4, .int (nI (7 * j)))]) hx hb dL_law_1720 hl (by decide) rfl (fun ls hl => ?_)
  refine lv_aload_n hx hb dL_law_1722 rfl (lv_at hl 3 rfl) ?_
  refine l_cM hC hK hW (As := []) (rest := []) (c_X10_worthAnew l (l_GM G ad) h2) (cwV 0 hts tg_X10_worthAnew rfl rfl rfl (by decide +kernel) ⟨(Nat.le_of_ble_eq_true rfl), (Nat.le_of_ble_eq_true rfl)⟩) rfl hl.1 rfl (Nat.le_of_ble_eq_true rfl) dL_law_1723 ⟨by omega, by omega⟩ (fun H locs hW => ?_)
  refine lv_istore (lv' := [(6, .int r1), (5, .int k1), (0, .ref b), (1, .ref (G.2.2.1 0)), (2, .ref (ad 0)), (3, .ref (G.2.2.1 229)), (4, .int (nI (7 * j)))]) hx hb dL_law_1726 hl (by decide) rfl (fun ls hl => ?_)
  refine lv_aload_n hx hb dL_law_1728 rfl (lv_at hl 4 rfl) ?_
  refine l_cM hC hK hW (As := []) (rest := []) (c_X10_thrown l (l_GM G ad) h3) (cwV 0 hts tg_X10_thrown rfl rfl rfl (by decide +kernel) ⟨(Nat.le_of_ble_eq_true rfl), (Nat.le_of_ble_eq_true rfl)⟩) rfl hl.1 rfl (Nat.le_of_ble_eq_true rfl) dL_law_1729 ⟨by omega, by omega⟩ (fun H locs hW => ?_)
  refine lv_iload hx hb dL_law_1732 (lv_at hl 1 rfl) ?_
  refine lv_icmp_eq (tgt := 1739) hx hb dL_law_1734 (by decide) (fun _ => ?_) (fun c9 => absurd rfl c9)
  refine lv_iload hx hb dL_law_1739 (lv_at hl 1 rfl) ?_
  refine lv_if_ne (tgt := 1756) hx hb dL_law_1741 (by decide) (fun c9 => ?_) (fun c9 => ?_)
  · refine lv_goto (tgt := 2367) hx hb dL_law_1756 (by decide) ?_
    refine W.widen (k := cells + 8) (n := slots + 48) (by omega) (by omega) ?_
    exact kN _ _ H locs ls hR hW (lv_sub hl [2, 3, 4, 5, 6] rfl)
  · refine lv_aload_n hx hb dL_law_1744 rfl (lv_at hl 5 rfl) ?_
    refine lv_iconst (v := 0) hx hb dL_law_1745 (by decide) ?_
    refine l_lld hC hK hW dL_law_1746 ?_
    refine lv_iload hx hb dL_law_1747 (lv_at hl 0 rfl) ?_
    refine lv_i2l (v := (r1).toInt64) hx hb dL_law_1749 rfl ?_
    refine W.lcmp hx hb dL_law_1750 ?_
    refine lv_if_eq (tgt := 1756) hx hb dL_law_1751 (by decide) (fun _ => ?_) (fun c8 => absurd (l_cmps (h4 c9)) c8)
    refine lv_goto (tgt := 2367) hx hb dL_law_1756 (by decide) ?_
    refine W.widen (k := cells + 8) (n := slots + 48) (by omega) (by omega) ?_
    exact kN _ _ H locs ls hR hW (lv_sub hl [2, 3, 4, 5, 6] rfl)
set_option maxHeartbeats 4000000 in
set_option maxRecDepth 100000 in
theorem law_case_22 {p : Program} {l : Launch} {e : Env} {s : State} {m : MethodId} {below : List Frame} {meth : Method} {c : Code} {b L : Nat} {xs : Nat → Int32} (hL : L ≤ 3584) (C0 : lw_At p s m meth c b L xs) (hst : l.stackTraces = false) {G : gG} {ad : Nat → Nat} (hK : l_K G ad s) {Rel : gM → gM → Prop} (hop : l_op_22 Rel) {j : Nat} (hj : 7 * j + 7 ≤ L) {mc mm : gM} (hR : Rel mc mm) {H : Heap} {locs : List Loc} {ls : Array Slot} {cells slots : Nat} (hc1 : cells + 8 ≤ 601024) (hc2 : slots + 48 ≤ 7293034) (hW : l_H G ad s H locs mc mm) (hl : lv_has ls 7 [(0, .ref b), (1, .ref (G.2.2.1 0)), (2, .ref (ad 0)), (3, .ref (G.2.2.1 229)), (4, .int (nI (7 * j)))]) (kN : ∀ (mc mm : gM) (H : Heap) (locs : List Loc) (ls : Array Slot), Rel mc mm → l_H G ad s H locs mc mm → lv_has ls 7 [(0, .ref b), (1, .ref (G.2.2.1 0)), (2, .ref (ad 0)), (3, .ref (G.2.2.1 229)), (4, .int (nI (7 * j)))] → W p l e room_1 s m #[Value.ref b] below meth c H locs (cells + 8) (slots + 48) (lw_Z below #[Value.ref b] s) (F0 m 2367 ls [])) : W p l e room_1 s m #[Value.ref b] below meth c H locs cells slots (lw_Z below #[Value.ref b] s) (F0 m 1759 ls []) := by
  obtain ⟨hx, hb, hr, hml, hown, hts, hX, hbl, hlocks, hgv⟩ := id C0
  have hC : CallFix p m c cL_law 7 s #[Value.ref b] lw_tbl RL := ⟨hx, hb, hml, hown, hts⟩
  have hR1 : room_1.cells = 601024 := rfl
  have hR2 : room_1.slots = 7293034 := rfl
  obtain ⟨k1, mc2, r1, mm2, h1, h2, h3, h4, hR⟩ := hop mc mm (xs (7 * j + 1))  hR
  refine lv_aload_n hx hb dL_law_1759 rfl (lv_at hl 1 rfl) ?_
  refine lv_aload_n hx hb dL_law_1760 rfl (lv_at hl 0 rfl) ?_
  refine lv_iload hx hb dL_law_1761 (lv_at hl 4 rfl) ?_
  refine lv_iconst (v := 1) hx hb dL_law_1763 (by decide) ?_
  refine lv_iadd hx hb dL_law_1764 ?_
  refine l_sld hC hX hbl hW (j := j) (k := 1) (by omega) hL (nI_add (7 * j) 1) dL_law_1765 ?_
  refine lv_aload_n hx hb dL_law_1766 rfl (lv_at hl 3 rfl) ?_
  refine l_cC hC hK hW (As := [.ref (G.2.2.1 0), .int (xs (7 * j + 1)), .ref (G.2.2.1 229)]) (rest := []) (c_L_given l G hst h1) (vx_cwSW 3 hts tg_L_given rfl rfl rfl (by decide +kernel) ⟨(Nat.le_of_ble_eq_true rfl), (Nat.le_of_ble_eq_true rfl)⟩) rfl hl.1 rfl (Nat.le_of_ble_eq_true rfl) dL_law_1767 ⟨by omega, by omega⟩ (fun H locs hW => ?_)
  refine lv_istore (lv' := [(5, .int k1), (0, .ref b), (1, .ref (G.2.2.1 0)), (2, .ref (ad 0)), (3, .ref (G.2.2.1 229)), (4, .int (nI (7 * j)))]) hx hb dL_law_1770 hl (by decide) rfl (fun ls hl => ?_)
  refine lv_aload_n hx hb dL_law_1772 rfl (lv_at hl 3 rfl) ?_
  refine lv_aload_n hx hb dL_law_1773 rfl (lv_at hl 1 rfl) ?_
  refine lv_iload hx hb dL_law_1774 (lv_at hl 5 rfl) ?_
  refine lv_iconst (v := 1) hx hb dL_law_1776 (by decide) ?_
  refine lv_iadd hx hb dL_law_1777 ?_
  refine l_sld hC hX hbl hW (j := j) (k := 1) (by omega) hL (nI_add (7 * j) 1) dL_law_1778 ?_
  refine l_cM hC hK hW (As := [.int (xs (7 * j + 1))]) (rest := []) (c_X10_given l (l_GM G ad) h2) (cwV 1 hts tg_X10_given rfl rfl rfl (by decide +kernel) ⟨(Nat.le_of_ble_eq_true rfl), (Nat.le_of_ble_eq_true rfl)⟩) rfl hl.1 rfl (Nat.le_of_ble_eq_true rfl) dL_law_1779 ⟨by omega, by omega⟩ (fun H locs hW => ?_)
  refine lv_istore (lv' := [(6, .int r1), (5, .int k1), (0, .ref b), (1, .ref (G.2.2.1 0)), (2, .ref (ad 0)), (3, .ref (G.2.2.1 229)), (4, .int (nI (7 * j)))]) hx hb dL_law_1782 hl (by decide) rfl (fun ls hl => ?_)
  refine lv_aload_n hx hb dL_law_1784 rfl (lv_at hl 4 rfl) ?_
  refine l_cM hC hK hW (As := []) (rest := []) (c_X10_thrown l (l_GM G ad) h3) (cwV 0 hts tg_X10_thrown rfl rfl rfl (by decide +kernel) ⟨(Nat.le_of_ble_eq_true rfl), (Nat.le_of_ble_eq_true rfl)⟩) rfl hl.1 rfl (Nat.le_of_ble_eq_true rfl) dL_law_1785 ⟨by omega, by omega⟩ (fun H locs hW => ?_)
  refine lv_iload hx hb dL_law_1788 (lv_at hl 1 rfl) ?_
  refine lv_icmp_eq (tgt := 1795) hx hb dL_law_1790 (by decide) (fun _ => ?_) (fun c9 => absurd rfl c9)
  refine lv_iload hx hb dL_law_1795 (lv_at hl 1 rfl) ?_
  refine lv_if_ne (tgt := 1812) hx hb dL_law_1797 (by decide) (fun c9 => ?_) (fun c9 => ?_)
  · refine lv_goto (tgt := 2367) hx hb dL_law_1812 (by decide) ?_
    refine W.widen (k := cells + 8) (n := slots + 48) (by omega) (by omega) ?_
    exact kN _ _ H locs ls hR hW (lv_sub hl [2, 3, 4, 5, 6] rfl)
  · refine lv_aload_n hx hb dL_law_1800 rfl (lv_at hl 5 rfl) ?_
    refine lv_iconst (v := 0) hx hb dL_law_1801 (by decide) ?_
    refine l_lld hC hK hW dL_law_1802 ?_
    refine lv_iload hx hb dL_law_1803 (lv_at hl 0 rfl) ?_
    refine lv_i2l (v := (r1).toInt64) hx hb dL_law_1805 rfl ?_
    refine W.lcmp hx hb dL_law_1806 ?_
    refine lv_if_eq (tgt := 1812) hx hb dL_law_1807 (by decide) (fun _ => ?_) (fun c8 => absurd (l_cmps (h4 c9)) c8)
    refine lv_goto (tgt := 2367) hx hb dL_law_1812 (by decide) ?_
    refine W.widen (k := cells + 8) (n := slots + 48) (by omega) (by omega) ?_
    exact kN _ _ H locs ls hR hW (lv_sub hl [2, 3, 4, 5, 6] rfl)
set_option maxHeartbeats 4000000 in
set_option maxRecDepth 100000 in
theorem law_case_23 {p : Program} {l : Launch} {e : Env} {s : State} {m : MethodId} {below : List Frame} {meth : Method} {c : Code} {b L : Nat} {xs : Nat → Int32} (hL : L ≤ 3584) (C0 : lw_At p s m meth c b L xs) (hst : l.stackTraces = false) {G : gG} {ad : Nat → Nat} (hK : l_K G ad s) {Rel : gM → gM → Prop} (hop : l_op_23 Rel) {j : Nat} (hj : 7 * j + 7 ≤ L) {mc mm : gM} (hR : Rel mc mm) {H : Heap} {locs : List Loc} {ls : Array Slot} {cells slots : Nat} (hc1 : cells + 8 ≤ 601024) (hc2 : slots + 48 ≤ 7293034) (hW : l_H G ad s H locs mc mm) (hl : lv_has ls 7 [(0, .ref b), (1, .ref (G.2.2.1 0)), (2, .ref (ad 0)), (3, .ref (G.2.2.1 229)), (4, .int (nI (7 * j)))]) (kN : ∀ (mc mm : gM) (H : Heap) (locs : List Loc) (ls : Array Slot), Rel mc mm → l_H G ad s H locs mc mm → lv_has ls 7 [(0, .ref b), (1, .ref (G.2.2.1 0)), (2, .ref (ad 0)), (3, .ref (G.2.2.1 229)), (4, .int (nI (7 * j)))] → W p l e room_1 s m #[Value.ref b] below meth c H locs (cells + 8) (slots + 48) (lw_Z below #[Value.ref b] s) (F0 m 2367 ls [])) : W p l e room_1 s m #[Value.ref b] below meth c H locs cells slots (lw_Z below #[Value.ref b] s) (F0 m 1815 ls []) := by
  obtain ⟨hx, hb, hr, hml, hown, hts, hX, hbl, hlocks, hgv⟩ := id C0
  have hC : CallFix p m c cL_law 7 s #[Value.ref b] lw_tbl RL := ⟨hx, hb, hml, hown, hts⟩
  have hR1 : room_1.cells = 601024 := rfl
  have hR2 : room_1.slots = 7293034 := rfl
  obtain ⟨k1, mc2, r1, mm2, h1, h2, h3, h4, hR⟩ := hop mc mm (xs (7 * j + 1))  hR
  refine lv_aload_n hx hb dL_law_1815 rfl (lv_at hl 1 rfl) ?_
  refine lv_aload_n hx hb dL_law_1816 rfl (lv_at hl 0 rfl) ?_
  refine lv_iload hx hb dL_law_1817 (lv_at hl 4 rfl) ?_
  refine lv_iconst (v := 1) hx hb dL_law_1819 (by decide) ?_
  refine lv_iadd hx hb dL_law_1820 ?_
  refine l_sld hC hX hbl hW (j := j) (k := 1) (by omega) hL (nI_add (7 * j) 1) dL_law_1821 ?_
  refine lv_aload_n hx hb dL_law_1822 rfl (lv_at hl 3 rfl) ?_
  refine l_cC hC hK hW (As := [.ref (G.2.2.1 0), .int (xs (7 * j + 1)), .ref (G.2.2.1 229)]) (rest := []) (c_L_left l G hst h1) (vx_cwSW 3 hts tg_L_left rfl rfl rfl (by decide +kernel) ⟨(Nat.le_of_ble_eq_true rfl), (Nat.le_of_ble_eq_true rfl)⟩) rfl hl.1 rfl (Nat.le_of_ble_eq_true rfl) dL_law_1823 ⟨by omega, by omega⟩ (fun H locs hW => ?_)
  refine lv_istore (lv' := [(5, .int k1), (0, .ref b), (1, .ref (G.2.2.1 0)), (2, .ref (ad 0)), (3, .ref (G.2.2.1 229)), (4, .int (nI (7 * j)))]) hx hb dL_law_1826 hl (by decide) rfl (fun ls hl => ?_)
  refine lv_aload_n hx hb dL_law_1828 rfl (lv_at hl 3 rfl) ?_
  refine lv_aload_n hx hb dL_law_1829 rfl (lv_at hl 1 rfl) ?_
  refine lv_iload hx hb dL_law_1830 (lv_at hl 5 rfl) ?_
  refine lv_iconst (v := 1) hx hb dL_law_1832 (by decide) ?_
  refine lv_iadd hx hb dL_law_1833 ?_
  refine l_sld hC hX hbl hW (j := j) (k := 1) (by omega) hL (nI_add (7 * j) 1) dL_law_1834 ?_
  refine l_cM hC hK hW (As := [.int (xs (7 * j + 1))]) (rest := []) (c_X10_left l (l_GM G ad) h2) (cwV 1 hts tg_X10_left rfl rfl rfl (by decide +kernel) ⟨(Nat.le_of_ble_eq_true rfl), (Nat.le_of_ble_eq_true rfl)⟩) rfl hl.1 rfl (Nat.le_of_ble_eq_true rfl) dL_law_1835 ⟨by omega, by omega⟩ (fun H locs hW => ?_)
  refine lv_istore (lv' := [(6, .int r1), (5, .int k1), (0, .ref b), (1, .ref (G.2.2.1 0)), (2, .ref (ad 0)), (3, .ref (G.2.2.1 229)), (4, .int (nI (7 * j)))]) hx hb dL_law_1838 hl (by decide) rfl (fun ls hl => ?_)
  refine lv_aload_n hx hb dL_law_1840 rfl (lv_at hl 4 rfl) ?_
  refine l_cM hC hK hW (As := []) (rest := []) (c_X10_thrown l (l_GM G ad) h3) (cwV 0 hts tg_X10_thrown rfl rfl rfl (by decide +kernel) ⟨(Nat.le_of_ble_eq_true rfl), (Nat.le_of_ble_eq_true rfl)⟩) rfl hl.1 rfl (Nat.le_of_ble_eq_true rfl) dL_law_1841 ⟨by omega, by omega⟩ (fun H locs hW => ?_)
  refine lv_iload hx hb dL_law_1844 (lv_at hl 1 rfl) ?_
  refine lv_icmp_eq (tgt := 1851) hx hb dL_law_1846 (by decide) (fun _ => ?_) (fun c9 => absurd rfl c9)
  refine lv_iload hx hb dL_law_1851 (lv_at hl 1 rfl) ?_
  refine lv_if_ne (tgt := 1868) hx hb dL_law_1853 (by decide) (fun c9 => ?_) (fun c9 => ?_)
  · refine lv_goto (tgt := 2367) hx hb dL_law_1868 (by decide) ?_
    refine W.widen (k := cells + 8) (n := slots + 48) (by omega) (by omega) ?_
    exact kN _ _ H locs ls hR hW (lv_sub hl [2, 3, 4, 5, 6] rfl)
  · refine lv_aload_n hx hb dL_law_1856 rfl (lv_at hl 5 rfl) ?_
    refine lv_iconst (v := 0) hx hb dL_law_1857 (by decide) ?_
    refine l_lld hC hK hW dL_law_1858 ?_
    refine lv_iload hx hb dL_law_1859 (lv_at hl 0 rfl) ?_
    refine lv_i2l (v := (r1).toInt64) hx hb dL_law_1861 rfl ?_
    refine W.lcmp hx hb dL_law_1862 ?_
    refine lv_if_eq (tgt := 1868) hx hb dL_law_1863 (by decide) (fun _ => ?_) (fun c8 => absurd (l_cmps (h4 c9)) c8)
    refine lv_goto (tgt := 2367) hx hb dL_law_1868 (by decide) ?_
    refine W.widen (k := cells + 8) (n := slots + 48) (by omega) (by omega) ?_
    exact kN _ _ H locs ls hR hW (lv_sub hl [2, 3, 4, 5, 6] rfl)
set_option maxHeartbeats 4000000 in
set_option maxRecDepth 100000 in
theorem law_case_24 {p : Program} {l : Launch} {e : Env} {s : State} {m : MethodId} {below : List Frame} {meth : Method} {c : Code} {b L : Nat} {xs : Nat → Int32} (hL : L ≤ 3584) (C0 : lw_At p s m meth c b L xs) (hst : l.stackTraces = false) {G : gG} {ad : Nat → Nat} (hK : l_K G ad s) {Rel : gM → gM → Prop} (hop : l_op_24 Rel) {j : Nat} (hj : 7 * j + 7 ≤ L) {mc mm : gM} (hR : Rel mc mm) {H : Heap} {locs : List Loc} {ls : Array Slot} {cells slots : Nat} (hc1 : cells + 8 ≤ 601024) (hc2 : slots + 48 ≤ 7293034) (hW : l_H G ad s H locs mc mm) (hl : lv_has ls 7 [(0, .ref b), (1, .ref (G.2.2.1 0)), (2, .ref (ad 0)), (3, .ref (G.2.2.1 229)), (4, .int (nI (7 * j)))]) (kN : ∀ (mc mm : gM) (H : Heap) (locs : List Loc) (ls : Array Slot), Rel mc mm → l_H G ad s H locs mc mm → lv_has ls 7 [(0, .ref b), (1, .ref (G.2.2.1 0)), (2, .ref (ad 0)), (3, .ref (G.2.2.1 229)), (4, .int (nI (7 * j)))] → W p l e room_1 s m #[Value.ref b] below meth c H locs (cells + 8) (slots + 48) (lw_Z below #[Value.ref b] s) (F0 m 2367 ls [])) : W p l e room_1 s m #[Value.ref b] below meth c H locs cells slots (lw_Z below #[Value.ref b] s) (F0 m 1871 ls []) := by
  obtain ⟨hx, hb, hr, hml, hown, hts, hX, hbl, hlocks, hgv⟩ := id C0
  have hC : CallFix p m c cL_law 7 s #[Value.ref b] lw_tbl RL := ⟨hx, hb, hml, hown, hts⟩
  have hR1 : room_1.cells = 601024 := rfl
  have hR2 : room_1.slots = 7293034 := rfl
  obtain ⟨k1, mc2, r1, mm2, h1, h2, h3, h4, hR⟩ := hop mc mm (xs (7 * j + 1)) (xs (7 * j + 2)) (xs (7 * j + 3)) (xs (7 * j + 4))  hR
  refine lv_aload_n hx hb dL_law_1871 rfl (lv_at hl 1 rfl) ?_
  refine lv_aload_n hx hb dL_law_1872 rfl (lv_at hl 0 rfl) ?_
  refine lv_iload hx hb dL_law_1873 (lv_at hl 4 rfl) ?_
  refine lv_iconst (v := 1) hx hb dL_law_1875 (by decide) ?_
  refine lv_iadd hx hb dL_law_1876 ?_
  refine l_sld hC hX hbl hW (j := j) (k := 1) (by omega) hL (nI_add (7 * j) 1) dL_law_1877 ?_
  refine lv_aload_n hx hb dL_law_1878 rfl (lv_at hl 0 rfl) ?_
  refine lv_iload hx hb dL_law_1879 (lv_at hl 4 rfl) ?_
  refine lv_iconst (v := 2) hx hb dL_law_1881 (by decide) ?_
  refine lv_iadd hx hb dL_law_1882 ?_
  refine l_sld hC hX hbl hW (j := j) (k := 2) (by omega) hL (nI_add (7 * j) 2) dL_law_1883 ?_
  refine lv_aload_n hx hb dL_law_1884 rfl (lv_at hl 0 rfl) ?_
  refine lv_iload hx hb dL_law_1885 (lv_at hl 4 rfl) ?_
  refine lv_iconst (v := 3) hx hb dL_law_1887 (by decide) ?_
  refine lv_iadd hx hb dL_law_1888 ?_
  refine l_sld hC hX hbl hW (j := j) (k := 3) (by omega) hL (nI_add (7 * j) 3) dL_law_1889 ?_
  refine lv_aload_n hx hb dL_law_1890 rfl (lv_at hl 0 rfl) ?_
  refine lv_iload hx hb dL_law_1891 (lv_at hl 4 rfl) ?_
  refine lv_iconst (v := 4) hx hb dL_law_1893 (by decide) ?_
  refine lv_iadd hx hb dL_law_1894 ?_
  refine l_sld hC hX hbl hW (j := j) (k := 4) (by omega) hL (nI_add (7 * j) 4) dL_law_1895 ?_
  refine lv_aload_n hx hb dL_law_1896 rfl (lv_at hl 3 rfl) ?_
  refine l_cC hC hK hW (As := [.ref (G.2.2.1 0), .int (xs (7 * j + 1)), .int (xs (7 * j + 2)), .int (xs (7 * j + 3)), .int (xs (7 * j + 4)), .ref (G.2.2.1 229)]) (rest := []) (c_L_plan l G hst h1) (vx_cwSW 6 hts tg_L_plan rfl rfl rfl (by decide +kernel) ⟨(Nat.le_of_ble_eq_true rfl), (Nat.le_of_ble_eq_true rfl)⟩) rfl hl.1 rfl (Nat.le_of_ble_eq_true rfl) dL_law_1897 ⟨by omega, by omega⟩ (fun H locs hW => ?_)
  refine lv_istore (lv' := [(5, .int k1), (0, .ref b), (1, .ref (G.2.2.1 0)), (2, .ref (ad 0)), (3, .ref (G.2.2.1 229)), (4, .int (nI (7 * j)))]) hx hb dL_law_1900 hl (by decide) rfl (fun ls hl => ?_)
  refine lv_aload_n hx hb dL_law_1902 rfl (lv_at hl 3 rfl) ?_
  refine lv_aload_n hx hb dL_law_1903 rfl (lv_at hl 1 rfl) ?_
  refine lv_iload hx hb dL_law_1904 (lv_at hl 5 rfl) ?_
  refine lv_iconst (v := 1) hx hb dL_law_1906 (by decide) ?_
  refine lv_iadd hx hb dL_law_1907 ?_
  refine l_sld hC hX hbl hW (j := j) (k := 1) (by omega) hL (nI_add (7 * j) 1) dL_law_1908 ?_
  refine lv_aload_n hx hb dL_law_1909 rfl (lv_at hl 1 rfl) ?_
  refine lv_iload hx hb dL_law_1910 (lv_at hl 5 rfl) ?_
  refine lv_iconst (v := 2) hx hb dL_law_1912 (by decide) ?_
  refine lv_iadd hx hb dL_law_1913 ?_
  refine l_sld hC hX hbl hW (j := j) (k := 2) (by omega) hL (nI_add (7 * j) 2) dL_law_1914 ?_
  refine lv_aload_n hx hb dL_law_1915 rfl (lv_at hl 1 rfl) ?_
  refine lv_iload hx hb dL_law_1916 (lv_at hl 5 rfl) ?_
  refine lv_iconst (v := 3) hx hb dL_law_1918 (by decide) ?_
  refine lv_iadd hx hb dL_law_1919 ?_
  refine l_sld hC hX hbl hW (j := j) (k := 3) (by omega) hL (nI_add (7 * j) 3) dL_law_1920 ?_
  refine lv_aload_n hx hb dL_law_1921 rfl (lv_at hl 1 rfl) ?_
  refine lv_iload hx hb dL_law_1922 (lv_at hl 5 rfl) ?_
  refine lv_iconst (v := 4) hx hb dL_law_1924 (by decide) ?_
  refine lv_iadd hx hb dL_law_1925 ?_
  refine l_sld hC hX hbl hW (j := j) (k := 4) (by omega) hL (nI_add (7 * j) 4) dL_law_1926 ?_
  refine l_cM hC hK hW (As := [.int (xs (7 * j + 1)), .int (xs (7 * j + 2)), .int (xs (7 * j + 3)), .int (xs (7 * j + 4))]) (rest := []) (c_X10_plan l (l_GM G ad) h2) (cwV 4 hts tg_X10_plan rfl rfl rfl (by decide +kernel) ⟨(Nat.le_of_ble_eq_true rfl), (Nat.le_of_ble_eq_true rfl)⟩) rfl hl.1 rfl (Nat.le_of_ble_eq_true rfl) dL_law_1927 ⟨by omega, by omega⟩ (fun H locs hW => ?_)
  refine lv_istore (lv' := [(6, .int r1), (5, .int k1), (0, .ref b), (1, .ref (G.2.2.1 0)), (2, .ref (ad 0)), (3, .ref (G.2.2.1 229)), (4, .int (nI (7 * j)))]) hx hb dL_law_1930 hl (by decide) rfl (fun ls hl => ?_)
  refine lv_aload_n hx hb dL_law_1932 rfl (lv_at hl 4 rfl) ?_
  refine l_cM hC hK hW (As := []) (rest := []) (c_X10_thrown l (l_GM G ad) h3) (cwV 0 hts tg_X10_thrown rfl rfl rfl (by decide +kernel) ⟨(Nat.le_of_ble_eq_true rfl), (Nat.le_of_ble_eq_true rfl)⟩) rfl hl.1 rfl (Nat.le_of_ble_eq_true rfl) dL_law_1933 ⟨by omega, by omega⟩ (fun H locs hW => ?_)
  refine lv_iload hx hb dL_law_1936 (lv_at hl 1 rfl) ?_
  refine lv_icmp_eq (tgt := 1943) hx hb dL_law_1938 (by decide) (fun _ => ?_) (fun c9 => absurd rfl c9)
  refine lv_iload hx hb dL_law_1943 (lv_at hl 1 rfl) ?_
  refine lv_if_ne (tgt := 1960) hx hb dL_law_1945 (by decide) (fun c9 => ?_) (fun c9 => ?_)
  · refine lv_goto (tgt := 2367) hx hb dL_law_1960 (by decide) ?_
    refine W.widen (k := cells + 8) (n := slots + 48) (by omega) (by omega) ?_
    exact kN _ _ H locs ls hR hW (lv_sub hl [2, 3, 4, 5, 6] rfl)
  · refine lv_aload_n hx hb dL_law_1948 rfl (lv_at hl 5 rfl) ?_
    refine lv_iconst (v := 0) hx hb dL_law_1949 (by decide) ?_
    refine l_lld hC hK hW dL_law_1950 ?_
    refine lv_iload hx hb dL_law_1951 (lv_at hl 0 rfl) ?_
    refine lv_i2l (v := (r1).toInt64) hx hb dL_law_1953 rfl ?_
    refine W.lcmp hx hb dL_law_1954 ?_
    refine lv_if_eq (tgt := 1960) hx hb dL_law_1955 (by decide) (fun _ => ?_) (fun c8 => absurd (l_cmps (h4 c9)) c8)
    refine lv_goto (tgt := 2367) hx hb dL_law_1960 (by decide) ?_
    refine W.widen (k := cells + 8) (n := slots + 48) (by omega) (by omega) ?_
    exact kN _ _ H locs ls hR hW (lv_sub hl [2, 3, 4, 5, 6] rfl)
set_option maxHeartbeats 4000000 in
set_option maxRecDepth 100000 in
theorem law_case_25 {p : Program} {l : Launch} {e : Env} {s : State} {m : MethodId} {below : List Frame} {meth : Method} {c : Code} {b L : Nat} {xs : Nat → Int32} (hL : L ≤ 3584) (C0 : lw_At p s m meth c b L xs) (hst : l.stackTraces = false) {G : gG} {ad : Nat → Nat} (hK : l_K G ad s) {Rel : gM → gM → Prop} (hop : l_op_25 Rel) {j : Nat} (hj : 7 * j + 7 ≤ L) {mc mm : gM} (hR : Rel mc mm) {H : Heap} {locs : List Loc} {ls : Array Slot} {cells slots : Nat} (hc1 : cells + 8 ≤ 601024) (hc2 : slots + 48 ≤ 7293034) (hW : l_H G ad s H locs mc mm) (hl : lv_has ls 7 [(0, .ref b), (1, .ref (G.2.2.1 0)), (2, .ref (ad 0)), (3, .ref (G.2.2.1 229)), (4, .int (nI (7 * j)))]) (kN : ∀ (mc mm : gM) (H : Heap) (locs : List Loc) (ls : Array Slot), Rel mc mm → l_H G ad s H locs mc mm → lv_has ls 7 [(0, .ref b), (1, .ref (G.2.2.1 0)), (2, .ref (ad 0)), (3, .ref (G.2.2.1 229)), (4, .int (nI (7 * j)))] → W p l e room_1 s m #[Value.ref b] below meth c H locs (cells + 8) (slots + 48) (lw_Z below #[Value.ref b] s) (F0 m 2367 ls [])) : W p l e room_1 s m #[Value.ref b] below meth c H locs cells slots (lw_Z below #[Value.ref b] s) (F0 m 1963 ls []) := by
  obtain ⟨hx, hb, hr, hml, hown, hts, hX, hbl, hlocks, hgv⟩ := id C0
  have hC : CallFix p m c cL_law 7 s #[Value.ref b] lw_tbl RL := ⟨hx, hb, hml, hown, hts⟩
  have hR1 : room_1.cells = 601024 := rfl
  have hR2 : room_1.slots = 7293034 := rfl
  obtain ⟨k1, mc2, r1, mm2, h1, h2, h3, h4, hR⟩ := hop mc mm (xs (7 * j + 1)) (xs (7 * j + 2))  hR
  refine lv_aload_n hx hb dL_law_1963 rfl (lv_at hl 1 rfl) ?_
  refine lv_aload_n hx hb dL_law_1964 rfl (lv_at hl 0 rfl) ?_
  refine lv_iload hx hb dL_law_1965 (lv_at hl 4 rfl) ?_
  refine lv_iconst (v := 1) hx hb dL_law_1967 (by decide) ?_
  refine lv_iadd hx hb dL_law_1968 ?_
  refine l_sld hC hX hbl hW (j := j) (k := 1) (by omega) hL (nI_add (7 * j) 1) dL_law_1969 ?_
  refine lv_aload_n hx hb dL_law_1970 rfl (lv_at hl 0 rfl) ?_
  refine lv_iload hx hb dL_law_1971 (lv_at hl 4 rfl) ?_
  refine lv_iconst (v := 2) hx hb dL_law_1973 (by decide) ?_
  refine lv_iadd hx hb dL_law_1974 ?_
  refine l_sld hC hX hbl hW (j := j) (k := 2) (by omega) hL (nI_add (7 * j) 2) dL_law_1975 ?_
  refine lv_aload_n hx hb dL_law_1976 rfl (lv_at hl 3 rfl) ?_
  refine l_cC hC hK hW (As := [.ref (G.2.2.1 0), .int (xs (7 * j + 1)), .int (xs (7 * j + 2)), .ref (G.2.2.1 229)]) (rest := []) (c_L_gap l G hst h1) (vx_cwSW 4 hts tg_L_gap rfl rfl rfl (by decide +kernel) ⟨(Nat.le_of_ble_eq_true rfl), (Nat.le_of_ble_eq_true rfl)⟩) rfl hl.1 rfl (Nat.le_of_ble_eq_true rfl) dL_law_1977 ⟨by omega, by omega⟩ (fun H locs hW => ?_)
  refine lv_istore (lv' := [(5, .int k1), (0, .ref b), (1, .ref (G.2.2.1 0)), (2, .ref (ad 0)), (3, .ref (G.2.2.1 229)), (4, .int (nI (7 * j)))]) hx hb dL_law_1980 hl (by decide) rfl (fun ls hl => ?_)
  refine lv_aload_n hx hb dL_law_1982 rfl (lv_at hl 3 rfl) ?_
  refine lv_aload_n hx hb dL_law_1983 rfl (lv_at hl 1 rfl) ?_
  refine lv_iload hx hb dL_law_1984 (lv_at hl 5 rfl) ?_
  refine lv_iconst (v := 1) hx hb dL_law_1986 (by decide) ?_
  refine lv_iadd hx hb dL_law_1987 ?_
  refine l_sld hC hX hbl hW (j := j) (k := 1) (by omega) hL (nI_add (7 * j) 1) dL_law_1988 ?_
  refine lv_aload_n hx hb dL_law_1989 rfl (lv_at hl 1 rfl) ?_
  refine lv_iload hx hb dL_law_1990 (lv_at hl 5 rfl) ?_
  refine lv_iconst (v := 2) hx hb dL_law_1992 (by decide) ?_
  refine lv_iadd hx hb dL_law_1993 ?_
  refine l_sld hC hX hbl hW (j := j) (k := 2) (by omega) hL (nI_add (7 * j) 2) dL_law_1994 ?_
  refine l_cM hC hK hW (As := [.int (xs (7 * j + 1)), .int (xs (7 * j + 2))]) (rest := []) (c_X10_gap l (l_GM G ad) h2) (cwV 2 hts tg_X10_gap rfl rfl rfl (by decide +kernel) ⟨(Nat.le_of_ble_eq_true rfl), (Nat.le_of_ble_eq_true rfl)⟩) rfl hl.1 rfl (Nat.le_of_ble_eq_true rfl) dL_law_1995 ⟨by omega, by omega⟩ (fun H locs hW => ?_)
  refine lv_istore (lv' := [(6, .int r1), (5, .int k1), (0, .ref b), (1, .ref (G.2.2.1 0)), (2, .ref (ad 0)), (3, .ref (G.2.2.1 229)), (4, .int (nI (7 * j)))]) hx hb dL_law_1998 hl (by decide) rfl (fun ls hl => ?_)
  refine lv_aload_n hx hb dL_law_2000 rfl (lv_at hl 4 rfl) ?_
  refine l_cM hC hK hW (As := []) (rest := []) (c_X10_thrown l (l_GM G ad) h3) (cwV 0 hts tg_X10_thrown rfl rfl rfl (by decide +kernel) ⟨(Nat.le_of_ble_eq_true rfl), (Nat.le_of_ble_eq_true rfl)⟩) rfl hl.1 rfl (Nat.le_of_ble_eq_true rfl) dL_law_2001 ⟨by omega, by omega⟩ (fun H locs hW => ?_)
  refine lv_iload hx hb dL_law_2004 (lv_at hl 1 rfl) ?_
  refine lv_icmp_eq (tgt := 2011) hx hb dL_law_2006 (by decide) (fun _ => ?_) (fun c9 => absurd rfl c9)
  refine lv_iload hx hb dL_law_2011 (lv_at hl 1 rfl) ?_
  refine lv_if_ne (tgt := 2028) hx hb dL_law_2013 (by decide) (fun c9 => ?_) (fun c9 => ?_)
  · refine lv_goto (tgt := 2367) hx hb dL_law_2028 (by decide) ?_
    refine W.widen (k := cells + 8) (n := slots + 48) (by omega) (by omega) ?_
    exact kN _ _ H locs ls hR hW (lv_sub hl [2, 3, 4, 5, 6] rfl)
  · refine lv_aload_n hx hb dL_law_2016 rfl (lv_at hl 5 rfl) ?_
    refine lv_iconst (v := 0) hx hb dL_law_2017 (by decide) ?_
    refine l_lld hC hK hW dL_law_2018 ?_
    refine lv_iload hx hb dL_law_2019 (lv_at hl 0 rfl) ?_
    refine lv_i2l (v := (r1).toInt64) hx hb dL_law_2021 rfl ?_
    refine W.lcmp hx hb dL_law_2022 ?_
    refine lv_if_eq (tgt := 2028) hx hb dL_law_2023 (by decide) (fun _ => ?_) (fun c8 => absurd (l_cmps (h4 c9)) c8)
    refine lv_goto (tgt := 2367) hx hb dL_law_2028 (by decide) ?_
    refine W.widen (k := cells + 8) (n := slots + 48) (by omega) (by omega) ?_
    exact kN _ _ H locs ls hR hW (lv_sub hl [2, 3, 4, 5, 6] rfl)
set_option maxHeartbeats 4000000 in
set_option maxRecDepth 100000 in
theorem law_case_26 {p : Program} {l : Launch} {e : Env} {s : State} {m : MethodId} {below : List Frame} {meth : Method} {c : Code} {b L : Nat} {xs : Nat → Int32} (hL : L ≤ 3584) (C0 : lw_At p s m meth c b L xs) (hst : l.stackTraces = false) {G : gG} {ad : Nat → Nat} (hK : l_K G ad s) {Rel : gM → gM → Prop} (hop : l_op_26 Rel) {j : Nat} (hj : 7 * j + 7 ≤ L) {mc mm : gM} (hR : Rel mc mm) {H : Heap} {locs : List Loc} {ls : Array Slot} {cells slots : Nat} (hc1 : cells + 8 ≤ 601024) (hc2 : slots + 48 ≤ 7293034) (hW : l_H G ad s H locs mc mm) (hl : lv_has ls 7 [(0, .ref b), (1, .ref (G.2.2.1 0)), (2, .ref (ad 0)), (3, .ref (G.2.2.1 229)), (4, .int (nI (7 * j)))]) (kN : ∀ (mc mm : gM) (H : Heap) (locs : List Loc) (ls : Array Slot), Rel mc mm → l_H G ad s H locs mc mm → lv_has ls 7 [(0, .ref b), (1, .ref (G.2.2.1 0)), (2, .ref (ad 0)), (3, .ref (G.2.2.1 229)), (4, .int (nI (7 * j)))] → W p l e room_1 s m #[Value.ref b] below meth c H locs (cells + 8) (slots + 48) (lw_Z below #[Value.ref b] s) (F0 m 2367 ls [])) : W p l e room_1 s m #[Value.ref b] below meth c H locs cells slots (lw_Z below #[Value.ref b] s) (F0 m 2031 ls []) := by
  obtain ⟨hx, hb, hr, hml, hown, hts, hX, hbl, hlocks, hgv⟩ := id C0
  have hC : CallFix p m c cL_law 7 s #[Value.ref b] lw_tbl RL := ⟨hx, hb, hml, hown, hts⟩
  have hR1 : room_1.cells = 601024 := rfl
  have hR2 : room_1.slots = 7293034 := rfl
  obtain ⟨k1, mc2, r1, mm2, h1, h2, h3, h4, hR⟩ := hop mc mm (xs (7 * j + 1)) (xs (7 * j + 2))  hR
  refine lv_aload_n hx hb dL_law_2031 rfl (lv_at hl 1 rfl) ?_
  refine lv_aload_n hx hb dL_law_2032 rfl (lv_at hl 0 rfl) ?_
  refine lv_iload hx hb dL_law_2033 (lv_at hl 4 rfl) ?_
  refine lv_iconst (v := 1) hx hb dL_law_2035 (by decide) ?_
  refine lv_iadd hx hb dL_law_2036 ?_
  refine l_sld hC hX hbl hW (j := j) (k := 1) (by omega) hL (nI_add (7 * j) 1) dL_law_2037 ?_
  refine lv_aload_n hx hb dL_law_2038 rfl (lv_at hl 0 rfl) ?_
  refine lv_iload hx hb dL_law_2039 (lv_at hl 4 rfl) ?_
  refine lv_iconst (v := 2) hx hb dL_law_2041 (by decide) ?_
  refine lv_iadd hx hb dL_law_2042 ?_
  refine l_sld hC hX hbl hW (j := j) (k := 2) (by omega) hL (nI_add (7 * j) 2) dL_law_2043 ?_
  refine lv_aload_n hx hb dL_law_2044 rfl (lv_at hl 3 rfl) ?_
  refine l_cC hC hK hW (As := [.ref (G.2.2.1 0), .int (xs (7 * j + 1)), .int (xs (7 * j + 2)), .ref (G.2.2.1 229)]) (rest := []) (c_L_gapPrice l G hst h1) (vx_cwSW 4 hts tg_L_gapPrice rfl rfl rfl (by decide +kernel) ⟨(Nat.le_of_ble_eq_true rfl), (Nat.le_of_ble_eq_true rfl)⟩) rfl hl.1 rfl (Nat.le_of_ble_eq_true rfl) dL_law_2045 ⟨by omega, by omega⟩ (fun H locs hW => ?_)
  refine lv_istore (lv' := [(5, .int k1), (0, .ref b), (1, .ref (G.2.2.1 0)), (2, .ref (ad 0)), (3, .ref (G.2.2.1 229)), (4, .int (nI (7 * j)))]) hx hb dL_law_2048 hl (by decide) rfl (fun ls hl => ?_)
  refine lv_aload_n hx hb dL_law_2050 rfl (lv_at hl 3 rfl) ?_
  refine lv_aload_n hx hb dL_law_2051 rfl (lv_at hl 1 rfl) ?_
  refine lv_iload hx hb dL_law_2052 (lv_at hl 5 rfl) ?_
  refine lv_iconst (v := 1) hx hb dL_law_2054 (by decide) ?_
  refine lv_iadd hx hb dL_law_2055 ?_
  refine l_sld hC hX hbl hW (j := j) (k := 1) (by omega) hL (nI_add (7 * j) 1) dL_law_2056 ?_
  refine lv_aload_n hx hb dL_law_2057 rfl (lv_at hl 1 rfl) ?_
  refine lv_iload hx hb dL_law_2058 (lv_at hl 5 rfl) ?_
  refine lv_iconst (v := 2) hx hb dL_law_2060 (by decide) ?_
  refine lv_iadd hx hb dL_law_2061 ?_
  refine l_sld hC hX hbl hW (j := j) (k := 2) (by omega) hL (nI_add (7 * j) 2) dL_law_2062 ?_
  refine l_cM hC hK hW (As := [.int (xs (7 * j + 1)), .int (xs (7 * j + 2))]) (rest := []) (c_X10_gapPrice l (l_GM G ad) h2) (cwV 2 hts tg_X10_gapPrice rfl rfl rfl (by decide +kernel) ⟨(Nat.le_of_ble_eq_true rfl), (Nat.le_of_ble_eq_true rfl)⟩) rfl hl.1 rfl (Nat.le_of_ble_eq_true rfl) dL_law_2063 ⟨by omega, by omega⟩ (fun H locs hW => ?_)
  refine lv_istore (lv' := [(6, .int r1), (5, .int k1), (0, .ref b), (1, .ref (G.2.2.1 0)), (2, .ref (ad 0)), (3, .ref (G.2.2.1 229)), (4, .int (nI (7 * j)))]) hx hb dL_law_2066 hl (by decide) rfl (fun ls hl => ?_)
  refine lv_aload_n hx hb dL_law_2068 rfl (lv_at hl 4 rfl) ?_
  refine l_cM hC hK hW (As := []) (rest := []) (c_X10_thrown l (l_GM G ad) h3) (cwV 0 hts tg_X10_thrown rfl rfl rfl (by decide +kernel) ⟨(Nat.le_of_ble_eq_true rfl), (Nat.le_of_ble_eq_true rfl)⟩) rfl hl.1 rfl (Nat.le_of_ble_eq_true rfl) dL_law_2069 ⟨by omega, by omega⟩ (fun H locs hW => ?_)
  refine lv_iload hx hb dL_law_2072 (lv_at hl 1 rfl) ?_
  refine lv_icmp_eq (tgt := 2079) hx hb dL_law_2074 (by decide) (fun _ => ?_) (fun c9 => absurd rfl c9)
  refine lv_iload hx hb dL_law_2079 (lv_at hl 1 rfl) ?_
  refine lv_if_ne (tgt := 2096) hx hb dL_law_2081 (by decide) (fun c9 => ?_) (fun c9 => ?_)
  · refine lv_goto (tgt := 2367) hx hb dL_law_2096 (by decide) ?_
    refine W.widen (k := cells + 8) (n := slots + 48) (by omega) (by omega) ?_
    exact kN _ _ H locs ls hR hW (lv_sub hl [2, 3, 4, 5, 6] rfl)
  · refine lv_aload_n hx hb dL_law_2084 rfl (lv_at hl 5 rfl) ?_
    refine lv_iconst (v := 0) hx hb dL_law_2085 (by decide) ?_
    refine l_lld hC hK hW dL_law_2086 ?_
    refine lv_iload hx hb dL_law_2087 (lv_at hl 0 rfl) ?_
    refine lv_i2l (v := (r1).toInt64) hx hb dL_law_2089 rfl ?_
    refine W.lcmp hx hb dL_law_2090 ?_
    refine lv_if_eq (tgt := 2096) hx hb dL_law_2091 (by decide) (fun _ => ?_) (fun c8 => absurd (l_cmps (h4 c9)) c8)
    refine lv_goto (tgt := 2367) hx hb dL_law_2096 (by decide) ?_
    refine W.widen (k := cells + 8) (n := slots + 48) (by omega) (by omega) ?_
    exact kN _ _ H locs ls hR hW (lv_sub hl [2, 3, 4, 5, 6] rfl)
set_option maxHeartbeats 4000000 in
set_option maxRecDepth 100000 in
theorem law_case_27 {p : Program} {l : Launch} {e : Env} {s : State} {m : MethodId} {below : List Frame} {meth : Method} {c : Code} {b L : Nat} {xs : Nat → Int32} (hL : L ≤ 3584) (C0 : lw_At p s m meth c b L xs) (hst : l.stackTraces = false) {G : gG} {ad : Nat → Nat} (hK : l_K G ad s) {Rel : gM → gM → Prop} (hop : l_op_27 Rel) {j : Nat} (hj : 7 * j + 7 ≤ L) {mc mm : gM} (hR : Rel mc mm) {H : Heap} {locs : List Loc} {ls : Array Slot} {cells slots : Nat} (hc1 : cells + 8 ≤ 601024) (hc2 : slots + 48 ≤ 7293034) (hW : l_H G ad s H locs mc mm) (hl : lv_has ls 7 [(0, .ref b), (1, .ref (G.2.2.1 0)), (2, .ref (ad 0)), (3, .ref (G.2.2.1 229)), (4, .int (nI (7 * j)))]) (kN : ∀ (mc mm : gM) (H : Heap) (locs : List Loc) (ls : Array Slot), Rel mc mm → l_H G ad s H locs mc mm → lv_has ls 7 [(0, .ref b), (1, .ref (G.2.2.1 0)), (2, .ref (ad 0)), (3, .ref (G.2.2.1 229)), (4, .int (nI (7 * j)))] → W p l e room_1 s m #[Value.ref b] below meth c H locs (cells + 8) (slots + 48) (lw_Z below #[Value.ref b] s) (F0 m 2367 ls [])) : W p l e room_1 s m #[Value.ref b] below meth c H locs cells slots (lw_Z below #[Value.ref b] s) (F0 m 2099 ls []) := by
  obtain ⟨hx, hb, hr, hml, hown, hts, hX, hbl, hlocks, hgv⟩ := id C0
  have hC : CallFix p m c cL_law 7 s #[Value.ref b] lw_tbl RL := ⟨hx, hb, hml, hown, hts⟩
  have hR1 : room_1.cells = 601024 := rfl
  have hR2 : room_1.slots = 7293034 := rfl
  obtain ⟨k1, mc2, r1, mm2, h1, h2, h3, h4, hR⟩ := hop mc mm (xs (7 * j + 1)) (xs (7 * j + 2))  hR
  refine lv_aload_n hx hb dL_law_2099 rfl (lv_at hl 1 rfl) ?_
  refine lv_aload_n hx hb dL_law_2100 rfl (lv_at hl 0 rfl) ?_
  refine lv_iload hx hb dL_law_2101 (lv_at hl 4 rfl) ?_
  refine lv_iconst (v := 1) hx hb dL_law_2103 (by decide) ?_
  refine lv_iadd hx hb dL_law_2104 ?_
  refine l_sld hC hX hbl hW (j := j) (k := 1) (by omega) hL (nI_add (7 * j) 1) dL_law_2105 ?_
  refine lv_aload_n hx hb dL_law_2106 rfl (lv_at hl 0 rfl) ?_
  refine lv_iload hx hb dL_law_2107 (lv_at hl 4 rfl) ?_
  refine lv_iconst (v := 2) hx hb dL_law_2109 (by decide) ?_
  refine lv_iadd hx hb dL_law_2110 ?_
  refine l_sld hC hX hbl hW (j := j) (k := 2) (by omega) hL (nI_add (7 * j) 2) dL_law_2111 ?_
  refine lv_aload_n hx hb dL_law_2112 rfl (lv_at hl 3 rfl) ?_
  refine l_cC hC hK hW (As := [.ref (G.2.2.1 0), .int (xs (7 * j + 1)), .int (xs (7 * j + 2)), .ref (G.2.2.1 229)]) (rest := []) (c_L_bill l G hst h1) (vx_cwSW 4 hts tg_L_bill rfl rfl rfl (by decide +kernel) ⟨(Nat.le_of_ble_eq_true rfl), (Nat.le_of_ble_eq_true rfl)⟩) rfl hl.1 rfl (Nat.le_of_ble_eq_true rfl) dL_law_2113 ⟨by omega, by omega⟩ (fun H locs hW => ?_)
  refine lv_istore (lv' := [(5, .int k1), (0, .ref b), (1, .ref (G.2.2.1 0)), (2, .ref (ad 0)), (3, .ref (G.2.2.1 229)), (4, .int (nI (7 * j)))]) hx hb dL_law_2116 hl (by decide) rfl (fun ls hl => ?_)
  refine lv_aload_n hx hb dL_law_2118 rfl (lv_at hl 3 rfl) ?_
  refine lv_aload_n hx hb dL_law_2119 rfl (lv_at hl 1 rfl) ?_
  refine lv_iload hx hb dL_law_2120 (lv_at hl 5 rfl) ?_
  refine lv_iconst (v := 1) hx hb dL_law_2122 (by decide) ?_
  refine lv_iadd hx hb dL_law_2123 ?_
  refine l_sld hC hX hbl hW (j := j) (k := 1) (by omega) hL (nI_add (7 * j) 1) dL_law_2124 ?_
  refine lv_aload_n hx hb dL_law_2125 rfl (lv_at hl 1 rfl) ?_
  refine lv_iload hx hb dL_law_2126 (lv_at hl 5 rfl) ?_
  refine lv_iconst (v := 2) hx hb dL_law_2128 (by decide) ?_
  refine lv_iadd hx hb dL_law_2129 ?_
  refine l_sld hC hX hbl hW (j := j) (k := 2) (by omega) hL (nI_add (7 * j) 2) dL_law_2130 ?_
  refine l_cM hC hK hW (As := [.int (xs (7 * j + 1)), .int (xs (7 * j + 2))]) (rest := []) (c_X10_bill l (l_GM G ad) h2) (cwV 2 hts tg_X10_bill rfl rfl rfl (by decide +kernel) ⟨(Nat.le_of_ble_eq_true rfl), (Nat.le_of_ble_eq_true rfl)⟩) rfl hl.1 rfl (Nat.le_of_ble_eq_true rfl) dL_law_2131 ⟨by omega, by omega⟩ (fun H locs hW => ?_)
  refine lv_istore (lv' := [(6, .int r1), (5, .int k1), (0, .ref b), (1, .ref (G.2.2.1 0)), (2, .ref (ad 0)), (3, .ref (G.2.2.1 229)), (4, .int (nI (7 * j)))]) hx hb dL_law_2134 hl (by decide) rfl (fun ls hl => ?_)
  refine lv_aload_n hx hb dL_law_2136 rfl (lv_at hl 4 rfl) ?_
  refine l_cM hC hK hW (As := []) (rest := []) (c_X10_thrown l (l_GM G ad) h3) (cwV 0 hts tg_X10_thrown rfl rfl rfl (by decide +kernel) ⟨(Nat.le_of_ble_eq_true rfl), (Nat.le_of_ble_eq_true rfl)⟩) rfl hl.1 rfl (Nat.le_of_ble_eq_true rfl) dL_law_2137 ⟨by omega, by omega⟩ (fun H locs hW => ?_)
  refine lv_iload hx hb dL_law_2140 (lv_at hl 1 rfl) ?_
  refine lv_icmp_eq (tgt := 2147) hx hb dL_law_2142 (by decide) (fun _ => ?_) (fun c9 => absurd rfl c9)
  refine lv_iload hx hb dL_law_2147 (lv_at hl 1 rfl) ?_
  refine lv_if_ne (tgt := 2164) hx hb dL_law_2149 (by decide) (fun c9 => ?_) (fun c9 => ?_)
  · refine lv_goto (tgt := 2367) hx hb dL_law_2164 (by decide) ?_
    refine W.widen (k := cells + 8) (n := slots + 48) (by omega) (by omega) ?_
    exact kN _ _ H locs ls hR hW (lv_sub hl [2, 3, 4, 5, 6] rfl)
  · refine lv_aload_n hx hb dL_law_2152 rfl (lv_at hl 5 rfl) ?_
    refine lv_iconst (v := 0) hx hb dL_law_2153 (by decide) ?_
    refine l_lld hC hK hW dL_law_2154 ?_
    refine lv_iload hx hb dL_law_2155 (lv_at hl 0 rfl) ?_
    refine lv_i2l (v := (r1).toInt64) hx hb dL_law_2157 rfl ?_
    refine W.lcmp hx hb dL_law_2158 ?_
    refine lv_if_eq (tgt := 2164) hx hb dL_law_2159 (by decide) (fun _ => ?_) (fun c8 => absurd (l_cmps (h4 c9)) c8)
    refine lv_goto (tgt := 2367) hx hb dL_law_2164 (by decide) ?_
    refine W.widen (k := cells + 8) (n := slots + 48) (by omega) (by omega) ?_
    exact kN _ _ H locs ls hR hW (lv_sub hl [2, 3, 4, 5, 6] rfl)
set_option maxHeartbeats 4000000 in
set_option maxRecDepth 100000 in
theorem law_case_28 {p : Program} {l : Launch} {e : Env} {s : State} {m : MethodId} {below : List Frame} {meth : Method} {c : Code} {b L : Nat} {xs : Nat → Int32} (hL : L ≤ 3584) (C0 : lw_At p s m meth c b L xs) (hst : l.stackTraces = false) {G : gG} {ad : Nat → Nat} (hK : l_K G ad s) {Rel : gM → gM → Prop} (hop : l_op_28 Rel) {j : Nat} (hj : 7 * j + 7 ≤ L) {mc mm : gM} (hR : Rel mc mm) {H : Heap} {locs : List Loc} {ls : Array Slot} {cells slots : Nat} (hc1 : cells + 8 ≤ 601024) (hc2 : slots + 48 ≤ 7293034) (hW : l_H G ad s H locs mc mm) (hl : lv_has ls 7 [(0, .ref b), (1, .ref (G.2.2.1 0)), (2, .ref (ad 0)), (3, .ref (G.2.2.1 229)), (4, .int (nI (7 * j)))]) (kN : ∀ (mc mm : gM) (H : Heap) (locs : List Loc) (ls : Array Slot), Rel mc mm → l_H G ad s H locs mc mm → lv_has ls 7 [(0, .ref b), (1, .ref (G.2.2.1 0)), (2, .ref (ad 0)), (3, .ref (G.2.2.1 229)), (4, .int (nI (7 * j)))] → W p l e room_1 s m #[Value.ref b] below meth c H locs (cells + 8) (slots + 48) (lw_Z below #[Value.ref b] s) (F0 m 2367 ls [])) : W p l e room_1 s m #[Value.ref b] below meth c H locs cells slots (lw_Z below #[Value.ref b] s) (F0 m 2167 ls []) := by
  obtain ⟨hx, hb, hr, hml, hown, hts, hX, hbl, hlocks, hgv⟩ := id C0
  have hC : CallFix p m c cL_law 7 s #[Value.ref b] lw_tbl RL := ⟨hx, hb, hml, hown, hts⟩
  have hR1 : room_1.cells = 601024 := rfl
  have hR2 : room_1.slots = 7293034 := rfl
  obtain ⟨k1, mc2, r1, mm2, h1, h2, h3, h4, hR⟩ := hop mc mm (xs (7 * j + 1)) (xs (7 * j + 2))  hR
  refine lv_aload_n hx hb dL_law_2167 rfl (lv_at hl 1 rfl) ?_
  refine lv_aload_n hx hb dL_law_2168 rfl (lv_at hl 0 rfl) ?_
  refine lv_iload hx hb dL_law_2169 (lv_at hl 4 rfl) ?_
  refine lv_iconst (v := 1) hx hb dL_law_2171 (by decide) ?_
  refine lv_iadd hx hb dL_law_2172 ?_
  refine l_sld hC hX hbl hW (j := j) (k := 1) (by omega) hL (nI_add (7 * j) 1) dL_law_2173 ?_
  refine lv_aload_n hx hb dL_law_2174 rfl (lv_at hl 0 rfl) ?_
  refine lv_iload hx hb dL_law_2175 (lv_at hl 4 rfl) ?_
  refine lv_iconst (v := 2) hx hb dL_law_2177 (by decide) ?_
  refine lv_iadd hx hb dL_law_2178 ?_
  refine l_sld hC hX hbl hW (j := j) (k := 2) (by omega) hL (nI_add (7 * j) 2) dL_law_2179 ?_
  refine lv_aload_n hx hb dL_law_2180 rfl (lv_at hl 3 rfl) ?_
  refine l_cC hC hK hW (As := [.ref (G.2.2.1 0), .int (xs (7 * j + 1)), .int (xs (7 * j + 2)), .ref (G.2.2.1 229)]) (rest := []) (c_L_settled l G hst h1) (vx_cwSW 4 hts tg_L_settled rfl rfl rfl (by decide +kernel) ⟨(Nat.le_of_ble_eq_true rfl), (Nat.le_of_ble_eq_true rfl)⟩) rfl hl.1 rfl (Nat.le_of_ble_eq_true rfl) dL_law_2181 ⟨by omega, by omega⟩ (fun H locs hW => ?_)
  refine lv_istore (lv' := [(5, .int k1), (0, .ref b), (1, .ref (G.2.2.1 0)), (2, .ref (ad 0)), (3, .ref (G.2.2.1 229)), (4, .int (nI (7 * j)))]) hx hb dL_law_2184 hl (by decide) rfl (fun ls hl => ?_)
  refine lv_aload_n hx hb dL_law_2186 rfl (lv_at hl 3 rfl) ?_
  refine lv_aload_n hx hb dL_law_2187 rfl (lv_at hl 1 rfl) ?_
  refine lv_iload hx hb dL_law_2188 (lv_at hl 5 rfl) ?_
  refine lv_iconst (v := 1) hx hb dL_law_2190 (by decide) ?_
  refine lv_iadd hx hb dL_law_2191 ?_
  refine l_sld hC hX hbl hW (j := j) (k := 1) (by omega) hL (nI_add (7 * j) 1) dL_law_2192 ?_
  refine lv_aload_n hx hb dL_law_2193 rfl (lv_at hl 1 rfl) ?_
  refine lv_iload hx hb dL_law_2194 (lv_at hl 5 rfl) ?_
  refine lv_iconst (v := 2) hx hb dL_law_2196 (by decide) ?_
  refine lv_iadd hx hb dL_law_2197 ?_
  refine l_sld hC hX hbl hW (j := j) (k := 2) (by omega) hL (nI_add (7 * j) 2) dL_law_2198 ?_
  refine l_cM hC hK hW (As := [.int (xs (7 * j + 1)), .int (xs (7 * j + 2))]) (rest := []) (c_X10_settled l (l_GM G ad) h2) (cwV 2 hts tg_X10_settled rfl rfl rfl (by decide +kernel) ⟨(Nat.le_of_ble_eq_true rfl), (Nat.le_of_ble_eq_true rfl)⟩) rfl hl.1 rfl (Nat.le_of_ble_eq_true rfl) dL_law_2199 ⟨by omega, by omega⟩ (fun H locs hW => ?_)
  refine lv_istore (lv' := [(6, .int r1), (5, .int k1), (0, .ref b), (1, .ref (G.2.2.1 0)), (2, .ref (ad 0)), (3, .ref (G.2.2.1 229)), (4, .int (nI (7 * j)))]) hx hb dL_law_2202 hl (by decide) rfl (fun ls hl => ?_)
  refine lv_aload_n hx hb dL_law_2204 rfl (lv_at hl 4 rfl) ?_
  refine l_cM hC hK hW (As := []) (rest := []) (c_X10_thrown l (l_GM G ad) h3) (cwV 0 hts tg_X10_thrown rfl rfl rfl (by decide +kernel) ⟨(Nat.le_of_ble_eq_true rfl), (Nat.le_of_ble_eq_true rfl)⟩) rfl hl.1 rfl (Nat.le_of_ble_eq_true rfl) dL_law_2205 ⟨by omega, by omega⟩ (fun H locs hW => ?_)
  refine lv_iload hx hb dL_law_2208 (lv_at hl 1 rfl) ?_
  refine lv_icmp_eq (tgt := 2215) hx hb dL_law_2210 (by decide) (fun _ => ?_) (fun c9 => absurd rfl c9)
  refine lv_iload hx hb dL_law_2215 (lv_at hl 1 rfl) ?_
  refine lv_if_ne (tgt := 2232) hx hb dL_law_2217 (by decide) (fun c9 => ?_) (fun c9 => ?_)
  · refine lv_goto (tgt := 2367) hx hb dL_law_2232 (by decide) ?_
    refine W.widen (k := cells + 8) (n := slots + 48) (by omega) (by omega) ?_
    exact kN _ _ H locs ls hR hW (lv_sub hl [2, 3, 4, 5, 6] rfl)
  · refine lv_aload_n hx hb dL_law_2220 rfl (lv_at hl 5 rfl) ?_
    refine lv_iconst (v := 0) hx hb dL_law_2221 (by decide) ?_
    refine l_lld hC hK hW dL_law_2222 ?_
    refine lv_iload hx hb dL_law_2223 (lv_at hl 0 rfl) ?_
    refine lv_i2l (v := (r1).toInt64) hx hb dL_law_2225 rfl ?_
    refine W.lcmp hx hb dL_law_2226 ?_
    refine lv_if_eq (tgt := 2232) hx hb dL_law_2227 (by decide) (fun _ => ?_) (fun c8 => absurd (l_cmps (h4 c9)) c8)
    refine lv_goto (tgt := 2367) hx hb dL_law_2232 (by decide) ?_
    refine W.widen (k := cells + 8) (n := slots + 48) (by omega) (by omega) ?_
    exact kN _ _ H locs ls hR hW (lv_sub hl [2, 3, 4, 5, 6] rfl)
set_option maxHeartbeats 4000000 in
set_option maxRecDepth 100000 in
theorem law_case_29 {p : Program} {l : Launch} {e : Env} {s : State} {m : MethodId} {below : List Frame} {meth : Method} {c : Code} {b L : Nat} {xs : Nat → Int32} (hL : L ≤ 3584) (C0 : lw_At p s m meth c b L xs) (hst : l.stackTraces = false) {G : gG} {ad : Nat → Nat} (hK : l_K G ad s) {Rel : gM → gM → Prop} (hop : l_op_29 Rel) {j : Nat} (hj : 7 * j + 7 ≤ L) {mc mm : gM} (hR : Rel mc mm) {H : Heap} {locs : List Loc} {ls : Array Slot} {cells slots : Nat} (hc1 : cells + 8 ≤ 601024) (hc2 : slots + 48 ≤ 7293034) (hW : l_H G ad s H locs mc mm) (hl : lv_has ls 7 [(0, .ref b), (1, .ref (G.2.2.1 0)), (2, .ref (ad 0)), (3, .ref (G.2.2.1 229)), (4, .int (nI (7 * j)))]) (kN : ∀ (mc mm : gM) (H : Heap) (locs : List Loc) (ls : Array Slot), Rel mc mm → l_H G ad s H locs mc mm → lv_has ls 7 [(0, .ref b), (1, .ref (G.2.2.1 0)), (2, .ref (ad 0)), (3, .ref (G.2.2.1 229)), (4, .int (nI (7 * j)))] → W p l e room_1 s m #[Value.ref b] below meth c H locs (cells + 8) (slots + 48) (lw_Z below #[Value.ref b] s) (F0 m 2367 ls [])) : W p l e room_1 s m #[Value.ref b] below meth c H locs cells slots (lw_Z below #[Value.ref b] s) (F0 m 2235 ls []) := by
  obtain ⟨hx, hb, hr, hml, hown, hts, hX, hbl, hlocks, hgv⟩ := id C0
  have hC : CallFix p m c cL_law 7 s #[Value.ref b] lw_tbl RL := ⟨hx, hb, hml, hown, hts⟩
  have hR1 : room_1.cells = 601024 := rfl
  have hR2 : room_1.slots = 7293034 := rfl
  obtain ⟨k1, mc2, r1, mm2, h1, h2, h3, h4, hR⟩ := hop mc mm (xs (7 * j + 1))  hR
  refine lv_aload_n hx hb dL_law_2235 rfl (lv_at hl 1 rfl) ?_
  refine lv_aload_n hx hb dL_law_2236 rfl (lv_at hl 0 rfl) ?_
  refine lv_iload hx hb dL_law_2237 (lv_at hl 4 rfl) ?_
  refine lv_iconst (v := 1) hx hb dL_law_2239 (by decide) ?_
  refine lv_iadd hx hb dL_law_2240 ?_
  refine l_sld hC hX hbl hW (j := j) (k := 1) (by omega) hL (nI_add (7 * j) 1) dL_law_2241 ?_
  refine lv_aload_n hx hb dL_law_2242 rfl (lv_at hl 3 rfl) ?_
  refine l_cC hC hK hW (As := [.ref (G.2.2.1 0), .int (xs (7 * j + 1)), .ref (G.2.2.1 229)]) (rest := []) (c_L_account l G hst h1) (vx_cwSW 3 hts tg_L_account rfl rfl rfl (by decide +kernel) ⟨(Nat.le_of_ble_eq_true rfl), (Nat.le_of_ble_eq_true rfl)⟩) rfl hl.1 rfl (Nat.le_of_ble_eq_true rfl) dL_law_2243 ⟨by omega, by omega⟩ (fun H locs hW => ?_)
  refine lv_istore (lv' := [(5, .int k1), (0, .ref b), (1, .ref (G.2.2.1 0)), (2, .ref (ad 0)), (3, .ref (G.2.2.1 229)), (4, .int (nI (7 * j)))]) hx hb dL_law_2246 hl (by decide) rfl (fun ls hl => ?_)
  refine lv_aload_n hx hb dL_law_2248 rfl (lv_at hl 3 rfl) ?_
  refine lv_aload_n hx hb dL_law_2249 rfl (lv_at hl 1 rfl) ?_
  refine lv_iload hx hb dL_law_2250 (lv_at hl 5 rfl) ?_
  refine lv_iconst (v := 1) hx hb dL_law_2252 (by decide) ?_
  refine lv_iadd hx hb dL_law_2253 ?_
  refine l_sld hC hX hbl hW (j := j) (k := 1) (by omega) hL (nI_add (7 * j) 1) dL_law_2254 ?_
  refine l_cM hC hK hW (As := [.int (xs (7 * j + 1))]) (rest := []) (c_X10_account l (l_GM G ad) h2) (cwV 1 hts tg_X10_account rfl rfl rfl (by decide +kernel) ⟨(Nat.le_of_ble_eq_true rfl), (Nat.le_of_ble_eq_true rfl)⟩) rfl hl.1 rfl (Nat.le_of_ble_eq_true rfl) dL_law_2255 ⟨by omega, by omega⟩ (fun H locs hW => ?_)
  refine lv_istore (lv' := [(6, .int r1), (5, .int k1), (0, .ref b), (1, .ref (G.2.2.1 0)), (2, .ref (ad 0)), (3, .ref (G.2.2.1 229)), (4, .int (nI (7 * j)))]) hx hb dL_law_2258 hl (by decide) rfl (fun ls hl => ?_)
  refine lv_aload_n hx hb dL_law_2260 rfl (lv_at hl 4 rfl) ?_
  refine l_cM hC hK hW (As := []) (rest := []) (c_X10_thrown l (l_GM G ad) h3) (cwV 0 hts tg_X10_thrown rfl rfl rfl (by decide +kernel) ⟨(Nat.le_of_ble_eq_true rfl), (Nat.le_of_ble_eq_true rfl)⟩) rfl hl.1 rfl (Nat.le_of_ble_eq_true rfl) dL_law_2261 ⟨by omega, by omega⟩ (fun H locs hW => ?_)
  refine lv_iload hx hb dL_law_2264 (lv_at hl 1 rfl) ?_
  refine lv_icmp_eq (tgt := 2271) hx hb dL_law_2266 (by decide) (fun _ => ?_) (fun c9 => absurd rfl c9)
  refine lv_iload hx hb dL_law_2271 (lv_at hl 1 rfl) ?_
  refine lv_if_ne (tgt := 2288) hx hb dL_law_2273 (by decide) (fun c9 => ?_) (fun c9 => ?_)
  · refine lv_goto (tgt := 2367) hx hb dL_law_2288 (by decide) ?_
    refine W.widen (k := cells + 8) (n := slots + 48) (by omega) (by omega) ?_
    exact kN _ _ H locs ls hR hW (lv_sub hl [2, 3, 4, 5, 6] rfl)
  · refine lv_aload_n hx hb dL_law_2276 rfl (lv_at hl 5 rfl) ?_
    refine lv_iconst (v := 0) hx hb dL_law_2277 (by decide) ?_
    refine l_lld hC hK hW dL_law_2278 ?_
    refine lv_iload hx hb dL_law_2279 (lv_at hl 0 rfl) ?_
    refine lv_i2l (v := (r1).toInt64) hx hb dL_law_2281 rfl ?_
    refine W.lcmp hx hb dL_law_2282 ?_
    refine lv_if_eq (tgt := 2288) hx hb dL_law_2283 (by decide) (fun _ => ?_) (fun c8 => absurd (l_cmps (h4 c9)) c8)
    refine lv_goto (tgt := 2367) hx hb dL_law_2288 (by decide) ?_
    refine W.widen (k := cells + 8) (n := slots + 48) (by omega) (by omega) ?_
    exact kN _ _ H locs ls hR hW (lv_sub hl [2, 3, 4, 5, 6] rfl)
set_option maxHeartbeats 4000000 in
set_option maxRecDepth 100000 in
theorem law_case_30 {p : Program} {l : Launch} {e : Env} {s : State} {m : MethodId} {below : List Frame} {meth : Method} {c : Code} {b L : Nat} {xs : Nat → Int32} (hL : L ≤ 3584) (C0 : lw_At p s m meth c b L xs) (hst : l.stackTraces = false) {G : gG} {ad : Nat → Nat} (hK : l_K G ad s) {Rel : gM → gM → Prop} (hop : l_op_30 Rel) {j : Nat} (hj : 7 * j + 7 ≤ L) {mc mm : gM} (hR : Rel mc mm) {H : Heap} {locs : List Loc} {ls : Array Slot} {cells slots : Nat} (hc1 : cells + 8 ≤ 601024) (hc2 : slots + 48 ≤ 7293034) (hW : l_H G ad s H locs mc mm) (hl : lv_has ls 7 [(0, .ref b), (1, .ref (G.2.2.1 0)), (2, .ref (ad 0)), (3, .ref (G.2.2.1 229)), (4, .int (nI (7 * j)))]) (kN : ∀ (mc mm : gM) (H : Heap) (locs : List Loc) (ls : Array Slot), Rel mc mm → l_H G ad s H locs mc mm → lv_has ls 7 [(0, .ref b), (1, .ref (G.2.2.1 0)), (2, .ref (ad 0)), (3, .ref (G.2.2.1 229)), (4, .int (nI (7 * j)))] → W p l e room_1 s m #[Value.ref b] below meth c H locs (cells + 8) (slots + 48) (lw_Z below #[Value.ref b] s) (F0 m 2367 ls [])) : W p l e room_1 s m #[Value.ref b] below meth c H locs cells slots (lw_Z below #[Value.ref b] s) (F0 m 2291 ls []) := by
  obtain ⟨hx, hb, hr, hml, hown, hts, hX, hbl, hlocks, hgv⟩ := id C0
  have hC : CallFix p m c cL_law 7 s #[Value.ref b] lw_tbl RL := ⟨hx, hb, hml, hown, hts⟩
  have hR1 : room_1.cells = 601024 := rfl
  have hR2 : room_1.slots = 7293034 := rfl
  obtain ⟨k1, mc2, r1, mm2, h1, h2, h3, h4, hR⟩ := hop mc mm (xs (7 * j + 1))  hR
  refine lv_aload_n hx hb dL_law_2291 rfl (lv_at hl 1 rfl) ?_
  refine lv_aload_n hx hb dL_law_2292 rfl (lv_at hl 0 rfl) ?_
  refine lv_iload hx hb dL_law_2293 (lv_at hl 4 rfl) ?_
  refine lv_iconst (v := 1) hx hb dL_law_2295 (by decide) ?_
  refine lv_iadd hx hb dL_law_2296 ?_
  refine l_sld hC hX hbl hW (j := j) (k := 1) (by omega) hL (nI_add (7 * j) 1) dL_law_2297 ?_
  refine lv_aload_n hx hb dL_law_2298 rfl (lv_at hl 3 rfl) ?_
  refine l_cC hC hK hW (As := [.ref (G.2.2.1 0), .int (xs (7 * j + 1)), .ref (G.2.2.1 229)]) (rest := []) (c_L_hasFailed l G hst h1) (vx_cwSW 3 hts tg_L_hasFailed rfl rfl rfl (by decide +kernel) ⟨(Nat.le_of_ble_eq_true rfl), (Nat.le_of_ble_eq_true rfl)⟩) rfl hl.1 rfl (Nat.le_of_ble_eq_true rfl) dL_law_2299 ⟨by omega, by omega⟩ (fun H locs hW => ?_)
  refine lv_istore (lv' := [(5, .int k1), (0, .ref b), (1, .ref (G.2.2.1 0)), (2, .ref (ad 0)), (3, .ref (G.2.2.1 229)), (4, .int (nI (7 * j)))]) hx hb dL_law_2302 hl (by decide) rfl (fun ls hl => ?_)
  refine lv_aload_n hx hb dL_law_2304 rfl (lv_at hl 3 rfl) ?_
  refine lv_aload_n hx hb dL_law_2305 rfl (lv_at hl 1 rfl) ?_
  refine lv_iload hx hb dL_law_2306 (lv_at hl 5 rfl) ?_
  refine lv_iconst (v := 1) hx hb dL_law_2308 (by decide) ?_
  refine lv_iadd hx hb dL_law_2309 ?_
  refine l_sld hC hX hbl hW (j := j) (k := 1) (by omega) hL (nI_add (7 * j) 1) dL_law_2310 ?_
  refine l_cM hC hK hW (As := [.int (xs (7 * j + 1))]) (rest := []) (c_X10_hasFailed l (l_GM G ad) h2) (cwV 1 hts tg_X10_hasFailed rfl rfl rfl (by decide +kernel) ⟨(Nat.le_of_ble_eq_true rfl), (Nat.le_of_ble_eq_true rfl)⟩) rfl hl.1 rfl (Nat.le_of_ble_eq_true rfl) dL_law_2311 ⟨by omega, by omega⟩ (fun H locs hW => ?_)
  refine lv_istore (lv' := [(6, .int r1), (5, .int k1), (0, .ref b), (1, .ref (G.2.2.1 0)), (2, .ref (ad 0)), (3, .ref (G.2.2.1 229)), (4, .int (nI (7 * j)))]) hx hb dL_law_2314 hl (by decide) rfl (fun ls hl => ?_)
  refine lv_aload_n hx hb dL_law_2316 rfl (lv_at hl 4 rfl) ?_
  refine l_cM hC hK hW (As := []) (rest := []) (c_X10_thrown l (l_GM G ad) h3) (cwV 0 hts tg_X10_thrown rfl rfl rfl (by decide +kernel) ⟨(Nat.le_of_ble_eq_true rfl), (Nat.le_of_ble_eq_true rfl)⟩) rfl hl.1 rfl (Nat.le_of_ble_eq_true rfl) dL_law_2317 ⟨by omega, by omega⟩ (fun H locs hW => ?_)
  refine lv_iload hx hb dL_law_2320 (lv_at hl 1 rfl) ?_
  refine lv_icmp_eq (tgt := 2327) hx hb dL_law_2322 (by decide) (fun _ => ?_) (fun c9 => absurd rfl c9)
  refine lv_iload hx hb dL_law_2327 (lv_at hl 1 rfl) ?_
  refine lv_if_ne (tgt := 2351) hx hb dL_law_2329 (by decide) (fun c9 => ?_) (fun c9 => ?_)
  · refine lv_goto (tgt := 2367) hx hb dL_law_2351 (by decide) ?_
    refine W.widen (k := cells + 8) (n := slots + 48) (by omega) (by omega) ?_
    exact kN _ _ H locs ls hR hW (lv_sub hl [2, 3, 4, 5, 6] rfl)
  · refine lv_aload_n hx hb dL_law_2332 rfl (lv_at hl 5 rfl) ?_
    refine lv_iconst (v := 0) hx hb dL_law_2333 (by decide) ?_
    refine l_lld hC hK hW dL_law_2334 ?_
    refine lv_iload hx hb dL_law_2335 (lv_at hl 0 rfl) ?_
    refine lv_if_eq (tgt := 2344) hx hb dL_law_2337 (by decide) (fun c7 => ?_) (fun c7 => ?_)
    · refine lv_lconst (v := 0) hx hb dL_law_2344 (by decide) ?_
      refine W.lcmp hx hb dL_law_2345 ?_
      refine lv_if_eq (tgt := 2351) hx hb dL_law_2346 (by decide) (fun _ => ?_) (fun c8 => absurd (l_cmpb0 (h4 c9).1 (h4 c9).2 c7) c8)
      refine lv_goto (tgt := 2367) hx hb dL_law_2351 (by decide) ?_
      refine W.widen (k := cells + 8) (n := slots + 48) (by omega) (by omega) ?_
      exact kN _ _ H locs ls hR hW (lv_sub hl [2, 3, 4, 5, 6] rfl)
    · refine lv_lconst (v := 1) hx hb dL_law_2340 (by decide) ?_
      refine lv_goto (tgt := 2345) hx hb dL_law_2341 (by decide) ?_
      refine W.lcmp hx hb dL_law_2345 ?_
      refine lv_if_eq (tgt := 2351) hx hb dL_law_2346 (by decide) (fun _ => ?_) (fun c8 => absurd (l_cmpb1 (h4 c9).1 (h4 c9).2 c7) c8)
      refine lv_goto (tgt := 2367) hx hb dL_law_2351 (by decide) ?_
      refine W.widen (k := cells + 8) (n := slots + 48) (by omega) (by omega) ?_
      exact kN _ _ H locs ls hR hW (lv_sub hl [2, 3, 4, 5, 6] rfl)
set_option maxHeartbeats 4000000 in
set_option maxRecDepth 100000 in
theorem law_case_31 {p : Program} {l : Launch} {e : Env} {s : State} {m : MethodId} {below : List Frame} {meth : Method} {c : Code} {b L : Nat} {xs : Nat → Int32} (hL : L ≤ 3584) (C0 : lw_At p s m meth c b L xs) (hst : l.stackTraces = false) {G : gG} {ad : Nat → Nat} (hK : l_K G ad s) {Rel : gM → gM → Prop} (hop : l_op_31 Rel) {j : Nat} (hj : 7 * j + 7 ≤ L) {mc mm : gM} (hR : Rel mc mm) {H : Heap} {locs : List Loc} {ls : Array Slot} {cells slots : Nat} (hc1 : cells + 8 ≤ 601024) (hc2 : slots + 48 ≤ 7293034) (hW : l_H G ad s H locs mc mm) (hl : lv_has ls 7 [(0, .ref b), (1, .ref (G.2.2.1 0)), (2, .ref (ad 0)), (3, .ref (G.2.2.1 229)), (4, .int (nI (7 * j)))]) (kN : ∀ (mc mm : gM) (H : Heap) (locs : List Loc) (ls : Array Slot), Rel mc mm → l_H G ad s H locs mc mm → lv_has ls 7 [(0, .ref b), (1, .ref (G.2.2.1 0)), (2, .ref (ad 0)), (3, .ref (G.2.2.1 229)), (4, .int (nI (7 * j)))] → W p l e room_1 s m #[Value.ref b] below meth c H locs (cells + 8) (slots + 48) (lw_Z below #[Value.ref b] s) (F0 m 2367 ls [])) : W p l e room_1 s m #[Value.ref b] below meth c H locs cells slots (lw_Z below #[Value.ref b] s) (F0 m 2354 ls []) := by
  obtain ⟨hx, hb, hr, hml, hown, hts, hX, hbl, hlocks, hgv⟩ := id C0
  have hC : CallFix p m c cL_law 7 s #[Value.ref b] lw_tbl RL := ⟨hx, hb, hml, hown, hts⟩
  have hR1 : room_1.cells = 601024 := rfl
  have hR2 : room_1.slots = 7293034 := rfl
  obtain ⟨r1, mm2, h1, h2, hR⟩ := hop mc mm hR
  refine lv_aload_n hx hb dL_law_2354 rfl (lv_at hl 1 rfl) ?_
  refine l_cX hC hK hW (As := []) (rest := []) (c_X9_house l G h1) (cwV 0 hts tg_X9_house rfl rfl rfl (by decide +kernel) ⟨(Nat.le_of_ble_eq_true rfl), (Nat.le_of_ble_eq_true rfl)⟩) rfl hl.1 rfl (Nat.le_of_ble_eq_true rfl) dL_law_2355 ⟨by omega, by omega⟩ (fun H locs hW => ?_)
  refine lv_aload_n hx hb dL_law_2358 rfl (lv_at hl 2 rfl) ?_
  refine l_cM hC hK hW (As := []) (rest := [.int r1]) (c_X10_house l (l_GM G ad) h2) (cwV 0 hts tg_X10_house rfl rfl rfl (by decide +kernel) ⟨(Nat.le_of_ble_eq_true rfl), (Nat.le_of_ble_eq_true rfl)⟩) rfl hl.1 rfl (Nat.le_of_ble_eq_true rfl) dL_law_2359 ⟨by omega, by omega⟩ (fun H locs hW => ?_)
  refine lv_icmp_eq (tgt := 2367) hx hb dL_law_2362 (by decide) (fun _ => ?_) (fun c9 => absurd rfl c9)
  refine W.widen (k := cells + 8) (n := slots + 48) (by omega) (by omega) ?_
  exact kN _ _ H locs ls hR hW (lv_sub hl [0, 1, 2, 3, 4] rfl)
