set_option maxHeartbeats 8000000 in
set_option maxRecDepth 100000 in
theorem law_B1341 {p : Program} {l : Launch} {e : Env} {s : State} {m : MethodId} {below : List Frame} {meth : Method} {c : Code} {b : Nat} {Q : State → Prop} (hC : CallFix p m c cL_law 23 s #[Value.ref b] lw_tbl RL) (hst : l.stackTraces = false) {G : gG} (hK : l_K G s) {kc ks kc2 ks2 : Nat} (hk1 : kc ≤ kc2) (hs1 : ks ≤ ks2) (hk2 : kc2 ≤ 600074) (hs2 : ks2 ≤ 7301550) {x2 x3 x4 x5 x6 x7 x8 x9 x10 x11 : Int32} {me mf : gM} {y2 y3 y4 y5 y6 y7 y8 y9 : Int32} (hf : f_L_law_B1341 x2 x3 x4 x5 x6 x7 x8 x9 me = some (y2, y3, y4, y5, y6, y7, y8, y9, mf)) {H : Heap} {locs : List Loc} {ls : Array Slot} (hW : l_H G s H locs me) (hl : lv_has ls 23 [(0, .ref b), (1, .ref (G.2.2.1 0)), (2, .int x2), (3, .int x3), (4, .int x4), (5, .int x5), (6, .int x6), (7, .int x7), (8, .int x8), (9, .int x9), (10, .int x10), (11, .int x11)]) (hE : ∀ (H : Heap) (locs : List Loc) (ls : Array Slot), l_H G s H locs mf → lv_has ls 23 [(0, .ref b), (1, .ref (G.2.2.1 0)), (2, .int y2), (3, .int y3), (4, .int y4), (5, .int y5), (6, .int y6), (7, .int y7), (8, .int y8), (9, .int y9), (10, .int x10), (11, .int x11)] → W p l e room_1 s m #[Value.ref b] below meth c H locs kc2 ks2 Q (F0 m 1361 ls [])) : W p l e room_1 s m #[Value.ref b] below meth c H locs kc ks Q (F0 m 1341 ls []) := by
  have hR1 : room_1.cells = 600074 := rfl
  have hR2 : room_1.slots = 7301550 := rfl
  have hx := hC.1
  have hb := hC.2.1
  have hown := hC.2.2.2.1
  have hts := hC.2.2.2.2
  unfold f_L_law_B1341 at hf
  refine lv_iload hx hb dL_law_1341 (lv_at hl 9 rfl) ?_
  obtain ⟨z32, hg, hf⟩ := ob_inv hf
  have hJ1359 : ∀ (H : Heap) (locs : List Loc) (ls : Array Slot), l_H G s H locs me → lv_has ls 23 [(0, .ref b), (1, .ref (G.2.2.1 0)), (2, .int x2), (3, .int x3), (4, .int x4), (5, .int x5), (6, .int x6), (7, .int x7), (8, .int x8), (10, .int x10), (11, .int x11)] → W p l e room_1 s m #[Value.ref b] below meth c H locs kc ks Q (F0 m 1359 ls [.int z32]) := by
    intro H locs ls hW hl
    refine lv_istore (lv' := [(9, .int z32), (0, .ref b), (1, .ref (G.2.2.1 0)), (2, .int x2), (3, .int x3), (4, .int x4), (5, .int x5), (6, .int x6), (7, .int x7), (8, .int x8), (10, .int x10), (11, .int x11)]) hx hb dL_law_1359 hl (by decide) rfl (fun ls hl => ?_)
    cases hf
    refine W.widen (k := kc2) (n := ks2) (by omega) (by omega) ?_
    exact hE _ _ _ hW (lv_sub hl [1, 2, 3, 4, 5, 6, 7, 8, 9, 0, 10, 11] rfl)
  replace hf := hg
  refine lv_if_eq (tgt := 1358) hx hb dL_law_1343 (by decide) (fun c31 => ?_) (fun c31 => ?_)
  · have hf := a_if_t c31 hf
    refine lv_iconst (v := 0) hx hb dL_law_1358 (by decide) ?_
    cases hf
    refine W.widen (k := kc) (n := ks) (by omega) (by omega) ?_
    exact hJ1359 H locs ls hW (lv_sub hl [0, 1, 2, 3, 4, 5, 6, 7, 8, 10, 11] rfl)
  · have hf := a_if_f c31 hf
    refine lv_aload_n hx hb dL_law_1346 rfl (lv_at hl 1 rfl) ?_
    refine lv_iload_n hx hb dL_law_1347 rfl (lv_at hl 2 rfl) ?_
    obtain ⟨r33, hg, hf⟩ := ob_inv hf
    refine l_cS hC hK hW (As := [.ref (G.2.2.1 0), .int x2]) (rest := []) (c_L_money l G hg) (va_cwS 2 hts tg_L_money rfl rfl rfl (by decide +kernel) ⟨(Nat.le_of_ble_eq_true rfl), (Nat.le_of_ble_eq_true rfl)⟩) rfl hl.1 rfl (Nat.le_of_ble_eq_true rfl) dL_law_1348 ⟨by omega, by omega⟩ (fun H locs hW => ?_)
    refine lv_if_eq (tgt := 1358) hx hb dL_law_1351 (by decide) (fun c34 => ?_) (fun c34 => ?_)
    · have hf := a_if_t c34 hf
      refine lv_iconst (v := 0) hx hb dL_law_1358 (by decide) ?_
      cases hf
      refine W.widen (k := kc) (n := ks) (by omega) (by omega) ?_
      exact hJ1359 H locs ls hW (lv_sub hl [0, 1, 2, 3, 4, 5, 6, 7, 8, 10, 11] rfl)
    · have hf := a_if_f c34 hf
      refine lv_iconst (v := 1) hx hb dL_law_1354 (by decide) ?_
      refine lv_goto (tgt := 1359) hx hb dL_law_1355 (by decide) ?_
      cases hf
      refine W.widen (k := kc) (n := ks) (by omega) (by omega) ?_
      exact hJ1359 H locs ls hW (lv_sub hl [0, 1, 2, 3, 4, 5, 6, 7, 8, 10, 11] rfl)
set_option maxHeartbeats 8000000 in
set_option maxRecDepth 100000 in
theorem law_B1197 {p : Program} {l : Launch} {e : Env} {s : State} {m : MethodId} {below : List Frame} {meth : Method} {c : Code} {b : Nat} {Q : State → Prop} (hC : CallFix p m c cL_law 23 s #[Value.ref b] lw_tbl RL) (hst : l.stackTraces = false) {G : gG} (hK : l_K G s) {kc ks kc2 ks2 : Nat} (hk1 : kc + 8 ≤ kc2) (hs1 : ks + 48 ≤ ks2) (hk2 : kc2 ≤ 600074) (hs2 : ks2 ≤ 7301550) {x2 x3 x4 x5 x6 x7 x8 x9 x10 x11 x12 : Int32} {me mf : gM} {y2 y3 y4 y5 y6 y7 y8 y9 : Int32} (hf : f_L_law_B1197 x2 x3 x4 x5 x6 x7 x8 x9 x12 me = some (y2, y3, y4, y5, y6, y7, y8, y9, mf)) {H : Heap} {locs : List Loc} {ls : Array Slot} (hW : l_H G s H locs me) (hl : lv_has ls 23 [(0, .ref b), (1, .ref (G.2.2.1 0)), (2, .int x2), (3, .int x3), (4, .int x4), (5, .int x5), (6, .int x6), (7, .int x7), (8, .int x8), (9, .int x9), (10, .int x10), (11, .int x11), (12, .int x12)]) (hE : ∀ (H : Heap) (locs : List Loc) (ls : Array Slot), l_H G s H locs mf → lv_has ls 23 [(0, .ref b), (1, .ref (G.2.2.1 0)), (2, .int y2), (3, .int y3), (4, .int y4), (5, .int y5), (6, .int y6), (7, .int y7), (8, .int y8), (9, .int y9), (10, .int x10), (11, .int x11)] → W p l e room_1 s m #[Value.ref b] below meth c H locs kc2 ks2 Q (F0 m 1361 ls [])) : W p l e room_1 s m #[Value.ref b] below meth c H locs kc ks Q (F0 m 1197 ls []) := by
  have hR1 : room_1.cells = 600074 := rfl
  have hR2 : room_1.slots = 7301550 := rfl
  have hx := hC.1
  have hb := hC.2.1
  have hown := hC.2.2.2.1
  have hts := hC.2.2.2.2
  unfold f_L_law_B1197 at hf
  refine lv_aload_n hx hb dL_law_1197 rfl (lv_at hl 1 rfl) ?_
  obtain ⟨r31, hg, hf⟩ := ob_inv hf
  refine l_cX hC hK hW (As := []) (rest := []) (c_X9_day l G hg) (cwV 0 hts tg_X9_day rfl rfl rfl (by decide +kernel) ⟨(Nat.le_of_ble_eq_true rfl), (Nat.le_of_ble_eq_true rfl)⟩) rfl hl.1 rfl (Nat.le_of_ble_eq_true rfl) dL_law_1198 ⟨by omega, by omega⟩ (fun H locs hW => ?_)
  refine lv_if_le (tgt := 1341) hx hb dL_law_1201 (by decide) (fun c32 => ?_) (fun c32 => ?_)
  · have hf := a_if_t c32 hf
    exact law_B1341 hC hst hK (kc2 := kc2) (ks2 := ks2) (by omega) (by omega) hk2 hs2 hf hW (lv_sub hl [0, 1, 2, 3, 4, 5, 6, 7, 8, 9, 10, 11] rfl) hE
  · have hf := a_if_f c32 hf
    refine lv_iload hx hb dL_law_1204 (lv_at hl 12 rfl) ?_
    refine lv_bipush (v := 9) hx hb dL_law_1206 (by decide) ?_
    refine lv_ishr hx hb dL_law_1208 ?_
    refine lv_aload_n hx hb dL_law_1209 rfl (lv_at hl 1 rfl) ?_
    obtain ⟨r33, hg, hf⟩ := ob_inv hf
    refine l_cX hC hK hW (As := []) (rest := [.int (x12 >>> (9 &&& 31))]) (c_X9_day l G hg) (cwV 0 hts tg_X9_day rfl rfl rfl (by decide +kernel) ⟨(Nat.le_of_ble_eq_true rfl), (Nat.le_of_ble_eq_true rfl)⟩) rfl hl.1 rfl (Nat.le_of_ble_eq_true rfl) dL_law_1210 ⟨by omega, by omega⟩ (fun H locs hW => ?_)
    obtain ⟨r34, hg, hf⟩ := ob_inv hf
    refine l_cS hC hK hW (As := [.int (x12 >>> (9 &&& 31)), .int r33]) (rest := []) (c_L_low l G hg) (va_cwS 2 hts tg_L_low rfl rfl rfl (by decide +kernel) ⟨(Nat.le_of_ble_eq_true rfl), (Nat.le_of_ble_eq_true rfl)⟩) rfl hl.1 rfl (Nat.le_of_ble_eq_true rfl) dL_law_1213 ⟨by omega, by omega⟩ (fun H locs hW => ?_)
    refine lv_istore (lv' := [(20, .int r34), (0, .ref b), (1, .ref (G.2.2.1 0)), (2, .int x2), (3, .int x3), (4, .int x4), (5, .int x5), (6, .int x6), (7, .int x7), (8, .int x8), (9, .int x9), (10, .int x10), (11, .int x11), (12, .int x12)]) hx hb dL_law_1216 hl (by decide) rfl (fun ls hl => ?_)
    refine lv_aload_n hx hb dL_law_1218 rfl (lv_at hl 2 rfl) ?_
    refine lv_iload hx hb dL_law_1219 (lv_at hl 0 rfl) ?_
    obtain ⟨⟨r35, m36⟩, hg, hf⟩ := ob_inv hf
    have hf := ob_inv2 hf
    refine l_cC hC hK hW (As := [.ref (G.2.2.1 0), .int r34]) (rest := []) (c_L_run l G hst hg) (vx_cwSW 2 hts tg_L_run rfl rfl rfl (by decide +kernel) ⟨(Nat.le_of_ble_eq_true rfl), (Nat.le_of_ble_eq_true rfl)⟩) rfl hl.1 rfl (Nat.le_of_ble_eq_true rfl) dL_law_1221 ⟨by omega, by omega⟩ (fun H locs hW => ?_)
    refine W.widen (k := (kc + 8)) (n := (ks + 48)) (by omega) (by omega) ?_
    refine lv_istore (lv' := [(21, .int r35), (20, .int r34), (0, .ref b), (1, .ref (G.2.2.1 0)), (2, .int x2), (3, .int x3), (4, .int x4), (5, .int x5), (6, .int x6), (7, .int x7), (8, .int x8), (9, .int x9), (10, .int x10), (11, .int x11), (12, .int x12)]) hx hb dL_law_1224 hl (by decide) rfl (fun ls hl => ?_)
    refine lv_iload hx hb dL_law_1226 (lv_at hl 0 rfl) ?_
    refine lv_bipush (v := (-9)) hx hb dL_law_1228 (by decide) ?_
    obtain ⟨z39, hg, hf⟩ := ob_inv hf
    have hJ1250 : ∀ (H : Heap) (locs : List Loc) (ls : Array Slot), l_H G s H locs m36 → lv_has ls 23 [(0, .ref b), (1, .ref (G.2.2.1 0)), (2, .int x2), (3, .int x3), (4, .int x4), (5, .int x5), (6, .int x6), (7, .int x7), (8, .int x8), (10, .int x10), (11, .int x11), (20, .int r34), (21, .int r35)] → W p l e room_1 s m #[Value.ref b] below meth c H locs (kc + 8) (ks + 48) Q (F0 m 1250 ls [.int z39]) := by
      intro H locs ls hW hl
      refine lv_istore (lv' := [(9, .int z39), (0, .ref b), (1, .ref (G.2.2.1 0)), (2, .int x2), (3, .int x3), (4, .int x4), (5, .int x5), (6, .int x6), (7, .int x7), (8, .int x8), (10, .int x10), (11, .int x11), (20, .int r34), (21, .int r35)]) hx hb dL_law_1250 hl (by decide) rfl (fun ls hl => ?_)
      refine lv_iconst (v := 0) hx hb dL_law_1252 (by decide) ?_
      refine lv_istore (lv' := [(22, .int 0), (9, .int z39), (0, .ref b), (1, .ref (G.2.2.1 0)), (2, .int x2), (3, .int x3), (4, .int x4), (5, .int x5), (6, .int x6), (7, .int x7), (8, .int x8), (10, .int x10), (11, .int x11), (20, .int r34), (21, .int r35)]) hx hb dL_law_1253 hl (by decide) rfl (fun ls hl => ?_)
      have hL1255 : ∀ (n : Nat) (x42 : Int32) (x43 : Int32) (y44 : Int32) (y45 : Int32) (H : Heap) (locs : List Loc) (ls : Array Slot), f_L_law_L1255 m36 r34 r35 n x42 x43 = some (y44, y45) → l_H G s H locs m36 → lv_has ls 23 [(0, .ref b), (1, .ref (G.2.2.1 0)), (2, .int x2), (3, .int x3), (4, .int x4), (5, .int x5), (6, .int x6), (7, .int x7), (8, .int x8), (9, .int x42), (10, .int x10), (11, .int x11), (20, .int r34), (21, .int r35), (22, .int x43)] → (∀ (H : Heap) (locs : List Loc) (ls : Array Slot), l_H G s H locs m36 → lv_has ls 23 [(0, .ref b), (1, .ref (G.2.2.1 0)), (2, .int x2), (3, .int x3), (4, .int x4), (5, .int x5), (6, .int x6), (7, .int x7), (8, .int x8), (9, .int y44), (10, .int x10), (11, .int x11)] → W p l e room_1 s m #[Value.ref b] below meth c H locs (kc + 8) (ks + 48) Q (F0 m 1341 ls [])) → W p l e room_1 s m #[Value.ref b] below meth c H locs (kc + 8) (ks + 48) Q (F0 m 1255 ls []) := by
        intro n
        induction n with
        | zero =>
          intro x42 x43 y44 y45 H locs ls hf hW hl hE
          cases hf
        | succ n ih =>
          intro x42 x43 y44 y45 H locs ls hf hW hl hE
          rw [f_L_law_L1255] at hf
          refine lv_iload hx hb dL_law_1255 (lv_at hl 14 rfl) ?_
          refine lv_bipush (v := 6) hx hb dL_law_1257 (by decide) ?_
          refine lv_icmp_ge (tgt := 1341) hx hb dL_law_1259 (by decide) (fun c46 => ?_) (fun c46 => ?_)
          · have hf := a_if_t c46 hf
            cases hf
            exact hE H locs ls hW (lv_sub hl [0, 1, 2, 3, 4, 5, 6, 7, 8, 9, 10, 11] rfl)
          · have hf := a_if_f c46 hf
            refine lv_iload hx hb dL_law_1262 (lv_at hl 9 rfl) ?_
            refine lv_if_eq (tgt := 1341) hx hb dL_law_1264 (by decide) (fun c47 => ?_) (fun c47 => ?_)
            · have hf := a_if_t c47 hf
              cases hf
              exact hE H locs ls hW (lv_sub hl [0, 1, 2, 3, 4, 5, 6, 7, 8, 9, 10, 11] rfl)
            · have hf := a_if_f c47 hf
              refine lv_iload hx hb dL_law_1267 (lv_at hl 13 rfl) ?_
              refine lv_bipush (v := (-9)) hx hb dL_law_1269 (by decide) ?_
              refine lv_icmp_eq (tgt := 1341) hx hb dL_law_1271 (by decide) (fun c48 => ?_) (fun c48 => ?_)
              · have hf := a_if_t c48 hf
                cases hf
                exact hE H locs ls hW (lv_sub hl [0, 1, 2, 3, 4, 5, 6, 7, 8, 9, 10, 11] rfl)
              · have hf := a_if_f c48 hf
                refine lv_aload_n hx hb dL_law_1274 rfl (lv_at hl 1 rfl) ?_
                refine lv_iload hx hb dL_law_1275 (lv_at hl 14 rfl) ?_
                obtain ⟨r49, hg, hf⟩ := ot_inv hf
                refine l_cX hC hK hW (As := [.int x43]) (rest := []) (c0_X9_hasFailed l G hg) (cwV 1 hts tg_X9_hasFailed rfl rfl rfl (by decide +kernel) ⟨(Nat.le_of_ble_eq_true rfl), (Nat.le_of_ble_eq_true rfl)⟩) rfl hl.1 rfl (Nat.le_of_ble_eq_true rfl) dL_law_1277 ⟨by omega, by omega⟩ (fun H locs hW => ?_)
                obtain ⟨z51, hg, hf⟩ := ob_inv hf
                have hJ1333 : ∀ (H : Heap) (locs : List Loc) (ls : Array Slot), l_H G s H locs m36 → lv_has ls 23 [(0, .ref b), (1, .ref (G.2.2.1 0)), (2, .int x2), (3, .int x3), (4, .int x4), (5, .int x5), (6, .int x6), (7, .int x7), (8, .int x8), (10, .int x10), (11, .int x11), (20, .int r34), (21, .int r35), (22, .int x43)] → W p l e room_1 s m #[Value.ref b] below meth c H locs (kc + 8) (ks + 48) Q (F0 m 1333 ls [.int z51]) := by
                  intro H locs ls hW hl
                  refine lv_istore (lv' := [(9, .int z51), (0, .ref b), (1, .ref (G.2.2.1 0)), (2, .int x2), (3, .int x3), (4, .int x4), (5, .int x5), (6, .int x6), (7, .int x7), (8, .int x8), (10, .int x10), (11, .int x11), (20, .int r34), (21, .int r35), (22, .int x43)]) hx hb dL_law_1333 hl (by decide) rfl (fun ls hl => ?_)
                  refine lv_iinc (v := (x43 + 1)) (lv' := [(22, .int (x43 + 1)), (9, .int z51), (0, .ref b), (1, .ref (G.2.2.1 0)), (2, .int x2), (3, .int x3), (4, .int x4), (5, .int x5), (6, .int x6), (7, .int x7), (8, .int x8), (10, .int x10), (11, .int x11), (20, .int r34), (21, .int r35)]) hx hb dL_law_1335 hl (k := 14) rfl (congrArg (fun z => x43 + z) (by decide)) (by decide) rfl (fun ls hl => ?_)
                  refine lv_goto (tgt := 1255) hx hb dL_law_1338 (by decide) ?_
                  exact ih _ _ _ _ _ _ _ hf hW (lv_sub hl [2, 3, 4, 5, 6, 7, 8, 9, 10, 1, 11, 12, 13, 14, 0] rfl) hE
                replace hf := hg
                refine lv_if_eq (tgt := 1300) hx hb dL_law_1280 (by decide) (fun c50 => ?_) (fun c50 => ?_)
                · have hf := a_if_t c50 hf
                  refine lv_aload_n hx hb dL_law_1300 rfl (lv_at hl 1 rfl) ?_
                  refine lv_iload hx hb dL_law_1301 (lv_at hl 14 rfl) ?_
                  obtain ⟨r52, hg, hf⟩ := ot_inv hf
                  refine l_cX hC hK hW (As := [.int x43]) (rest := []) (c0_X9_account l G hg) (cwV 1 hts tg_X9_account rfl rfl rfl (by decide +kernel) ⟨(Nat.le_of_ble_eq_true rfl), (Nat.le_of_ble_eq_true rfl)⟩) rfl hl.1 rfl (Nat.le_of_ble_eq_true rfl) dL_law_1303 ⟨by omega, by omega⟩ (fun H locs hW => ?_)
                  refine lv_if_lt (tgt := 1332) hx hb dL_law_1306 (by decide) (fun c53 => ?_) (fun c53 => ?_)
                  · have hf := a_if_t c53 hf
                    refine lv_iconst (v := 0) hx hb dL_law_1332 (by decide) ?_
                    cases hf
                    refine W.widen (k := (kc + 8)) (n := (ks + 48)) (by omega) (by omega) ?_
                    exact hJ1333 H locs ls hW (lv_sub hl [0, 1, 2, 3, 4, 5, 6, 7, 8, 10, 11, 12, 13, 14] rfl)
                  · have hf := a_if_f c53 hf
                    refine lv_aload_n hx hb dL_law_1309 rfl (lv_at hl 1 rfl) ?_
                    refine lv_iload hx hb dL_law_1310 (lv_at hl 12 rfl) ?_
                    refine lv_iload hx hb dL_law_1312 (lv_at hl 14 rfl) ?_
                    obtain ⟨r54, hg, hf⟩ := ot_inv hf
                    refine l_cX hC hK hW (As := [.int r34, .int x43]) (rest := []) (c0_X9_settled l G hg) (cwV 2 hts tg_X9_settled rfl rfl rfl (by decide +kernel) ⟨(Nat.le_of_ble_eq_true rfl), (Nat.le_of_ble_eq_true rfl)⟩) rfl hl.1 rfl (Nat.le_of_ble_eq_true rfl) dL_law_1314 ⟨by omega, by omega⟩ (fun H locs hW => ?_)
                    refine lv_aload_n hx hb dL_law_1317 rfl (lv_at hl 1 rfl) ?_
                    refine lv_iload hx hb dL_law_1318 (lv_at hl 12 rfl) ?_
                    refine lv_iload hx hb dL_law_1320 (lv_at hl 14 rfl) ?_
                    obtain ⟨r55, hg, hf⟩ := ot_inv hf
                    refine l_cX hC hK hW (As := [.int r34, .int x43]) (rest := [.int r54]) (c0_X9_bill l G hg) (cwV 2 hts tg_X9_bill rfl rfl rfl (by decide +kernel) ⟨(Nat.le_of_ble_eq_true rfl), (Nat.le_of_ble_eq_true rfl)⟩) rfl hl.1 rfl (Nat.le_of_ble_eq_true rfl) dL_law_1322 ⟨by omega, by omega⟩ (fun H locs hW => ?_)
                    refine lv_icmp_ne (tgt := 1332) hx hb dL_law_1325 (by decide) (fun c56 => ?_) (fun c56 => ?_)
                    · have hf := a_if_f c56 hf
                      refine lv_iconst (v := 0) hx hb dL_law_1332 (by decide) ?_
                      cases hf
                      refine W.widen (k := (kc + 8)) (n := (ks + 48)) (by omega) (by omega) ?_
                      exact hJ1333 H locs ls hW (lv_sub hl [0, 1, 2, 3, 4, 5, 6, 7, 8, 10, 11, 12, 13, 14] rfl)
                    · have hf := a_if_t c56 hf
                      refine lv_iconst (v := 1) hx hb dL_law_1328 (by decide) ?_
                      refine lv_goto (tgt := 1333) hx hb dL_law_1329 (by decide) ?_
                      cases hf
                      refine W.widen (k := (kc + 8)) (n := (ks + 48)) (by omega) (by omega) ?_
                      exact hJ1333 H locs ls hW (lv_sub hl [0, 1, 2, 3, 4, 5, 6, 7, 8, 10, 11, 12, 13, 14] rfl)
                · have hf := a_if_f c50 hf
                  refine lv_aload_n hx hb dL_law_1283 rfl (lv_at hl 1 rfl) ?_
                  refine lv_iload hx hb dL_law_1284 (lv_at hl 14 rfl) ?_
                  obtain ⟨r57, hg, hf⟩ := ot_inv hf
                  refine l_cX hC hK hW (As := [.int x43]) (rest := []) (c0_X9_account l G hg) (cwV 1 hts tg_X9_account rfl rfl rfl (by decide +kernel) ⟨(Nat.le_of_ble_eq_true rfl), (Nat.le_of_ble_eq_true rfl)⟩) rfl hl.1 rfl (Nat.le_of_ble_eq_true rfl) dL_law_1286 ⟨by omega, by omega⟩ (fun H locs hW => ?_)
                  refine lv_if_ne (tgt := 1296) hx hb dL_law_1289 (by decide) (fun c58 => ?_) (fun c58 => ?_)
                  · have hf := a_if_f c58 hf
                    refine lv_iconst (v := 0) hx hb dL_law_1296 (by decide) ?_
                    refine lv_goto (tgt := 1333) hx hb dL_law_1297 (by decide) ?_
                    cases hf
                    refine W.widen (k := (kc + 8)) (n := (ks + 48)) (by omega) (by omega) ?_
                    exact hJ1333 H locs ls hW (lv_sub hl [0, 1, 2, 3, 4, 5, 6, 7, 8, 10, 11, 12, 13, 14] rfl)
                  · have hf := a_if_t c58 hf
                    refine lv_iconst (v := 1) hx hb dL_law_1292 (by decide) ?_
                    refine lv_goto (tgt := 1333) hx hb dL_law_1293 (by decide) ?_
                    cases hf
                    refine W.widen (k := (kc + 8)) (n := (ks + 48)) (by omega) (by omega) ?_
                    exact hJ1333 H locs ls hW (lv_sub hl [0, 1, 2, 3, 4, 5, 6, 7, 8, 10, 11, 12, 13, 14] rfl)
      obtain ⟨⟨y44, y45⟩, hg, hf⟩ := ob_inv hf
      have hf := ob_inv2 hf
      refine hL1255 _ _ _ _ _ _ _ _ hg hW (lv_sub hl [2, 3, 4, 5, 6, 7, 8, 9, 10, 1, 11, 12, 13, 14, 0] rfl) (fun H locs ls hW hl => ?_)
      exact law_B1341 hC hst hK (kc2 := kc2) (ks2 := ks2) (by omega) (by omega) hk2 hs2 hf hW (lv_sub hl [0, 1, 2, 3, 4, 5, 6, 7, 8, 9, 10, 11] rfl) hE
    replace hf := hg
    refine lv_icmp_eq (tgt := 1245) hx hb dL_law_1230 (by decide) (fun c38 => ?_) (fun c38 => ?_)
    · have hf := a_if_t c38 hf
      refine lv_iconst (v := 1) hx hb dL_law_1245 (by decide) ?_
      refine lv_goto (tgt := 1250) hx hb dL_law_1246 (by decide) ?_
      cases hf
      refine W.widen (k := (kc + 8)) (n := (ks + 48)) (by omega) (by omega) ?_
      exact hJ1250 H locs ls hW (lv_sub hl [2, 3, 4, 5, 6, 7, 8, 9, 10, 12, 13, 1, 0] rfl)
    · have hf := a_if_f c38 hf
      refine lv_iload hx hb dL_law_1233 (lv_at hl 0 rfl) ?_
      refine lv_if_lt (tgt := 1249) hx hb dL_law_1235 (by decide) (fun c40 => ?_) (fun c40 => ?_)
      · have hf := a_if_t c40 hf
        refine lv_iconst (v := 0) hx hb dL_law_1249 (by decide) ?_
        cases hf
        refine W.widen (k := (kc + 8)) (n := (ks + 48)) (by omega) (by omega) ?_
        exact hJ1250 H locs ls hW (lv_sub hl [2, 3, 4, 5, 6, 7, 8, 9, 10, 12, 13, 1, 0] rfl)
      · have hf := a_if_f c40 hf
        refine lv_iload hx hb dL_law_1238 (lv_at hl 0 rfl) ?_
        refine lv_bipush (v := 6) hx hb dL_law_1240 (by decide) ?_
        refine lv_icmp_gt (tgt := 1249) hx hb dL_law_1242 (by decide) (fun c41 => ?_) (fun c41 => ?_)
        · have hf := a_if_t c41 hf
          refine lv_iconst (v := 0) hx hb dL_law_1249 (by decide) ?_
          cases hf
          refine W.widen (k := (kc + 8)) (n := (ks + 48)) (by omega) (by omega) ?_
          exact hJ1250 H locs ls hW (lv_sub hl [2, 3, 4, 5, 6, 7, 8, 9, 10, 12, 13, 1, 0] rfl)
        · have hf := a_if_f c41 hf
          refine lv_iconst (v := 1) hx hb dL_law_1245 (by decide) ?_
          refine lv_goto (tgt := 1250) hx hb dL_law_1246 (by decide) ?_
          cases hf
          refine W.widen (k := (kc + 8)) (n := (ks + 48)) (by omega) (by omega) ?_
          exact hJ1250 H locs ls hW (lv_sub hl [2, 3, 4, 5, 6, 7, 8, 9, 10, 12, 13, 1, 0] rfl)
set_option maxHeartbeats 8000000 in
set_option maxRecDepth 100000 in
theorem law_B1066 {p : Program} {l : Launch} {e : Env} {s : State} {m : MethodId} {below : List Frame} {meth : Method} {c : Code} {b : Nat} {Q : State → Prop} (hC : CallFix p m c cL_law 23 s #[Value.ref b] lw_tbl RL) (hst : l.stackTraces = false) {G : gG} (hK : l_K G s) {kc ks kc2 ks2 : Nat} (hk1 : kc + 8 ≤ kc2) (hs1 : ks + 48 ≤ ks2) (hk2 : kc2 ≤ 600074) (hs2 : ks2 ≤ 7301550) {x2 x3 x4 x5 x6 x7 x8 x9 x10 x11 x12 x13 x14 x15 x16 : Int32} {me mf : gM} {y2 y3 y4 y5 y6 y7 y8 y9 : Int32} (hf : f_L_law_B1066 x2 x3 x4 x5 x6 x7 x8 x9 x12 x13 x14 x15 x16 me = some (y2, y3, y4, y5, y6, y7, y8, y9, mf)) {H : Heap} {locs : List Loc} {ls : Array Slot} (hW : l_H G s H locs me) (hl : lv_has ls 23 [(0, .ref b), (1, .ref (G.2.2.1 0)), (2, .int x2), (3, .int x3), (4, .int x4), (5, .int x5), (6, .int x6), (7, .int x7), (8, .int x8), (9, .int x9), (10, .int x10), (11, .int x11), (12, .int x12), (13, .int x13), (14, .int x14), (15, .int x15), (16, .int x16)]) (hE : ∀ (H : Heap) (locs : List Loc) (ls : Array Slot), l_H G s H locs mf → lv_has ls 23 [(0, .ref b), (1, .ref (G.2.2.1 0)), (2, .int y2), (3, .int y3), (4, .int y4), (5, .int y5), (6, .int y6), (7, .int y7), (8, .int y8), (9, .int y9), (10, .int x10), (11, .int x11)] → W p l e room_1 s m #[Value.ref b] below meth c H locs kc2 ks2 Q (F0 m 1361 ls [])) : W p l e room_1 s m #[Value.ref b] below meth c H locs kc ks Q (F0 m 1066 ls []) := by
  have hR1 : room_1.cells = 600074 := rfl
  have hR2 : room_1.slots = 7301550 := rfl
  have hx := hC.1
  have hb := hC.2.1
  have hown := hC.2.2.2.1
  have hts := hC.2.2.2.2
  unfold f_L_law_B1066 at hf
  refine lv_iload hx hb dL_law_1066 (lv_at hl 13 rfl) ?_
  refine lv_bipush (v := 17) hx hb dL_law_1068 (by decide) ?_
  refine lv_icmp_ge (tgt := 1197) hx hb dL_law_1070 (by decide) (fun c31 => ?_) (fun c31 => ?_)
  · have hf := a_if_t c31 hf
    exact law_B1197 hC hst hK (kc2 := kc2) (ks2 := ks2) (by omega) (by omega) hk2 hs2 hf hW (lv_sub hl [0, 1, 2, 3, 4, 5, 6, 7, 8, 9, 10, 11, 12] rfl) hE
  · have hf := a_if_f c31 hf
    refine lv_aload_n hx hb dL_law_1073 rfl (lv_at hl 1 rfl) ?_
    obtain ⟨r32, hg, hf⟩ := ob_inv hf
    refine l_cX hC hK hW (As := []) (rest := []) (c_X9_day l G hg) (cwV 0 hts tg_X9_day rfl rfl rfl (by decide +kernel) ⟨(Nat.le_of_ble_eq_true rfl), (Nat.le_of_ble_eq_true rfl)⟩) rfl hl.1 rfl (Nat.le_of_ble_eq_true rfl) dL_law_1074 ⟨by omega, by omega⟩ (fun H locs hW => ?_)
    refine lv_if_le (tgt := 1197) hx hb dL_law_1077 (by decide) (fun c33 => ?_) (fun c33 => ?_)
    · have hf := a_if_t c33 hf
      exact law_B1197 hC hst hK (kc2 := kc2) (ks2 := ks2) (by omega) (by omega) hk2 hs2 hf hW (lv_sub hl [0, 1, 2, 3, 4, 5, 6, 7, 8, 9, 10, 11, 12] rfl) hE
    · have hf := a_if_f c33 hf
      refine lv_iload hx hb dL_law_1080 (lv_at hl 12 rfl) ?_
      refine lv_bipush (v := 9) hx hb dL_law_1082 (by decide) ?_
      refine lv_ishr hx hb dL_law_1084 ?_
      refine lv_aload_n hx hb dL_law_1085 rfl (lv_at hl 1 rfl) ?_
      obtain ⟨r34, hg, hf⟩ := ob_inv hf
      refine l_cX hC hK hW (As := []) (rest := [.int (x12 >>> (9 &&& 31))]) (c_X9_day l G hg) (cwV 0 hts tg_X9_day rfl rfl rfl (by decide +kernel) ⟨(Nat.le_of_ble_eq_true rfl), (Nat.le_of_ble_eq_true rfl)⟩) rfl hl.1 rfl (Nat.le_of_ble_eq_true rfl) dL_law_1086 ⟨by omega, by omega⟩ (fun H locs hW => ?_)
      obtain ⟨r35, hg, hf⟩ := ob_inv hf
      refine l_cS hC hK hW (As := [.int (x12 >>> (9 &&& 31)), .int r34]) (rest := []) (c_L_low l G hg) (va_cwS 2 hts tg_L_low rfl rfl rfl (by decide +kernel) ⟨(Nat.le_of_ble_eq_true rfl), (Nat.le_of_ble_eq_true rfl)⟩) rfl hl.1 rfl (Nat.le_of_ble_eq_true rfl) dL_law_1089 ⟨by omega, by omega⟩ (fun H locs hW => ?_)
      refine lv_istore (lv' := [(20, .int r35), (0, .ref b), (1, .ref (G.2.2.1 0)), (2, .int x2), (3, .int x3), (4, .int x4), (5, .int x5), (6, .int x6), (7, .int x7), (8, .int x8), (9, .int x9), (10, .int x10), (11, .int x11), (12, .int x12), (13, .int x13), (14, .int x14), (15, .int x15), (16, .int x16)]) hx hb dL_law_1092 hl (by decide) rfl (fun ls hl => ?_)
      refine lv_iload hx hb dL_law_1094 (lv_at hl 13 rfl) ?_
      refine lv_iconst (v := 4) hx hb dL_law_1096 (by decide) ?_
      refine lv_ishr hx hb dL_law_1097 ?_
      refine lv_bipush (v := 41) hx hb dL_law_1098 (by decide) ?_
      obtain ⟨r36, hg, hf⟩ := ob_inv hf
      refine l_cS hC hK hW (As := [.int (x12 >>> (4 &&& 31)), .int 41]) (rest := []) (c_L_low l G hg) (va_cwS 2 hts tg_L_low rfl rfl rfl (by decide +kernel) ⟨(Nat.le_of_ble_eq_true rfl), (Nat.le_of_ble_eq_true rfl)⟩) rfl hl.1 rfl (Nat.le_of_ble_eq_true rfl) dL_law_1100 ⟨by omega, by omega⟩ (fun H locs hW => ?_)
      refine lv_bipush (v := 20) hx hb dL_law_1103 (by decide) ?_
      refine lv_isub hx hb dL_law_1105 ?_
      obtain ⟨x37, h9, hf⟩ := ob_inv hf
      refine g_nmi (Option.some.inj h9) ?_
      refine lv_istore (lv' := [(21, .int x37), (20, .int r35), (0, .ref b), (1, .ref (G.2.2.1 0)), (2, .int x2), (3, .int x3), (4, .int x4), (5, .int x5), (6, .int x6), (7, .int x7), (8, .int x8), (9, .int x9), (10, .int x10), (11, .int x11), (12, .int x12), (13, .int x13), (14, .int x14), (15, .int x15), (16, .int x16)]) hx hb dL_law_1106 hl (by decide) rfl (fun ls hl => ?_)
      refine lv_aload_n hx hb dL_law_1108 rfl (lv_at hl 3 rfl) ?_
      refine lv_iload hx hb dL_law_1109 (lv_at hl 1 rfl) ?_
      refine lv_iload hx hb dL_law_1111 (lv_at hl 16 rfl) ?_
      refine lv_iload hx hb dL_law_1113 (lv_at hl 17 rfl) ?_
      refine lv_iload hx hb dL_law_1115 (lv_at hl 18 rfl) ?_
      refine lv_iload hx hb dL_law_1117 (lv_at hl 0 rfl) ?_
      obtain ⟨⟨r38, m39⟩, hg, hf⟩ := ot_inv hf
      have hf := ob_inv2 hf
      refine l_cX hC hK hW (As := [.int r35, .int x14, .int x15, .int x16, .int x37]) (rest := []) (c0_X9_read l G hg) (cwV 5 hts tg_X9_read rfl rfl rfl (by decide +kernel) ⟨(Nat.le_of_ble_eq_true rfl), (Nat.le_of_ble_eq_true rfl)⟩) rfl hl.1 rfl (Nat.le_of_ble_eq_true rfl) dL_law_1119 ⟨by omega, by omega⟩ (fun H locs hW => ?_)
      refine lv_iload hx hb dL_law_1122 (lv_at hl 0 rfl) ?_
      refine lv_aload_n hx hb dL_law_1124 rfl (lv_at hl 3 rfl) ?_
      refine lv_iload hx hb dL_law_1125 (lv_at hl 1 rfl) ?_
      refine lv_iload hx hb dL_law_1127 (lv_at hl 16 rfl) ?_
      refine lv_iload hx hb dL_law_1129 (lv_at hl 17 rfl) ?_
      refine lv_iload hx hb dL_law_1131 (lv_at hl 18 rfl) ?_
      obtain ⟨r41, hg, hf⟩ := ot_inv hf
      refine l_cX hC hK hW (As := [.int r35, .int x14, .int x15, .int x16]) (rest := [.int x37, .int r38]) (c0_X9_plan l G hg) (cwV 4 hts tg_X9_plan rfl rfl rfl (by decide +kernel) ⟨(Nat.le_of_ble_eq_true rfl), (Nat.le_of_ble_eq_true rfl)⟩) rfl hl.1 rfl (Nat.le_of_ble_eq_true rfl) dL_law_1133 ⟨by omega, by omega⟩ (fun H locs hW => ?_)
      refine lv_isub hx hb dL_law_1136 ?_
      obtain ⟨z43, hg, hf⟩ := ob_inv hf
      have hJ1145 : ∀ (H : Heap) (locs : List Loc) (ls : Array Slot), l_H G s H locs m39 → lv_has ls 23 [(0, .ref b), (1, .ref (G.2.2.1 0)), (2, .int x2), (3, .int x3), (4, .int x4), (5, .int x5), (6, .int x6), (7, .int x7), (8, .int x8), (10, .int x10), (11, .int x11), (16, .int x16), (20, .int r35)] → W p l e room_1 s m #[Value.ref b] below meth c H locs kc ks Q (F0 m 1145 ls [.int z43]) := by
        intro H locs ls hW hl
        refine lv_istore (lv' := [(9, .int z43), (0, .ref b), (1, .ref (G.2.2.1 0)), (2, .int x2), (3, .int x3), (4, .int x4), (5, .int x5), (6, .int x6), (7, .int x7), (8, .int x8), (10, .int x10), (11, .int x11), (16, .int x16), (20, .int r35)]) hx hb dL_law_1145 hl (by decide) rfl (fun ls hl => ?_)
        refine lv_iload hx hb dL_law_1147 (lv_at hl 0 rfl) ?_
        obtain ⟨z45, hg, hf⟩ := ob_inv hf
        have hJ1192 : ∀ (H : Heap) (locs : List Loc) (ls : Array Slot), l_H G s H locs m39 → lv_has ls 23 [(0, .ref b), (1, .ref (G.2.2.1 0)), (2, .int x2), (3, .int x3), (4, .int x4), (5, .int x5), (6, .int x6), (7, .int x7), (8, .int x8), (10, .int x10), (11, .int x11)] → W p l e room_1 s m #[Value.ref b] below meth c H locs kc ks Q (F0 m 1192 ls [.int z45]) := by
          intro H locs ls hW hl
          refine lv_istore (lv' := [(9, .int z45), (0, .ref b), (1, .ref (G.2.2.1 0)), (2, .int x2), (3, .int x3), (4, .int x4), (5, .int x5), (6, .int x6), (7, .int x7), (8, .int x8), (10, .int x10), (11, .int x11)]) hx hb dL_law_1192 hl (by decide) rfl (fun ls hl => ?_)
          refine lv_goto (tgt := 1341) hx hb dL_law_1194 (by decide) ?_
          exact law_B1341 hC hst hK (kc2 := kc2) (ks2 := ks2) (by omega) (by omega) hk2 hs2 hf hW (lv_sub hl [1, 2, 3, 4, 5, 6, 7, 8, 9, 0, 10, 11] rfl) hE
        replace hf := hg
        refine lv_if_eq (tgt := 1191) hx hb dL_law_1149 (by decide) (fun c44 => ?_) (fun c44 => ?_)
        · have hf := a_if_t c44 hf
          refine lv_iconst (v := 0) hx hb dL_law_1191 (by decide) ?_
          cases hf
          refine W.widen (k := kc) (n := ks) (by omega) (by omega) ?_
          exact hJ1192 H locs ls hW (lv_sub hl [1, 2, 3, 4, 5, 6, 7, 8, 9, 10, 11] rfl)
        · have hf := a_if_f c44 hf
          refine lv_aload_n hx hb dL_law_1152 rfl (lv_at hl 2 rfl) ?_
          refine lv_iload hx hb dL_law_1153 (lv_at hl 13 rfl) ?_
          refine lv_iload hx hb dL_law_1155 (lv_at hl 12 rfl) ?_
          obtain ⟨r46, hg, hf⟩ := ot_inv hf
          refine l_cX hC hK hW (As := [.int r35, .int x16]) (rest := []) (c0_X9_gap l G hg) (cwV 2 hts tg_X9_gap rfl rfl rfl (by decide +kernel) ⟨(Nat.le_of_ble_eq_true rfl), (Nat.le_of_ble_eq_true rfl)⟩) rfl hl.1 rfl (Nat.le_of_ble_eq_true rfl) dL_law_1157 ⟨by omega, by omega⟩ (fun H locs hW => ?_)
          obtain ⟨z48, hg, hf⟩ := ob_inv hf
          have hJ1168 : ∀ (H : Heap) (locs : List Loc) (ls : Array Slot), l_H G s H locs m39 → lv_has ls 23 [(0, .ref b), (1, .ref (G.2.2.1 0)), (2, .int x2), (3, .int x3), (4, .int x4), (5, .int x5), (6, .int x6), (7, .int x7), (8, .int x8), (10, .int x10), (11, .int x11), (16, .int x16), (20, .int r35)] → W p l e room_1 s m #[Value.ref b] below meth c H locs kc ks Q (F0 m 1168 ls [.int z48]) := by
            intro H locs ls hW hl
            refine lv_aload_n hx hb dL_law_1168 rfl (lv_at hl 1 rfl) ?_
            refine lv_iload hx hb dL_law_1169 (lv_at hl 12 rfl) ?_
            refine lv_iload hx hb dL_law_1171 (lv_at hl 11 rfl) ?_
            obtain ⟨r49, hg, hf⟩ := ot_inv hf
            refine l_cX hC hK hW (As := [.int r35, .int x16]) (rest := [.int z48]) (c0_X9_gapPrice l G hg) (cwV 2 hts tg_X9_gapPrice rfl rfl rfl (by decide +kernel) ⟨(Nat.le_of_ble_eq_true rfl), (Nat.le_of_ble_eq_true rfl)⟩) rfl hl.1 rfl (Nat.le_of_ble_eq_true rfl) dL_law_1173 ⟨by omega, by omega⟩ (fun H locs hW => ?_)
            obtain ⟨z51, hg, hf⟩ := ob_inv hf
            have hJ1184 : ∀ (H : Heap) (locs : List Loc) (ls : Array Slot), l_H G s H locs m39 → lv_has ls 23 [(0, .ref b), (1, .ref (G.2.2.1 0)), (2, .int x2), (3, .int x3), (4, .int x4), (5, .int x5), (6, .int x6), (7, .int x7), (8, .int x8), (10, .int x10), (11, .int x11)] → W p l e room_1 s m #[Value.ref b] below meth c H locs kc ks Q (F0 m 1184 ls [.int z51, .int z48]) := by
              intro H locs ls hW hl
              refine lv_icmp_ne (tgt := 1191) hx hb dL_law_1184 (by decide) (fun c52 => ?_) (fun c52 => ?_)
              · have hf := a_if_f c52 hf
                refine lv_iconst (v := 0) hx hb dL_law_1191 (by decide) ?_
                cases hf
                refine W.widen (k := kc) (n := ks) (by omega) (by omega) ?_
                exact hJ1192 H locs ls hW (lv_sub hl [0, 1, 2, 3, 4, 5, 6, 7, 8, 9, 10] rfl)
              · have hf := a_if_t c52 hf
                refine lv_iconst (v := 1) hx hb dL_law_1187 (by decide) ?_
                refine lv_goto (tgt := 1192) hx hb dL_law_1188 (by decide) ?_
                cases hf
                refine W.widen (k := kc) (n := ks) (by omega) (by omega) ?_
                exact hJ1192 H locs ls hW (lv_sub hl [0, 1, 2, 3, 4, 5, 6, 7, 8, 9, 10] rfl)
            replace hf := hg
            refine lv_if_lt (tgt := 1183) hx hb dL_law_1176 (by decide) (fun c50 => ?_) (fun c50 => ?_)
            · have hf := a_if_t c50 hf
              refine lv_iconst (v := 0) hx hb dL_law_1183 (by decide) ?_
              cases hf
              refine W.widen (k := kc) (n := ks) (by omega) (by omega) ?_
              exact hJ1184 H locs ls hW (lv_sub hl [0, 1, 2, 3, 4, 5, 6, 7, 8, 9, 10] rfl)
            · have hf := a_if_f c50 hf
              refine lv_iconst (v := 1) hx hb dL_law_1179 (by decide) ?_
              refine lv_goto (tgt := 1184) hx hb dL_law_1180 (by decide) ?_
              cases hf
              refine W.widen (k := kc) (n := ks) (by omega) (by omega) ?_
              exact hJ1184 H locs ls hW (lv_sub hl [0, 1, 2, 3, 4, 5, 6, 7, 8, 9, 10] rfl)
          replace hf := hg
          refine lv_if_eq (tgt := 1167) hx hb dL_law_1160 (by decide) (fun c47 => ?_) (fun c47 => ?_)
          · have hf := a_if_t c47 hf
            refine lv_iconst (v := 0) hx hb dL_law_1167 (by decide) ?_
            cases hf
            refine W.widen (k := kc) (n := ks) (by omega) (by omega) ?_
            exact hJ1168 H locs ls hW (lv_sub hl [1, 2, 3, 4, 5, 6, 7, 8, 9, 10, 11, 12, 13] rfl)
          · have hf := a_if_f c47 hf
            refine lv_iconst (v := 1) hx hb dL_law_1163 (by decide) ?_
            refine lv_goto (tgt := 1168) hx hb dL_law_1164 (by decide) ?_
            cases hf
            refine W.widen (k := kc) (n := ks) (by omega) (by omega) ?_
            exact hJ1168 H locs ls hW (lv_sub hl [1, 2, 3, 4, 5, 6, 7, 8, 9, 10, 11, 12, 13] rfl)
      replace hf := hg
      refine lv_icmp_ne (tgt := 1144) hx hb dL_law_1137 (by decide) (fun c42 => ?_) (fun c42 => ?_)
      · have hf := a_if_f c42 hf
        refine lv_iconst (v := 0) hx hb dL_law_1144 (by decide) ?_
        cases hf
        refine W.widen (k := kc) (n := ks) (by omega) (by omega) ?_
        exact hJ1145 H locs ls hW (lv_sub hl [2, 3, 4, 5, 6, 7, 8, 9, 10, 12, 13, 18, 1] rfl)
      · have hf := a_if_t c42 hf
        refine lv_iconst (v := 1) hx hb dL_law_1140 (by decide) ?_
        refine lv_goto (tgt := 1145) hx hb dL_law_1141 (by decide) ?_
        cases hf
        refine W.widen (k := kc) (n := ks) (by omega) (by omega) ?_
        exact hJ1145 H locs ls hW (lv_sub hl [2, 3, 4, 5, 6, 7, 8, 9, 10, 12, 13, 18, 1] rfl)
set_option maxHeartbeats 8000000 in
set_option maxRecDepth 100000 in
theorem law_B978 {p : Program} {l : Launch} {e : Env} {s : State} {m : MethodId} {below : List Frame} {meth : Method} {c : Code} {b : Nat} {Q : State → Prop} (hC : CallFix p m c cL_law 23 s #[Value.ref b] lw_tbl RL) (hst : l.stackTraces = false) {G : gG} (hK : l_K G s) {kc ks kc2 ks2 : Nat} (hk1 : kc + 8 ≤ kc2) (hs1 : ks + 48 ≤ ks2) (hk2 : kc2 ≤ 600074) (hs2 : ks2 ≤ 7301550) {x2 x3 x4 x5 x6 x7 x8 x9 x10 x11 x12 x13 x14 x15 x16 x17 x18 x19 : Int32} {me mf : gM} {y2 y3 y4 y5 y6 y7 y8 y9 : Int32} (hf : f_L_law_B978 x2 x3 x4 x5 x6 x7 x8 x9 x12 x13 x14 x15 x16 x17 x18 x19 me = some (y2, y3, y4, y5, y6, y7, y8, y9, mf)) {H : Heap} {locs : List Loc} {ls : Array Slot} (hW : l_H G s H locs me) (hl : lv_has ls 23 [(0, .ref b), (1, .ref (G.2.2.1 0)), (2, .int x2), (3, .int x3), (4, .int x4), (5, .int x5), (6, .int x6), (7, .int x7), (8, .int x8), (9, .int x9), (10, .int x10), (11, .int x11), (12, .int x12), (13, .int x13), (14, .int x14), (15, .int x15), (16, .int x16), (17, .int x17), (18, .int x18), (19, .int x19)]) (hE : ∀ (H : Heap) (locs : List Loc) (ls : Array Slot), l_H G s H locs mf → lv_has ls 23 [(0, .ref b), (1, .ref (G.2.2.1 0)), (2, .int y2), (3, .int y3), (4, .int y4), (5, .int y5), (6, .int y6), (7, .int y7), (8, .int y8), (9, .int y9), (10, .int x10), (11, .int x11)] → W p l e room_1 s m #[Value.ref b] below meth c H locs kc2 ks2 Q (F0 m 1361 ls [])) : W p l e room_1 s m #[Value.ref b] below meth c H locs kc ks Q (F0 m 978 ls []) := by
  have hR1 : room_1.cells = 600074 := rfl
  have hR2 : room_1.slots = 7301550 := rfl
  have hx := hC.1
  have hb := hC.2.1
  have hown := hC.2.2.2.1
  have hts := hC.2.2.2.2
  unfold f_L_law_B978 at hf
  refine lv_iload hx hb dL_law_978 (lv_at hl 13 rfl) ?_
  refine lv_bipush (v := 15) hx hb dL_law_980 (by decide) ?_
  refine lv_icmp_ge (tgt := 1066) hx hb dL_law_982 (by decide) (fun c31 => ?_) (fun c31 => ?_)
  · have hf := a_if_t c31 hf
    exact law_B1066 hC hst hK (kc2 := kc2) (ks2 := ks2) (by omega) (by omega) hk2 hs2 hf hW (lv_sub hl [0, 1, 2, 3, 4, 5, 6, 7, 8, 9, 10, 11, 12, 13, 14, 15, 16] rfl) hE
  · have hf := a_if_f c31 hf
    refine lv_aload_n hx hb dL_law_985 rfl (lv_at hl 1 rfl) ?_
    refine lv_iload hx hb dL_law_986 (lv_at hl 14 rfl) ?_
    refine lv_iload hx hb dL_law_988 (lv_at hl 16 rfl) ?_
    refine lv_iload hx hb dL_law_990 (lv_at hl 19 rfl) ?_
    refine lv_iload hx hb dL_law_992 (lv_at hl 17 rfl) ?_
    refine lv_iload hx hb dL_law_994 (lv_at hl 18 rfl) ?_
    obtain ⟨⟨r32, m33⟩, hg, hf⟩ := ob_inv hf
    have hf := ob_inv2 hf
    refine l_cC hC hK hW (As := [.ref (G.2.2.1 0), .int x14, .int x16, .int x19, .int x17, .int x18]) (rest := []) (c_L_aid l G hst hg) (vx_cwSW 6 hts tg_L_aid rfl rfl rfl (by decide +kernel) ⟨(Nat.le_of_ble_eq_true rfl), (Nat.le_of_ble_eq_true rfl)⟩) rfl hl.1 rfl (Nat.le_of_ble_eq_true rfl) dL_law_996 ⟨by omega, by omega⟩ (fun H locs hW => ?_)
    refine W.widen (k := (kc + 8)) (n := (ks + 48)) (by omega) (by omega) ?_
    refine lv_istore (lv' := [(20, .int r32), (0, .ref b), (1, .ref (G.2.2.1 0)), (2, .int x2), (3, .int x3), (4, .int x4), (5, .int x5), (6, .int x6), (7, .int x7), (8, .int x8), (9, .int x9), (10, .int x10), (11, .int x11), (12, .int x12), (13, .int x13), (14, .int x14), (15, .int x15), (16, .int x16), (17, .int x17), (18, .int x18), (19, .int x19)]) hx hb dL_law_999 hl (by decide) rfl (fun ls hl => ?_)
    refine lv_iload hx hb dL_law_1001 (lv_at hl 0 rfl) ?_
    refine lv_bipush (v := (-9)) hx hb dL_law_1003 (by decide) ?_
    obtain ⟨z36, hg, hf⟩ := ob_inv hf
    have hJ1044 : ∀ (H : Heap) (locs : List Loc) (ls : Array Slot), l_H G s H locs m33 → lv_has ls 23 [(0, .ref b), (1, .ref (G.2.2.1 0)), (2, .int x2), (3, .int x3), (4, .int x4), (5, .int x5), (6, .int x6), (7, .int x7), (8, .int x8), (10, .int x10), (11, .int x11), (20, .int r32)] → W p l e room_1 s m #[Value.ref b] below meth c H locs (kc + 8) (ks + 48) Q (F0 m 1044 ls [.int z36]) := by
      intro H locs ls hW hl
      refine lv_istore (lv' := [(9, .int z36), (0, .ref b), (1, .ref (G.2.2.1 0)), (2, .int x2), (3, .int x3), (4, .int x4), (5, .int x5), (6, .int x6), (7, .int x7), (8, .int x8), (10, .int x10), (11, .int x11), (20, .int r32)]) hx hb dL_law_1044 hl (by decide) rfl (fun ls hl => ?_)
      refine lv_iload hx hb dL_law_1046 (lv_at hl 8 rfl) ?_
      refine lv_iload hx hb dL_law_1048 (lv_at hl 12 rfl) ?_
      refine lv_bipush (v := (-9)) hx hb dL_law_1050 (by decide) ?_
      obtain ⟨z42, hg, hf⟩ := ob_inv hf
      have hJ1060 : ∀ (H : Heap) (locs : List Loc) (ls : Array Slot), l_H G s H locs m33 → lv_has ls 23 [(0, .ref b), (1, .ref (G.2.2.1 0)), (2, .int x2), (3, .int x3), (4, .int x4), (5, .int x5), (6, .int x6), (8, .int x8), (9, .int z36), (10, .int x10), (11, .int x11)] → W p l e room_1 s m #[Value.ref b] below meth c H locs (kc + 8) (ks + 48) Q (F0 m 1060 ls [.int z42, .int x7]) := by
        intro H locs ls hW hl
        refine lv_iadd hx hb dL_law_1060 ?_
        obtain ⟨x43, h9, hf⟩ := ob_inv hf
        refine g_nmi (Option.some.inj h9) ?_
        refine lv_istore (lv' := [(7, .int x43), (0, .ref b), (1, .ref (G.2.2.1 0)), (2, .int x2), (3, .int x3), (4, .int x4), (5, .int x5), (6, .int x6), (8, .int x8), (9, .int z36), (10, .int x10), (11, .int x11)]) hx hb dL_law_1061 hl (by decide) rfl (fun ls hl => ?_)
        refine lv_goto (tgt := 1341) hx hb dL_law_1063 (by decide) ?_
        exact law_B1341 hC hst hK (kc2 := kc2) (ks2 := ks2) (by omega) (by omega) hk2 hs2 hf hW (lv_sub hl [1, 2, 3, 4, 5, 6, 7, 0, 8, 9, 10, 11] rfl) hE
      replace hf := hg
      refine lv_icmp_ne (tgt := 1059) hx hb dL_law_1052 (by decide) (fun c41 => ?_) (fun c41 => ?_)
      · have hf := a_if_f c41 hf
        refine lv_iconst (v := 1) hx hb dL_law_1059 (by decide) ?_
        cases hf
        refine W.widen (k := (kc + 8)) (n := (ks + 48)) (by omega) (by omega) ?_
        exact hJ1060 H locs ls hW (lv_sub hl [1, 2, 3, 4, 5, 6, 7, 9, 0, 10, 11] rfl)
      · have hf := a_if_t c41 hf
        refine lv_iconst (v := 0) hx hb dL_law_1055 (by decide) ?_
        refine lv_goto (tgt := 1060) hx hb dL_law_1056 (by decide) ?_
        cases hf
        refine W.widen (k := (kc + 8)) (n := (ks + 48)) (by omega) (by omega) ?_
        exact hJ1060 H locs ls hW (lv_sub hl [1, 2, 3, 4, 5, 6, 7, 9, 0, 10, 11] rfl)
    replace hf := hg
    refine lv_icmp_ne (tgt := 1032) hx hb dL_law_1005 (by decide) (fun c35 => ?_) (fun c35 => ?_)
    · have hf := a_if_f c35 hf
      refine lv_iload hx hb dL_law_1032 (lv_at hl 0 rfl) ?_
      refine lv_iload hx hb dL_law_1034 (lv_at hl 8 rfl) ?_
      refine lv_icmp_ne (tgt := 1043) hx hb dL_law_1036 (by decide) (fun c37 => ?_) (fun c37 => ?_)
      · have hf := a_if_f c37 hf
        refine lv_iconst (v := 0) hx hb dL_law_1043 (by decide) ?_
        cases hf
        refine W.widen (k := (kc + 8)) (n := (ks + 48)) (by omega) (by omega) ?_
        exact hJ1044 H locs ls hW (lv_sub hl [1, 2, 3, 4, 5, 6, 7, 8, 9, 11, 12, 0] rfl)
      · have hf := a_if_t c37 hf
        refine lv_iconst (v := 1) hx hb dL_law_1039 (by decide) ?_
        refine lv_goto (tgt := 1044) hx hb dL_law_1040 (by decide) ?_
        cases hf
        refine W.widen (k := (kc + 8)) (n := (ks + 48)) (by omega) (by omega) ?_
        exact hJ1044 H locs ls hW (lv_sub hl [1, 2, 3, 4, 5, 6, 7, 8, 9, 11, 12, 0] rfl)
    · have hf := a_if_t c35 hf
      refine lv_aload_n hx hb dL_law_1008 rfl (lv_at hl 2 rfl) ?_
      refine lv_iload hx hb dL_law_1009 (lv_at hl 15 rfl) ?_
      obtain ⟨r38, hg, hf⟩ := ot_inv hf
      refine l_cX hC hK hW (As := [.int x14]) (rest := []) (c0_X9_hasFailed l G hg) (cwV 1 hts tg_X9_hasFailed rfl rfl rfl (by decide +kernel) ⟨(Nat.le_of_ble_eq_true rfl), (Nat.le_of_ble_eq_true rfl)⟩) rfl hl.1 rfl (Nat.le_of_ble_eq_true rfl) dL_law_1011 ⟨by omega, by omega⟩ (fun H locs hW => ?_)
      refine lv_if_ne (tgt := 1024) hx hb dL_law_1014 (by decide) (fun c39 => ?_) (fun c39 => ?_)
      · have hf := a_if_f c39 hf
        refine lv_iconst (v := 1) hx hb dL_law_1024 (by decide) ?_
        refine lv_goto (tgt := 1044) hx hb dL_law_1025 (by decide) ?_
        cases hf
        refine W.widen (k := (kc + 8)) (n := (ks + 48)) (by omega) (by omega) ?_
        exact hJ1044 H locs ls hW (lv_sub hl [1, 2, 3, 4, 5, 6, 7, 8, 9, 11, 12, 0] rfl)
      · have hf := a_if_t c39 hf
        refine lv_iload hx hb dL_law_1017 (lv_at hl 8 rfl) ?_
        refine lv_bipush (v := 30) hx hb dL_law_1019 (by decide) ?_
        refine lv_icmp_ne (tgt := 1028) hx hb dL_law_1021 (by decide) (fun c40 => ?_) (fun c40 => ?_)
        · have hf := a_if_f c40 hf
          refine lv_iconst (v := 0) hx hb dL_law_1028 (by decide) ?_
          refine lv_goto (tgt := 1044) hx hb dL_law_1029 (by decide) ?_
          cases hf
          refine W.widen (k := (kc + 8)) (n := (ks + 48)) (by omega) (by omega) ?_
          exact hJ1044 H locs ls hW (lv_sub hl [1, 2, 3, 4, 5, 6, 7, 8, 9, 11, 12, 0] rfl)
        · have hf := a_if_t c40 hf
          refine lv_iconst (v := 1) hx hb dL_law_1024 (by decide) ?_
          refine lv_goto (tgt := 1044) hx hb dL_law_1025 (by decide) ?_
          cases hf
          refine W.widen (k := (kc + 8)) (n := (ks + 48)) (by omega) (by omega) ?_
          exact hJ1044 H locs ls hW (lv_sub hl [1, 2, 3, 4, 5, 6, 7, 8, 9, 11, 12, 0] rfl)
set_option maxHeartbeats 8000000 in
set_option maxRecDepth 100000 in
theorem law_B908 {p : Program} {l : Launch} {e : Env} {s : State} {m : MethodId} {below : List Frame} {meth : Method} {c : Code} {b : Nat} {Q : State → Prop} (hC : CallFix p m c cL_law 23 s #[Value.ref b] lw_tbl RL) (hst : l.stackTraces = false) {G : gG} (hK : l_K G s) {kc ks kc2 ks2 : Nat} (hk1 : kc + 8 ≤ kc2) (hs1 : ks + 48 ≤ ks2) (hk2 : kc2 ≤ 600074) (hs2 : ks2 ≤ 7301550) {x2 x3 x4 x5 x6 x7 x8 x9 x10 x11 x12 x13 x14 x15 x16 x17 x18 x19 : Int32} {me mf : gM} {y2 y3 y4 y5 y6 y7 y8 y9 : Int32} (hf : f_L_law_B908 x2 x3 x4 x5 x6 x7 x8 x9 x12 x13 x14 x15 x16 x17 x18 x19 me = some (y2, y3, y4, y5, y6, y7, y8, y9, mf)) {H : Heap} {locs : List Loc} {ls : Array Slot} (hW : l_H G s H locs me) (hl : lv_has ls 23 [(0, .ref b), (1, .ref (G.2.2.1 0)), (2, .int x2), (3, .int x3), (4, .int x4), (5, .int x5), (6, .int x6), (7, .int x7), (8, .int x8), (9, .int x9), (10, .int x10), (11, .int x11), (12, .int x12), (13, .int x13), (14, .int x14), (15, .int x15), (16, .int x16), (17, .int x17), (18, .int x18), (19, .int x19)]) (hE : ∀ (H : Heap) (locs : List Loc) (ls : Array Slot), l_H G s H locs mf → lv_has ls 23 [(0, .ref b), (1, .ref (G.2.2.1 0)), (2, .int y2), (3, .int y3), (4, .int y4), (5, .int y5), (6, .int y6), (7, .int y7), (8, .int y8), (9, .int y9), (10, .int x10), (11, .int x11)] → W p l e room_1 s m #[Value.ref b] below meth c H locs kc2 ks2 Q (F0 m 1361 ls [])) : W p l e room_1 s m #[Value.ref b] below meth c H locs kc ks Q (F0 m 908 ls []) := by
  have hR1 : room_1.cells = 600074 := rfl
  have hR2 : room_1.slots = 7301550 := rfl
  have hx := hC.1
  have hb := hC.2.1
  have hown := hC.2.2.2.1
  have hts := hC.2.2.2.2
  unfold f_L_law_B908 at hf
  refine lv_iload hx hb dL_law_908 (lv_at hl 13 rfl) ?_
  refine lv_bipush (v := 14) hx hb dL_law_910 (by decide) ?_
  refine lv_icmp_ge (tgt := 978) hx hb dL_law_912 (by decide) (fun c31 => ?_) (fun c31 => ?_)
  · have hf := a_if_t c31 hf
    exact law_B978 hC hst hK (kc2 := kc2) (ks2 := ks2) (by omega) (by omega) hk2 hs2 hf hW (lv_sub hl [0, 1, 2, 3, 4, 5, 6, 7, 8, 9, 10, 11, 12, 13, 14, 15, 16, 17, 18, 19] rfl) hE
  · have hf := a_if_f c31 hf
    refine lv_aload_n hx hb dL_law_915 rfl (lv_at hl 1 rfl) ?_
    obtain ⟨r32, hg, hf⟩ := ob_inv hf
    refine l_cX hC hK hW (As := []) (rest := []) (c_X9_day l G hg) (cwV 0 hts tg_X9_day rfl rfl rfl (by decide +kernel) ⟨(Nat.le_of_ble_eq_true rfl), (Nat.le_of_ble_eq_true rfl)⟩) rfl hl.1 rfl (Nat.le_of_ble_eq_true rfl) dL_law_916 ⟨by omega, by omega⟩ (fun H locs hW => ?_)
    refine lv_bipush (v := 9) hx hb dL_law_919 (by decide) ?_
    obtain ⟨⟨z34, m35⟩, hg, hf⟩ := ob_inv hf
    have hf := ob_inv2 hf
    have hJ947 : ∀ (H : Heap) (locs : List Loc) (ls : Array Slot), l_H G s H locs m35 → lv_has ls 23 [(0, .ref b), (1, .ref (G.2.2.1 0)), (2, .int x2), (3, .int x3), (4, .int x4), (5, .int x5), (6, .int x6), (7, .int x7), (8, .int x8), (10, .int x10), (11, .int x11)] → W p l e room_1 s m #[Value.ref b] below meth c H locs kc ks Q (F0 m 947 ls [.int z34]) := by
      intro H locs ls hW hl
      refine lv_istore (lv' := [(9, .int z34), (0, .ref b), (1, .ref (G.2.2.1 0)), (2, .int x2), (3, .int x3), (4, .int x4), (5, .int x5), (6, .int x6), (7, .int x7), (8, .int x8), (10, .int x10), (11, .int x11)]) hx hb dL_law_947 hl (by decide) rfl (fun ls hl => ?_)
      refine lv_iload hx hb dL_law_949 (lv_at hl 0 rfl) ?_
      refine lv_if_eq (tgt := 1341) hx hb dL_law_951 (by decide) (fun c43 => ?_) (fun c43 => ?_)
      · have hf := a_if_t c43 hf
        exact law_B1341 hC hst hK (kc2 := kc2) (ks2 := ks2) (by omega) (by omega) hk2 hs2 hf hW (lv_sub hl [1, 2, 3, 4, 5, 6, 7, 8, 9, 0, 10, 11] rfl) hE
      · have hf := a_if_f c43 hf
        refine lv_aload_n hx hb dL_law_954 rfl (lv_at hl 2 rfl) ?_
        obtain ⟨r44, hg, hf⟩ := ob_inv hf
        refine l_cX hC hK hW (As := []) (rest := []) (c_X9_phase l G hg) (cwV 0 hts tg_X9_phase rfl rfl rfl (by decide +kernel) ⟨(Nat.le_of_ble_eq_true rfl), (Nat.le_of_ble_eq_true rfl)⟩) rfl hl.1 rfl (Nat.le_of_ble_eq_true rfl) dL_law_955 ⟨by omega, by omega⟩ (fun H locs hW => ?_)
        refine lv_if_ne (tgt := 1341) hx hb dL_law_958 (by decide) (fun c45 => ?_) (fun c45 => ?_)
        · have hf := a_if_f c45 hf
          exact law_B1341 hC hst hK (kc2 := kc2) (ks2 := ks2) (by omega) (by omega) hk2 hs2 hf hW (lv_sub hl [1, 2, 3, 4, 5, 6, 7, 8, 9, 0, 10, 11] rfl) hE
        · have hf := a_if_t c45 hf
          refine lv_iconst (v := 0) hx hb dL_law_961 (by decide) ?_
          refine lv_istore_n (lv' := [(3, .int 0), (9, .int z34), (0, .ref b), (1, .ref (G.2.2.1 0)), (2, .int x2), (4, .int x4), (5, .int x5), (6, .int x6), (7, .int x7), (8, .int x8), (10, .int x10), (11, .int x11)]) hx hb dL_law_962 rfl hl (by decide) rfl (fun ls hl => ?_)
          refine lv_iconst (v := 0) hx hb dL_law_963 (by decide) ?_
          refine lv_istore (lv' := [(4, .int 0), (3, .int 0), (9, .int z34), (0, .ref b), (1, .ref (G.2.2.1 0)), (2, .int x2), (5, .int x5), (6, .int x6), (7, .int x7), (8, .int x8), (10, .int x10), (11, .int x11)]) hx hb dL_law_964 hl (by decide) rfl (fun ls hl => ?_)
          refine lv_iconst (v := 0) hx hb dL_law_966 (by decide) ?_
          refine lv_istore (lv' := [(5, .int 0), (4, .int 0), (3, .int 0), (9, .int z34), (0, .ref b), (1, .ref (G.2.2.1 0)), (2, .int x2), (6, .int x6), (7, .int x7), (8, .int x8), (10, .int x10), (11, .int x11)]) hx hb dL_law_967 hl (by decide) rfl (fun ls hl => ?_)
          refine lv_iconst (v := 0) hx hb dL_law_969 (by decide) ?_
          refine lv_istore (lv' := [(6, .int 0), (5, .int 0), (4, .int 0), (3, .int 0), (9, .int z34), (0, .ref b), (1, .ref (G.2.2.1 0)), (2, .int x2), (7, .int x7), (8, .int x8), (10, .int x10), (11, .int x11)]) hx hb dL_law_970 hl (by decide) rfl (fun ls hl => ?_)
          refine lv_iconst (v := 0) hx hb dL_law_972 (by decide) ?_
          refine lv_istore (lv' := [(7, .int 0), (6, .int 0), (5, .int 0), (4, .int 0), (3, .int 0), (9, .int z34), (0, .ref b), (1, .ref (G.2.2.1 0)), (2, .int x2), (8, .int x8), (10, .int x10), (11, .int x11)]) hx hb dL_law_973 hl (by decide) rfl (fun ls hl => ?_)
          refine lv_goto (tgt := 1341) hx hb dL_law_975 (by decide) ?_
          exact law_B1341 hC hst hK (kc2 := kc2) (ks2 := ks2) (by omega) (by omega) hk2 hs2 hf hW (lv_sub hl [6, 7, 8, 4, 3, 2, 1, 0, 9, 5, 10, 11] rfl) hE
    replace hf := hg
    refine lv_icmp_eq (tgt := 942) hx hb dL_law_921 (by decide) (fun c33 => ?_) (fun c33 => ?_)
    · have hf := a_if_t c33 hf
      refine lv_iconst (v := 1) hx hb dL_law_942 (by decide) ?_
      refine lv_goto (tgt := 947) hx hb dL_law_943 (by decide) ?_
      cases hf
      refine W.widen (k := kc) (n := ks) (by omega) (by omega) ?_
      exact hJ947 H locs ls hW (lv_sub hl [0, 1, 2, 3, 4, 5, 6, 7, 8, 10, 11] rfl)
    · have hf := a_if_f c33 hf
      refine lv_aload_n hx hb dL_law_924 rfl (lv_at hl 1 rfl) ?_
      obtain ⟨⟨r36, m37⟩, hg, hf⟩ := ot_inv hf
      have hf := ob_inv2 hf
      refine l_cX hC hK hW (As := []) (rest := []) (c0_X9_close l G hg) (cwV 0 hts tg_X9_close rfl rfl rfl (by decide +kernel) ⟨(Nat.le_of_ble_eq_true rfl), (Nat.le_of_ble_eq_true rfl)⟩) rfl hl.1 rfl (Nat.le_of_ble_eq_true rfl) dL_law_925 ⟨by omega, by omega⟩ (fun H locs hW => ?_)
      refine lv_aload_n hx hb dL_law_928 rfl (lv_at hl 1 rfl) ?_
      obtain ⟨r39, hg, hf⟩ := ob_inv hf
      refine l_cX hC hK hW (As := []) (rest := [.int r36]) (c_X9_day l G hg) (cwV 0 hts tg_X9_day rfl rfl rfl (by decide +kernel) ⟨(Nat.le_of_ble_eq_true rfl), (Nat.le_of_ble_eq_true rfl)⟩) rfl hl.1 rfl (Nat.le_of_ble_eq_true rfl) dL_law_929 ⟨by omega, by omega⟩ (fun H locs hW => ?_)
      refine lv_icmp_ne (tgt := 946) hx hb dL_law_932 (by decide) (fun c40 => ?_) (fun c40 => ?_)
      · have hf := a_if_f c40 hf
        refine lv_iconst (v := 0) hx hb dL_law_946 (by decide) ?_
        cases hf
        refine W.widen (k := kc) (n := ks) (by omega) (by omega) ?_
        exact hJ947 H locs ls hW (lv_sub hl [0, 1, 2, 3, 4, 5, 6, 7, 8, 10, 11] rfl)
      · have hf := a_if_t c40 hf
        refine lv_aload_n hx hb dL_law_935 rfl (lv_at hl 1 rfl) ?_
        obtain ⟨r41, hg, hf⟩ := ob_inv hf
        refine l_cX hC hK hW (As := []) (rest := []) (c_X9_phase l G hg) (cwV 0 hts tg_X9_phase rfl rfl rfl (by decide +kernel) ⟨(Nat.le_of_ble_eq_true rfl), (Nat.le_of_ble_eq_true rfl)⟩) rfl hl.1 rfl (Nat.le_of_ble_eq_true rfl) dL_law_936 ⟨by omega, by omega⟩ (fun H locs hW => ?_)
        refine lv_if_ne (tgt := 946) hx hb dL_law_939 (by decide) (fun c42 => ?_) (fun c42 => ?_)
        · have hf := a_if_f c42 hf
          refine lv_iconst (v := 0) hx hb dL_law_946 (by decide) ?_
          cases hf
          refine W.widen (k := kc) (n := ks) (by omega) (by omega) ?_
          exact hJ947 H locs ls hW (lv_sub hl [0, 1, 2, 3, 4, 5, 6, 7, 8, 10, 11] rfl)
        · have hf := a_if_t c42 hf
          refine lv_iconst (v := 1) hx hb dL_law_942 (by decide) ?_
          refine lv_goto (tgt := 947) hx hb dL_law_943 (by decide) ?_
          cases hf
          refine W.widen (k := kc) (n := ks) (by omega) (by omega) ?_
          exact hJ947 H locs ls hW (lv_sub hl [0, 1, 2, 3, 4, 5, 6, 7, 8, 10, 11] rfl)
set_option maxHeartbeats 8000000 in
set_option maxRecDepth 100000 in
theorem law_B775 {p : Program} {l : Launch} {e : Env} {s : State} {m : MethodId} {below : List Frame} {meth : Method} {c : Code} {b : Nat} {Q : State → Prop} (hC : CallFix p m c cL_law 23 s #[Value.ref b] lw_tbl RL) (hst : l.stackTraces = false) {G : gG} (hK : l_K G s) {kc ks kc2 ks2 : Nat} (hk1 : kc + 8 ≤ kc2) (hs1 : ks + 48 ≤ ks2) (hk2 : kc2 ≤ 600074) (hs2 : ks2 ≤ 7301550) {x2 x3 x4 x5 x6 x7 x8 x9 x10 x11 x12 x13 x14 x15 x16 x17 x18 x19 : Int32} {me mf : gM} {y2 y3 y4 y5 y6 y7 y8 y9 : Int32} (hf : f_L_law_B775 x2 x3 x4 x5 x6 x7 x8 x9 x12 x13 x14 x15 x16 x17 x18 x19 me = some (y2, y3, y4, y5, y6, y7, y8, y9, mf)) {H : Heap} {locs : List Loc} {ls : Array Slot} (hW : l_H G s H locs me) (hl : lv_has ls 23 [(0, .ref b), (1, .ref (G.2.2.1 0)), (2, .int x2), (3, .int x3), (4, .int x4), (5, .int x5), (6, .int x6), (7, .int x7), (8, .int x8), (9, .int x9), (10, .int x10), (11, .int x11), (12, .int x12), (13, .int x13), (14, .int x14), (15, .int x15), (16, .int x16), (17, .int x17), (18, .int x18), (19, .int x19)]) (hE : ∀ (H : Heap) (locs : List Loc) (ls : Array Slot), l_H G s H locs mf → lv_has ls 23 [(0, .ref b), (1, .ref (G.2.2.1 0)), (2, .int y2), (3, .int y3), (4, .int y4), (5, .int y5), (6, .int y6), (7, .int y7), (8, .int y8), (9, .int y9), (10, .int x10), (11, .int x11)] → W p l e room_1 s m #[Value.ref b] below meth c H locs kc2 ks2 Q (F0 m 1361 ls [])) : W p l e room_1 s m #[Value.ref b] below meth c H locs kc ks Q (F0 m 775 ls []) := by
  have hR1 : room_1.cells = 600074 := rfl
  have hR2 : room_1.slots = 7301550 := rfl
  have hx := hC.1
  have hb := hC.2.1
  have hown := hC.2.2.2.1
  have hts := hC.2.2.2.2
  unfold f_L_law_B775 at hf
  refine lv_iload hx hb dL_law_775 (lv_at hl 13 rfl) ?_
  refine lv_bipush (v := 12) hx hb dL_law_777 (by decide) ?_
  refine lv_icmp_ge (tgt := 908) hx hb dL_law_779 (by decide) (fun c31 => ?_) (fun c31 => ?_)
  · have hf := a_if_t c31 hf
    exact law_B908 hC hst hK (kc2 := kc2) (ks2 := ks2) (by omega) (by omega) hk2 hs2 hf hW (lv_sub hl [0, 1, 2, 3, 4, 5, 6, 7, 8, 9, 10, 11, 12, 13, 14, 15, 16, 17, 18, 19] rfl) hE
  · have hf := a_if_f c31 hf
    refine lv_aload_n hx hb dL_law_782 rfl (lv_at hl 1 rfl) ?_
    refine lv_iload hx hb dL_law_783 (lv_at hl 14 rfl) ?_
    refine lv_iload hx hb dL_law_785 (lv_at hl 15 rfl) ?_
    refine lv_iload hx hb dL_law_787 (lv_at hl 16 rfl) ?_
    refine lv_iload hx hb dL_law_789 (lv_at hl 19 rfl) ?_
    refine lv_iload hx hb dL_law_791 (lv_at hl 17 rfl) ?_
    refine lv_iload hx hb dL_law_793 (lv_at hl 18 rfl) ?_
    obtain ⟨⟨r32, m33⟩, hg, hf⟩ := ob_inv hf
    have hf := ob_inv2 hf
    refine l_cC hC hK hW (As := [.ref (G.2.2.1 0), .int x14, .int x15, .int x16, .int x19, .int x17, .int x18]) (rest := []) (c_L_offer l G hst hg) (vx_cwSW 7 hts tg_L_offer rfl rfl rfl (by decide +kernel) ⟨(Nat.le_of_ble_eq_true rfl), (Nat.le_of_ble_eq_true rfl)⟩) rfl hl.1 rfl (Nat.le_of_ble_eq_true rfl) dL_law_795 ⟨by omega, by omega⟩ (fun H locs hW => ?_)
    refine W.widen (k := (kc + 8)) (n := (ks + 48)) (by omega) (by omega) ?_
    refine lv_istore (lv' := [(20, .int r32), (0, .ref b), (1, .ref (G.2.2.1 0)), (2, .int x2), (3, .int x3), (4, .int x4), (5, .int x5), (6, .int x6), (7, .int x7), (8, .int x8), (9, .int x9), (10, .int x10), (11, .int x11), (12, .int x12), (13, .int x13), (14, .int x14), (15, .int x15), (16, .int x16), (17, .int x17), (18, .int x18), (19, .int x19)]) hx hb dL_law_798 hl (by decide) rfl (fun ls hl => ?_)
    refine lv_iload hx hb dL_law_800 (lv_at hl 0 rfl) ?_
    refine lv_bipush (v := (-9)) hx hb dL_law_802 (by decide) ?_
    obtain ⟨z36, hg, hf⟩ := ob_inv hf
    have hJ863 : ∀ (H : Heap) (locs : List Loc) (ls : Array Slot), l_H G s H locs m33 → lv_has ls 23 [(0, .ref b), (1, .ref (G.2.2.1 0)), (2, .int x2), (3, .int x3), (4, .int x4), (5, .int x5), (6, .int x6), (7, .int x7), (8, .int x8), (10, .int x10), (11, .int x11), (20, .int r32)] → W p l e room_1 s m #[Value.ref b] below meth c H locs (kc + 8) (ks + 48) Q (F0 m 863 ls [.int z36]) := by
      intro H locs ls hW hl
      refine lv_istore (lv' := [(9, .int z36), (0, .ref b), (1, .ref (G.2.2.1 0)), (2, .int x2), (3, .int x3), (4, .int x4), (5, .int x5), (6, .int x6), (7, .int x7), (8, .int x8), (10, .int x10), (11, .int x11), (20, .int r32)]) hx hb dL_law_863 hl (by decide) rfl (fun ls hl => ?_)
      refine lv_iload hx hb dL_law_865 (lv_at hl 7 rfl) ?_
      refine lv_iload hx hb dL_law_867 (lv_at hl 12 rfl) ?_
      refine lv_bipush (v := (-9)) hx hb dL_law_869 (by decide) ?_
      obtain ⟨z46, hg, hf⟩ := ob_inv hf
      have hJ879 : ∀ (H : Heap) (locs : List Loc) (ls : Array Slot), l_H G s H locs m33 → lv_has ls 23 [(0, .ref b), (1, .ref (G.2.2.1 0)), (2, .int x2), (3, .int x3), (4, .int x4), (5, .int x5), (7, .int x7), (8, .int x8), (9, .int z36), (10, .int x10), (11, .int x11)] → W p l e room_1 s m #[Value.ref b] below meth c H locs (kc + 8) (ks + 48) Q (F0 m 879 ls [.int z46, .int x6]) := by
        intro H locs ls hW hl
        refine lv_iadd hx hb dL_law_879 ?_
        obtain ⟨x47, h9, hf⟩ := ob_inv hf
        refine g_nmi (Option.some.inj h9) ?_
        refine lv_istore (lv' := [(6, .int x47), (0, .ref b), (1, .ref (G.2.2.1 0)), (2, .int x2), (3, .int x3), (4, .int x4), (5, .int x5), (7, .int x7), (8, .int x8), (9, .int z36), (10, .int x10), (11, .int x11)]) hx hb dL_law_880 hl (by decide) rfl (fun ls hl => ?_)
        refine lv_iload hx hb dL_law_882 (lv_at hl 9 rfl) ?_
        obtain ⟨z49, hg, hf⟩ := ob_inv hf
        have hJ903 : ∀ (H : Heap) (locs : List Loc) (ls : Array Slot), l_H G s H locs m33 → lv_has ls 23 [(0, .ref b), (1, .ref (G.2.2.1 0)), (2, .int x2), (3, .int x3), (4, .int x4), (5, .int x5), (6, .int x47), (7, .int x7), (8, .int x8), (10, .int x10), (11, .int x11)] → W p l e room_1 s m #[Value.ref b] below meth c H locs (kc + 8) (ks + 48) Q (F0 m 903 ls [.int z49]) := by
          intro H locs ls hW hl
          refine lv_istore (lv' := [(9, .int z49), (0, .ref b), (1, .ref (G.2.2.1 0)), (2, .int x2), (3, .int x3), (4, .int x4), (5, .int x5), (6, .int x47), (7, .int x7), (8, .int x8), (10, .int x10), (11, .int x11)]) hx hb dL_law_903 hl (by decide) rfl (fun ls hl => ?_)
          refine lv_goto (tgt := 1341) hx hb dL_law_905 (by decide) ?_
          exact law_B1341 hC hst hK (kc2 := kc2) (ks2 := ks2) (by omega) (by omega) hk2 hs2 hf hW (lv_sub hl [1, 2, 3, 4, 5, 6, 7, 8, 9, 0, 10, 11] rfl) hE
        replace hf := hg
        refine lv_if_eq (tgt := 902) hx hb dL_law_884 (by decide) (fun c48 => ?_) (fun c48 => ?_)
        · have hf := a_if_t c48 hf
          refine lv_iconst (v := 0) hx hb dL_law_902 (by decide) ?_
          cases hf
          refine W.widen (k := (kc + 8)) (n := (ks + 48)) (by omega) (by omega) ?_
          exact hJ903 H locs ls hW (lv_sub hl [1, 2, 3, 4, 5, 6, 0, 7, 8, 10, 11] rfl)
        · have hf := a_if_f c48 hf
          refine lv_aload_n hx hb dL_law_887 rfl (lv_at hl 2 rfl) ?_
          refine lv_iload hx hb dL_law_888 (lv_at hl 8 rfl) ?_
          refine lv_iload hx hb dL_law_890 (lv_at hl 5 rfl) ?_
          obtain ⟨r50, hg, hf⟩ := ob_inv hf
          refine l_cS hC hK hW (As := [.ref (G.2.2.1 0), .int x8, .int x4]) (rest := []) (c_L_cleared l G hg) (va_cwS 3 hts tg_L_cleared rfl rfl rfl (by decide +kernel) ⟨(Nat.le_of_ble_eq_true rfl), (Nat.le_of_ble_eq_true rfl)⟩) rfl hl.1 rfl (Nat.le_of_ble_eq_true rfl) dL_law_892 ⟨by omega, by omega⟩ (fun H locs hW => ?_)
          refine lv_if_eq (tgt := 902) hx hb dL_law_895 (by decide) (fun c51 => ?_) (fun c51 => ?_)
          · have hf := a_if_t c51 hf
            refine lv_iconst (v := 0) hx hb dL_law_902 (by decide) ?_
            cases hf
            refine W.widen (k := (kc + 8)) (n := (ks + 48)) (by omega) (by omega) ?_
            exact hJ903 H locs ls hW (lv_sub hl [1, 2, 3, 4, 5, 6, 0, 7, 8, 10, 11] rfl)
          · have hf := a_if_f c51 hf
            refine lv_iconst (v := 1) hx hb dL_law_898 (by decide) ?_
            refine lv_goto (tgt := 903) hx hb dL_law_899 (by decide) ?_
            cases hf
            refine W.widen (k := (kc + 8)) (n := (ks + 48)) (by omega) (by omega) ?_
            exact hJ903 H locs ls hW (lv_sub hl [1, 2, 3, 4, 5, 6, 0, 7, 8, 10, 11] rfl)
      replace hf := hg
      refine lv_icmp_ne (tgt := 878) hx hb dL_law_871 (by decide) (fun c45 => ?_) (fun c45 => ?_)
      · have hf := a_if_f c45 hf
        refine lv_iconst (v := 1) hx hb dL_law_878 (by decide) ?_
        cases hf
        refine W.widen (k := (kc + 8)) (n := (ks + 48)) (by omega) (by omega) ?_
        exact hJ879 H locs ls hW (lv_sub hl [1, 2, 3, 4, 5, 6, 8, 9, 0, 10, 11] rfl)
      · have hf := a_if_t c45 hf
        refine lv_iconst (v := 0) hx hb dL_law_874 (by decide) ?_
        refine lv_goto (tgt := 879) hx hb dL_law_875 (by decide) ?_
        cases hf
        refine W.widen (k := (kc + 8)) (n := (ks + 48)) (by omega) (by omega) ?_
        exact hJ879 H locs ls hW (lv_sub hl [1, 2, 3, 4, 5, 6, 8, 9, 0, 10, 11] rfl)
    replace hf := hg
    refine lv_icmp_ne (tgt := 831) hx hb dL_law_804 (by decide) (fun c35 => ?_) (fun c35 => ?_)
    · have hf := a_if_f c35 hf
      refine lv_iload hx hb dL_law_831 (lv_at hl 0 rfl) ?_
      refine lv_iload hx hb dL_law_833 (lv_at hl 7 rfl) ?_
      refine lv_icmp_ne (tgt := 862) hx hb dL_law_835 (by decide) (fun c37 => ?_) (fun c37 => ?_)
      · have hf := a_if_f c37 hf
        refine lv_iconst (v := 0) hx hb dL_law_862 (by decide) ?_
        cases hf
        refine W.widen (k := (kc + 8)) (n := (ks + 48)) (by omega) (by omega) ?_
        exact hJ863 H locs ls hW (lv_sub hl [1, 2, 3, 4, 5, 6, 7, 8, 9, 11, 12, 0] rfl)
      · have hf := a_if_t c37 hf
        refine lv_aload_n hx hb dL_law_838 rfl (lv_at hl 2 rfl) ?_
        refine lv_iload hx hb dL_law_839 (lv_at hl 0 rfl) ?_
        obtain ⟨r38, hg, hf⟩ := ot_inv hf
        refine l_cX hC hK hW (As := [.int r32]) (rest := []) (c0_X9_left l G hg) (cwV 1 hts tg_X9_left rfl rfl rfl (by decide +kernel) ⟨(Nat.le_of_ble_eq_true rfl), (Nat.le_of_ble_eq_true rfl)⟩) rfl hl.1 rfl (Nat.le_of_ble_eq_true rfl) dL_law_841 ⟨by omega, by omega⟩ (fun H locs hW => ?_)
        refine lv_if_lt (tgt := 862) hx hb dL_law_844 (by decide) (fun c39 => ?_) (fun c39 => ?_)
        · have hf := a_if_t c39 hf
          refine lv_iconst (v := 0) hx hb dL_law_862 (by decide) ?_
          cases hf
          refine W.widen (k := (kc + 8)) (n := (ks + 48)) (by omega) (by omega) ?_
          exact hJ863 H locs ls hW (lv_sub hl [1, 2, 3, 4, 5, 6, 7, 8, 9, 11, 12, 0] rfl)
        · have hf := a_if_f c39 hf
          refine lv_aload_n hx hb dL_law_847 rfl (lv_at hl 2 rfl) ?_
          refine lv_iload hx hb dL_law_848 (lv_at hl 0 rfl) ?_
          obtain ⟨r40, hg, hf⟩ := ot_inv hf
          refine l_cX hC hK hW (As := [.int r32]) (rest := []) (c0_X9_left l G hg) (cwV 1 hts tg_X9_left rfl rfl rfl (by decide +kernel) ⟨(Nat.le_of_ble_eq_true rfl), (Nat.le_of_ble_eq_true rfl)⟩) rfl hl.1 rfl (Nat.le_of_ble_eq_true rfl) dL_law_850 ⟨by omega, by omega⟩ (fun H locs hW => ?_)
          refine lv_iload hx hb dL_law_853 (lv_at hl 19 rfl) ?_
          refine lv_icmp_gt (tgt := 862) hx hb dL_law_855 (by decide) (fun c41 => ?_) (fun c41 => ?_)
          · have hf := a_if_t c41 hf
            refine lv_iconst (v := 0) hx hb dL_law_862 (by decide) ?_
            cases hf
            refine W.widen (k := (kc + 8)) (n := (ks + 48)) (by omega) (by omega) ?_
            exact hJ863 H locs ls hW (lv_sub hl [1, 2, 3, 4, 5, 6, 7, 8, 9, 11, 12, 0] rfl)
          · have hf := a_if_f c41 hf
            refine lv_iconst (v := 1) hx hb dL_law_858 (by decide) ?_
            refine lv_goto (tgt := 863) hx hb dL_law_859 (by decide) ?_
            cases hf
            refine W.widen (k := (kc + 8)) (n := (ks + 48)) (by omega) (by omega) ?_
            exact hJ863 H locs ls hW (lv_sub hl [1, 2, 3, 4, 5, 6, 7, 8, 9, 11, 12, 0] rfl)
    · have hf := a_if_t c35 hf
      refine lv_aload_n hx hb dL_law_807 rfl (lv_at hl 2 rfl) ?_
      refine lv_iload hx hb dL_law_808 (lv_at hl 15 rfl) ?_
      obtain ⟨r42, hg, hf⟩ := ot_inv hf
      refine l_cX hC hK hW (As := [.int x14]) (rest := []) (c0_X9_hasFailed l G hg) (cwV 1 hts tg_X9_hasFailed rfl rfl rfl (by decide +kernel) ⟨(Nat.le_of_ble_eq_true rfl), (Nat.le_of_ble_eq_true rfl)⟩) rfl hl.1 rfl (Nat.le_of_ble_eq_true rfl) dL_law_810 ⟨by omega, by omega⟩ (fun H locs hW => ?_)
      refine lv_if_ne (tgt := 823) hx hb dL_law_813 (by decide) (fun c43 => ?_) (fun c43 => ?_)
      · have hf := a_if_f c43 hf
        refine lv_iconst (v := 1) hx hb dL_law_823 (by decide) ?_
        refine lv_goto (tgt := 863) hx hb dL_law_824 (by decide) ?_
        cases hf
        refine W.widen (k := (kc + 8)) (n := (ks + 48)) (by omega) (by omega) ?_
        exact hJ863 H locs ls hW (lv_sub hl [1, 2, 3, 4, 5, 6, 7, 8, 9, 11, 12, 0] rfl)
      · have hf := a_if_t c43 hf
        refine lv_iload hx hb dL_law_816 (lv_at hl 7 rfl) ?_
        refine lv_bipush (v := 60) hx hb dL_law_818 (by decide) ?_
        refine lv_icmp_ne (tgt := 827) hx hb dL_law_820 (by decide) (fun c44 => ?_) (fun c44 => ?_)
        · have hf := a_if_f c44 hf
          refine lv_iconst (v := 0) hx hb dL_law_827 (by decide) ?_
          refine lv_goto (tgt := 863) hx hb dL_law_828 (by decide) ?_
          cases hf
          refine W.widen (k := (kc + 8)) (n := (ks + 48)) (by omega) (by omega) ?_
          exact hJ863 H locs ls hW (lv_sub hl [1, 2, 3, 4, 5, 6, 7, 8, 9, 11, 12, 0] rfl)
        · have hf := a_if_t c44 hf
          refine lv_iconst (v := 1) hx hb dL_law_823 (by decide) ?_
          refine lv_goto (tgt := 863) hx hb dL_law_824 (by decide) ?_
          cases hf
          refine W.widen (k := (kc + 8)) (n := (ks + 48)) (by omega) (by omega) ?_
          exact hJ863 H locs ls hW (lv_sub hl [1, 2, 3, 4, 5, 6, 7, 8, 9, 11, 12, 0] rfl)
set_option maxHeartbeats 8000000 in
set_option maxRecDepth 100000 in
theorem law_B664 {p : Program} {l : Launch} {e : Env} {s : State} {m : MethodId} {below : List Frame} {meth : Method} {c : Code} {b : Nat} {Q : State → Prop} (hC : CallFix p m c cL_law 23 s #[Value.ref b] lw_tbl RL) (hst : l.stackTraces = false) {G : gG} (hK : l_K G s) {kc ks kc2 ks2 : Nat} (hk1 : kc + 8 ≤ kc2) (hs1 : ks + 48 ≤ ks2) (hk2 : kc2 ≤ 600074) (hs2 : ks2 ≤ 7301550) {x2 x3 x4 x5 x6 x7 x8 x9 x10 x11 x12 x13 x14 x15 x16 x17 x18 x19 : Int32} {me mf : gM} {y2 y3 y4 y5 y6 y7 y8 y9 : Int32} (hf : f_L_law_B664 x2 x3 x4 x5 x6 x7 x8 x9 x12 x13 x14 x15 x16 x17 x18 x19 me = some (y2, y3, y4, y5, y6, y7, y8, y9, mf)) {H : Heap} {locs : List Loc} {ls : Array Slot} (hW : l_H G s H locs me) (hl : lv_has ls 23 [(0, .ref b), (1, .ref (G.2.2.1 0)), (2, .int x2), (3, .int x3), (4, .int x4), (5, .int x5), (6, .int x6), (7, .int x7), (8, .int x8), (9, .int x9), (10, .int x10), (11, .int x11), (12, .int x12), (13, .int x13), (14, .int x14), (15, .int x15), (16, .int x16), (17, .int x17), (18, .int x18), (19, .int x19)]) (hE : ∀ (H : Heap) (locs : List Loc) (ls : Array Slot), l_H G s H locs mf → lv_has ls 23 [(0, .ref b), (1, .ref (G.2.2.1 0)), (2, .int y2), (3, .int y3), (4, .int y4), (5, .int y5), (6, .int y6), (7, .int y7), (8, .int y8), (9, .int y9), (10, .int x10), (11, .int x11)] → W p l e room_1 s m #[Value.ref b] below meth c H locs kc2 ks2 Q (F0 m 1361 ls [])) : W p l e room_1 s m #[Value.ref b] below meth c H locs kc ks Q (F0 m 664 ls []) := by
  have hR1 : room_1.cells = 600074 := rfl
  have hR2 : room_1.slots = 7301550 := rfl
  have hx := hC.1
  have hb := hC.2.1
  have hown := hC.2.2.2.1
  have hts := hC.2.2.2.2
  unfold f_L_law_B664 at hf
  refine lv_iload hx hb dL_law_664 (lv_at hl 13 rfl) ?_
  refine lv_bipush (v := 14) hx hb dL_law_666 (by decide) ?_
  refine lv_icmp_ge (tgt := 775) hx hb dL_law_668 (by decide) (fun c31 => ?_) (fun c31 => ?_)
  · have hf := a_if_t c31 hf
    exact law_B775 hC hst hK (kc2 := kc2) (ks2 := ks2) (by omega) (by omega) hk2 hs2 hf hW (lv_sub hl [0, 1, 2, 3, 4, 5, 6, 7, 8, 9, 10, 11, 12, 13, 14, 15, 16, 17, 18, 19] rfl) hE
  · have hf := a_if_f c31 hf
    refine lv_aload_n hx hb dL_law_671 rfl (lv_at hl 1 rfl) ?_
    obtain ⟨r32, hg, hf⟩ := ob_inv hf
    refine l_cX hC hK hW (As := []) (rest := []) (c_X9_phase l G hg) (cwV 0 hts tg_X9_phase rfl rfl rfl (by decide +kernel) ⟨(Nat.le_of_ble_eq_true rfl), (Nat.le_of_ble_eq_true rfl)⟩) rfl hl.1 rfl (Nat.le_of_ble_eq_true rfl) dL_law_672 ⟨by omega, by omega⟩ (fun H locs hW => ?_)
    refine lv_if_ne (tgt := 775) hx hb dL_law_675 (by decide) (fun c33 => ?_) (fun c33 => ?_)
    · have hf := a_if_f c33 hf
      exact law_B775 hC hst hK (kc2 := kc2) (ks2 := ks2) (by omega) (by omega) hk2 hs2 hf hW (lv_sub hl [0, 1, 2, 3, 4, 5, 6, 7, 8, 9, 10, 11, 12, 13, 14, 15, 16, 17, 18, 19] rfl) hE
    · have hf := a_if_t c33 hf
      refine lv_aload_n hx hb dL_law_678 rfl (lv_at hl 1 rfl) ?_
      obtain ⟨⟨r34, m35⟩, hg, hf⟩ := ot_inv hf
      have hf := ob_inv2 hf
      refine l_cX hC hK hW (As := []) (rest := []) (c0_X9_clear l G hg) (cwV 0 hts tg_X9_clear rfl rfl rfl (by decide +kernel) ⟨(Nat.le_of_ble_eq_true rfl), (Nat.le_of_ble_eq_true rfl)⟩) rfl hl.1 rfl (Nat.le_of_ble_eq_true rfl) dL_law_679 ⟨by omega, by omega⟩ (fun H locs hW => ?_)
      refine lv_istore (lv' := [(20, .int r34), (0, .ref b), (1, .ref (G.2.2.1 0)), (2, .int x2), (3, .int x3), (4, .int x4), (5, .int x5), (6, .int x6), (7, .int x7), (8, .int x8), (9, .int x9), (10, .int x10), (11, .int x11), (12, .int x12), (13, .int x13), (14, .int x14), (15, .int x15), (16, .int x16), (17, .int x17), (18, .int x18), (19, .int x19)]) hx hb dL_law_682 hl (by decide) rfl (fun ls hl => ?_)
      refine lv_iload hx hb dL_law_684 (lv_at hl 0 rfl) ?_
      obtain ⟨z38, hg, hf⟩ := ob_inv hf
      have hJ722 : ∀ (H : Heap) (locs : List Loc) (ls : Array Slot), l_H G s H locs m35 → lv_has ls 23 [(0, .ref b), (1, .ref (G.2.2.1 0)), (2, .int x2), (3, .int x3), (4, .int x4), (5, .int x5), (6, .int x6), (7, .int x7), (8, .int x8), (10, .int x10), (11, .int x11)] → W p l e room_1 s m #[Value.ref b] below meth c H locs kc ks Q (F0 m 722 ls [.int z38]) := by
        intro H locs ls hW hl
        refine lv_istore (lv' := [(9, .int z38), (0, .ref b), (1, .ref (G.2.2.1 0)), (2, .int x2), (3, .int x3), (4, .int x4), (5, .int x5), (6, .int x6), (7, .int x7), (8, .int x8), (10, .int x10), (11, .int x11)]) hx hb dL_law_722 hl (by decide) rfl (fun ls hl => ?_)
        refine lv_iconst (v := 0) hx hb dL_law_724 (by decide) ?_
        refine lv_istore (lv' := [(21, .int 0), (9, .int z38), (0, .ref b), (1, .ref (G.2.2.1 0)), (2, .int x2), (3, .int x3), (4, .int x4), (5, .int x5), (6, .int x6), (7, .int x7), (8, .int x8), (10, .int x10), (11, .int x11)]) hx hb dL_law_725 hl (by decide) rfl (fun ls hl => ?_)
        have hL727 : ∀ (n : Nat) (x45 : Int32) (x46 : Int32) (y47 : Int32) (y48 : Int32) (H : Heap) (locs : List Loc) (ls : Array Slot), f_L_law_L727 m35 x5 x8 n x45 x46 = some (y47, y48) → l_H G s H locs m35 → lv_has ls 23 [(0, .ref b), (1, .ref (G.2.2.1 0)), (2, .int x2), (3, .int x3), (4, .int x4), (5, .int x5), (6, .int x6), (7, .int x7), (8, .int x8), (9, .int x45), (10, .int x10), (11, .int x11), (21, .int x46)] → (∀ (H : Heap) (locs : List Loc) (ls : Array Slot), l_H G s H locs m35 → lv_has ls 23 [(0, .ref b), (1, .ref (G.2.2.1 0)), (2, .int x2), (3, .int x3), (4, .int x4), (5, .int x5), (6, .int x6), (7, .int x7), (8, .int x8), (9, .int y47), (10, .int x10), (11, .int x11)] → W p l e room_1 s m #[Value.ref b] below meth c H locs kc ks Q (F0 m 772 ls [])) → W p l e room_1 s m #[Value.ref b] below meth c H locs kc ks Q (F0 m 727 ls []) := by
          intro n
          induction n with
          | zero =>
            intro x45 x46 y47 y48 H locs ls hf hW hl hE
            cases hf
          | succ n ih =>
            intro x45 x46 y47 y48 H locs ls hf hW hl hE
            rw [f_L_law_L727] at hf
            refine lv_iload hx hb dL_law_727 (lv_at hl 12 rfl) ?_
            refine lv_iload hx hb dL_law_729 (lv_at hl 5 rfl) ?_
            refine lv_icmp_ge (tgt := 772) hx hb dL_law_731 (by decide) (fun c49 => ?_) (fun c49 => ?_)
            · have hf := a_if_t c49 hf
              cases hf
              exact hE H locs ls hW (lv_sub hl [0, 1, 2, 3, 4, 5, 6, 7, 8, 9, 10, 11] rfl)
            · have hf := a_if_f c49 hf
              refine lv_iload hx hb dL_law_734 (lv_at hl 9 rfl) ?_
              refine lv_if_eq (tgt := 772) hx hb dL_law_736 (by decide) (fun c50 => ?_) (fun c50 => ?_)
              · have hf := a_if_t c50 hf
                cases hf
                exact hE H locs ls hW (lv_sub hl [0, 1, 2, 3, 4, 5, 6, 7, 8, 9, 10, 11] rfl)
              · have hf := a_if_f c50 hf
                refine lv_aload_n hx hb dL_law_739 rfl (lv_at hl 1 rfl) ?_
                refine lv_iload hx hb dL_law_740 (lv_at hl 12 rfl) ?_
                obtain ⟨r51, hg, hf⟩ := ot_inv hf
                refine l_cX hC hK hW (As := [.int x46]) (rest := []) (c0_X9_given l G hg) (cwV 1 hts tg_X9_given rfl rfl rfl (by decide +kernel) ⟨(Nat.le_of_ble_eq_true rfl), (Nat.le_of_ble_eq_true rfl)⟩) rfl hl.1 rfl (Nat.le_of_ble_eq_true rfl) dL_law_742 ⟨by omega, by omega⟩ (fun H locs hW => ?_)
                obtain ⟨z53, hg, hf⟩ := ob_inv hf
                have hJ764 : ∀ (H : Heap) (locs : List Loc) (ls : Array Slot), l_H G s H locs m35 → lv_has ls 23 [(0, .ref b), (1, .ref (G.2.2.1 0)), (2, .int x2), (3, .int x3), (4, .int x4), (5, .int x5), (6, .int x6), (7, .int x7), (8, .int x8), (10, .int x10), (11, .int x11), (21, .int x46)] → W p l e room_1 s m #[Value.ref b] below meth c H locs kc ks Q (F0 m 764 ls [.int z53]) := by
                  intro H locs ls hW hl
                  refine lv_istore (lv' := [(9, .int z53), (0, .ref b), (1, .ref (G.2.2.1 0)), (2, .int x2), (3, .int x3), (4, .int x4), (5, .int x5), (6, .int x6), (7, .int x7), (8, .int x8), (10, .int x10), (11, .int x11), (21, .int x46)]) hx hb dL_law_764 hl (by decide) rfl (fun ls hl => ?_)
                  refine lv_iinc (v := (x46 + 1)) (lv' := [(21, .int (x46 + 1)), (9, .int z53), (0, .ref b), (1, .ref (G.2.2.1 0)), (2, .int x2), (3, .int x3), (4, .int x4), (5, .int x5), (6, .int x6), (7, .int x7), (8, .int x8), (10, .int x10), (11, .int x11)]) hx hb dL_law_766 hl (k := 12) rfl (congrArg (fun z => x46 + z) (by decide)) (by decide) rfl (fun ls hl => ?_)
                  refine lv_goto (tgt := 727) hx hb dL_law_769 (by decide) ?_
                  exact ih _ _ _ _ _ _ _ hf hW (lv_sub hl [2, 3, 4, 5, 6, 7, 8, 9, 10, 1, 11, 12, 0] rfl) hE
                replace hf := hg
                refine lv_if_lt (tgt := 763) hx hb dL_law_745 (by decide) (fun c52 => ?_) (fun c52 => ?_)
                · have hf := a_if_t c52 hf
                  refine lv_iconst (v := 0) hx hb dL_law_763 (by decide) ?_
                  cases hf
                  refine W.widen (k := kc) (n := ks) (by omega) (by omega) ?_
                  exact hJ764 H locs ls hW (lv_sub hl [0, 1, 2, 3, 4, 5, 6, 7, 8, 10, 11, 12] rfl)
                · have hf := a_if_f c52 hf
                  refine lv_aload_n hx hb dL_law_748 rfl (lv_at hl 1 rfl) ?_
                  refine lv_iload hx hb dL_law_749 (lv_at hl 12 rfl) ?_
                  obtain ⟨r54, hg, hf⟩ := ot_inv hf
                  refine l_cX hC hK hW (As := [.int x46]) (rest := []) (c0_X9_given l G hg) (cwV 1 hts tg_X9_given rfl rfl rfl (by decide +kernel) ⟨(Nat.le_of_ble_eq_true rfl), (Nat.le_of_ble_eq_true rfl)⟩) rfl hl.1 rfl (Nat.le_of_ble_eq_true rfl) dL_law_751 ⟨by omega, by omega⟩ (fun H locs hW => ?_)
                  refine lv_iload hx hb dL_law_754 (lv_at hl 8 rfl) ?_
                  refine lv_icmp_gt (tgt := 763) hx hb dL_law_756 (by decide) (fun c55 => ?_) (fun c55 => ?_)
                  · have hf := a_if_t c55 hf
                    refine lv_iconst (v := 0) hx hb dL_law_763 (by decide) ?_
                    cases hf
                    refine W.widen (k := kc) (n := ks) (by omega) (by omega) ?_
                    exact hJ764 H locs ls hW (lv_sub hl [0, 1, 2, 3, 4, 5, 6, 7, 8, 10, 11, 12] rfl)
                  · have hf := a_if_f c55 hf
                    refine lv_iconst (v := 1) hx hb dL_law_759 (by decide) ?_
                    refine lv_goto (tgt := 764) hx hb dL_law_760 (by decide) ?_
                    cases hf
                    refine W.widen (k := kc) (n := ks) (by omega) (by omega) ?_
                    exact hJ764 H locs ls hW (lv_sub hl [0, 1, 2, 3, 4, 5, 6, 7, 8, 10, 11, 12] rfl)
        obtain ⟨⟨y47, y48⟩, hg, hf⟩ := ob_inv hf
        have hf := ob_inv2 hf
        refine hL727 _ _ _ _ _ _ _ _ hg hW (lv_sub hl [2, 3, 4, 5, 6, 7, 8, 9, 10, 1, 11, 12, 0] rfl) (fun H locs ls hW hl => ?_)
        refine lv_goto (tgt := 1341) hx hb dL_law_772 (by decide) ?_
        exact law_B1341 hC hst hK (kc2 := kc2) (ks2 := ks2) (by omega) (by omega) hk2 hs2 hf hW (lv_sub hl [0, 1, 2, 3, 4, 5, 6, 7, 8, 9, 10, 11] rfl) hE
      replace hf := hg
      refine lv_if_lt (tgt := 721) hx hb dL_law_686 (by decide) (fun c37 => ?_) (fun c37 => ?_)
      · have hf := a_if_t c37 hf
        refine lv_iconst (v := 0) hx hb dL_law_721 (by decide) ?_
        cases hf
        refine W.widen (k := kc) (n := ks) (by omega) (by omega) ?_
        exact hJ722 H locs ls hW (lv_sub hl [1, 2, 3, 4, 5, 6, 7, 8, 9, 11, 12] rfl)
      · have hf := a_if_f c37 hf
        refine lv_aload_n hx hb dL_law_689 rfl (lv_at hl 2 rfl) ?_
        obtain ⟨r39, hg, hf⟩ := ot_inv hf
        refine l_cX hC hK hW (As := []) (rest := []) (c0_X9_worthAnew l G hg) (cwV 0 hts tg_X9_worthAnew rfl rfl rfl (by decide +kernel) ⟨(Nat.le_of_ble_eq_true rfl), (Nat.le_of_ble_eq_true rfl)⟩) rfl hl.1 rfl (Nat.le_of_ble_eq_true rfl) dL_law_690 ⟨by omega, by omega⟩ (fun H locs hW => ?_)
        refine lv_iload hx hb dL_law_693 (lv_at hl 0 rfl) ?_
        refine lv_icmp_ne (tgt := 721) hx hb dL_law_695 (by decide) (fun c40 => ?_) (fun c40 => ?_)
        · have hf := a_if_f c40 hf
          refine lv_iconst (v := 0) hx hb dL_law_721 (by decide) ?_
          cases hf
          refine W.widen (k := kc) (n := ks) (by omega) (by omega) ?_
          exact hJ722 H locs ls hW (lv_sub hl [1, 2, 3, 4, 5, 6, 7, 8, 9, 11, 12] rfl)
        · have hf := a_if_t c40 hf
          refine lv_aload_n hx hb dL_law_698 rfl (lv_at hl 2 rfl) ?_
          obtain ⟨r41, hg, hf⟩ := ob_inv hf
          refine l_cX hC hK hW (As := []) (rest := []) (c_X9_phase l G hg) (cwV 0 hts tg_X9_phase rfl rfl rfl (by decide +kernel) ⟨(Nat.le_of_ble_eq_true rfl), (Nat.le_of_ble_eq_true rfl)⟩) rfl hl.1 rfl (Nat.le_of_ble_eq_true rfl) dL_law_699 ⟨by omega, by omega⟩ (fun H locs hW => ?_)
          refine lv_iconst (v := 1) hx hb dL_law_702 (by decide) ?_
          refine lv_icmp_ne (tgt := 721) hx hb dL_law_703 (by decide) (fun c42 => ?_) (fun c42 => ?_)
          · have hf := a_if_f c42 hf
            refine lv_iconst (v := 0) hx hb dL_law_721 (by decide) ?_
            cases hf
            refine W.widen (k := kc) (n := ks) (by omega) (by omega) ?_
            exact hJ722 H locs ls hW (lv_sub hl [1, 2, 3, 4, 5, 6, 7, 8, 9, 11, 12] rfl)
          · have hf := a_if_t c42 hf
            refine lv_aload_n hx hb dL_law_706 rfl (lv_at hl 2 rfl) ?_
            refine lv_iload hx hb dL_law_707 (lv_at hl 9 rfl) ?_
            refine lv_iload hx hb dL_law_709 (lv_at hl 5 rfl) ?_
            obtain ⟨r43, hg, hf⟩ := ob_inv hf
            refine l_cS hC hK hW (As := [.ref (G.2.2.1 0), .int x8, .int x4]) (rest := []) (c_L_cleared l G hg) (va_cwS 3 hts tg_L_cleared rfl rfl rfl (by decide +kernel) ⟨(Nat.le_of_ble_eq_true rfl), (Nat.le_of_ble_eq_true rfl)⟩) rfl hl.1 rfl (Nat.le_of_ble_eq_true rfl) dL_law_711 ⟨by omega, by omega⟩ (fun H locs hW => ?_)
            refine lv_if_eq (tgt := 721) hx hb dL_law_714 (by decide) (fun c44 => ?_) (fun c44 => ?_)
            · have hf := a_if_t c44 hf
              refine lv_iconst (v := 0) hx hb dL_law_721 (by decide) ?_
              cases hf
              refine W.widen (k := kc) (n := ks) (by omega) (by omega) ?_
              exact hJ722 H locs ls hW (lv_sub hl [1, 2, 3, 4, 5, 6, 7, 8, 9, 11, 12] rfl)
            · have hf := a_if_f c44 hf
              refine lv_iconst (v := 1) hx hb dL_law_717 (by decide) ?_
              refine lv_goto (tgt := 722) hx hb dL_law_718 (by decide) ?_
              cases hf
              refine W.widen (k := kc) (n := ks) (by omega) (by omega) ?_
              exact hJ722 H locs ls hW (lv_sub hl [1, 2, 3, 4, 5, 6, 7, 8, 9, 11, 12] rfl)
set_option maxHeartbeats 8000000 in
set_option maxRecDepth 100000 in
theorem law_B594 {p : Program} {l : Launch} {e : Env} {s : State} {m : MethodId} {below : List Frame} {meth : Method} {c : Code} {b : Nat} {Q : State → Prop} (hC : CallFix p m c cL_law 23 s #[Value.ref b] lw_tbl RL) (hst : l.stackTraces = false) {G : gG} (hK : l_K G s) {kc ks kc2 ks2 : Nat} (hk1 : kc + 8 ≤ kc2) (hs1 : ks + 48 ≤ ks2) (hk2 : kc2 ≤ 600074) (hs2 : ks2 ≤ 7301550) {x2 x3 x4 x5 x6 x7 x8 x9 x10 x11 x12 x13 x14 x15 x16 x17 x18 x19 : Int32} {me mf : gM} {y2 y3 y4 y5 y6 y7 y8 y9 : Int32} (hf : f_L_law_B594 x2 x3 x4 x5 x6 x7 x8 x9 x12 x13 x14 x15 x16 x17 x18 x19 me = some (y2, y3, y4, y5, y6, y7, y8, y9, mf)) {H : Heap} {locs : List Loc} {ls : Array Slot} (hW : l_H G s H locs me) (hl : lv_has ls 23 [(0, .ref b), (1, .ref (G.2.2.1 0)), (2, .int x2), (3, .int x3), (4, .int x4), (5, .int x5), (6, .int x6), (7, .int x7), (8, .int x8), (9, .int x9), (10, .int x10), (11, .int x11), (12, .int x12), (13, .int x13), (14, .int x14), (15, .int x15), (16, .int x16), (17, .int x17), (18, .int x18), (19, .int x19)]) (hE : ∀ (H : Heap) (locs : List Loc) (ls : Array Slot), l_H G s H locs mf → lv_has ls 23 [(0, .ref b), (1, .ref (G.2.2.1 0)), (2, .int y2), (3, .int y3), (4, .int y4), (5, .int y5), (6, .int y6), (7, .int y7), (8, .int y8), (9, .int y9), (10, .int x10), (11, .int x11)] → W p l e room_1 s m #[Value.ref b] below meth c H locs kc2 ks2 Q (F0 m 1361 ls [])) : W p l e room_1 s m #[Value.ref b] below meth c H locs kc ks Q (F0 m 594 ls []) := by
  have hR1 : room_1.cells = 600074 := rfl
  have hR2 : room_1.slots = 7301550 := rfl
  have hx := hC.1
  have hb := hC.2.1
  have hown := hC.2.2.2.1
  have hts := hC.2.2.2.2
  unfold f_L_law_B594 at hf
  refine lv_iload hx hb dL_law_594 (lv_at hl 13 rfl) ?_
  refine lv_bipush (v := 12) hx hb dL_law_596 (by decide) ?_
  refine lv_icmp_ge (tgt := 664) hx hb dL_law_598 (by decide) (fun c31 => ?_) (fun c31 => ?_)
  · have hf := a_if_t c31 hf
    exact law_B664 hC hst hK (kc2 := kc2) (ks2 := ks2) (by omega) (by omega) hk2 hs2 hf hW (lv_sub hl [0, 1, 2, 3, 4, 5, 6, 7, 8, 9, 10, 11, 12, 13, 14, 15, 16, 17, 18, 19] rfl) hE
  · have hf := a_if_f c31 hf
    refine lv_aload_n hx hb dL_law_601 rfl (lv_at hl 1 rfl) ?_
    obtain ⟨r32, hg, hf⟩ := ob_inv hf
    refine l_cX hC hK hW (As := []) (rest := []) (c_X9_phase l G hg) (cwV 0 hts tg_X9_phase rfl rfl rfl (by decide +kernel) ⟨(Nat.le_of_ble_eq_true rfl), (Nat.le_of_ble_eq_true rfl)⟩) rfl hl.1 rfl (Nat.le_of_ble_eq_true rfl) dL_law_602 ⟨by omega, by omega⟩ (fun H locs hW => ?_)
    refine lv_if_ne (tgt := 664) hx hb dL_law_605 (by decide) (fun c33 => ?_) (fun c33 => ?_)
    · have hf := a_if_f c33 hf
      exact law_B664 hC hst hK (kc2 := kc2) (ks2 := ks2) (by omega) (by omega) hk2 hs2 hf hW (lv_sub hl [0, 1, 2, 3, 4, 5, 6, 7, 8, 9, 10, 11, 12, 13, 14, 15, 16, 17, 18, 19] rfl) hE
    · have hf := a_if_t c33 hf
      refine lv_iload hx hb dL_law_608 (lv_at hl 12 rfl) ?_
      refine lv_bipush (v := 11) hx hb dL_law_610 (by decide) ?_
      obtain ⟨r34, hg, hf⟩ := ob_inv hf
      refine l_cS hC hK hW (As := [.int x12, .int 11]) (rest := []) (c_L_low l G hg) (va_cwS 2 hts tg_L_low rfl rfl rfl (by decide +kernel) ⟨(Nat.le_of_ble_eq_true rfl), (Nat.le_of_ble_eq_true rfl)⟩) rfl hl.1 rfl (Nat.le_of_ble_eq_true rfl) dL_law_612 ⟨by omega, by omega⟩ (fun H locs hW => ?_)
      refine lv_istore (lv' := [(20, .int r34), (0, .ref b), (1, .ref (G.2.2.1 0)), (2, .int x2), (3, .int x3), (4, .int x4), (5, .int x5), (6, .int x6), (7, .int x7), (8, .int x8), (9, .int x9), (10, .int x10), (11, .int x11), (12, .int x12), (13, .int x13), (14, .int x14), (15, .int x15), (16, .int x16), (17, .int x17), (18, .int x18), (19, .int x19)]) hx hb dL_law_615 hl (by decide) rfl (fun ls hl => ?_)
      refine lv_iconst (v := 0) hx hb dL_law_617 (by decide) ?_
      refine lv_istore (lv' := [(21, .int 0), (20, .int r34), (0, .ref b), (1, .ref (G.2.2.1 0)), (2, .int x2), (3, .int x3), (4, .int x4), (5, .int x5), (6, .int x6), (7, .int x7), (8, .int x8), (9, .int x9), (10, .int x10), (11, .int x11), (12, .int x12), (13, .int x13), (14, .int x14), (15, .int x15), (16, .int x16), (17, .int x17), (18, .int x18), (19, .int x19)]) hx hb dL_law_618 hl (by decide) rfl (fun ls hl => ?_)
      have hL620 : ∀ (n : Nat) (x35 : Int32) (x36 : Int32) (m37 : gM) (y38 : Int32) (y39 : Int32) (m40 : gM) (H : Heap) (locs : List Loc) (ls : Array Slot), f_L_law_L620 r34 x8 n x35 x36 m37 = some (y38, y39, m40) → l_H G s H locs m37 → lv_has ls 23 [(0, .ref b), (1, .ref (G.2.2.1 0)), (2, .int x2), (3, .int x3), (4, .int x4), (5, .int x5), (6, .int x6), (7, .int x7), (8, .int x8), (9, .int x35), (10, .int x10), (11, .int x11), (20, .int r34), (21, .int x36)] → (∀ (H : Heap) (locs : List Loc) (ls : Array Slot), l_H G s H locs m40 → lv_has ls 23 [(0, .ref b), (1, .ref (G.2.2.1 0)), (2, .int x2), (3, .int x3), (4, .int x4), (5, .int x5), (6, .int x6), (7, .int x7), (9, .int y38), (10, .int x10), (11, .int x11), (20, .int r34)] → W p l e room_1 s m #[Value.ref b] below meth c H locs kc ks Q (F0 m 657 ls [])) → W p l e room_1 s m #[Value.ref b] below meth c H locs kc ks Q (F0 m 620 ls []) := by
        intro n
        induction n with
        | zero =>
          intro x35 x36 m37 y38 y39 m40 H locs ls hf hW hl hE
          cases hf
        | succ n ih =>
          intro x35 x36 m37 y38 y39 m40 H locs ls hf hW hl hE
          rw [f_L_law_L620] at hf
          refine lv_iload hx hb dL_law_620 (lv_at hl 13 rfl) ?_
          refine lv_iconst (v := 3) hx hb dL_law_622 (by decide) ?_
          refine lv_icmp_ge (tgt := 657) hx hb dL_law_623 (by decide) (fun c41 => ?_) (fun c41 => ?_)
          · have hf := a_if_t c41 hf
            cases hf
            exact hE H locs ls hW (lv_sub hl [0, 1, 2, 3, 4, 5, 6, 7, 9, 10, 11, 12] rfl)
          · have hf := a_if_f c41 hf
            refine lv_iload hx hb dL_law_626 (lv_at hl 9 rfl) ?_
            obtain ⟨⟨z43, m44⟩, hg, hf⟩ := ob_inv hf
            have hf := ob_inv2 hf
            have hJ649 : ∀ (H : Heap) (locs : List Loc) (ls : Array Slot), l_H G s H locs m44 → lv_has ls 23 [(0, .ref b), (1, .ref (G.2.2.1 0)), (2, .int x2), (3, .int x3), (4, .int x4), (5, .int x5), (6, .int x6), (7, .int x7), (8, .int x8), (10, .int x10), (11, .int x11), (20, .int r34), (21, .int x36)] → W p l e room_1 s m #[Value.ref b] below meth c H locs kc ks Q (F0 m 649 ls [.int z43]) := by
              intro H locs ls hW hl
              refine lv_istore (lv' := [(9, .int z43), (0, .ref b), (1, .ref (G.2.2.1 0)), (2, .int x2), (3, .int x3), (4, .int x4), (5, .int x5), (6, .int x6), (7, .int x7), (8, .int x8), (10, .int x10), (11, .int x11), (20, .int r34), (21, .int x36)]) hx hb dL_law_649 hl (by decide) rfl (fun ls hl => ?_)
              refine lv_iinc (v := (x36 + 1)) (lv' := [(21, .int (x36 + 1)), (9, .int z43), (0, .ref b), (1, .ref (G.2.2.1 0)), (2, .int x2), (3, .int x3), (4, .int x4), (5, .int x5), (6, .int x6), (7, .int x7), (8, .int x8), (10, .int x10), (11, .int x11), (20, .int r34)]) hx hb dL_law_651 hl (k := 13) rfl (congrArg (fun z => x36 + z) (by decide)) (by decide) rfl (fun ls hl => ?_)
              refine lv_goto (tgt := 620) hx hb dL_law_654 (by decide) ?_
              exact ih _ _ _ _ _ _ _ _ _ hf hW (lv_sub hl [2, 3, 4, 5, 6, 7, 8, 9, 10, 1, 11, 12, 13, 0] rfl) hE
            replace hf := hg
            refine lv_if_eq (tgt := 648) hx hb dL_law_628 (by decide) (fun c42 => ?_) (fun c42 => ?_)
            · have hf := a_if_t c42 hf
              refine lv_iconst (v := 0) hx hb dL_law_648 (by decide) ?_
              cases hf
              refine W.widen (k := kc) (n := ks) (by omega) (by omega) ?_
              exact hJ649 H locs ls hW (lv_sub hl [0, 1, 2, 3, 4, 5, 6, 7, 8, 10, 11, 12, 13] rfl)
            · have hf := a_if_f c42 hf
              refine lv_aload_n hx hb dL_law_631 rfl (lv_at hl 1 rfl) ?_
              refine lv_iload hx hb dL_law_632 (lv_at hl 13 rfl) ?_
              refine lv_iload hx hb dL_law_634 (lv_at hl 12 rfl) ?_
              obtain ⟨⟨r45, m46⟩, hg, hf⟩ := ot_inv hf
              have hf := ob_inv2 hf
              refine l_cX hC hK hW (As := [.int x36, .int r34]) (rest := []) (c0_X9_setLimit l G hg) (cwV 2 hts tg_X9_setLimit rfl rfl rfl (by decide +kernel) ⟨(Nat.le_of_ble_eq_true rfl), (Nat.le_of_ble_eq_true rfl)⟩) rfl hl.1 rfl (Nat.le_of_ble_eq_true rfl) dL_law_636 ⟨by omega, by omega⟩ (fun H locs hW => ?_)
              refine lv_iload hx hb dL_law_639 (lv_at hl 8 rfl) ?_
              refine lv_icmp_ne (tgt := 648) hx hb dL_law_641 (by decide) (fun c48 => ?_) (fun c48 => ?_)
              · have hf := a_if_f c48 hf
                refine lv_iconst (v := 0) hx hb dL_law_648 (by decide) ?_
                cases hf
                refine W.widen (k := kc) (n := ks) (by omega) (by omega) ?_
                exact hJ649 H locs ls hW (lv_sub hl [0, 1, 2, 3, 4, 5, 6, 7, 8, 10, 11, 12, 13] rfl)
              · have hf := a_if_t c48 hf
                refine lv_iconst (v := 1) hx hb dL_law_644 (by decide) ?_
                refine lv_goto (tgt := 649) hx hb dL_law_645 (by decide) ?_
                cases hf
                refine W.widen (k := kc) (n := ks) (by omega) (by omega) ?_
                exact hJ649 H locs ls hW (lv_sub hl [0, 1, 2, 3, 4, 5, 6, 7, 8, 10, 11, 12, 13] rfl)
      obtain ⟨⟨y38, y39, m40⟩, hg, hf⟩ := ob_inv hf
      have hf := ob_inv3 hf
      refine hL620 _ _ _ _ _ _ _ _ _ _ hg hW (lv_sub hl [2, 3, 4, 5, 6, 7, 8, 9, 10, 11, 12, 13, 1, 0] rfl) (fun H locs ls hW hl => ?_)
      refine lv_iload hx hb dL_law_657 (lv_at hl 11 rfl) ?_
      refine lv_istore (lv' := [(8, .int r34), (0, .ref b), (1, .ref (G.2.2.1 0)), (2, .int x2), (3, .int x3), (4, .int x4), (5, .int x5), (6, .int x6), (7, .int x7), (9, .int y38), (10, .int x10), (11, .int x11), (20, .int r34)]) hx hb dL_law_659 hl (by decide) rfl (fun ls hl => ?_)
      refine lv_goto (tgt := 1341) hx hb dL_law_661 (by decide) ?_
      exact law_B1341 hC hst hK (kc2 := kc2) (ks2 := ks2) (by omega) (by omega) hk2 hs2 hf hW (lv_sub hl [1, 2, 3, 4, 5, 6, 7, 8, 0, 9, 10, 11] rfl) hE
set_option maxHeartbeats 8000000 in
set_option maxRecDepth 100000 in
theorem law_B486 {p : Program} {l : Launch} {e : Env} {s : State} {m : MethodId} {below : List Frame} {meth : Method} {c : Code} {b : Nat} {Q : State → Prop} (hC : CallFix p m c cL_law 23 s #[Value.ref b] lw_tbl RL) (hst : l.stackTraces = false) {G : gG} (hK : l_K G s) {kc ks kc2 ks2 : Nat} (hk1 : kc + 8 ≤ kc2) (hs1 : ks + 48 ≤ ks2) (hk2 : kc2 ≤ 600074) (hs2 : ks2 ≤ 7301550) {x2 x3 x4 x5 x6 x7 x8 x9 x10 x11 x12 x13 x14 x15 x16 x17 x18 x19 : Int32} {me mf : gM} {y2 y3 y4 y5 y6 y7 y8 y9 : Int32} (hf : f_L_law_B486 x2 x3 x4 x5 x6 x7 x8 x9 x12 x13 x14 x15 x16 x17 x18 x19 me = some (y2, y3, y4, y5, y6, y7, y8, y9, mf)) {H : Heap} {locs : List Loc} {ls : Array Slot} (hW : l_H G s H locs me) (hl : lv_has ls 23 [(0, .ref b), (1, .ref (G.2.2.1 0)), (2, .int x2), (3, .int x3), (4, .int x4), (5, .int x5), (6, .int x6), (7, .int x7), (8, .int x8), (9, .int x9), (10, .int x10), (11, .int x11), (12, .int x12), (13, .int x13), (14, .int x14), (15, .int x15), (16, .int x16), (17, .int x17), (18, .int x18), (19, .int x19)]) (hE : ∀ (H : Heap) (locs : List Loc) (ls : Array Slot), l_H G s H locs mf → lv_has ls 23 [(0, .ref b), (1, .ref (G.2.2.1 0)), (2, .int y2), (3, .int y3), (4, .int y4), (5, .int y5), (6, .int y6), (7, .int y7), (8, .int y8), (9, .int y9), (10, .int x10), (11, .int x11)] → W p l e room_1 s m #[Value.ref b] below meth c H locs kc2 ks2 Q (F0 m 1361 ls [])) : W p l e room_1 s m #[Value.ref b] below meth c H locs kc ks Q (F0 m 486 ls []) := by
  have hR1 : room_1.cells = 600074 := rfl
  have hR2 : room_1.slots = 7301550 := rfl
  have hx := hC.1
  have hb := hC.2.1
  have hown := hC.2.2.2.1
  have hts := hC.2.2.2.2
  unfold f_L_law_B486 at hf
  refine lv_iload hx hb dL_law_486 (lv_at hl 13 rfl) ?_
  refine lv_bipush (v := 11) hx hb dL_law_488 (by decide) ?_
  refine lv_icmp_ge (tgt := 594) hx hb dL_law_490 (by decide) (fun c31 => ?_) (fun c31 => ?_)
  · have hf := a_if_t c31 hf
    exact law_B594 hC hst hK (kc2 := kc2) (ks2 := ks2) (by omega) (by omega) hk2 hs2 hf hW (lv_sub hl [0, 1, 2, 3, 4, 5, 6, 7, 8, 9, 10, 11, 12, 13, 14, 15, 16, 17, 18, 19] rfl) hE
  · have hf := a_if_f c31 hf
    refine lv_aload_n hx hb dL_law_493 rfl (lv_at hl 1 rfl) ?_
    obtain ⟨r32, hg, hf⟩ := ob_inv hf
    refine l_cX hC hK hW (As := []) (rest := []) (c_X9_phase l G hg) (cwV 0 hts tg_X9_phase rfl rfl rfl (by decide +kernel) ⟨(Nat.le_of_ble_eq_true rfl), (Nat.le_of_ble_eq_true rfl)⟩) rfl hl.1 rfl (Nat.le_of_ble_eq_true rfl) dL_law_494 ⟨by omega, by omega⟩ (fun H locs hW => ?_)
    refine lv_if_ne (tgt := 594) hx hb dL_law_497 (by decide) (fun c33 => ?_) (fun c33 => ?_)
    · have hf := a_if_f c33 hf
      exact law_B594 hC hst hK (kc2 := kc2) (ks2 := ks2) (by omega) (by omega) hk2 hs2 hf hW (lv_sub hl [0, 1, 2, 3, 4, 5, 6, 7, 8, 9, 10, 11, 12, 13, 14, 15, 16, 17, 18, 19] rfl) hE
    · have hf := a_if_t c33 hf
      refine lv_aload_n hx hb dL_law_500 rfl (lv_at hl 1 rfl) ?_
      refine lv_iload hx hb dL_law_501 (lv_at hl 14 rfl) ?_
      refine lv_iload hx hb dL_law_503 (lv_at hl 15 rfl) ?_
      refine lv_iload hx hb dL_law_505 (lv_at hl 15 rfl) ?_
      refine lv_iconst (v := 1) hx hb dL_law_507 (by decide) ?_
      refine lv_iadd hx hb dL_law_508 ?_
      refine lv_iload hx hb dL_law_509 (lv_at hl 12 rfl) ?_
      refine lv_iconst (v := 4) hx hb dL_law_511 (by decide) ?_
      refine lv_ishr hx hb dL_law_512 ?_
      refine lv_iconst (v := 2) hx hb dL_law_513 (by decide) ?_
      obtain ⟨r34, hg, hf⟩ := ob_inv hf
      refine l_cS hC hK hW (As := [.int (x12 >>> (4 &&& 31)), .int 2]) (rest := [.int (x15 + 1), .int x15, .int x14, .ref (G.2.2.1 0)]) (c_L_low l G hg) (va_cwS 2 hts tg_L_low rfl rfl rfl (by decide +kernel) ⟨(Nat.le_of_ble_eq_true rfl), (Nat.le_of_ble_eq_true rfl)⟩) rfl hl.1 rfl (Nat.le_of_ble_eq_true rfl) dL_law_514 ⟨by omega, by omega⟩ (fun H locs hW => ?_)
      refine lv_iadd hx hb dL_law_517 ?_
      refine lv_iconst (v := 3) hx hb dL_law_518 (by decide) ?_
      obtain ⟨q35, h9, hf⟩ := ob_inv hf
      refine lv_irem hx hb dL_law_519 (a_rm_inv h9).1 ?_
      refine g_nmi (a_rm_inv h9).2 ?_
      refine lv_iload hx hb dL_law_520 (lv_at hl 18 rfl) ?_
      refine lv_iload hx hb dL_law_522 (lv_at hl 17 rfl) ?_
      obtain ⟨⟨r36, m37⟩, hg, hf⟩ := ob_inv hf
      have hf := ob_inv2 hf
      refine l_cC hC hK hW (As := [.ref (G.2.2.1 0), .int x14, .int x15, .int q35, .int x18, .int x17]) (rest := []) (c_L_ask l G hst hg) (vx_cwSW 6 hts tg_L_ask rfl rfl rfl (by decide +kernel) ⟨(Nat.le_of_ble_eq_true rfl), (Nat.le_of_ble_eq_true rfl)⟩) rfl hl.1 rfl (Nat.le_of_ble_eq_true rfl) dL_law_524 ⟨by omega, by omega⟩ (fun H locs hW => ?_)
      refine W.widen (k := (kc + 8)) (n := (ks + 48)) (by omega) (by omega) ?_
      refine lv_istore (lv' := [(20, .int r36), (0, .ref b), (1, .ref (G.2.2.1 0)), (2, .int x2), (3, .int x3), (4, .int x4), (5, .int x5), (6, .int x6), (7, .int x7), (8, .int x8), (9, .int x9), (10, .int x10), (11, .int x11), (12, .int x12), (13, .int x13), (14, .int x14), (15, .int x15), (16, .int x16), (17, .int x17), (18, .int x18), (19, .int x19)]) hx hb dL_law_527 hl (by decide) rfl (fun ls hl => ?_)
      refine lv_iload hx hb dL_law_529 (lv_at hl 0 rfl) ?_
      refine lv_bipush (v := (-9)) hx hb dL_law_531 (by decide) ?_
      obtain ⟨z40, hg, hf⟩ := ob_inv hf
      have hJ572 : ∀ (H : Heap) (locs : List Loc) (ls : Array Slot), l_H G s H locs m37 → lv_has ls 23 [(0, .ref b), (1, .ref (G.2.2.1 0)), (2, .int x2), (3, .int x3), (4, .int x4), (5, .int x5), (6, .int x6), (7, .int x7), (8, .int x8), (10, .int x10), (11, .int x11), (20, .int r36)] → W p l e room_1 s m #[Value.ref b] below meth c H locs (kc + 8) (ks + 48) Q (F0 m 572 ls [.int z40]) := by
        intro H locs ls hW hl
        refine lv_istore (lv' := [(9, .int z40), (0, .ref b), (1, .ref (G.2.2.1 0)), (2, .int x2), (3, .int x3), (4, .int x4), (5, .int x5), (6, .int x6), (7, .int x7), (8, .int x8), (10, .int x10), (11, .int x11), (20, .int r36)]) hx hb dL_law_572 hl (by decide) rfl (fun ls hl => ?_)
        refine lv_iload hx hb dL_law_574 (lv_at hl 6 rfl) ?_
        refine lv_iload hx hb dL_law_576 (lv_at hl 12 rfl) ?_
        refine lv_bipush (v := (-9)) hx hb dL_law_578 (by decide) ?_
        obtain ⟨z46, hg, hf⟩ := ob_inv hf
        have hJ588 : ∀ (H : Heap) (locs : List Loc) (ls : Array Slot), l_H G s H locs m37 → lv_has ls 23 [(0, .ref b), (1, .ref (G.2.2.1 0)), (2, .int x2), (3, .int x3), (4, .int x4), (6, .int x6), (7, .int x7), (8, .int x8), (9, .int z40), (10, .int x10), (11, .int x11)] → W p l e room_1 s m #[Value.ref b] below meth c H locs (kc + 8) (ks + 48) Q (F0 m 588 ls [.int z46, .int x5]) := by
          intro H locs ls hW hl
          refine lv_iadd hx hb dL_law_588 ?_
          obtain ⟨x47, h9, hf⟩ := ob_inv hf
          refine g_nmi (Option.some.inj h9) ?_
          refine lv_istore (lv' := [(5, .int x47), (0, .ref b), (1, .ref (G.2.2.1 0)), (2, .int x2), (3, .int x3), (4, .int x4), (6, .int x6), (7, .int x7), (8, .int x8), (9, .int z40), (10, .int x10), (11, .int x11)]) hx hb dL_law_589 hl (by decide) rfl (fun ls hl => ?_)
          refine lv_goto (tgt := 1341) hx hb dL_law_591 (by decide) ?_
          exact law_B1341 hC hst hK (kc2 := kc2) (ks2 := ks2) (by omega) (by omega) hk2 hs2 hf hW (lv_sub hl [1, 2, 3, 4, 5, 0, 6, 7, 8, 9, 10, 11] rfl) hE
        replace hf := hg
        refine lv_icmp_ne (tgt := 587) hx hb dL_law_580 (by decide) (fun c45 => ?_) (fun c45 => ?_)
        · have hf := a_if_f c45 hf
          refine lv_iconst (v := 1) hx hb dL_law_587 (by decide) ?_
          cases hf
          refine W.widen (k := (kc + 8)) (n := (ks + 48)) (by omega) (by omega) ?_
          exact hJ588 H locs ls hW (lv_sub hl [1, 2, 3, 4, 5, 7, 8, 9, 0, 10, 11] rfl)
        · have hf := a_if_t c45 hf
          refine lv_iconst (v := 0) hx hb dL_law_583 (by decide) ?_
          refine lv_goto (tgt := 588) hx hb dL_law_584 (by decide) ?_
          cases hf
          refine W.widen (k := (kc + 8)) (n := (ks + 48)) (by omega) (by omega) ?_
          exact hJ588 H locs ls hW (lv_sub hl [1, 2, 3, 4, 5, 7, 8, 9, 0, 10, 11] rfl)
      replace hf := hg
      refine lv_icmp_ne (tgt := 560) hx hb dL_law_533 (by decide) (fun c39 => ?_) (fun c39 => ?_)
      · have hf := a_if_f c39 hf
        refine lv_iload hx hb dL_law_560 (lv_at hl 0 rfl) ?_
        refine lv_iload hx hb dL_law_562 (lv_at hl 6 rfl) ?_
        refine lv_icmp_ne (tgt := 571) hx hb dL_law_564 (by decide) (fun c41 => ?_) (fun c41 => ?_)
        · have hf := a_if_f c41 hf
          refine lv_iconst (v := 0) hx hb dL_law_571 (by decide) ?_
          cases hf
          refine W.widen (k := (kc + 8)) (n := (ks + 48)) (by omega) (by omega) ?_
          exact hJ572 H locs ls hW (lv_sub hl [1, 2, 3, 4, 5, 6, 7, 8, 9, 11, 12, 0] rfl)
        · have hf := a_if_t c41 hf
          refine lv_iconst (v := 1) hx hb dL_law_567 (by decide) ?_
          refine lv_goto (tgt := 572) hx hb dL_law_568 (by decide) ?_
          cases hf
          refine W.widen (k := (kc + 8)) (n := (ks + 48)) (by omega) (by omega) ?_
          exact hJ572 H locs ls hW (lv_sub hl [1, 2, 3, 4, 5, 6, 7, 8, 9, 11, 12, 0] rfl)
      · have hf := a_if_t c39 hf
        refine lv_aload_n hx hb dL_law_536 rfl (lv_at hl 2 rfl) ?_
        refine lv_iload hx hb dL_law_537 (lv_at hl 15 rfl) ?_
        obtain ⟨r42, hg, hf⟩ := ot_inv hf
        refine l_cX hC hK hW (As := [.int x14]) (rest := []) (c0_X9_hasFailed l G hg) (cwV 1 hts tg_X9_hasFailed rfl rfl rfl (by decide +kernel) ⟨(Nat.le_of_ble_eq_true rfl), (Nat.le_of_ble_eq_true rfl)⟩) rfl hl.1 rfl (Nat.le_of_ble_eq_true rfl) dL_law_539 ⟨by omega, by omega⟩ (fun H locs hW => ?_)
        refine lv_if_ne (tgt := 552) hx hb dL_law_542 (by decide) (fun c43 => ?_) (fun c43 => ?_)
        · have hf := a_if_f c43 hf
          refine lv_iconst (v := 1) hx hb dL_law_552 (by decide) ?_
          refine lv_goto (tgt := 572) hx hb dL_law_553 (by decide) ?_
          cases hf
          refine W.widen (k := (kc + 8)) (n := (ks + 48)) (by omega) (by omega) ?_
          exact hJ572 H locs ls hW (lv_sub hl [1, 2, 3, 4, 5, 6, 7, 8, 9, 11, 12, 0] rfl)
        · have hf := a_if_t c43 hf
          refine lv_iload hx hb dL_law_545 (lv_at hl 6 rfl) ?_
          refine lv_bipush (v := 20) hx hb dL_law_547 (by decide) ?_
          refine lv_icmp_ne (tgt := 556) hx hb dL_law_549 (by decide) (fun c44 => ?_) (fun c44 => ?_)
          · have hf := a_if_f c44 hf
            refine lv_iconst (v := 0) hx hb dL_law_556 (by decide) ?_
            refine lv_goto (tgt := 572) hx hb dL_law_557 (by decide) ?_
            cases hf
            refine W.widen (k := (kc + 8)) (n := (ks + 48)) (by omega) (by omega) ?_
            exact hJ572 H locs ls hW (lv_sub hl [1, 2, 3, 4, 5, 6, 7, 8, 9, 11, 12, 0] rfl)
          · have hf := a_if_t c44 hf
            refine lv_iconst (v := 1) hx hb dL_law_552 (by decide) ?_
            refine lv_goto (tgt := 572) hx hb dL_law_553 (by decide) ?_
            cases hf
            refine W.widen (k := (kc + 8)) (n := (ks + 48)) (by omega) (by omega) ?_
            exact hJ572 H locs ls hW (lv_sub hl [1, 2, 3, 4, 5, 6, 7, 8, 9, 11, 12, 0] rfl)
set_option maxHeartbeats 8000000 in
set_option maxRecDepth 100000 in
theorem law_B331 {p : Program} {l : Launch} {e : Env} {s : State} {m : MethodId} {below : List Frame} {meth : Method} {c : Code} {b : Nat} {Q : State → Prop} (hC : CallFix p m c cL_law 23 s #[Value.ref b] lw_tbl RL) (hst : l.stackTraces = false) {G : gG} (hK : l_K G s) {kc ks kc2 ks2 : Nat} (hk1 : kc + 8 ≤ kc2) (hs1 : ks + 48 ≤ ks2) (hk2 : kc2 ≤ 600074) (hs2 : ks2 ≤ 7301550) {x2 x3 x4 x5 x6 x7 x8 x9 x10 x11 x12 x13 x14 x15 x16 x17 x18 x19 : Int32} {me mf : gM} {y2 y3 y4 y5 y6 y7 y8 y9 : Int32} (hf : f_L_law_B331 x2 x3 x4 x5 x6 x7 x8 x9 x12 x13 x14 x15 x16 x17 x18 x19 me = some (y2, y3, y4, y5, y6, y7, y8, y9, mf)) {H : Heap} {locs : List Loc} {ls : Array Slot} (hW : l_H G s H locs me) (hl : lv_has ls 23 [(0, .ref b), (1, .ref (G.2.2.1 0)), (2, .int x2), (3, .int x3), (4, .int x4), (5, .int x5), (6, .int x6), (7, .int x7), (8, .int x8), (9, .int x9), (10, .int x10), (11, .int x11), (12, .int x12), (13, .int x13), (14, .int x14), (15, .int x15), (16, .int x16), (17, .int x17), (18, .int x18), (19, .int x19)]) (hE : ∀ (H : Heap) (locs : List Loc) (ls : Array Slot), l_H G s H locs mf → lv_has ls 23 [(0, .ref b), (1, .ref (G.2.2.1 0)), (2, .int y2), (3, .int y3), (4, .int y4), (5, .int y5), (6, .int y6), (7, .int y7), (8, .int y8), (9, .int y9), (10, .int x10), (11, .int x11)] → W p l e room_1 s m #[Value.ref b] below meth c H locs kc2 ks2 Q (F0 m 1361 ls [])) : W p l e room_1 s m #[Value.ref b] below meth c H locs kc ks Q (F0 m 331 ls []) := by
  have hR1 : room_1.cells = 600074 := rfl
  have hR2 : room_1.slots = 7301550 := rfl
  have hx := hC.1
  have hb := hC.2.1
  have hown := hC.2.2.2.1
  have hts := hC.2.2.2.2
  unfold f_L_law_B331 at hf
  refine lv_iload hx hb dL_law_331 (lv_at hl 13 rfl) ?_
  refine lv_bipush (v := 10) hx hb dL_law_333 (by decide) ?_
  refine lv_icmp_ge (tgt := 486) hx hb dL_law_335 (by decide) (fun c31 => ?_) (fun c31 => ?_)
  · have hf := a_if_t c31 hf
    exact law_B486 hC hst hK (kc2 := kc2) (ks2 := ks2) (by omega) (by omega) hk2 hs2 hf hW (lv_sub hl [0, 1, 2, 3, 4, 5, 6, 7, 8, 9, 10, 11, 12, 13, 14, 15, 16, 17, 18, 19] rfl) hE
  · have hf := a_if_f c31 hf
    refine lv_aload_n hx hb dL_law_338 rfl (lv_at hl 1 rfl) ?_
    obtain ⟨r32, hg, hf⟩ := ob_inv hf
    refine l_cX hC hK hW (As := []) (rest := []) (c_X9_phase l G hg) (cwV 0 hts tg_X9_phase rfl rfl rfl (by decide +kernel) ⟨(Nat.le_of_ble_eq_true rfl), (Nat.le_of_ble_eq_true rfl)⟩) rfl hl.1 rfl (Nat.le_of_ble_eq_true rfl) dL_law_339 ⟨by omega, by omega⟩ (fun H locs hW => ?_)
    refine lv_if_ne (tgt := 486) hx hb dL_law_342 (by decide) (fun c33 => ?_) (fun c33 => ?_)
    · have hf := a_if_f c33 hf
      exact law_B486 hC hst hK (kc2 := kc2) (ks2 := ks2) (by omega) (by omega) hk2 hs2 hf hW (lv_sub hl [0, 1, 2, 3, 4, 5, 6, 7, 8, 9, 10, 11, 12, 13, 14, 15, 16, 17, 18, 19] rfl) hE
    · have hf := a_if_t c33 hf
      refine lv_iload hx hb dL_law_345 (lv_at hl 4 rfl) ?_
      refine lv_iconst (v := 3) hx hb dL_law_347 (by decide) ?_
      obtain ⟨⟨z35, m36⟩, hg, hf⟩ := ob_inv hf
      have hf := ob_inv2 hf
      have hJ381 : ∀ (H : Heap) (locs : List Loc) (ls : Array Slot), l_H G s H locs m36 → lv_has ls 23 [(0, .ref b), (1, .ref (G.2.2.1 0)), (2, .int x2), (3, .int x3), (4, .int x4), (5, .int x5), (6, .int x6), (7, .int x7), (8, .int x8), (10, .int x10), (11, .int x11), (12, .int x12), (14, .int x14)] → W p l e room_1 s m #[Value.ref b] below meth c H locs (kc + 8) (ks + 48) Q (F0 m 381 ls [.int z35]) := by
        intro H locs ls hW hl
        refine lv_istore (lv' := [(20, .int z35), (0, .ref b), (1, .ref (G.2.2.1 0)), (2, .int x2), (3, .int x3), (4, .int x4), (5, .int x5), (6, .int x6), (7, .int x7), (8, .int x8), (10, .int x10), (11, .int x11), (12, .int x12), (14, .int x14)]) hx hb dL_law_381 hl (by decide) rfl (fun ls hl => ?_)
        refine lv_iload hx hb dL_law_383 (lv_at hl 0 rfl) ?_
        refine lv_bipush (v := (-9)) hx hb dL_law_385 (by decide) ?_
        obtain ⟨z42, hg, hf⟩ := ob_inv hf
        have hJ425 : ∀ (H : Heap) (locs : List Loc) (ls : Array Slot), l_H G s H locs m36 → lv_has ls 23 [(0, .ref b), (1, .ref (G.2.2.1 0)), (2, .int x2), (3, .int x3), (4, .int x4), (5, .int x5), (6, .int x6), (7, .int x7), (8, .int x8), (10, .int x10), (11, .int x11), (12, .int x12), (20, .int z35)] → W p l e room_1 s m #[Value.ref b] below meth c H locs (kc + 8) (ks + 48) Q (F0 m 425 ls [.int z42]) := by
          intro H locs ls hW hl
          refine lv_istore (lv' := [(9, .int z42), (0, .ref b), (1, .ref (G.2.2.1 0)), (2, .int x2), (3, .int x3), (4, .int x4), (5, .int x5), (6, .int x6), (7, .int x7), (8, .int x8), (10, .int x10), (11, .int x11), (12, .int x12), (20, .int z35)]) hx hb dL_law_425 hl (by decide) rfl (fun ls hl => ?_)
          refine lv_iload hx hb dL_law_427 (lv_at hl 5 rfl) ?_
          refine lv_iload hx hb dL_law_429 (lv_at hl 13 rfl) ?_
          refine lv_bipush (v := (-9)) hx hb dL_law_431 (by decide) ?_
          obtain ⟨z48, hg, hf⟩ := ob_inv hf
          have hJ441 : ∀ (H : Heap) (locs : List Loc) (ls : Array Slot), l_H G s H locs m36 → lv_has ls 23 [(0, .ref b), (1, .ref (G.2.2.1 0)), (2, .int x2), (3, .int x3), (5, .int x5), (6, .int x6), (7, .int x7), (8, .int x8), (9, .int z42), (10, .int x10), (11, .int x11), (12, .int x12), (20, .int z35)] → W p l e room_1 s m #[Value.ref b] below meth c H locs (kc + 8) (ks + 48) Q (F0 m 441 ls [.int z48, .int x4]) := by
            intro H locs ls hW hl
            refine lv_iadd hx hb dL_law_441 ?_
            obtain ⟨x49, h9, hf⟩ := ob_inv hf
            refine g_nmi (Option.some.inj h9) ?_
            refine lv_istore (lv' := [(4, .int x49), (0, .ref b), (1, .ref (G.2.2.1 0)), (2, .int x2), (3, .int x3), (5, .int x5), (6, .int x6), (7, .int x7), (8, .int x8), (9, .int z42), (10, .int x10), (11, .int x11), (12, .int x12), (20, .int z35)]) hx hb dL_law_442 hl (by decide) rfl (fun ls hl => ?_)
            refine lv_iload hx hb dL_law_444 (lv_at hl 13 rfl) ?_
            obtain ⟨m51, hg, hf⟩ := ob_inv hf
            have hJ483 : ∀ (H : Heap) (locs : List Loc) (ls : Array Slot), l_H G s H locs m51 → lv_has ls 23 [(0, .ref b), (1, .ref (G.2.2.1 0)), (2, .int x2), (3, .int x3), (4, .int x49), (5, .int x5), (6, .int x6), (7, .int x7), (8, .int x8), (9, .int z42), (10, .int x10), (11, .int x11)] → W p l e room_1 s m #[Value.ref b] below meth c H locs (kc + 8) (ks + 48) Q (F0 m 483 ls []) := by
              intro H locs ls hW hl
              refine lv_goto (tgt := 1341) hx hb dL_law_483 (by decide) ?_
              exact law_B1341 hC hst hK (kc2 := kc2) (ks2 := ks2) (by omega) (by omega) hk2 hs2 hf hW (lv_sub hl [0, 1, 2, 3, 4, 5, 6, 7, 8, 9, 10, 11] rfl) hE
            replace hf := hg
            refine lv_if_le (tgt := 483) hx hb dL_law_446 (by decide) (fun c50 => ?_) (fun c50 => ?_)
            · have hf := a_if_t c50 hf
              cases hf
              refine W.widen (k := (kc + 8)) (n := (ks + 48)) (by omega) (by omega) ?_
              exact hJ483 H locs ls hW (lv_sub hl [1, 2, 3, 4, 0, 5, 6, 7, 8, 9, 10, 11] rfl)
            · have hf := a_if_f c50 hf
              refine lv_aload_n hx hb dL_law_449 rfl (lv_at hl 2 rfl) ?_
              refine lv_iload hx hb dL_law_450 (lv_at hl 13 rfl) ?_
              refine lv_iload hx hb dL_law_452 (lv_at hl 12 rfl) ?_
              refine lv_iconst (v := 2) hx hb dL_law_454 (by decide) ?_
              obtain ⟨r52, hg, hf⟩ := ob_inv hf
              refine l_cS hC hK hW (As := [.int x12, .int 2]) (rest := [.int z35, .ref (G.2.2.1 0)]) (c_L_low l G hg) (va_cwS 2 hts tg_L_low rfl rfl rfl (by decide +kernel) ⟨(Nat.le_of_ble_eq_true rfl), (Nat.le_of_ble_eq_true rfl)⟩) rfl hl.1 rfl (Nat.le_of_ble_eq_true rfl) dL_law_455 ⟨by omega, by omega⟩ (fun H locs hW => ?_)
              obtain ⟨z54, hg, hf⟩ := ob_inv hf
              have hJ469 : ∀ (H : Heap) (locs : List Loc) (ls : Array Slot), l_H G s H locs m36 → lv_has ls 23 [(0, .ref b), (1, .ref (G.2.2.1 0)), (2, .int x2), (3, .int x3), (4, .int x49), (5, .int x5), (6, .int x6), (7, .int x7), (8, .int x8), (9, .int z42), (10, .int x10), (11, .int x11), (12, .int x12)] → W p l e room_1 s m #[Value.ref b] below meth c H locs (kc + 8) (ks + 48) Q (F0 m 469 ls [.int z54, .int z35, .ref (G.2.2.1 0)]) := by
                intro H locs ls hW hl
                refine lv_iload hx hb dL_law_469 (lv_at hl 12 rfl) ?_
                refine lv_bipush (v := 9) hx hb dL_law_471 (by decide) ?_
                refine lv_ishr hx hb dL_law_473 ?_
                refine lv_iconst (v := 4) hx hb dL_law_474 (by decide) ?_
                obtain ⟨r55, hg, hf⟩ := ob_inv hf
                refine l_cS hC hK hW (As := [.int (x12 >>> (9 &&& 31)), .int 4]) (rest := [.int z54, .int z35, .ref (G.2.2.1 0)]) (c_L_low l G hg) (va_cwS 2 hts tg_L_low rfl rfl rfl (by decide +kernel) ⟨(Nat.le_of_ble_eq_true rfl), (Nat.le_of_ble_eq_true rfl)⟩) rfl hl.1 rfl (Nat.le_of_ble_eq_true rfl) dL_law_475 ⟨by omega, by omega⟩ (fun H locs hW => ?_)
                refine lv_iconst (v := 1) hx hb dL_law_478 (by decide) ?_
                refine lv_isub hx hb dL_law_479 ?_
                obtain ⟨m56, hg, hf⟩ := ot_inv hf
                refine l_cXv hC hK hW (As := [.int z35, .int z54, .int (r55 - 1)]) (rest := []) (c0_X9_link l G hg) (cwV 3 hts tg_X9_link rfl rfl rfl (by decide +kernel) ⟨(Nat.le_of_ble_eq_true rfl), (Nat.le_of_ble_eq_true rfl)⟩) rfl hl.1 rfl (Nat.le_of_ble_eq_true rfl) dL_law_480 ⟨by omega, by omega⟩ (fun H locs hW => ?_)
                cases hf
                refine W.widen (k := (kc + 8)) (n := (ks + 48)) (by omega) (by omega) ?_
                exact hJ483 H locs ls hW (lv_sub hl [0, 1, 2, 3, 4, 5, 6, 7, 8, 9, 10, 11] rfl)
              replace hf := hg
              refine lv_if_ne (tgt := 465) hx hb dL_law_458 (by decide) (fun c53 => ?_) (fun c53 => ?_)
              · have hf := a_if_f c53 hf
                refine lv_iload hx hb dL_law_465 (lv_at hl 13 rfl) ?_
                refine lv_iconst (v := 1) hx hb dL_law_467 (by decide) ?_
                refine lv_isub hx hb dL_law_468 ?_
                cases hf
                refine W.widen (k := (kc + 8)) (n := (ks + 48)) (by omega) (by omega) ?_
                exact hJ469 H locs ls hW (lv_sub hl [1, 2, 3, 4, 0, 5, 6, 7, 8, 9, 10, 11, 12] rfl)
              · have hf := a_if_t c53 hf
                refine lv_iconst (v := (-1)) hx hb dL_law_461 (by decide) ?_
                refine lv_goto (tgt := 469) hx hb dL_law_462 (by decide) ?_
                cases hf
                refine W.widen (k := (kc + 8)) (n := (ks + 48)) (by omega) (by omega) ?_
                exact hJ469 H locs ls hW (lv_sub hl [1, 2, 3, 4, 0, 5, 6, 7, 8, 9, 10, 11, 12] rfl)
          replace hf := hg
          refine lv_icmp_ne (tgt := 440) hx hb dL_law_433 (by decide) (fun c47 => ?_) (fun c47 => ?_)
          · have hf := a_if_f c47 hf
            refine lv_iconst (v := 1) hx hb dL_law_440 (by decide) ?_
            cases hf
            refine W.widen (k := (kc + 8)) (n := (ks + 48)) (by omega) (by omega) ?_
            exact hJ441 H locs ls hW (lv_sub hl [1, 2, 3, 4, 6, 7, 8, 9, 0, 10, 11, 12, 13] rfl)
          · have hf := a_if_t c47 hf
            refine lv_iconst (v := 0) hx hb dL_law_436 (by decide) ?_
            refine lv_goto (tgt := 441) hx hb dL_law_437 (by decide) ?_
            cases hf
            refine W.widen (k := (kc + 8)) (n := (ks + 48)) (by omega) (by omega) ?_
            exact hJ441 H locs ls hW (lv_sub hl [1, 2, 3, 4, 6, 7, 8, 9, 0, 10, 11, 12, 13] rfl)
        replace hf := hg
        refine lv_icmp_ne (tgt := 413) hx hb dL_law_387 (by decide) (fun c41 => ?_) (fun c41 => ?_)
        · have hf := a_if_f c41 hf
          refine lv_iload hx hb dL_law_413 (lv_at hl 0 rfl) ?_
          refine lv_iload hx hb dL_law_415 (lv_at hl 5 rfl) ?_
          refine lv_icmp_ne (tgt := 424) hx hb dL_law_417 (by decide) (fun c43 => ?_) (fun c43 => ?_)
          · have hf := a_if_f c43 hf
            refine lv_iconst (v := 0) hx hb dL_law_424 (by decide) ?_
            cases hf
            refine W.widen (k := (kc + 8)) (n := (ks + 48)) (by omega) (by omega) ?_
            exact hJ425 H locs ls hW (lv_sub hl [1, 2, 3, 4, 5, 6, 7, 8, 9, 10, 11, 12, 0] rfl)
          · have hf := a_if_t c43 hf
            refine lv_iconst (v := 1) hx hb dL_law_420 (by decide) ?_
            refine lv_goto (tgt := 425) hx hb dL_law_421 (by decide) ?_
            cases hf
            refine W.widen (k := (kc + 8)) (n := (ks + 48)) (by omega) (by omega) ?_
            exact hJ425 H locs ls hW (lv_sub hl [1, 2, 3, 4, 5, 6, 7, 8, 9, 10, 11, 12, 0] rfl)
        · have hf := a_if_t c41 hf
          refine lv_iload hx hb dL_law_390 (lv_at hl 5 rfl) ?_
          refine lv_iconst (v := 3) hx hb dL_law_392 (by decide) ?_
          refine lv_icmp_eq (tgt := 405) hx hb dL_law_393 (by decide) (fun c44 => ?_) (fun c44 => ?_)
          · have hf := a_if_t c44 hf
            refine lv_iconst (v := 1) hx hb dL_law_405 (by decide) ?_
            refine lv_goto (tgt := 425) hx hb dL_law_406 (by decide) ?_
            cases hf
            refine W.widen (k := (kc + 8)) (n := (ks + 48)) (by omega) (by omega) ?_
            exact hJ425 H locs ls hW (lv_sub hl [1, 2, 3, 4, 5, 6, 7, 8, 9, 10, 11, 12, 0] rfl)
          · have hf := a_if_f c44 hf
            refine lv_aload_n hx hb dL_law_396 rfl (lv_at hl 2 rfl) ?_
            refine lv_iload hx hb dL_law_397 (lv_at hl 13 rfl) ?_
            obtain ⟨r45, hg, hf⟩ := ot_inv hf
            refine l_cX hC hK hW (As := [.int x14]) (rest := []) (c0_X9_hasFailed l G hg) (cwV 1 hts tg_X9_hasFailed rfl rfl rfl (by decide +kernel) ⟨(Nat.le_of_ble_eq_true rfl), (Nat.le_of_ble_eq_true rfl)⟩) rfl hl.1 rfl (Nat.le_of_ble_eq_true rfl) dL_law_399 ⟨by omega, by omega⟩ (fun H locs hW => ?_)
            refine lv_if_eq (tgt := 409) hx hb dL_law_402 (by decide) (fun c46 => ?_) (fun c46 => ?_)
            · have hf := a_if_t c46 hf
              refine lv_iconst (v := 0) hx hb dL_law_409 (by decide) ?_
              refine lv_goto (tgt := 425) hx hb dL_law_410 (by decide) ?_
              cases hf
              refine W.widen (k := (kc + 8)) (n := (ks + 48)) (by omega) (by omega) ?_
              exact hJ425 H locs ls hW (lv_sub hl [1, 2, 3, 4, 5, 6, 7, 8, 9, 10, 11, 12, 0] rfl)
            · have hf := a_if_f c46 hf
              refine lv_iconst (v := 1) hx hb dL_law_405 (by decide) ?_
              refine lv_goto (tgt := 425) hx hb dL_law_406 (by decide) ?_
              cases hf
              refine W.widen (k := (kc + 8)) (n := (ks + 48)) (by omega) (by omega) ?_
              exact hJ425 H locs ls hW (lv_sub hl [1, 2, 3, 4, 5, 6, 7, 8, 9, 10, 11, 12, 0] rfl)
      replace hf := hg
      refine lv_icmp_ne (tgt := 356) hx hb dL_law_348 (by decide) (fun c34 => ?_) (fun c34 => ?_)
      · have hf := a_if_f c34 hf
        refine lv_aload_n hx hb dL_law_356 rfl (lv_at hl 1 rfl) ?_
        refine lv_iload hx hb dL_law_357 (lv_at hl 14 rfl) ?_
        refine lv_iload hx hb dL_law_359 (lv_at hl 15 rfl) ?_
        refine lv_iconst (v := 1) hx hb dL_law_361 (by decide) ?_
        refine lv_iload hx hb dL_law_362 (lv_at hl 12 rfl) ?_
        refine lv_iconst (v := 4) hx hb dL_law_364 (by decide) ?_
        refine lv_ishr hx hb dL_law_365 ?_
        refine lv_bipush (v := 15) hx hb dL_law_366 (by decide) ?_
        obtain ⟨r37, hg, hf⟩ := ob_inv hf
        refine l_cS hC hK hW (As := [.int (x12 >>> (4 &&& 31)), .int 15]) (rest := [.int 1, .int x15, .int x14, .ref (G.2.2.1 0)]) (c_L_low l G hg) (va_cwS 2 hts tg_L_low rfl rfl rfl (by decide +kernel) ⟨(Nat.le_of_ble_eq_true rfl), (Nat.le_of_ble_eq_true rfl)⟩) rfl hl.1 rfl (Nat.le_of_ble_eq_true rfl) dL_law_368 ⟨by omega, by omega⟩ (fun H locs hW => ?_)
        refine lv_iadd hx hb dL_law_371 ?_
        refine lv_iload hx hb dL_law_372 (lv_at hl 19 rfl) ?_
        refine lv_iload hx hb dL_law_374 (lv_at hl 17 rfl) ?_
        refine lv_iload hx hb dL_law_376 (lv_at hl 18 rfl) ?_
        obtain ⟨⟨r38, m39⟩, hg, hf⟩ := ob_inv hf
        have hf := ob_inv2 hf
        refine l_cC hC hK hW (As := [.ref (G.2.2.1 0), .int x14, .int x15, .int (1 + r37), .int x19, .int x17, .int x18]) (rest := []) (c_L_block l G hst hg) (vx_cwSW 7 hts tg_L_block rfl rfl rfl (by decide +kernel) ⟨(Nat.le_of_ble_eq_true rfl), (Nat.le_of_ble_eq_true rfl)⟩) rfl hl.1 rfl (Nat.le_of_ble_eq_true rfl) dL_law_378 ⟨by omega, by omega⟩ (fun H locs hW => ?_)
        refine W.widen (k := (kc + 8)) (n := (ks + 48)) (by omega) (by omega) ?_
        cases hf
        refine W.widen (k := (kc + 8)) (n := (ks + 48)) (by omega) (by omega) ?_
        exact hJ381 H locs ls hW (lv_sub hl [0, 1, 2, 3, 4, 5, 6, 7, 8, 10, 11, 12, 14] rfl)
      · have hf := a_if_t c34 hf
        refine lv_bipush (v := (-9)) hx hb dL_law_351 (by decide) ?_
        refine lv_goto (tgt := 381) hx hb dL_law_353 (by decide) ?_
        cases hf
        refine W.widen (k := (kc + 8)) (n := (ks + 48)) (by omega) (by omega) ?_
        exact hJ381 H locs ls hW (lv_sub hl [0, 1, 2, 3, 4, 5, 6, 7, 8, 10, 11, 12, 14] rfl)
set_option maxHeartbeats 8000000 in
set_option maxRecDepth 100000 in
theorem law_B238 {p : Program} {l : Launch} {e : Env} {s : State} {m : MethodId} {below : List Frame} {meth : Method} {c : Code} {b : Nat} {Q : State → Prop} (hC : CallFix p m c cL_law 23 s #[Value.ref b] lw_tbl RL) (hst : l.stackTraces = false) {G : gG} (hK : l_K G s) {kc ks kc2 ks2 : Nat} (hk1 : kc + 8 ≤ kc2) (hs1 : ks + 48 ≤ ks2) (hk2 : kc2 ≤ 600074) (hs2 : ks2 ≤ 7301550) {x2 x3 x4 x5 x6 x7 x8 x9 x10 x11 x12 x13 x14 x15 x16 x17 x18 x19 : Int32} {me mf : gM} {y2 y3 y4 y5 y6 y7 y8 y9 : Int32} (hf : f_L_law_B238 x2 x3 x4 x5 x6 x7 x8 x9 x12 x13 x14 x15 x16 x17 x18 x19 me = some (y2, y3, y4, y5, y6, y7, y8, y9, mf)) {H : Heap} {locs : List Loc} {ls : Array Slot} (hW : l_H G s H locs me) (hl : lv_has ls 23 [(0, .ref b), (1, .ref (G.2.2.1 0)), (2, .int x2), (3, .int x3), (4, .int x4), (5, .int x5), (6, .int x6), (7, .int x7), (8, .int x8), (9, .int x9), (10, .int x10), (11, .int x11), (12, .int x12), (13, .int x13), (14, .int x14), (15, .int x15), (16, .int x16), (17, .int x17), (18, .int x18), (19, .int x19)]) (hE : ∀ (H : Heap) (locs : List Loc) (ls : Array Slot), l_H G s H locs mf → lv_has ls 23 [(0, .ref b), (1, .ref (G.2.2.1 0)), (2, .int y2), (3, .int y3), (4, .int y4), (5, .int y5), (6, .int y6), (7, .int y7), (8, .int y8), (9, .int y9), (10, .int x10), (11, .int x11)] → W p l e room_1 s m #[Value.ref b] below meth c H locs kc2 ks2 Q (F0 m 1361 ls [])) : W p l e room_1 s m #[Value.ref b] below meth c H locs kc ks Q (F0 m 238 ls []) := by
  have hR1 : room_1.cells = 600074 := rfl
  have hR2 : room_1.slots = 7301550 := rfl
  have hx := hC.1
  have hb := hC.2.1
  have hown := hC.2.2.2.1
  have hts := hC.2.2.2.2
  unfold f_L_law_B238 at hf
  refine lv_iload hx hb dL_law_238 (lv_at hl 13 rfl) ?_
  refine lv_bipush (v := 9) hx hb dL_law_240 (by decide) ?_
  refine lv_icmp_ge (tgt := 331) hx hb dL_law_242 (by decide) (fun c31 => ?_) (fun c31 => ?_)
  · have hf := a_if_t c31 hf
    exact law_B331 hC hst hK (kc2 := kc2) (ks2 := ks2) (by omega) (by omega) hk2 hs2 hf hW (lv_sub hl [0, 1, 2, 3, 4, 5, 6, 7, 8, 9, 10, 11, 12, 13, 14, 15, 16, 17, 18, 19] rfl) hE
  · have hf := a_if_f c31 hf
    refine lv_aload_n hx hb dL_law_245 rfl (lv_at hl 1 rfl) ?_
    obtain ⟨r32, hg, hf⟩ := ob_inv hf
    refine l_cX hC hK hW (As := []) (rest := []) (c_X9_phase l G hg) (cwV 0 hts tg_X9_phase rfl rfl rfl (by decide +kernel) ⟨(Nat.le_of_ble_eq_true rfl), (Nat.le_of_ble_eq_true rfl)⟩) rfl hl.1 rfl (Nat.le_of_ble_eq_true rfl) dL_law_246 ⟨by omega, by omega⟩ (fun H locs hW => ?_)
    refine lv_if_ne (tgt := 331) hx hb dL_law_249 (by decide) (fun c33 => ?_) (fun c33 => ?_)
    · have hf := a_if_f c33 hf
      exact law_B331 hC hst hK (kc2 := kc2) (ks2 := ks2) (by omega) (by omega) hk2 hs2 hf hW (lv_sub hl [0, 1, 2, 3, 4, 5, 6, 7, 8, 9, 10, 11, 12, 13, 14, 15, 16, 17, 18, 19] rfl) hE
    · have hf := a_if_t c33 hf
      refine lv_aload_n hx hb dL_law_252 rfl (lv_at hl 1 rfl) ?_
      refine lv_iload hx hb dL_law_253 (lv_at hl 14 rfl) ?_
      refine lv_iload hx hb dL_law_255 (lv_at hl 15 rfl) ?_
      refine lv_iload hx hb dL_law_257 (lv_at hl 16 rfl) ?_
      refine lv_iload hx hb dL_law_259 (lv_at hl 19 rfl) ?_
      refine lv_iload hx hb dL_law_261 (lv_at hl 17 rfl) ?_
      refine lv_iload hx hb dL_law_263 (lv_at hl 18 rfl) ?_
      obtain ⟨⟨r34, m35⟩, hg, hf⟩ := ob_inv hf
      have hf := ob_inv2 hf
      refine l_cC hC hK hW (As := [.ref (G.2.2.1 0), .int x14, .int x15, .int x16, .int x19, .int x17, .int x18]) (rest := []) (c_L_bid l G hst hg) (vx_cwSW 7 hts tg_L_bid rfl rfl rfl (by decide +kernel) ⟨(Nat.le_of_ble_eq_true rfl), (Nat.le_of_ble_eq_true rfl)⟩) rfl hl.1 rfl (Nat.le_of_ble_eq_true rfl) dL_law_265 ⟨by omega, by omega⟩ (fun H locs hW => ?_)
      refine W.widen (k := (kc + 8)) (n := (ks + 48)) (by omega) (by omega) ?_
      refine lv_istore (lv' := [(20, .int r34), (0, .ref b), (1, .ref (G.2.2.1 0)), (2, .int x2), (3, .int x3), (4, .int x4), (5, .int x5), (6, .int x6), (7, .int x7), (8, .int x8), (9, .int x9), (10, .int x10), (11, .int x11), (12, .int x12), (13, .int x13), (14, .int x14), (15, .int x15), (16, .int x16), (17, .int x17), (18, .int x18), (19, .int x19)]) hx hb dL_law_268 hl (by decide) rfl (fun ls hl => ?_)
      refine lv_iload hx hb dL_law_270 (lv_at hl 0 rfl) ?_
      refine lv_bipush (v := (-9)) hx hb dL_law_272 (by decide) ?_
      obtain ⟨z38, hg, hf⟩ := ob_inv hf
      have hJ311 : ∀ (H : Heap) (locs : List Loc) (ls : Array Slot), l_H G s H locs m35 → lv_has ls 23 [(0, .ref b), (1, .ref (G.2.2.1 0)), (2, .int x2), (3, .int x3), (4, .int x4), (5, .int x5), (6, .int x6), (7, .int x7), (8, .int x8), (10, .int x10), (11, .int x11), (20, .int r34)] → W p l e room_1 s m #[Value.ref b] below meth c H locs (kc + 8) (ks + 48) Q (F0 m 311 ls [.int z38]) := by
        intro H locs ls hW hl
        refine lv_istore (lv' := [(9, .int z38), (0, .ref b), (1, .ref (G.2.2.1 0)), (2, .int x2), (3, .int x3), (4, .int x4), (5, .int x5), (6, .int x6), (7, .int x7), (8, .int x8), (10, .int x10), (11, .int x11), (20, .int r34)]) hx hb dL_law_311 hl (by decide) rfl (fun ls hl => ?_)
        refine lv_iload_n hx hb dL_law_313 rfl (lv_at hl 4 rfl) ?_
        refine lv_iload hx hb dL_law_314 (lv_at hl 12 rfl) ?_
        refine lv_bipush (v := (-9)) hx hb dL_law_316 (by decide) ?_
        obtain ⟨z44, hg, hf⟩ := ob_inv hf
        have hJ326 : ∀ (H : Heap) (locs : List Loc) (ls : Array Slot), l_H G s H locs m35 → lv_has ls 23 [(0, .ref b), (1, .ref (G.2.2.1 0)), (2, .int x2), (4, .int x4), (5, .int x5), (6, .int x6), (7, .int x7), (8, .int x8), (9, .int z38), (10, .int x10), (11, .int x11)] → W p l e room_1 s m #[Value.ref b] below meth c H locs (kc + 8) (ks + 48) Q (F0 m 326 ls [.int z44, .int x3]) := by
          intro H locs ls hW hl
          refine lv_iadd hx hb dL_law_326 ?_
          obtain ⟨x45, h9, hf⟩ := ob_inv hf
          refine g_nmi (Option.some.inj h9) ?_
          refine lv_istore_n (lv' := [(3, .int x45), (0, .ref b), (1, .ref (G.2.2.1 0)), (2, .int x2), (4, .int x4), (5, .int x5), (6, .int x6), (7, .int x7), (8, .int x8), (9, .int z38), (10, .int x10), (11, .int x11)]) hx hb dL_law_327 rfl hl (by decide) rfl (fun ls hl => ?_)
          refine lv_goto (tgt := 1341) hx hb dL_law_328 (by decide) ?_
          exact law_B1341 hC hst hK (kc2 := kc2) (ks2 := ks2) (by omega) (by omega) hk2 hs2 hf hW (lv_sub hl [1, 2, 3, 0, 4, 5, 6, 7, 8, 9, 10, 11] rfl) hE
        replace hf := hg
        refine lv_icmp_ne (tgt := 325) hx hb dL_law_318 (by decide) (fun c43 => ?_) (fun c43 => ?_)
        · have hf := a_if_f c43 hf
          refine lv_iconst (v := 1) hx hb dL_law_325 (by decide) ?_
          cases hf
          refine W.widen (k := (kc + 8)) (n := (ks + 48)) (by omega) (by omega) ?_
          exact hJ326 H locs ls hW (lv_sub hl [1, 2, 3, 5, 6, 7, 8, 9, 0, 10, 11] rfl)
        · have hf := a_if_t c43 hf
          refine lv_iconst (v := 0) hx hb dL_law_321 (by decide) ?_
          refine lv_goto (tgt := 326) hx hb dL_law_322 (by decide) ?_
          cases hf
          refine W.widen (k := (kc + 8)) (n := (ks + 48)) (by omega) (by omega) ?_
          exact hJ326 H locs ls hW (lv_sub hl [1, 2, 3, 5, 6, 7, 8, 9, 0, 10, 11] rfl)
      replace hf := hg
      refine lv_icmp_ne (tgt := 300) hx hb dL_law_274 (by decide) (fun c37 => ?_) (fun c37 => ?_)
      · have hf := a_if_f c37 hf
        refine lv_iload hx hb dL_law_300 (lv_at hl 0 rfl) ?_
        refine lv_iload_n hx hb dL_law_302 rfl (lv_at hl 4 rfl) ?_
        refine lv_icmp_ne (tgt := 310) hx hb dL_law_303 (by decide) (fun c39 => ?_) (fun c39 => ?_)
        · have hf := a_if_f c39 hf
          refine lv_iconst (v := 0) hx hb dL_law_310 (by decide) ?_
          cases hf
          refine W.widen (k := (kc + 8)) (n := (ks + 48)) (by omega) (by omega) ?_
          exact hJ311 H locs ls hW (lv_sub hl [1, 2, 3, 4, 5, 6, 7, 8, 9, 11, 12, 0] rfl)
        · have hf := a_if_t c39 hf
          refine lv_iconst (v := 1) hx hb dL_law_306 (by decide) ?_
          refine lv_goto (tgt := 311) hx hb dL_law_307 (by decide) ?_
          cases hf
          refine W.widen (k := (kc + 8)) (n := (ks + 48)) (by omega) (by omega) ?_
          exact hJ311 H locs ls hW (lv_sub hl [1, 2, 3, 4, 5, 6, 7, 8, 9, 11, 12, 0] rfl)
      · have hf := a_if_t c37 hf
        refine lv_aload_n hx hb dL_law_277 rfl (lv_at hl 2 rfl) ?_
        refine lv_iload hx hb dL_law_278 (lv_at hl 15 rfl) ?_
        obtain ⟨r40, hg, hf⟩ := ot_inv hf
        refine l_cX hC hK hW (As := [.int x14]) (rest := []) (c0_X9_hasFailed l G hg) (cwV 1 hts tg_X9_hasFailed rfl rfl rfl (by decide +kernel) ⟨(Nat.le_of_ble_eq_true rfl), (Nat.le_of_ble_eq_true rfl)⟩) rfl hl.1 rfl (Nat.le_of_ble_eq_true rfl) dL_law_280 ⟨by omega, by omega⟩ (fun H locs hW => ?_)
        refine lv_if_ne (tgt := 292) hx hb dL_law_283 (by decide) (fun c41 => ?_) (fun c41 => ?_)
        · have hf := a_if_f c41 hf
          refine lv_iconst (v := 1) hx hb dL_law_292 (by decide) ?_
          refine lv_goto (tgt := 311) hx hb dL_law_293 (by decide) ?_
          cases hf
          refine W.widen (k := (kc + 8)) (n := (ks + 48)) (by omega) (by omega) ?_
          exact hJ311 H locs ls hW (lv_sub hl [1, 2, 3, 4, 5, 6, 7, 8, 9, 11, 12, 0] rfl)
        · have hf := a_if_t c41 hf
          refine lv_iload_n hx hb dL_law_286 rfl (lv_at hl 4 rfl) ?_
          refine lv_bipush (v := 40) hx hb dL_law_287 (by decide) ?_
          refine lv_icmp_ne (tgt := 296) hx hb dL_law_289 (by decide) (fun c42 => ?_) (fun c42 => ?_)
          · have hf := a_if_f c42 hf
            refine lv_iconst (v := 0) hx hb dL_law_296 (by decide) ?_
            refine lv_goto (tgt := 311) hx hb dL_law_297 (by decide) ?_
            cases hf
            refine W.widen (k := (kc + 8)) (n := (ks + 48)) (by omega) (by omega) ?_
            exact hJ311 H locs ls hW (lv_sub hl [1, 2, 3, 4, 5, 6, 7, 8, 9, 11, 12, 0] rfl)
          · have hf := a_if_t c42 hf
            refine lv_iconst (v := 1) hx hb dL_law_292 (by decide) ?_
            refine lv_goto (tgt := 311) hx hb dL_law_293 (by decide) ?_
            cases hf
            refine W.widen (k := (kc + 8)) (n := (ks + 48)) (by omega) (by omega) ?_
            exact hJ311 H locs ls hW (lv_sub hl [1, 2, 3, 4, 5, 6, 7, 8, 9, 11, 12, 0] rfl)
set_option maxHeartbeats 8000000 in
set_option maxRecDepth 100000 in
theorem law_B70 {p : Program} {l : Launch} {e : Env} {s : State} {m : MethodId} {below : List Frame} {meth : Method} {c : Code} {b : Nat} {Q : State → Prop} (hC : CallFix p m c cL_law 23 s #[Value.ref b] lw_tbl RL) (hst : l.stackTraces = false) {G : gG} (hK : l_K G s) {kc ks kc2 ks2 : Nat} (hk1 : kc + 8 ≤ kc2) (hs1 : ks + 48 ≤ ks2) (hk2 : kc2 ≤ 600074) (hs2 : ks2 ≤ 7301550) {x2 x3 x4 x5 x6 x7 x8 x9 x10 x11 x12 : Int32} {me mf : gM} {y2 y3 y4 y5 y6 y7 y8 y9 : Int32} (hf : f_L_law_B70 x2 x3 x4 x5 x6 x7 x8 x9 x12 me = some (y2, y3, y4, y5, y6, y7, y8, y9, mf)) {H : Heap} {locs : List Loc} {ls : Array Slot} (hW : l_H G s H locs me) (hl : lv_has ls 23 [(0, .ref b), (1, .ref (G.2.2.1 0)), (2, .int x2), (3, .int x3), (4, .int x4), (5, .int x5), (6, .int x6), (7, .int x7), (8, .int x8), (9, .int x9), (10, .int x10), (11, .int x11), (12, .int x12)]) (hE : ∀ (H : Heap) (locs : List Loc) (ls : Array Slot), l_H G s H locs mf → lv_has ls 23 [(0, .ref b), (1, .ref (G.2.2.1 0)), (2, .int y2), (3, .int y3), (4, .int y4), (5, .int y5), (6, .int y6), (7, .int y7), (8, .int y8), (9, .int y9), (10, .int x10), (11, .int x11)] → W p l e room_1 s m #[Value.ref b] below meth c H locs kc2 ks2 Q (F0 m 1361 ls [])) : W p l e room_1 s m #[Value.ref b] below meth c H locs kc ks Q (F0 m 70 ls []) := by
  have hR1 : room_1.cells = 600074 := rfl
  have hR2 : room_1.slots = 7301550 := rfl
  have hx := hC.1
  have hb := hC.2.1
  have hown := hC.2.2.2.1
  have hts := hC.2.2.2.2
  unfold f_L_law_B70 at hf
  refine lv_iload hx hb dL_law_70 (lv_at hl 12 rfl) ?_
  refine lv_bipush (v := 20) hx hb dL_law_72 (by decide) ?_
  refine lv_ishr hx hb dL_law_74 ?_
  refine lv_bipush (v := 20) hx hb dL_law_75 (by decide) ?_
  obtain ⟨r31, hg, hf⟩ := ob_inv hf
  refine l_cS hC hK hW (As := [.int (x12 >>> (20 &&& 31)), .int 20]) (rest := []) (c_L_low l G hg) (va_cwS 2 hts tg_L_low rfl rfl rfl (by decide +kernel) ⟨(Nat.le_of_ble_eq_true rfl), (Nat.le_of_ble_eq_true rfl)⟩) rfl hl.1 rfl (Nat.le_of_ble_eq_true rfl) dL_law_77 ⟨by omega, by omega⟩ (fun H locs hW => ?_)
  refine lv_istore (lv' := [(13, .int r31), (0, .ref b), (1, .ref (G.2.2.1 0)), (2, .int x2), (3, .int x3), (4, .int x4), (5, .int x5), (6, .int x6), (7, .int x7), (8, .int x8), (9, .int x9), (10, .int x10), (11, .int x11), (12, .int x12)]) hx hb dL_law_80 hl (by decide) rfl (fun ls hl => ?_)
  refine lv_iload hx hb dL_law_82 (lv_at hl 13 rfl) ?_
  refine lv_bipush (v := 6) hx hb dL_law_84 (by decide) ?_
  obtain ⟨r32, hg, hf⟩ := ob_inv hf
  refine l_cS hC hK hW (As := [.int x12, .int 6]) (rest := []) (c_L_low l G hg) (va_cwS 2 hts tg_L_low rfl rfl rfl (by decide +kernel) ⟨(Nat.le_of_ble_eq_true rfl), (Nat.le_of_ble_eq_true rfl)⟩) rfl hl.1 rfl (Nat.le_of_ble_eq_true rfl) dL_law_86 ⟨by omega, by omega⟩ (fun H locs hW => ?_)
  refine lv_istore (lv' := [(14, .int r32), (13, .int r31), (0, .ref b), (1, .ref (G.2.2.1 0)), (2, .int x2), (3, .int x3), (4, .int x4), (5, .int x5), (6, .int x6), (7, .int x7), (8, .int x8), (9, .int x9), (10, .int x10), (11, .int x11), (12, .int x12)]) hx hb dL_law_89 hl (by decide) rfl (fun ls hl => ?_)
  refine lv_iload hx hb dL_law_91 (lv_at hl 14 rfl) ?_
  refine lv_iconst (v := 3) hx hb dL_law_93 (by decide) ?_
  refine lv_ishr hx hb dL_law_94 ?_
  refine lv_iconst (v := 3) hx hb dL_law_95 (by decide) ?_
  obtain ⟨r33, hg, hf⟩ := ob_inv hf
  refine l_cS hC hK hW (As := [.int (x12 >>> (3 &&& 31)), .int 3]) (rest := []) (c_L_low l G hg) (va_cwS 2 hts tg_L_low rfl rfl rfl (by decide +kernel) ⟨(Nat.le_of_ble_eq_true rfl), (Nat.le_of_ble_eq_true rfl)⟩) rfl hl.1 rfl (Nat.le_of_ble_eq_true rfl) dL_law_96 ⟨by omega, by omega⟩ (fun H locs hW => ?_)
  refine lv_istore (lv' := [(15, .int r33), (14, .int r32), (13, .int r31), (0, .ref b), (1, .ref (G.2.2.1 0)), (2, .int x2), (3, .int x3), (4, .int x4), (5, .int x5), (6, .int x6), (7, .int x7), (8, .int x8), (9, .int x9), (10, .int x10), (11, .int x11), (12, .int x12)]) hx hb dL_law_99 hl (by decide) rfl (fun ls hl => ?_)
  refine lv_iload hx hb dL_law_101 (lv_at hl 15 rfl) ?_
  refine lv_iconst (v := 5) hx hb dL_law_103 (by decide) ?_
  refine lv_ishr hx hb dL_law_104 ?_
  refine lv_iconst (v := 4) hx hb dL_law_105 (by decide) ?_
  obtain ⟨r34, hg, hf⟩ := ob_inv hf
  refine l_cS hC hK hW (As := [.int (x12 >>> (5 &&& 31)), .int 4]) (rest := []) (c_L_low l G hg) (va_cwS 2 hts tg_L_low rfl rfl rfl (by decide +kernel) ⟨(Nat.le_of_ble_eq_true rfl), (Nat.le_of_ble_eq_true rfl)⟩) rfl hl.1 rfl (Nat.le_of_ble_eq_true rfl) dL_law_106 ⟨by omega, by omega⟩ (fun H locs hW => ?_)
  refine lv_istore (lv' := [(16, .int r34), (15, .int r33), (14, .int r32), (13, .int r31), (0, .ref b), (1, .ref (G.2.2.1 0)), (2, .int x2), (3, .int x3), (4, .int x4), (5, .int x5), (6, .int x6), (7, .int x7), (8, .int x8), (9, .int x9), (10, .int x10), (11, .int x11), (12, .int x12)]) hx hb dL_law_109 hl (by decide) rfl (fun ls hl => ?_)
  refine lv_iload hx hb dL_law_111 (lv_at hl 16 rfl) ?_
  refine lv_bipush (v := 7) hx hb dL_law_113 (by decide) ?_
  refine lv_ishr hx hb dL_law_115 ?_
  refine lv_bipush (v := 60) hx hb dL_law_116 (by decide) ?_
  obtain ⟨r35, hg, hf⟩ := ob_inv hf
  refine l_cS hC hK hW (As := [.int (x12 >>> (7 &&& 31)), .int 60]) (rest := []) (c_L_low l G hg) (va_cwS 2 hts tg_L_low rfl rfl rfl (by decide +kernel) ⟨(Nat.le_of_ble_eq_true rfl), (Nat.le_of_ble_eq_true rfl)⟩) rfl hl.1 rfl (Nat.le_of_ble_eq_true rfl) dL_law_118 ⟨by omega, by omega⟩ (fun H locs hW => ?_)
  refine lv_istore (lv' := [(17, .int r35), (16, .int r34), (15, .int r33), (14, .int r32), (13, .int r31), (0, .ref b), (1, .ref (G.2.2.1 0)), (2, .int x2), (3, .int x3), (4, .int x4), (5, .int x5), (6, .int x6), (7, .int x7), (8, .int x8), (9, .int x9), (10, .int x10), (11, .int x11), (12, .int x12)]) hx hb dL_law_121 hl (by decide) rfl (fun ls hl => ?_)
  refine lv_iconst (v := 1) hx hb dL_law_123 (by decide) ?_
  refine lv_iload hx hb dL_law_124 (lv_at hl 17 rfl) ?_
  refine lv_bipush (v := 11) hx hb dL_law_126 (by decide) ?_
  refine lv_ishr hx hb dL_law_128 ?_
  refine lv_bipush (v := 10) hx hb dL_law_129 (by decide) ?_
  obtain ⟨r36, hg, hf⟩ := ob_inv hf
  refine l_cS hC hK hW (As := [.int (x12 >>> (11 &&& 31)), .int 10]) (rest := [.int 1]) (c_L_low l G hg) (va_cwS 2 hts tg_L_low rfl rfl rfl (by decide +kernel) ⟨(Nat.le_of_ble_eq_true rfl), (Nat.le_of_ble_eq_true rfl)⟩) rfl hl.1 rfl (Nat.le_of_ble_eq_true rfl) dL_law_131 ⟨by omega, by omega⟩ (fun H locs hW => ?_)
  refine lv_iadd hx hb dL_law_134 ?_
  obtain ⟨x37, h9, hf⟩ := ob_inv hf
  refine g_nmi (Option.some.inj h9) ?_
  refine lv_istore (lv' := [(18, .int x37), (17, .int r35), (16, .int r34), (15, .int r33), (14, .int r32), (13, .int r31), (0, .ref b), (1, .ref (G.2.2.1 0)), (2, .int x2), (3, .int x3), (4, .int x4), (5, .int x5), (6, .int x6), (7, .int x7), (8, .int x8), (9, .int x9), (10, .int x10), (11, .int x11), (12, .int x12)]) hx hb dL_law_135 hl (by decide) rfl (fun ls hl => ?_)
  refine lv_iload hx hb dL_law_137 (lv_at hl 18 rfl) ?_
  refine lv_iconst (v := 2) hx hb dL_law_139 (by decide) ?_
  refine lv_ishr hx hb dL_law_140 ?_
  refine lv_iconst (v := 2) hx hb dL_law_141 (by decide) ?_
  obtain ⟨r38, hg, hf⟩ := ob_inv hf
  refine l_cS hC hK hW (As := [.int (x12 >>> (2 &&& 31)), .int 2]) (rest := []) (c_L_low l G hg) (va_cwS 2 hts tg_L_low rfl rfl rfl (by decide +kernel) ⟨(Nat.le_of_ble_eq_true rfl), (Nat.le_of_ble_eq_true rfl)⟩) rfl hl.1 rfl (Nat.le_of_ble_eq_true rfl) dL_law_142 ⟨by omega, by omega⟩ (fun H locs hW => ?_)
  obtain ⟨z40, hg, hf⟩ := ob_inv hf
  have hJ153 : ∀ (H : Heap) (locs : List Loc) (ls : Array Slot), l_H G s H locs me → lv_has ls 23 [(0, .ref b), (1, .ref (G.2.2.1 0)), (2, .int x2), (3, .int x3), (4, .int x4), (5, .int x5), (6, .int x6), (7, .int x7), (8, .int x8), (9, .int x9), (10, .int x10), (11, .int x11), (12, .int x12), (13, .int r31), (14, .int r32), (15, .int r33), (16, .int r34), (17, .int r35), (18, .int x37)] → W p l e room_1 s m #[Value.ref b] below meth c H locs kc ks Q (F0 m 153 ls [.int z40]) := by
    intro H locs ls hW hl
    refine lv_istore (lv' := [(19, .int z40), (0, .ref b), (1, .ref (G.2.2.1 0)), (2, .int x2), (3, .int x3), (4, .int x4), (5, .int x5), (6, .int x6), (7, .int x7), (8, .int x8), (9, .int x9), (10, .int x10), (11, .int x11), (12, .int x12), (13, .int r31), (14, .int r32), (15, .int r33), (16, .int r34), (17, .int r35), (18, .int x37)]) hx hb dL_law_153 hl (by decide) rfl (fun ls hl => ?_)
    refine lv_iload hx hb dL_law_155 (lv_at hl 14 rfl) ?_
    refine lv_iconst (v := 2) hx hb dL_law_157 (by decide) ?_
    refine lv_icmp_ge (tgt := 238) hx hb dL_law_158 (by decide) (fun c41 => ?_) (fun c41 => ?_)
    · have hf := a_if_t c41 hf
      exact law_B238 hC hst hK (kc2 := kc2) (ks2 := ks2) (by omega) (by omega) hk2 hs2 hf hW (lv_sub hl [1, 2, 3, 4, 5, 6, 7, 8, 9, 10, 11, 12, 13, 14, 15, 16, 17, 18, 19, 0] rfl) hE
    · have hf := a_if_f c41 hf
      refine lv_iconst (v := 1) hx hb dL_law_161 (by decide) ?_
      refine lv_iload hx hb dL_law_162 (lv_at hl 13 rfl) ?_
      refine lv_iconst (v := 4) hx hb dL_law_164 (by decide) ?_
      refine lv_ishr hx hb dL_law_165 ?_
      refine lv_sipush (v := 500) hx hb dL_law_166 (by decide) ?_
      obtain ⟨r42, hg, hf⟩ := ob_inv hf
      refine l_cS hC hK hW (As := [.int (x12 >>> (4 &&& 31)), .int 500]) (rest := [.int 1]) (c_L_low l G hg) (va_cwS 2 hts tg_L_low rfl rfl rfl (by decide +kernel) ⟨(Nat.le_of_ble_eq_true rfl), (Nat.le_of_ble_eq_true rfl)⟩) rfl hl.1 rfl (Nat.le_of_ble_eq_true rfl) dL_law_169 ⟨by omega, by omega⟩ (fun H locs hW => ?_)
      refine lv_iadd hx hb dL_law_172 ?_
      obtain ⟨x43, h9, hf⟩ := ob_inv hf
      refine g_nmi (Option.some.inj h9) ?_
      refine lv_istore (lv' := [(20, .int x43), (19, .int z40), (0, .ref b), (1, .ref (G.2.2.1 0)), (2, .int x2), (3, .int x3), (4, .int x4), (5, .int x5), (6, .int x6), (7, .int x7), (8, .int x8), (9, .int x9), (10, .int x10), (11, .int x11), (12, .int x12), (13, .int r31), (14, .int r32), (15, .int r33), (16, .int r34), (17, .int r35), (18, .int x37)]) hx hb dL_law_173 hl (by decide) rfl (fun ls hl => ?_)
      refine lv_aload_n hx hb dL_law_175 rfl (lv_at hl 3 rfl) ?_
      refine lv_iload hx hb dL_law_176 (lv_at hl 16 rfl) ?_
      refine lv_iload hx hb dL_law_178 (lv_at hl 0 rfl) ?_
      obtain ⟨⟨r44, m45⟩, hg, hf⟩ := ob_inv hf
      have hf := ob_inv2 hf
      refine l_cC hC hK hW (As := [.ref (G.2.2.1 0), .int r32, .int x43]) (rest := []) (c_L_deposit l G hst hg) (vx_cwSW 3 hts tg_L_deposit rfl rfl rfl (by decide +kernel) ⟨(Nat.le_of_ble_eq_true rfl), (Nat.le_of_ble_eq_true rfl)⟩) rfl hl.1 rfl (Nat.le_of_ble_eq_true rfl) dL_law_180 ⟨by omega, by omega⟩ (fun H locs hW => ?_)
      refine W.widen (k := (kc + 8)) (n := (ks + 48)) (by omega) (by omega) ?_
      refine lv_istore (lv' := [(21, .int r44), (20, .int x43), (19, .int z40), (0, .ref b), (1, .ref (G.2.2.1 0)), (2, .int x2), (3, .int x3), (4, .int x4), (5, .int x5), (6, .int x6), (7, .int x7), (8, .int x8), (9, .int x9), (10, .int x10), (11, .int x11), (12, .int x12), (13, .int r31), (14, .int r32), (15, .int r33), (16, .int r34), (17, .int r35), (18, .int x37)]) hx hb dL_law_183 hl (by decide) rfl (fun ls hl => ?_)
      refine lv_iload hx hb dL_law_185 (lv_at hl 0 rfl) ?_
      refine lv_bipush (v := (-9)) hx hb dL_law_187 (by decide) ?_
      obtain ⟨z48, hg, hf⟩ := ob_inv hf
      have hJ217 : ∀ (H : Heap) (locs : List Loc) (ls : Array Slot), l_H G s H locs m45 → lv_has ls 23 [(0, .ref b), (1, .ref (G.2.2.1 0)), (2, .int x2), (3, .int x3), (4, .int x4), (5, .int x5), (6, .int x6), (7, .int x7), (8, .int x8), (10, .int x10), (11, .int x11), (20, .int x43), (21, .int r44)] → W p l e room_1 s m #[Value.ref b] below meth c H locs (kc + 8) (ks + 48) Q (F0 m 217 ls [.int z48]) := by
        intro H locs ls hW hl
        refine lv_istore (lv' := [(9, .int z48), (0, .ref b), (1, .ref (G.2.2.1 0)), (2, .int x2), (3, .int x3), (4, .int x4), (5, .int x5), (6, .int x6), (7, .int x7), (8, .int x8), (10, .int x10), (11, .int x11), (20, .int x43), (21, .int r44)]) hx hb dL_law_217 hl (by decide) rfl (fun ls hl => ?_)
        refine lv_iload_n hx hb dL_law_219 rfl (lv_at hl 3 rfl) ?_
        refine lv_iload hx hb dL_law_220 (lv_at hl 13 rfl) ?_
        refine lv_bipush (v := (-9)) hx hb dL_law_222 (by decide) ?_
        obtain ⟨z53, hg, hf⟩ := ob_inv hf
        have hJ233 : ∀ (H : Heap) (locs : List Loc) (ls : Array Slot), l_H G s H locs m45 → lv_has ls 23 [(0, .ref b), (1, .ref (G.2.2.1 0)), (3, .int x3), (4, .int x4), (5, .int x5), (6, .int x6), (7, .int x7), (8, .int x8), (9, .int z48), (10, .int x10), (11, .int x11)] → W p l e room_1 s m #[Value.ref b] below meth c H locs (kc + 8) (ks + 48) Q (F0 m 233 ls [.int z53, .int x2]) := by
          intro H locs ls hW hl
          refine lv_iadd hx hb dL_law_233 ?_
          obtain ⟨x54, h9, hf⟩ := ob_inv hf
          refine g_nmi (Option.some.inj h9) ?_
          refine lv_istore_n (lv' := [(2, .int x54), (0, .ref b), (1, .ref (G.2.2.1 0)), (3, .int x3), (4, .int x4), (5, .int x5), (6, .int x6), (7, .int x7), (8, .int x8), (9, .int z48), (10, .int x10), (11, .int x11)]) hx hb dL_law_234 rfl hl (by decide) rfl (fun ls hl => ?_)
          refine lv_goto (tgt := 1341) hx hb dL_law_235 (by decide) ?_
          exact law_B1341 hC hst hK (kc2 := kc2) (ks2 := ks2) (by omega) (by omega) hk2 hs2 hf hW (lv_sub hl [1, 2, 0, 3, 4, 5, 6, 7, 8, 9, 10, 11] rfl) hE
        replace hf := hg
        refine lv_icmp_ne (tgt := 231) hx hb dL_law_224 (by decide) (fun c52 => ?_) (fun c52 => ?_)
        · have hf := a_if_f c52 hf
          refine lv_iload hx hb dL_law_231 (lv_at hl 12 rfl) ?_
          cases hf
          refine W.widen (k := (kc + 8)) (n := (ks + 48)) (by omega) (by omega) ?_
          exact hJ233 H locs ls hW (lv_sub hl [1, 2, 4, 5, 6, 7, 8, 9, 0, 10, 11] rfl)
        · have hf := a_if_t c52 hf
          refine lv_iconst (v := 0) hx hb dL_law_227 (by decide) ?_
          refine lv_goto (tgt := 233) hx hb dL_law_228 (by decide) ?_
          cases hf
          refine W.widen (k := (kc + 8)) (n := (ks + 48)) (by omega) (by omega) ?_
          exact hJ233 H locs ls hW (lv_sub hl [1, 2, 4, 5, 6, 7, 8, 9, 0, 10, 11] rfl)
      replace hf := hg
      refine lv_icmp_ne (tgt := 201) hx hb dL_law_189 (by decide) (fun c47 => ?_) (fun c47 => ?_)
      · have hf := a_if_f c47 hf
        refine lv_iload hx hb dL_law_201 (lv_at hl 0 rfl) ?_
        refine lv_aload_n hx hb dL_law_203 rfl (lv_at hl 4 rfl) ?_
        refine lv_iload hx hb dL_law_204 (lv_at hl 17 rfl) ?_
        obtain ⟨r49, hg, hf⟩ := ot_inv hf
        refine l_cX hC hK hW (As := [.int r32]) (rest := [.int r44]) (c0_X9_account l G hg) (cwV 1 hts tg_X9_account rfl rfl rfl (by decide +kernel) ⟨(Nat.le_of_ble_eq_true rfl), (Nat.le_of_ble_eq_true rfl)⟩) rfl hl.1 rfl (Nat.le_of_ble_eq_true rfl) dL_law_206 ⟨by omega, by omega⟩ (fun H locs hW => ?_)
        refine lv_icmp_ne (tgt := 216) hx hb dL_law_209 (by decide) (fun c50 => ?_) (fun c50 => ?_)
        · have hf := a_if_f c50 hf
          refine lv_iconst (v := 0) hx hb dL_law_216 (by decide) ?_
          cases hf
          refine W.widen (k := (kc + 8)) (n := (ks + 48)) (by omega) (by omega) ?_
          exact hJ217 H locs ls hW (lv_sub hl [3, 4, 5, 6, 7, 8, 9, 10, 11, 13, 14, 1, 0] rfl)
        · have hf := a_if_t c50 hf
          refine lv_iconst (v := 1) hx hb dL_law_212 (by decide) ?_
          refine lv_goto (tgt := 217) hx hb dL_law_213 (by decide) ?_
          cases hf
          refine W.widen (k := (kc + 8)) (n := (ks + 48)) (by omega) (by omega) ?_
          exact hJ217 H locs ls hW (lv_sub hl [3, 4, 5, 6, 7, 8, 9, 10, 11, 13, 14, 1, 0] rfl)
      · have hf := a_if_t c47 hf
        refine lv_aload_n hx hb dL_law_192 rfl (lv_at hl 4 rfl) ?_
        refine lv_iload hx hb dL_law_193 (lv_at hl 17 rfl) ?_
        obtain ⟨r51, hg, hf⟩ := ot_inv hf
        refine l_cX hC hK hW (As := [.int r32]) (rest := []) (c0_X9_hasFailed l G hg) (cwV 1 hts tg_X9_hasFailed rfl rfl rfl (by decide +kernel) ⟨(Nat.le_of_ble_eq_true rfl), (Nat.le_of_ble_eq_true rfl)⟩) rfl hl.1 rfl (Nat.le_of_ble_eq_true rfl) dL_law_195 ⟨by omega, by omega⟩ (fun H locs hW => ?_)
        refine lv_goto (tgt := 217) hx hb dL_law_198 (by decide) ?_
        cases hf
        refine W.widen (k := (kc + 8)) (n := (ks + 48)) (by omega) (by omega) ?_
        exact hJ217 H locs ls hW (lv_sub hl [3, 4, 5, 6, 7, 8, 9, 10, 11, 13, 14, 1, 0] rfl)
  replace hf := hg
  refine lv_if_ne (tgt := 152) hx hb dL_law_145 (by decide) (fun c39 => ?_) (fun c39 => ?_)
  · have hf := a_if_f c39 hf
    refine lv_iconst (v := 0) hx hb dL_law_152 (by decide) ?_
    cases hf
    refine W.widen (k := kc) (n := ks) (by omega) (by omega) ?_
    exact hJ153 H locs ls hW (lv_sub hl [6, 7, 8, 9, 10, 11, 12, 13, 14, 15, 16, 17, 18, 5, 4, 3, 2, 1, 0] rfl)
  · have hf := a_if_t c39 hf
    refine lv_iconst (v := 1) hx hb dL_law_148 (by decide) ?_
    refine lv_goto (tgt := 153) hx hb dL_law_149 (by decide) ?_
    cases hf
    refine W.widen (k := kc) (n := ks) (by omega) (by omega) ?_
    exact hJ153 H locs ls hW (lv_sub hl [6, 7, 8, 9, 10, 11, 12, 13, 14, 15, 16, 17, 18, 5, 4, 3, 2, 1, 0] rfl)
