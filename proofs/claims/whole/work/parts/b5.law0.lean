theorem l_sld {p : Program} {l : Launch} {e : Env} {R : Room} {s : State} {m : MethodId} {args : Array Value} {below : List Frame} {meth : Method} {c : Code} {H : Heap} {locs : List Loc} {cells slots : Nat} {Q : State → Prop} {cc : ByteArray} {pc nL : Nat} {ls : Array Slot} {rest : List Value} {Ts : List Cond} {own : String} {G : gG} {ad : Nat → Nat} {mc mm : gM} {b L : Nat} {xs : Nat → Int32} (hC : CallFix p m c cc nL s args Ts own) (hX : va_X b L xs s s.heap) (hbl : b < s.heap.size) (hW : l_H G ad s H locs mc mm) {j k : Nat} {i : Int32} (h : 7 * j + k < L) (hL : L ≤ 3584) (hi : i = nI (7 * j + k)) (hdg : decode cc pc = .ok (.iaload, 1))
    (kk : W p l e R s m args below meth c H locs cells slots Q (F0 m (pc + 1) ls (.int (xs (7 * j + k)) :: rest))) : W p l e R s m args below meth c H locs cells slots Q (F0 m pc ls (.int i :: .ref b :: rest)) := by
  subst hi
  refine va_sld hC.1 hC.2.1 hX hbl (Nat.not_le.mpr hbl) hW.2.2.1 (vp_in_nI h (by omega)) hdg ?_
  rw [nI_clamp (by omega)]
  exact kk
theorem l_cmps {x y : Int32} (h : x = y) : lg_cmp x.toInt64 y.toInt64 = 0 := by
  subst h
  simp [lg_cmp]
theorem l_cmpb0 {x r : Int32} (hr : r = 0 ∨ r = 1) (h : x = r) (c : r = 0) : lg_cmp x.toInt64 0 = 0 := by
  subst h
  subst c
  decide
theorem l_cmpb1 {x r : Int32} (hr : r = 0 ∨ r = 1) (h : x = r) (c : ¬ r = 0) : lg_cmp x.toInt64 1 = 0 := by
  have h1 : r = 1 := hr.resolve_left c
  subst h
  subst h1
  decide
set_option maxHeartbeats 4000000 in
set_option maxRecDepth 100000 in
theorem law_case_0 {p : Program} {l : Launch} {e : Env} {s : State} {m : MethodId} {below : List Frame} {meth : Method} {c : Code} {b L : Nat} {xs : Nat → Int32} (hL : L ≤ 3584) (C0 : lw_At p s m meth c b L xs) (hst : l.stackTraces = false) {G : gG} {ad : Nat → Nat} (hK : l_K G ad s) {Rel : gM → gM → Prop} (hop : l_op_0 Rel) {j : Nat} (hj : 7 * j + 7 ≤ L) {mc mm : gM} (hR : Rel mc mm) {H : Heap} {locs : List Loc} {ls : Array Slot} {cells slots : Nat} (hc1 : cells + 8 ≤ 601024) (hc2 : slots + 48 ≤ 7293034) (hW : l_H G ad s H locs mc mm) (hl : lv_has ls 7 [(0, .ref b), (1, .ref (G.2.2.1 0)), (2, .ref (ad 0)), (3, .ref (G.2.2.1 229)), (4, .int (nI (7 * j)))]) (kN : ∀ (mc mm : gM) (H : Heap) (locs : List Loc) (ls : Array Slot), Rel mc mm → l_H G ad s H locs mc mm → lv_has ls 7 [(0, .ref b), (1, .ref (G.2.2.1 0)), (2, .ref (ad 0)), (3, .ref (G.2.2.1 229)), (4, .int (nI (7 * j)))] → W p l e room_1 s m #[Value.ref b] below meth c H locs (cells + 8) (slots + 48) (lw_Z below #[Value.ref b] s) (F0 m 2367 ls [])) : W p l e room_1 s m #[Value.ref b] below meth c H locs cells slots (lw_Z below #[Value.ref b] s) (F0 m 184 ls []) := by
  obtain ⟨hx, hb, hr, hml, hown, hts, hX, hbl, hlocks, hgv⟩ := id C0
  have hC : CallFix p m c cL_law 7 s #[Value.ref b] lw_tbl RL := ⟨hx, hb, hml, hown, hts⟩
  have hR1 : room_1.cells = 601024 := rfl
  have hR2 : room_1.slots = 7293034 := rfl
  obtain ⟨k1, mc2, r1, mm2, h1, h2, h3, h4, hR⟩ := hop mc mm (xs (7 * j + 1)) (xs (7 * j + 2))  hR
  refine lv_aload_n hx hb dL_law_184 rfl (lv_at hl 1 rfl) ?_
  refine lv_aload_n hx hb dL_law_185 rfl (lv_at hl 0 rfl) ?_
  refine lv_iload hx hb dL_law_186 (lv_at hl 4 rfl) ?_
  refine lv_iconst (v := 1) hx hb dL_law_188 (by decide) ?_
  refine lv_iadd hx hb dL_law_189 ?_
  refine l_sld hC hX hbl hW (j := j) (k := 1) (by omega) hL (nI_add (7 * j) 1) dL_law_190 ?_
  refine lv_aload_n hx hb dL_law_191 rfl (lv_at hl 0 rfl) ?_
  refine lv_iload hx hb dL_law_192 (lv_at hl 4 rfl) ?_
  refine lv_iconst (v := 2) hx hb dL_law_194 (by decide) ?_
  refine lv_iadd hx hb dL_law_195 ?_
  refine l_sld hC hX hbl hW (j := j) (k := 2) (by omega) hL (nI_add (7 * j) 2) dL_law_196 ?_
  refine lv_aload_n hx hb dL_law_197 rfl (lv_at hl 3 rfl) ?_
  refine l_cC hC hK hW (As := [.ref (G.2.2.1 0), .int (xs (7 * j + 1)), .int (xs (7 * j + 2)), .ref (G.2.2.1 229)]) (rest := []) (c_L_deposit l G hst h1) (vx_cwSW 4 hts tg_L_deposit rfl rfl rfl (by decide +kernel) ⟨(Nat.le_of_ble_eq_true rfl), (Nat.le_of_ble_eq_true rfl)⟩) rfl hl.1 rfl (Nat.le_of_ble_eq_true rfl) dL_law_198 ⟨by omega, by omega⟩ (fun H locs hW => ?_)
  refine lv_istore (lv' := [(5, .int k1), (0, .ref b), (1, .ref (G.2.2.1 0)), (2, .ref (ad 0)), (3, .ref (G.2.2.1 229)), (4, .int (nI (7 * j)))]) hx hb dL_law_201 hl (by decide) rfl (fun ls hl => ?_)
  refine lv_aload_n hx hb dL_law_203 rfl (lv_at hl 3 rfl) ?_
  refine lv_aload_n hx hb dL_law_204 rfl (lv_at hl 1 rfl) ?_
  refine lv_iload hx hb dL_law_205 (lv_at hl 5 rfl) ?_
  refine lv_iconst (v := 1) hx hb dL_law_207 (by decide) ?_
  refine lv_iadd hx hb dL_law_208 ?_
  refine l_sld hC hX hbl hW (j := j) (k := 1) (by omega) hL (nI_add (7 * j) 1) dL_law_209 ?_
  refine lv_aload_n hx hb dL_law_210 rfl (lv_at hl 1 rfl) ?_
  refine lv_iload hx hb dL_law_211 (lv_at hl 5 rfl) ?_
  refine lv_iconst (v := 2) hx hb dL_law_213 (by decide) ?_
  refine lv_iadd hx hb dL_law_214 ?_
  refine l_sld hC hX hbl hW (j := j) (k := 2) (by omega) hL (nI_add (7 * j) 2) dL_law_215 ?_
  refine l_cM hC hK hW (As := [.int (xs (7 * j + 1)), .int (xs (7 * j + 2))]) (rest := []) (c_X10_deposit l (l_GM G ad) h2) (cwV 2 hts tg_X10_deposit rfl rfl rfl (by decide +kernel) ⟨(Nat.le_of_ble_eq_true rfl), (Nat.le_of_ble_eq_true rfl)⟩) rfl hl.1 rfl (Nat.le_of_ble_eq_true rfl) dL_law_216 ⟨by omega, by omega⟩ (fun H locs hW => ?_)
  refine lv_istore (lv' := [(6, .int r1), (5, .int k1), (0, .ref b), (1, .ref (G.2.2.1 0)), (2, .ref (ad 0)), (3, .ref (G.2.2.1 229)), (4, .int (nI (7 * j)))]) hx hb dL_law_219 hl (by decide) rfl (fun ls hl => ?_)
  refine lv_aload_n hx hb dL_law_221 rfl (lv_at hl 4 rfl) ?_
  refine l_cM hC hK hW (As := []) (rest := []) (c_X10_thrown l (l_GM G ad) h3) (cwV 0 hts tg_X10_thrown rfl rfl rfl (by decide +kernel) ⟨(Nat.le_of_ble_eq_true rfl), (Nat.le_of_ble_eq_true rfl)⟩) rfl hl.1 rfl (Nat.le_of_ble_eq_true rfl) dL_law_222 ⟨by omega, by omega⟩ (fun H locs hW => ?_)
  refine lv_iload hx hb dL_law_225 (lv_at hl 1 rfl) ?_
  refine lv_icmp_eq (tgt := 232) hx hb dL_law_227 (by decide) (fun _ => ?_) (fun c9 => absurd rfl c9)
  refine lv_iload hx hb dL_law_232 (lv_at hl 1 rfl) ?_
  refine lv_if_ne (tgt := 249) hx hb dL_law_234 (by decide) (fun c9 => ?_) (fun c9 => ?_)
  · refine lv_goto (tgt := 2367) hx hb dL_law_249 (by decide) ?_
    refine W.widen (k := cells + 8) (n := slots + 48) (by omega) (by omega) ?_
    exact kN _ _ H locs ls hR hW (lv_sub hl [2, 3, 4, 5, 6] rfl)
  · refine lv_aload_n hx hb dL_law_237 rfl (lv_at hl 5 rfl) ?_
    refine lv_iconst (v := 0) hx hb dL_law_238 (by decide) ?_
    refine l_lld hC hK hW dL_law_239 ?_
    refine lv_iload hx hb dL_law_240 (lv_at hl 0 rfl) ?_
    refine lv_i2l (v := (r1).toInt64) hx hb dL_law_242 rfl ?_
    refine W.lcmp hx hb dL_law_243 ?_
    refine lv_if_eq (tgt := 249) hx hb dL_law_244 (by decide) (fun _ => ?_) (fun c8 => absurd (l_cmps (h4 c9)) c8)
    refine lv_goto (tgt := 2367) hx hb dL_law_249 (by decide) ?_
    refine W.widen (k := cells + 8) (n := slots + 48) (by omega) (by omega) ?_
    exact kN _ _ H locs ls hR hW (lv_sub hl [2, 3, 4, 5, 6] rfl)
set_option maxHeartbeats 4000000 in
set_option maxRecDepth 100000 in
theorem law_case_1 {p : Program} {l : Launch} {e : Env} {s : State} {m : MethodId} {below : List Frame} {meth : Method} {c : Code} {b L : Nat} {xs : Nat → Int32} (hL : L ≤ 3584) (C0 : lw_At p s m meth c b L xs) (hst : l.stackTraces = false) {G : gG} {ad : Nat → Nat} (hK : l_K G ad s) {Rel : gM → gM → Prop} (hop : l_op_1 Rel) {j : Nat} (hj : 7 * j + 7 ≤ L) {mc mm : gM} (hR : Rel mc mm) {H : Heap} {locs : List Loc} {ls : Array Slot} {cells slots : Nat} (hc1 : cells + 8 ≤ 601024) (hc2 : slots + 48 ≤ 7293034) (hW : l_H G ad s H locs mc mm) (hl : lv_has ls 7 [(0, .ref b), (1, .ref (G.2.2.1 0)), (2, .ref (ad 0)), (3, .ref (G.2.2.1 229)), (4, .int (nI (7 * j)))]) (kN : ∀ (mc mm : gM) (H : Heap) (locs : List Loc) (ls : Array Slot), Rel mc mm → l_H G ad s H locs mc mm → lv_has ls 7 [(0, .ref b), (1, .ref (G.2.2.1 0)), (2, .ref (ad 0)), (3, .ref (G.2.2.1 229)), (4, .int (nI (7 * j)))] → W p l e room_1 s m #[Value.ref b] below meth c H locs (cells + 8) (slots + 48) (lw_Z below #[Value.ref b] s) (F0 m 2367 ls [])) : W p l e room_1 s m #[Value.ref b] below meth c H locs cells slots (lw_Z below #[Value.ref b] s) (F0 m 252 ls []) := by
  obtain ⟨hx, hb, hr, hml, hown, hts, hX, hbl, hlocks, hgv⟩ := id C0
  have hC : CallFix p m c cL_law 7 s #[Value.ref b] lw_tbl RL := ⟨hx, hb, hml, hown, hts⟩
  have hR1 : room_1.cells = 601024 := rfl
  have hR2 : room_1.slots = 7293034 := rfl
  obtain ⟨k1, mc2, r1, mm2, h1, h2, h3, h4, hR⟩ := hop mc mm (xs (7 * j + 1)) (xs (7 * j + 2))  hR
  refine lv_aload_n hx hb dL_law_252 rfl (lv_at hl 1 rfl) ?_
  refine lv_aload_n hx hb dL_law_253 rfl (lv_at hl 0 rfl) ?_
  refine lv_iload hx hb dL_law_254 (lv_at hl 4 rfl) ?_
  refine lv_iconst (v := 1) hx hb dL_law_256 (by decide) ?_
  refine lv_iadd hx hb dL_law_257 ?_
  refine l_sld hC hX hbl hW (j := j) (k := 1) (by omega) hL (nI_add (7 * j) 1) dL_law_258 ?_
  refine lv_aload_n hx hb dL_law_259 rfl (lv_at hl 0 rfl) ?_
  refine lv_iload hx hb dL_law_260 (lv_at hl 4 rfl) ?_
  refine lv_iconst (v := 2) hx hb dL_law_262 (by decide) ?_
  refine lv_iadd hx hb dL_law_263 ?_
  refine l_sld hC hX hbl hW (j := j) (k := 2) (by omega) hL (nI_add (7 * j) 2) dL_law_264 ?_
  refine lv_aload_n hx hb dL_law_265 rfl (lv_at hl 3 rfl) ?_
  refine l_cC hC hK hW (As := [.ref (G.2.2.1 0), .int (xs (7 * j + 1)), .int (xs (7 * j + 2)), .ref (G.2.2.1 229)]) (rest := []) (c_L_setLimit l G hst h1) (vx_cwSW 4 hts tg_L_setLimit rfl rfl rfl (by decide +kernel) ⟨(Nat.le_of_ble_eq_true rfl), (Nat.le_of_ble_eq_true rfl)⟩) rfl hl.1 rfl (Nat.le_of_ble_eq_true rfl) dL_law_266 ⟨by omega, by omega⟩ (fun H locs hW => ?_)
  refine lv_istore (lv' := [(5, .int k1), (0, .ref b), (1, .ref (G.2.2.1 0)), (2, .ref (ad 0)), (3, .ref (G.2.2.1 229)), (4, .int (nI (7 * j)))]) hx hb dL_law_269 hl (by decide) rfl (fun ls hl => ?_)
  refine lv_aload_n hx hb dL_law_271 rfl (lv_at hl 3 rfl) ?_
  refine lv_aload_n hx hb dL_law_272 rfl (lv_at hl 1 rfl) ?_
  refine lv_iload hx hb dL_law_273 (lv_at hl 5 rfl) ?_
  refine lv_iconst (v := 1) hx hb dL_law_275 (by decide) ?_
  refine lv_iadd hx hb dL_law_276 ?_
  refine l_sld hC hX hbl hW (j := j) (k := 1) (by omega) hL (nI_add (7 * j) 1) dL_law_277 ?_
  refine lv_aload_n hx hb dL_law_278 rfl (lv_at hl 1 rfl) ?_
  refine lv_iload hx hb dL_law_279 (lv_at hl 5 rfl) ?_
  refine lv_iconst (v := 2) hx hb dL_law_281 (by decide) ?_
  refine lv_iadd hx hb dL_law_282 ?_
  refine l_sld hC hX hbl hW (j := j) (k := 2) (by omega) hL (nI_add (7 * j) 2) dL_law_283 ?_
  refine l_cM hC hK hW (As := [.int (xs (7 * j + 1)), .int (xs (7 * j + 2))]) (rest := []) (c_X10_setLimit l (l_GM G ad) h2) (cwV 2 hts tg_X10_setLimit rfl rfl rfl (by decide +kernel) ⟨(Nat.le_of_ble_eq_true rfl), (Nat.le_of_ble_eq_true rfl)⟩) rfl hl.1 rfl (Nat.le_of_ble_eq_true rfl) dL_law_284 ⟨by omega, by omega⟩ (fun H locs hW => ?_)
  refine lv_istore (lv' := [(6, .int r1), (5, .int k1), (0, .ref b), (1, .ref (G.2.2.1 0)), (2, .ref (ad 0)), (3, .ref (G.2.2.1 229)), (4, .int (nI (7 * j)))]) hx hb dL_law_287 hl (by decide) rfl (fun ls hl => ?_)
  refine lv_aload_n hx hb dL_law_289 rfl (lv_at hl 4 rfl) ?_
  refine l_cM hC hK hW (As := []) (rest := []) (c_X10_thrown l (l_GM G ad) h3) (cwV 0 hts tg_X10_thrown rfl rfl rfl (by decide +kernel) ⟨(Nat.le_of_ble_eq_true rfl), (Nat.le_of_ble_eq_true rfl)⟩) rfl hl.1 rfl (Nat.le_of_ble_eq_true rfl) dL_law_290 ⟨by omega, by omega⟩ (fun H locs hW => ?_)
  refine lv_iload hx hb dL_law_293 (lv_at hl 1 rfl) ?_
  refine lv_icmp_eq (tgt := 300) hx hb dL_law_295 (by decide) (fun _ => ?_) (fun c9 => absurd rfl c9)
  refine lv_iload hx hb dL_law_300 (lv_at hl 1 rfl) ?_
  refine lv_if_ne (tgt := 317) hx hb dL_law_302 (by decide) (fun c9 => ?_) (fun c9 => ?_)
  · refine lv_goto (tgt := 2367) hx hb dL_law_317 (by decide) ?_
    refine W.widen (k := cells + 8) (n := slots + 48) (by omega) (by omega) ?_
    exact kN _ _ H locs ls hR hW (lv_sub hl [2, 3, 4, 5, 6] rfl)
  · refine lv_aload_n hx hb dL_law_305 rfl (lv_at hl 5 rfl) ?_
    refine lv_iconst (v := 0) hx hb dL_law_306 (by decide) ?_
    refine l_lld hC hK hW dL_law_307 ?_
    refine lv_iload hx hb dL_law_308 (lv_at hl 0 rfl) ?_
    refine lv_i2l (v := (r1).toInt64) hx hb dL_law_310 rfl ?_
    refine W.lcmp hx hb dL_law_311 ?_
    refine lv_if_eq (tgt := 317) hx hb dL_law_312 (by decide) (fun _ => ?_) (fun c8 => absurd (l_cmps (h4 c9)) c8)
    refine lv_goto (tgt := 2367) hx hb dL_law_317 (by decide) ?_
    refine W.widen (k := cells + 8) (n := slots + 48) (by omega) (by omega) ?_
    exact kN _ _ H locs ls hR hW (lv_sub hl [2, 3, 4, 5, 6] rfl)
set_option maxHeartbeats 4000000 in
set_option maxRecDepth 100000 in
theorem law_case_2 {p : Program} {l : Launch} {e : Env} {s : State} {m : MethodId} {below : List Frame} {meth : Method} {c : Code} {b L : Nat} {xs : Nat → Int32} (hL : L ≤ 3584) (C0 : lw_At p s m meth c b L xs) (hst : l.stackTraces = false) {G : gG} {ad : Nat → Nat} (hK : l_K G ad s) {Rel : gM → gM → Prop} (hop : l_op_2 Rel) {j : Nat} (hj : 7 * j + 7 ≤ L) {mc mm : gM} (hR : Rel mc mm) {H : Heap} {locs : List Loc} {ls : Array Slot} {cells slots : Nat} (hc1 : cells + 8 ≤ 601024) (hc2 : slots + 48 ≤ 7293034) (hW : l_H G ad s H locs mc mm) (hl : lv_has ls 7 [(0, .ref b), (1, .ref (G.2.2.1 0)), (2, .ref (ad 0)), (3, .ref (G.2.2.1 229)), (4, .int (nI (7 * j)))]) (kN : ∀ (mc mm : gM) (H : Heap) (locs : List Loc) (ls : Array Slot), Rel mc mm → l_H G ad s H locs mc mm → lv_has ls 7 [(0, .ref b), (1, .ref (G.2.2.1 0)), (2, .ref (ad 0)), (3, .ref (G.2.2.1 229)), (4, .int (nI (7 * j)))] → W p l e room_1 s m #[Value.ref b] below meth c H locs (cells + 8) (slots + 48) (lw_Z below #[Value.ref b] s) (F0 m 2367 ls [])) : W p l e room_1 s m #[Value.ref b] below meth c H locs cells slots (lw_Z below #[Value.ref b] s) (F0 m 320 ls []) := by
  obtain ⟨hx, hb, hr, hml, hown, hts, hX, hbl, hlocks, hgv⟩ := id C0
  have hC : CallFix p m c cL_law 7 s #[Value.ref b] lw_tbl RL := ⟨hx, hb, hml, hown, hts⟩
  have hR1 : room_1.cells = 601024 := rfl
  have hR2 : room_1.slots = 7293034 := rfl
  by_cases hbo : xs (7 * j + 4) = 0
  · obtain ⟨k1, mc2, r1, mm2, h1, h2, h3, h4, hR⟩ := hop mc mm (xs (7 * j + 1)) (xs (7 * j + 2)) (xs (7 * j + 3)) 0 (xs (7 * j + 5)) (xs (7 * j + 6)) (Or.inl rfl) hR
    refine lv_aload_n hx hb dL_law_320 rfl (lv_at hl 1 rfl) ?_
    refine lv_aload_n hx hb dL_law_321 rfl (lv_at hl 0 rfl) ?_
    refine lv_iload hx hb dL_law_322 (lv_at hl 4 rfl) ?_
    refine lv_iconst (v := 1) hx hb dL_law_324 (by decide) ?_
    refine lv_iadd hx hb dL_law_325 ?_
    refine l_sld hC hX hbl hW (j := j) (k := 1) (by omega) hL (nI_add (7 * j) 1) dL_law_326 ?_
    refine lv_aload_n hx hb dL_law_327 rfl (lv_at hl 0 rfl) ?_
    refine lv_iload hx hb dL_law_328 (lv_at hl 4 rfl) ?_
    refine lv_iconst (v := 2) hx hb dL_law_330 (by decide) ?_
    refine lv_iadd hx hb dL_law_331 ?_
    refine l_sld hC hX hbl hW (j := j) (k := 2) (by omega) hL (nI_add (7 * j) 2) dL_law_332 ?_
    refine lv_aload_n hx hb dL_law_333 rfl (lv_at hl 0 rfl) ?_
    refine lv_iload hx hb dL_law_334 (lv_at hl 4 rfl) ?_
    refine lv_iconst (v := 3) hx hb dL_law_336 (by decide) ?_
    refine lv_iadd hx hb dL_law_337 ?_
    refine l_sld hC hX hbl hW (j := j) (k := 3) (by omega) hL (nI_add (7 * j) 3) dL_law_338 ?_
    refine lv_aload_n hx hb dL_law_339 rfl (lv_at hl 0 rfl) ?_
    refine lv_iload hx hb dL_law_340 (lv_at hl 4 rfl) ?_
    refine lv_iconst (v := 4) hx hb dL_law_342 (by decide) ?_
    refine lv_iadd hx hb dL_law_343 ?_
    refine l_sld hC hX hbl hW (j := j) (k := 4) (by omega) hL (nI_add (7 * j) 4) dL_law_344 ?_
    refine lv_if_eq (tgt := 352) hx hb dL_law_345 (by decide) (fun _ => ?_) (fun c8 => absurd hbo c8)
    refine lv_iconst (v := 0) hx hb dL_law_352 (by decide) ?_
    refine lv_aload_n hx hb dL_law_353 rfl (lv_at hl 0 rfl) ?_
    refine lv_iload hx hb dL_law_354 (lv_at hl 4 rfl) ?_
    refine lv_iconst (v := 5) hx hb dL_law_356 (by decide) ?_
    refine lv_iadd hx hb dL_law_357 ?_
    refine l_sld hC hX hbl hW (j := j) (k := 5) (by omega) hL (nI_add (7 * j) 5) dL_law_358 ?_
    refine lv_aload_n hx hb dL_law_359 rfl (lv_at hl 0 rfl) ?_
    refine lv_iload hx hb dL_law_360 (lv_at hl 4 rfl) ?_
    refine lv_bipush (v := 6) hx hb dL_law_362 (by decide) ?_
    refine lv_iadd hx hb dL_law_364 ?_
    refine l_sld hC hX hbl hW (j := j) (k := 6) (by omega) hL (nI_add (7 * j) 6) dL_law_365 ?_
    refine lv_aload_n hx hb dL_law_366 rfl (lv_at hl 3 rfl) ?_
    refine l_cC hC hK hW (As := [.ref (G.2.2.1 0), .int (xs (7 * j + 1)), .int (xs (7 * j + 2)), .int (xs (7 * j + 3)), .int 0, .int (xs (7 * j + 5)), .int (xs (7 * j + 6)), .ref (G.2.2.1 229)]) (rest := []) (c_L_bid l G hst h1) (vx_cwSW 8 hts tg_L_bid rfl rfl rfl (by decide +kernel) ⟨(Nat.le_of_ble_eq_true rfl), (Nat.le_of_ble_eq_true rfl)⟩) rfl hl.1 rfl (Nat.le_of_ble_eq_true rfl) dL_law_367 ⟨by omega, by omega⟩ (fun H locs hW => ?_)
    refine lv_istore (lv' := [(5, .int k1), (0, .ref b), (1, .ref (G.2.2.1 0)), (2, .ref (ad 0)), (3, .ref (G.2.2.1 229)), (4, .int (nI (7 * j)))]) hx hb dL_law_370 hl (by decide) rfl (fun ls hl => ?_)
    refine lv_aload_n hx hb dL_law_372 rfl (lv_at hl 3 rfl) ?_
    refine lv_aload_n hx hb dL_law_373 rfl (lv_at hl 1 rfl) ?_
    refine lv_iload hx hb dL_law_374 (lv_at hl 5 rfl) ?_
    refine lv_iconst (v := 1) hx hb dL_law_376 (by decide) ?_
    refine lv_iadd hx hb dL_law_377 ?_
    refine l_sld hC hX hbl hW (j := j) (k := 1) (by omega) hL (nI_add (7 * j) 1) dL_law_378 ?_
    refine lv_aload_n hx hb dL_law_379 rfl (lv_at hl 1 rfl) ?_
    refine lv_iload hx hb dL_law_380 (lv_at hl 5 rfl) ?_
    refine lv_iconst (v := 2) hx hb dL_law_382 (by decide) ?_
    refine lv_iadd hx hb dL_law_383 ?_
    refine l_sld hC hX hbl hW (j := j) (k := 2) (by omega) hL (nI_add (7 * j) 2) dL_law_384 ?_
    refine lv_aload_n hx hb dL_law_385 rfl (lv_at hl 1 rfl) ?_
    refine lv_iload hx hb dL_law_386 (lv_at hl 5 rfl) ?_
    refine lv_iconst (v := 3) hx hb dL_law_388 (by decide) ?_
    refine lv_iadd hx hb dL_law_389 ?_
    refine l_sld hC hX hbl hW (j := j) (k := 3) (by omega) hL (nI_add (7 * j) 3) dL_law_390 ?_
    refine lv_aload_n hx hb dL_law_391 rfl (lv_at hl 1 rfl) ?_
    refine lv_iload hx hb dL_law_392 (lv_at hl 5 rfl) ?_
    refine lv_iconst (v := 4) hx hb dL_law_394 (by decide) ?_
    refine lv_iadd hx hb dL_law_395 ?_
    refine l_sld hC hX hbl hW (j := j) (k := 4) (by omega) hL (nI_add (7 * j) 4) dL_law_396 ?_
    refine lv_if_eq (tgt := 404) hx hb dL_law_397 (by decide) (fun _ => ?_) (fun c8 => absurd hbo c8)
    refine lv_iconst (v := 0) hx hb dL_law_404 (by decide) ?_
    refine lv_aload_n hx hb dL_law_405 rfl (lv_at hl 1 rfl) ?_
    refine lv_iload hx hb dL_law_406 (lv_at hl 5 rfl) ?_
    refine lv_iconst (v := 5) hx hb dL_law_408 (by decide) ?_
    refine lv_iadd hx hb dL_law_409 ?_
    refine l_sld hC hX hbl hW (j := j) (k := 5) (by omega) hL (nI_add (7 * j) 5) dL_law_410 ?_
    refine lv_aload_n hx hb dL_law_411 rfl (lv_at hl 1 rfl) ?_
    refine lv_iload hx hb dL_law_412 (lv_at hl 5 rfl) ?_
    refine lv_bipush (v := 6) hx hb dL_law_414 (by decide) ?_
    refine lv_iadd hx hb dL_law_416 ?_
    refine l_sld hC hX hbl hW (j := j) (k := 6) (by omega) hL (nI_add (7 * j) 6) dL_law_417 ?_
    refine l_cM hC hK hW (As := [.int (xs (7 * j + 1)), .int (xs (7 * j + 2)), .int (xs (7 * j + 3)), .int 0, .int (xs (7 * j + 5)), .int (xs (7 * j + 6))]) (rest := []) (c_X10_bid l (l_GM G ad) h2) (cwV 6 hts tg_X10_bid rfl rfl rfl (by decide +kernel) ⟨(Nat.le_of_ble_eq_true rfl), (Nat.le_of_ble_eq_true rfl)⟩) rfl hl.1 rfl (Nat.le_of_ble_eq_true rfl) dL_law_418 ⟨by omega, by omega⟩ (fun H locs hW => ?_)
    refine lv_istore (lv' := [(6, .int r1), (5, .int k1), (0, .ref b), (1, .ref (G.2.2.1 0)), (2, .ref (ad 0)), (3, .ref (G.2.2.1 229)), (4, .int (nI (7 * j)))]) hx hb dL_law_421 hl (by decide) rfl (fun ls hl => ?_)
    refine lv_aload_n hx hb dL_law_423 rfl (lv_at hl 4 rfl) ?_
    refine l_cM hC hK hW (As := []) (rest := []) (c_X10_thrown l (l_GM G ad) h3) (cwV 0 hts tg_X10_thrown rfl rfl rfl (by decide +kernel) ⟨(Nat.le_of_ble_eq_true rfl), (Nat.le_of_ble_eq_true rfl)⟩) rfl hl.1 rfl (Nat.le_of_ble_eq_true rfl) dL_law_424 ⟨by omega, by omega⟩ (fun H locs hW => ?_)
    refine lv_iload hx hb dL_law_427 (lv_at hl 1 rfl) ?_
    refine lv_icmp_eq (tgt := 434) hx hb dL_law_429 (by decide) (fun _ => ?_) (fun c9 => absurd rfl c9)
    refine lv_iload hx hb dL_law_434 (lv_at hl 1 rfl) ?_
    refine lv_if_ne (tgt := 451) hx hb dL_law_436 (by decide) (fun c9 => ?_) (fun c9 => ?_)
    · refine lv_goto (tgt := 2367) hx hb dL_law_451 (by decide) ?_
      refine W.widen (k := cells + 8) (n := slots + 48) (by omega) (by omega) ?_
      exact kN _ _ H locs ls hR hW (lv_sub hl [2, 3, 4, 5, 6] rfl)
    · refine lv_aload_n hx hb dL_law_439 rfl (lv_at hl 5 rfl) ?_
      refine lv_iconst (v := 0) hx hb dL_law_440 (by decide) ?_
      refine l_lld hC hK hW dL_law_441 ?_
      refine lv_iload hx hb dL_law_442 (lv_at hl 0 rfl) ?_
      refine lv_i2l (v := (r1).toInt64) hx hb dL_law_444 rfl ?_
      refine W.lcmp hx hb dL_law_445 ?_
      refine lv_if_eq (tgt := 451) hx hb dL_law_446 (by decide) (fun _ => ?_) (fun c8 => absurd (l_cmps (h4 c9)) c8)
      refine lv_goto (tgt := 2367) hx hb dL_law_451 (by decide) ?_
      refine W.widen (k := cells + 8) (n := slots + 48) (by omega) (by omega) ?_
      exact kN _ _ H locs ls hR hW (lv_sub hl [2, 3, 4, 5, 6] rfl)
  · obtain ⟨k1, mc2, r1, mm2, h1, h2, h3, h4, hR⟩ := hop mc mm (xs (7 * j + 1)) (xs (7 * j + 2)) (xs (7 * j + 3)) 1 (xs (7 * j + 5)) (xs (7 * j + 6)) (Or.inr rfl) hR
    refine lv_aload_n hx hb dL_law_320 rfl (lv_at hl 1 rfl) ?_
    refine lv_aload_n hx hb dL_law_321 rfl (lv_at hl 0 rfl) ?_
    refine lv_iload hx hb dL_law_322 (lv_at hl 4 rfl) ?_
    refine lv_iconst (v := 1) hx hb dL_law_324 (by decide) ?_
    refine lv_iadd hx hb dL_law_325 ?_
    refine l_sld hC hX hbl hW (j := j) (k := 1) (by omega) hL (nI_add (7 * j) 1) dL_law_326 ?_
    refine lv_aload_n hx hb dL_law_327 rfl (lv_at hl 0 rfl) ?_
    refine lv_iload hx hb dL_law_328 (lv_at hl 4 rfl) ?_
    refine lv_iconst (v := 2) hx hb dL_law_330 (by decide) ?_
    refine lv_iadd hx hb dL_law_331 ?_
    refine l_sld hC hX hbl hW (j := j) (k := 2) (by omega) hL (nI_add (7 * j) 2) dL_law_332 ?_
    refine lv_aload_n hx hb dL_law_333 rfl (lv_at hl 0 rfl) ?_
    refine lv_iload hx hb dL_law_334 (lv_at hl 4 rfl) ?_
    refine lv_iconst (v := 3) hx hb dL_law_336 (by decide) ?_
    refine lv_iadd hx hb dL_law_337 ?_
    refine l_sld hC hX hbl hW (j := j) (k := 3) (by omega) hL (nI_add (7 * j) 3) dL_law_338 ?_
    refine lv_aload_n hx hb dL_law_339 rfl (lv_at hl 0 rfl) ?_
    refine lv_iload hx hb dL_law_340 (lv_at hl 4 rfl) ?_
    refine lv_iconst (v := 4) hx hb dL_law_342 (by decide) ?_
    refine lv_iadd hx hb dL_law_343 ?_
    refine l_sld hC hX hbl hW (j := j) (k := 4) (by omega) hL (nI_add (7 * j) 4) dL_law_344 ?_
    refine lv_if_eq (tgt := 352) hx hb dL_law_345 (by decide) (fun c8 => absurd c8 hbo) (fun _ => ?_)
    refine lv_iconst (v := 1) hx hb dL_law_348 (by decide) ?_
    refine lv_goto (tgt := 353) hx hb dL_law_349 (by decide) ?_
    refine lv_aload_n hx hb dL_law_353 rfl (lv_at hl 0 rfl) ?_
    refine lv_iload hx hb dL_law_354 (lv_at hl 4 rfl) ?_
    refine lv_iconst (v := 5) hx hb dL_law_356 (by decide) ?_
    refine lv_iadd hx hb dL_law_357 ?_
    refine l_sld hC hX hbl hW (j := j) (k := 5) (by omega) hL (nI_add (7 * j) 5) dL_law_358 ?_
    refine lv_aload_n hx hb dL_law_359 rfl (lv_at hl 0 rfl) ?_
    refine lv_iload hx hb dL_law_360 (lv_at hl 4 rfl) ?_
    refine lv_bipush (v := 6) hx hb dL_law_362 (by decide) ?_
    refine lv_iadd hx hb dL_law_364 ?_
    refine l_sld hC hX hbl hW (j := j) (k := 6) (by omega) hL (nI_add (7 * j) 6) dL_law_365 ?_
    refine lv_aload_n hx hb dL_law_366 rfl (lv_at hl 3 rfl) ?_
    refine l_cC hC hK hW (As := [.ref (G.2.2.1 0), .int (xs (7 * j + 1)), .int (xs (7 * j + 2)), .int (xs (7 * j + 3)), .int 1, .int (xs (7 * j + 5)), .int (xs (7 * j + 6)), .ref (G.2.2.1 229)]) (rest := []) (c_L_bid l G hst h1) (vx_cwSW 8 hts tg_L_bid rfl rfl rfl (by decide +kernel) ⟨(Nat.le_of_ble_eq_true rfl), (Nat.le_of_ble_eq_true rfl)⟩) rfl hl.1 rfl (Nat.le_of_ble_eq_true rfl) dL_law_367 ⟨by omega, by omega⟩ (fun H locs hW => ?_)
    refine lv_istore (lv' := [(5, .int k1), (0, .ref b), (1, .ref (G.2.2.1 0)), (2, .ref (ad 0)), (3, .ref (G.2.2.1 229)), (4, .int (nI (7 * j)))]) hx hb dL_law_370 hl (by decide) rfl (fun ls hl => ?_)
    refine lv_aload_n hx hb dL_law_372 rfl (lv_at hl 3 rfl) ?_
    refine lv_aload_n hx hb dL_law_373 rfl (lv_at hl 1 rfl) ?_
    refine lv_iload hx hb dL_law_374 (lv_at hl 5 rfl) ?_
    refine lv_iconst (v := 1) hx hb dL_law_376 (by decide) ?_
    refine lv_iadd hx hb dL_law_377 ?_
    refine l_sld hC hX hbl hW (j := j) (k := 1) (by omega) hL (nI_add (7 * j) 1) dL_law_378 ?_
    refine lv_aload_n hx hb dL_law_379 rfl (lv_at hl 1 rfl) ?_
    refine lv_iload hx hb dL_law_380 (lv_at hl 5 rfl) ?_
    refine lv_iconst (v := 2) hx hb dL_law_382 (by decide) ?_
    refine lv_iadd hx hb dL_law_383 ?_
    refine l_sld hC hX hbl hW (j := j) (k := 2) (by omega) hL (nI_add (7 * j) 2) dL_law_384 ?_
    refine lv_aload_n hx hb dL_law_385 rfl (lv_at hl 1 rfl) ?_
    refine lv_iload hx hb dL_law_386 (lv_at hl 5 rfl) ?_
    refine lv_iconst (v := 3) hx hb dL_law_388 (by decide) ?_
    refine lv_iadd hx hb dL_law_389 ?_
    refine l_sld hC hX hbl hW (j := j) (k := 3) (by omega) hL (nI_add (7 * j) 3) dL_law_390 ?_
    refine lv_aload_n hx hb dL_law_391 rfl (lv_at hl 1 rfl) ?_
    refine lv_iload hx hb dL_law_392 (lv_at hl 5 rfl) ?_
    refine lv_iconst (v := 4) hx hb dL_law_394 (by decide) ?_
    refine lv_iadd hx hb dL_law_395 ?_
    refine l_sld hC hX hbl hW (j := j) (k := 4) (by omega) hL (nI_add (7 * j) 4) dL_law_396 ?_
    refine lv_if_eq (tgt := 404) hx hb dL_law_397 (by decide) (fun c8 => absurd c8 hbo) (fun _ => ?_)
    refine lv_iconst (v := 1) hx hb dL_law_400 (by decide) ?_
    refine lv_goto (tgt := 405) hx hb dL_law_401 (by decide) ?_
    refine lv_aload_n hx hb dL_law_405 rfl (lv_at hl 1 rfl) ?_
    refine lv_iload hx hb dL_law_406 (lv_at hl 5 rfl) ?_
    refine lv_iconst (v := 5) hx hb dL_law_408 (by decide) ?_
    refine lv_iadd hx hb dL_law_409 ?_
    refine l_sld hC hX hbl hW (j := j) (k := 5) (by omega) hL (nI_add (7 * j) 5) dL_law_410 ?_
    refine lv_aload_n hx hb dL_law_411 rfl (lv_at hl 1 rfl) ?_
    refine lv_iload hx hb dL_law_412 (lv_at hl 5 rfl) ?_
    refine lv_bipush (v := 6) hx hb dL_law_414 (by decide) ?_
    refine lv_iadd hx hb dL_law_416 ?_
    refine l_sld hC hX hbl hW (j := j) (k := 6) (by omega) hL (nI_add (7 * j) 6) dL_law_417 ?_
    refine l_cM hC hK hW (As := [.int (xs (7 * j + 1)), .int (xs (7 * j + 2)), .int (xs (7 * j + 3)), .int 1, .int (xs (7 * j + 5)), .int (xs (7 * j + 6))]) (rest := []) (c_X10_bid l (l_GM G ad) h2) (cwV 6 hts tg_X10_bid rfl rfl rfl (by decide +kernel) ⟨(Nat.le_of_ble_eq_true rfl), (Nat.le_of_ble_eq_true rfl)⟩) rfl hl.1 rfl (Nat.le_of_ble_eq_true rfl) dL_law_418 ⟨by omega, by omega⟩ (fun H locs hW => ?_)
    refine lv_istore (lv' := [(6, .int r1), (5, .int k1), (0, .ref b), (1, .ref (G.2.2.1 0)), (2, .ref (ad 0)), (3, .ref (G.2.2.1 229)), (4, .int (nI (7 * j)))]) hx hb dL_law_421 hl (by decide) rfl (fun ls hl => ?_)
    refine lv_aload_n hx hb dL_law_423 rfl (lv_at hl 4 rfl) ?_
    refine l_cM hC hK hW (As := []) (rest := []) (c_X10_thrown l (l_GM G ad) h3) (cwV 0 hts tg_X10_thrown rfl rfl rfl (by decide +kernel) ⟨(Nat.le_of_ble_eq_true rfl), (Nat.le_of_ble_eq_true rfl)⟩) rfl hl.1 rfl (Nat.le_of_ble_eq_true rfl) dL_law_424 ⟨by omega, by omega⟩ (fun H locs hW => ?_)
    refine lv_iload hx hb dL_law_427 (lv_at hl 1 rfl) ?_
    refine lv_icmp_eq (tgt := 434) hx hb dL_law_429 (by decide) (fun _ => ?_) (fun c9 => absurd rfl c9)
    refine lv_iload hx hb dL_law_434 (lv_at hl 1 rfl) ?_
    refine lv_if_ne (tgt := 451) hx hb dL_law_436 (by decide) (fun c9 => ?_) (fun c9 => ?_)
    · refine lv_goto (tgt := 2367) hx hb dL_law_451 (by decide) ?_
      refine W.widen (k := cells + 8) (n := slots + 48) (by omega) (by omega) ?_
      exact kN _ _ H locs ls hR hW (lv_sub hl [2, 3, 4, 5, 6] rfl)
    · refine lv_aload_n hx hb dL_law_439 rfl (lv_at hl 5 rfl) ?_
      refine lv_iconst (v := 0) hx hb dL_law_440 (by decide) ?_
      refine l_lld hC hK hW dL_law_441 ?_
      refine lv_iload hx hb dL_law_442 (lv_at hl 0 rfl) ?_
      refine lv_i2l (v := (r1).toInt64) hx hb dL_law_444 rfl ?_
      refine W.lcmp hx hb dL_law_445 ?_
      refine lv_if_eq (tgt := 451) hx hb dL_law_446 (by decide) (fun _ => ?_) (fun c8 => absurd (l_cmps (h4 c9)) c8)
      refine lv_goto (tgt := 2367) hx hb dL_law_451 (by decide) ?_
      refine W.widen (k := cells + 8) (n := slots + 48) (by omega) (by omega) ?_
      exact kN _ _ H locs ls hR hW (lv_sub hl [2, 3, 4, 5, 6] rfl)
set_option maxHeartbeats 4000000 in
set_option maxRecDepth 100000 in
theorem law_case_3 {p : Program} {l : Launch} {e : Env} {s : State} {m : MethodId} {below : List Frame} {meth : Method} {c : Code} {b L : Nat} {xs : Nat → Int32} (hL : L ≤ 3584) (C0 : lw_At p s m meth c b L xs) (hst : l.stackTraces = false) {G : gG} {ad : Nat → Nat} (hK : l_K G ad s) {Rel : gM → gM → Prop} (hop : l_op_3 Rel) {j : Nat} (hj : 7 * j + 7 ≤ L) {mc mm : gM} (hR : Rel mc mm) {H : Heap} {locs : List Loc} {ls : Array Slot} {cells slots : Nat} (hc1 : cells + 8 ≤ 601024) (hc2 : slots + 48 ≤ 7293034) (hW : l_H G ad s H locs mc mm) (hl : lv_has ls 7 [(0, .ref b), (1, .ref (G.2.2.1 0)), (2, .ref (ad 0)), (3, .ref (G.2.2.1 229)), (4, .int (nI (7 * j)))]) (kN : ∀ (mc mm : gM) (H : Heap) (locs : List Loc) (ls : Array Slot), Rel mc mm → l_H G ad s H locs mc mm → lv_has ls 7 [(0, .ref b), (1, .ref (G.2.2.1 0)), (2, .ref (ad 0)), (3, .ref (G.2.2.1 229)), (4, .int (nI (7 * j)))] → W p l e room_1 s m #[Value.ref b] below meth c H locs (cells + 8) (slots + 48) (lw_Z below #[Value.ref b] s) (F0 m 2367 ls [])) : W p l e room_1 s m #[Value.ref b] below meth c H locs cells slots (lw_Z below #[Value.ref b] s) (F0 m 454 ls []) := by
  obtain ⟨hx, hb, hr, hml, hown, hts, hX, hbl, hlocks, hgv⟩ := id C0
  have hC : CallFix p m c cL_law 7 s #[Value.ref b] lw_tbl RL := ⟨hx, hb, hml, hown, hts⟩
  have hR1 : room_1.cells = 601024 := rfl
  have hR2 : room_1.slots = 7293034 := rfl
  by_cases hbo : xs (7 * j + 4) = 0
  · obtain ⟨k1, mc2, r1, mm2, h1, h2, h3, h4, hR⟩ := hop mc mm (xs (7 * j + 1)) (xs (7 * j + 2)) (xs (7 * j + 3)) 0 (xs (7 * j + 5)) (xs (7 * j + 6)) (Or.inl rfl) hR
    refine lv_aload_n hx hb dL_law_454 rfl (lv_at hl 1 rfl) ?_
    refine lv_aload_n hx hb dL_law_455 rfl (lv_at hl 0 rfl) ?_
    refine lv_iload hx hb dL_law_456 (lv_at hl 4 rfl) ?_
    refine lv_iconst (v := 1) hx hb dL_law_458 (by decide) ?_
    refine lv_iadd hx hb dL_law_459 ?_
    refine l_sld hC hX hbl hW (j := j) (k := 1) (by omega) hL (nI_add (7 * j) 1) dL_law_460 ?_
    refine lv_aload_n hx hb dL_law_461 rfl (lv_at hl 0 rfl) ?_
    refine lv_iload hx hb dL_law_462 (lv_at hl 4 rfl) ?_
    refine lv_iconst (v := 2) hx hb dL_law_464 (by decide) ?_
    refine lv_iadd hx hb dL_law_465 ?_
    refine l_sld hC hX hbl hW (j := j) (k := 2) (by omega) hL (nI_add (7 * j) 2) dL_law_466 ?_
    refine lv_aload_n hx hb dL_law_467 rfl (lv_at hl 0 rfl) ?_
    refine lv_iload hx hb dL_law_468 (lv_at hl 4 rfl) ?_
    refine lv_iconst (v := 3) hx hb dL_law_470 (by decide) ?_
    refine lv_iadd hx hb dL_law_471 ?_
    refine l_sld hC hX hbl hW (j := j) (k := 3) (by omega) hL (nI_add (7 * j) 3) dL_law_472 ?_
    refine lv_aload_n hx hb dL_law_473 rfl (lv_at hl 0 rfl) ?_
    refine lv_iload hx hb dL_law_474 (lv_at hl 4 rfl) ?_
    refine lv_iconst (v := 4) hx hb dL_law_476 (by decide) ?_
    refine lv_iadd hx hb dL_law_477 ?_
    refine l_sld hC hX hbl hW (j := j) (k := 4) (by omega) hL (nI_add (7 * j) 4) dL_law_478 ?_
    refine lv_if_eq (tgt := 486) hx hb dL_law_479 (by decide) (fun _ => ?_) (fun c8 => absurd hbo c8)
    refine lv_iconst (v := 0) hx hb dL_law_486 (by decide) ?_
    refine lv_aload_n hx hb dL_law_487 rfl (lv_at hl 0 rfl) ?_
    refine lv_iload hx hb dL_law_488 (lv_at hl 4 rfl) ?_
    refine lv_iconst (v := 5) hx hb dL_law_490 (by decide) ?_
    refine lv_iadd hx hb dL_law_491 ?_
    refine l_sld hC hX hbl hW (j := j) (k := 5) (by omega) hL (nI_add (7 * j) 5) dL_law_492 ?_
    refine lv_aload_n hx hb dL_law_493 rfl (lv_at hl 0 rfl) ?_
    refine lv_iload hx hb dL_law_494 (lv_at hl 4 rfl) ?_
    refine lv_bipush (v := 6) hx hb dL_law_496 (by decide) ?_
    refine lv_iadd hx hb dL_law_498 ?_
    refine l_sld hC hX hbl hW (j := j) (k := 6) (by omega) hL (nI_add (7 * j) 6) dL_law_499 ?_
    refine lv_aload_n hx hb dL_law_500 rfl (lv_at hl 3 rfl) ?_
    refine l_cC hC hK hW (As := [.ref (G.2.2.1 0), .int (xs (7 * j + 1)), .int (xs (7 * j + 2)), .int (xs (7 * j + 3)), .int 0, .int (xs (7 * j + 5)), .int (xs (7 * j + 6)), .ref (G.2.2.1 229)]) (rest := []) (c_L_block l G hst h1) (vx_cwSW 8 hts tg_L_block rfl rfl rfl (by decide +kernel) ⟨(Nat.le_of_ble_eq_true rfl), (Nat.le_of_ble_eq_true rfl)⟩) rfl hl.1 rfl (Nat.le_of_ble_eq_true rfl) dL_law_501 ⟨by omega, by omega⟩ (fun H locs hW => ?_)
    refine lv_istore (lv' := [(5, .int k1), (0, .ref b), (1, .ref (G.2.2.1 0)), (2, .ref (ad 0)), (3, .ref (G.2.2.1 229)), (4, .int (nI (7 * j)))]) hx hb dL_law_504 hl (by decide) rfl (fun ls hl => ?_)
    refine lv_aload_n hx hb dL_law_506 rfl (lv_at hl 3 rfl) ?_
    refine lv_aload_n hx hb dL_law_507 rfl (lv_at hl 1 rfl) ?_
    refine lv_iload hx hb dL_law_508 (lv_at hl 5 rfl) ?_
    refine lv_iconst (v := 1) hx hb dL_law_510 (by decide) ?_
    refine lv_iadd hx hb dL_law_511 ?_
    refine l_sld hC hX hbl hW (j := j) (k := 1) (by omega) hL (nI_add (7 * j) 1) dL_law_512 ?_
    refine lv_aload_n hx hb dL_law_513 rfl (lv_at hl 1 rfl) ?_
    refine lv_iload hx hb dL_law_514 (lv_at hl 5 rfl) ?_
    refine lv_iconst (v := 2) hx hb dL_law_516 (by decide) ?_
    refine lv_iadd hx hb dL_law_517 ?_
    refine l_sld hC hX hbl hW (j := j) (k := 2) (by omega) hL (nI_add (7 * j) 2) dL_law_518 ?_
    refine lv_aload_n hx hb dL_law_519 rfl (lv_at hl 1 rfl) ?_
    refine lv_iload hx hb dL_law_520 (lv_at hl 5 rfl) ?_
    refine lv_iconst (v := 3) hx hb dL_law_522 (by decide) ?_
    refine lv_iadd hx hb dL_law_523 ?_
    refine l_sld hC hX hbl hW (j := j) (k := 3) (by omega) hL (nI_add (7 * j) 3) dL_law_524 ?_
    refine lv_aload_n hx hb dL_law_525 rfl (lv_at hl 1 rfl) ?_
    refine lv_iload hx hb dL_law_526 (lv_at hl 5 rfl) ?_
    refine lv_iconst (v := 4) hx hb dL_law_528 (by decide) ?_
    refine lv_iadd hx hb dL_law_529 ?_
    refine l_sld hC hX hbl hW (j := j) (k := 4) (by omega) hL (nI_add (7 * j) 4) dL_law_530 ?_
    refine lv_if_eq (tgt := 538) hx hb dL_law_531 (by decide) (fun _ => ?_) (fun c8 => absurd hbo c8)
    refine lv_iconst (v := 0) hx hb dL_law_538 (by decide) ?_
    refine lv_aload_n hx hb dL_law_539 rfl (lv_at hl 1 rfl) ?_
    refine lv_iload hx hb dL_law_540 (lv_at hl 5 rfl) ?_
    refine lv_iconst (v := 5) hx hb dL_law_542 (by decide) ?_
    refine lv_iadd hx hb dL_law_543 ?_
    refine l_sld hC hX hbl hW (j := j) (k := 5) (by omega) hL (nI_add (7 * j) 5) dL_law_544 ?_
    refine lv_aload_n hx hb dL_law_545 rfl (lv_at hl 1 rfl) ?_
    refine lv_iload hx hb dL_law_546 (lv_at hl 5 rfl) ?_
    refine lv_bipush (v := 6) hx hb dL_law_548 (by decide) ?_
    refine lv_iadd hx hb dL_law_550 ?_
    refine l_sld hC hX hbl hW (j := j) (k := 6) (by omega) hL (nI_add (7 * j) 6) dL_law_551 ?_
    refine l_cM hC hK hW (As := [.int (xs (7 * j + 1)), .int (xs (7 * j + 2)), .int (xs (7 * j + 3)), .int 0, .int (xs (7 * j + 5)), .int (xs (7 * j + 6))]) (rest := []) (c_X10_block l (l_GM G ad) h2) (cwV 6 hts tg_X10_block rfl rfl rfl (by decide +kernel) ⟨(Nat.le_of_ble_eq_true rfl), (Nat.le_of_ble_eq_true rfl)⟩) rfl hl.1 rfl (Nat.le_of_ble_eq_true rfl) dL_law_552 ⟨by omega, by omega⟩ (fun H locs hW => ?_)
    refine lv_istore (lv' := [(6, .int r1), (5, .int k1), (0, .ref b), (1, .ref (G.2.2.1 0)), (2, .ref (ad 0)), (3, .ref (G.2.2.1 229)), (4, .int (nI (7 * j)))]) hx hb dL_law_555 hl (by decide) rfl (fun ls hl => ?_)
    refine lv_aload_n hx hb dL_law_557 rfl (lv_at hl 4 rfl) ?_
    refine l_cM hC hK hW (As := []) (rest := []) (c_X10_thrown l (l_GM G ad) h3) (cwV 0 hts tg_X10_thrown rfl rfl rfl (by decide +kernel) ⟨(Nat.le_of_ble_eq_true rfl), (Nat.le_of_ble_eq_true rfl)⟩) rfl hl.1 rfl (Nat.le_of_ble_eq_true rfl) dL_law_558 ⟨by omega, by omega⟩ (fun H locs hW => ?_)
    refine lv_iload hx hb dL_law_561 (lv_at hl 1 rfl) ?_
    refine lv_icmp_eq (tgt := 568) hx hb dL_law_563 (by decide) (fun _ => ?_) (fun c9 => absurd rfl c9)
    refine lv_iload hx hb dL_law_568 (lv_at hl 1 rfl) ?_
    refine lv_if_ne (tgt := 585) hx hb dL_law_570 (by decide) (fun c9 => ?_) (fun c9 => ?_)
    · refine lv_goto (tgt := 2367) hx hb dL_law_585 (by decide) ?_
      refine W.widen (k := cells + 8) (n := slots + 48) (by omega) (by omega) ?_
      exact kN _ _ H locs ls hR hW (lv_sub hl [2, 3, 4, 5, 6] rfl)
    · refine lv_aload_n hx hb dL_law_573 rfl (lv_at hl 5 rfl) ?_
      refine lv_iconst (v := 0) hx hb dL_law_574 (by decide) ?_
      refine l_lld hC hK hW dL_law_575 ?_
      refine lv_iload hx hb dL_law_576 (lv_at hl 0 rfl) ?_
      refine lv_i2l (v := (r1).toInt64) hx hb dL_law_578 rfl ?_
      refine W.lcmp hx hb dL_law_579 ?_
      refine lv_if_eq (tgt := 585) hx hb dL_law_580 (by decide) (fun _ => ?_) (fun c8 => absurd (l_cmps (h4 c9)) c8)
      refine lv_goto (tgt := 2367) hx hb dL_law_585 (by decide) ?_
      refine W.widen (k := cells + 8) (n := slots + 48) (by omega) (by omega) ?_
      exact kN _ _ H locs ls hR hW (lv_sub hl [2, 3, 4, 5, 6] rfl)
  · obtain ⟨k1, mc2, r1, mm2, h1, h2, h3, h4, hR⟩ := hop mc mm (xs (7 * j + 1)) (xs (7 * j + 2)) (xs (7 * j + 3)) 1 (xs (7 * j + 5)) (xs (7 * j + 6)) (Or.inr rfl) hR
    refine lv_aload_n hx hb dL_law_454 rfl (lv_at hl 1 rfl) ?_
    refine lv_aload_n hx hb dL_law_455 rfl (lv_at hl 0 rfl) ?_
    refine lv_iload hx hb dL_law_456 (lv_at hl 4 rfl) ?_
    refine lv_iconst (v := 1) hx hb dL_law_458 (by decide) ?_
    refine lv_iadd hx hb dL_law_459 ?_
    refine l_sld hC hX hbl hW (j := j) (k := 1) (by omega) hL (nI_add (7 * j) 1) dL_law_460 ?_
    refine lv_aload_n hx hb dL_law_461 rfl (lv_at hl 0 rfl) ?_
    refine lv_iload hx hb dL_law_462 (lv_at hl 4 rfl) ?_
    refine lv_iconst (v := 2) hx hb dL_law_464 (by decide) ?_
    refine lv_iadd hx hb dL_law_465 ?_
    refine l_sld hC hX hbl hW (j := j) (k := 2) (by omega) hL (nI_add (7 * j) 2) dL_law_466 ?_
    refine lv_aload_n hx hb dL_law_467 rfl (lv_at hl 0 rfl) ?_
    refine lv_iload hx hb dL_law_468 (lv_at hl 4 rfl) ?_
    refine lv_iconst (v := 3) hx hb dL_law_470 (by decide) ?_
    refine lv_iadd hx hb dL_law_471 ?_
    refine l_sld hC hX hbl hW (j := j) (k := 3) (by omega) hL (nI_add (7 * j) 3) dL_law_472 ?_
    refine lv_aload_n hx hb dL_law_473 rfl (lv_at hl 0 rfl) ?_
    refine lv_iload hx hb dL_law_474 (lv_at hl 4 rfl) ?_
    refine lv_iconst (v := 4) hx hb dL_law_476 (by decide) ?_
    refine lv_iadd hx hb dL_law_477 ?_
    refine l_sld hC hX hbl hW (j := j) (k := 4) (by omega) hL (nI_add (7 * j) 4) dL_law_478 ?_
    refine lv_if_eq (tgt := 486) hx hb dL_law_479 (by decide) (fun c8 => absurd c8 hbo) (fun _ => ?_)
    refine lv_iconst (v := 1) hx hb dL_law_482 (by decide) ?_
    refine lv_goto (tgt := 487) hx hb dL_law_483 (by decide) ?_
    refine lv_aload_n hx hb dL_law_487 rfl (lv_at hl 0 rfl) ?_
    refine lv_iload hx hb dL_law_488 (lv_at hl 4 rfl) ?_
    refine lv_iconst (v := 5) hx hb dL_law_490 (by decide) ?_
    refine lv_iadd hx hb dL_law_491 ?_
    refine l_sld hC hX hbl hW (j := j) (k := 5) (by omega) hL (nI_add (7 * j) 5) dL_law_492 ?_
    refine lv_aload_n hx hb dL_law_493 rfl (lv_at hl 0 rfl) ?_
    refine lv_iload hx hb dL_law_494 (lv_at hl 4 rfl) ?_
    refine lv_bipush (v := 6) hx hb dL_law_496 (by decide) ?_
    refine lv_iadd hx hb dL_law_498 ?_
    refine l_sld hC hX hbl hW (j := j) (k := 6) (by omega) hL (nI_add (7 * j) 6) dL_law_499 ?_
    refine lv_aload_n hx hb dL_law_500 rfl (lv_at hl 3 rfl) ?_
    refine l_cC hC hK hW (As := [.ref (G.2.2.1 0), .int (xs (7 * j + 1)), .int (xs (7 * j + 2)), .int (xs (7 * j + 3)), .int 1, .int (xs (7 * j + 5)), .int (xs (7 * j + 6)), .ref (G.2.2.1 229)]) (rest := []) (c_L_block l G hst h1) (vx_cwSW 8 hts tg_L_block rfl rfl rfl (by decide +kernel) ⟨(Nat.le_of_ble_eq_true rfl), (Nat.le_of_ble_eq_true rfl)⟩) rfl hl.1 rfl (Nat.le_of_ble_eq_true rfl) dL_law_501 ⟨by omega, by omega⟩ (fun H locs hW => ?_)
    refine lv_istore (lv' := [(5, .int k1), (0, .ref b), (1, .ref (G.2.2.1 0)), (2, .ref (ad 0)), (3, .ref (G.2.2.1 229)), (4, .int (nI (7 * j)))]) hx hb dL_law_504 hl (by decide) rfl (fun ls hl => ?_)
    refine lv_aload_n hx hb dL_law_506 rfl (lv_at hl 3 rfl) ?_
    refine lv_aload_n hx hb dL_law_507 rfl (lv_at hl 1 rfl) ?_
    refine lv_iload hx hb dL_law_508 (lv_at hl 5 rfl) ?_
    refine lv_iconst (v := 1) hx hb dL_law_510 (by decide) ?_
    refine lv_iadd hx hb dL_law_511 ?_
    refine l_sld hC hX hbl hW (j := j) (k := 1) (by omega) hL (nI_add (7 * j) 1) dL_law_512 ?_
    refine lv_aload_n hx hb dL_law_513 rfl (lv_at hl 1 rfl) ?_
    refine lv_iload hx hb dL_law_514 (lv_at hl 5 rfl) ?_
    refine lv_iconst (v := 2) hx hb dL_law_516 (by decide) ?_
    refine lv_iadd hx hb dL_law_517 ?_
    refine l_sld hC hX hbl hW (j := j) (k := 2) (by omega) hL (nI_add (7 * j) 2) dL_law_518 ?_
    refine lv_aload_n hx hb dL_law_519 rfl (lv_at hl 1 rfl) ?_
    refine lv_iload hx hb dL_law_520 (lv_at hl 5 rfl) ?_
    refine lv_iconst (v := 3) hx hb dL_law_522 (by decide) ?_
    refine lv_iadd hx hb dL_law_523 ?_
    refine l_sld hC hX hbl hW (j := j) (k := 3) (by omega) hL (nI_add (7 * j) 3) dL_law_524 ?_
    refine lv_aload_n hx hb dL_law_525 rfl (lv_at hl 1 rfl) ?_
    refine lv_iload hx hb dL_law_526 (lv_at hl 5 rfl) ?_
    refine lv_iconst (v := 4) hx hb dL_law_528 (by decide) ?_
    refine lv_iadd hx hb dL_law_529 ?_
    refine l_sld hC hX hbl hW (j := j) (k := 4) (by omega) hL (nI_add (7 * j) 4) dL_law_530 ?_
    refine lv_if_eq (tgt := 538) hx hb dL_law_531 (by decide) (fun c8 => absurd c8 hbo) (fun _ => ?_)
    refine lv_iconst (v := 1) hx hb dL_law_534 (by decide) ?_
    refine lv_goto (tgt := 539) hx hb dL_law_535 (by decide) ?_
    refine lv_aload_n hx hb dL_law_539 rfl (lv_at hl 1 rfl) ?_
    refine lv_iload hx hb dL_law_540 (lv_at hl 5 rfl) ?_
    refine lv_iconst (v := 5) hx hb dL_law_542 (by decide) ?_
    refine lv_iadd hx hb dL_law_543 ?_
    refine l_sld hC hX hbl hW (j := j) (k := 5) (by omega) hL (nI_add (7 * j) 5) dL_law_544 ?_
    refine lv_aload_n hx hb dL_law_545 rfl (lv_at hl 1 rfl) ?_
    refine lv_iload hx hb dL_law_546 (lv_at hl 5 rfl) ?_
    refine lv_bipush (v := 6) hx hb dL_law_548 (by decide) ?_
    refine lv_iadd hx hb dL_law_550 ?_
    refine l_sld hC hX hbl hW (j := j) (k := 6) (by omega) hL (nI_add (7 * j) 6) dL_law_551 ?_
    refine l_cM hC hK hW (As := [.int (xs (7 * j + 1)), .int (xs (7 * j + 2)), .int (xs (7 * j + 3)), .int 1, .int (xs (7 * j + 5)), .int (xs (7 * j + 6))]) (rest := []) (c_X10_block l (l_GM G ad) h2) (cwV 6 hts tg_X10_block rfl rfl rfl (by decide +kernel) ⟨(Nat.le_of_ble_eq_true rfl), (Nat.le_of_ble_eq_true rfl)⟩) rfl hl.1 rfl (Nat.le_of_ble_eq_true rfl) dL_law_552 ⟨by omega, by omega⟩ (fun H locs hW => ?_)
    refine lv_istore (lv' := [(6, .int r1), (5, .int k1), (0, .ref b), (1, .ref (G.2.2.1 0)), (2, .ref (ad 0)), (3, .ref (G.2.2.1 229)), (4, .int (nI (7 * j)))]) hx hb dL_law_555 hl (by decide) rfl (fun ls hl => ?_)
    refine lv_aload_n hx hb dL_law_557 rfl (lv_at hl 4 rfl) ?_
    refine l_cM hC hK hW (As := []) (rest := []) (c_X10_thrown l (l_GM G ad) h3) (cwV 0 hts tg_X10_thrown rfl rfl rfl (by decide +kernel) ⟨(Nat.le_of_ble_eq_true rfl), (Nat.le_of_ble_eq_true rfl)⟩) rfl hl.1 rfl (Nat.le_of_ble_eq_true rfl) dL_law_558 ⟨by omega, by omega⟩ (fun H locs hW => ?_)
    refine lv_iload hx hb dL_law_561 (lv_at hl 1 rfl) ?_
    refine lv_icmp_eq (tgt := 568) hx hb dL_law_563 (by decide) (fun _ => ?_) (fun c9 => absurd rfl c9)
    refine lv_iload hx hb dL_law_568 (lv_at hl 1 rfl) ?_
    refine lv_if_ne (tgt := 585) hx hb dL_law_570 (by decide) (fun c9 => ?_) (fun c9 => ?_)
    · refine lv_goto (tgt := 2367) hx hb dL_law_585 (by decide) ?_
      refine W.widen (k := cells + 8) (n := slots + 48) (by omega) (by omega) ?_
      exact kN _ _ H locs ls hR hW (lv_sub hl [2, 3, 4, 5, 6] rfl)
    · refine lv_aload_n hx hb dL_law_573 rfl (lv_at hl 5 rfl) ?_
      refine lv_iconst (v := 0) hx hb dL_law_574 (by decide) ?_
      refine l_lld hC hK hW dL_law_575 ?_
      refine lv_iload hx hb dL_law_576 (lv_at hl 0 rfl) ?_
      refine lv_i2l (v := (r1).toInt64) hx hb dL_law_578 rfl ?_
      refine W.lcmp hx hb dL_law_579 ?_
      refine lv_if_eq (tgt := 585) hx hb dL_law_580 (by decide) (fun _ => ?_) (fun c8 => absurd (l_cmps (h4 c9)) c8)
      refine lv_goto (tgt := 2367) hx hb dL_law_585 (by decide) ?_
      refine W.widen (k := cells + 8) (n := slots + 48) (by omega) (by omega) ?_
      exact kN _ _ H locs ls hR hW (lv_sub hl [2, 3, 4, 5, 6] rfl)
set_option maxHeartbeats 4000000 in
set_option maxRecDepth 100000 in
theorem law_case_4 {p : Program} {l : Launch} {e : Env} {s : State} {m : MethodId} {below : List Frame} {meth : Method} {c : Code} {b L : Nat} {xs : Nat → Int32} (hL : L ≤ 3584) (C0 : lw_At p s m meth c b L xs) (hst : l.stackTraces = false) {G : gG} {ad : Nat → Nat} (hK : l_K G ad s) {Rel : gM → gM → Prop} (hop : l_op_4 Rel) {j : Nat} (hj : 7 * j + 7 ≤ L) {mc mm : gM} (hR : Rel mc mm) {H : Heap} {locs : List Loc} {ls : Array Slot} {cells slots : Nat} (hc1 : cells + 8 ≤ 601024) (hc2 : slots + 48 ≤ 7293034) (hW : l_H G ad s H locs mc mm) (hl : lv_has ls 7 [(0, .ref b), (1, .ref (G.2.2.1 0)), (2, .ref (ad 0)), (3, .ref (G.2.2.1 229)), (4, .int (nI (7 * j)))]) (kN : ∀ (mc mm : gM) (H : Heap) (locs : List Loc) (ls : Array Slot), Rel mc mm → l_H G ad s H locs mc mm → lv_has ls 7 [(0, .ref b), (1, .ref (G.2.2.1 0)), (2, .ref (ad 0)), (3, .ref (G.2.2.1 229)), (4, .int (nI (7 * j)))] → W p l e room_1 s m #[Value.ref b] below meth c H locs (cells + 8) (slots + 48) (lw_Z below #[Value.ref b] s) (F0 m 2367 ls [])) : W p l e room_1 s m #[Value.ref b] below meth c H locs cells slots (lw_Z below #[Value.ref b] s) (F0 m 588 ls []) := by
  obtain ⟨hx, hb, hr, hml, hown, hts, hX, hbl, hlocks, hgv⟩ := id C0
  have hC : CallFix p m c cL_law 7 s #[Value.ref b] lw_tbl RL := ⟨hx, hb, hml, hown, hts⟩
  have hR1 : room_1.cells = 601024 := rfl
  have hR2 : room_1.slots = 7293034 := rfl
  obtain ⟨k1, mc2, mm2, h1, h2, h3, hR⟩ := hop mc mm (xs (7 * j + 1)) (xs (7 * j + 2)) (xs (7 * j + 3)) hR
  refine lv_aload_n hx hb dL_law_588 rfl (lv_at hl 1 rfl) ?_
  refine lv_aload_n hx hb dL_law_589 rfl (lv_at hl 0 rfl) ?_
  refine lv_iload hx hb dL_law_590 (lv_at hl 4 rfl) ?_
  refine lv_iconst (v := 1) hx hb dL_law_592 (by decide) ?_
  refine lv_iadd hx hb dL_law_593 ?_
  refine l_sld hC hX hbl hW (j := j) (k := 1) (by omega) hL (nI_add (7 * j) 1) dL_law_594 ?_
  refine lv_aload_n hx hb dL_law_595 rfl (lv_at hl 0 rfl) ?_
  refine lv_iload hx hb dL_law_596 (lv_at hl 4 rfl) ?_
  refine lv_iconst (v := 2) hx hb dL_law_598 (by decide) ?_
  refine lv_iadd hx hb dL_law_599 ?_
  refine l_sld hC hX hbl hW (j := j) (k := 2) (by omega) hL (nI_add (7 * j) 2) dL_law_600 ?_
  refine lv_aload_n hx hb dL_law_601 rfl (lv_at hl 0 rfl) ?_
  refine lv_iload hx hb dL_law_602 (lv_at hl 4 rfl) ?_
  refine lv_iconst (v := 3) hx hb dL_law_604 (by decide) ?_
  refine lv_iadd hx hb dL_law_605 ?_
  refine l_sld hC hX hbl hW (j := j) (k := 3) (by omega) hL (nI_add (7 * j) 3) dL_law_606 ?_
  refine l_cC hC hK hW (As := [.ref (G.2.2.1 0), .int (xs (7 * j + 1)), .int (xs (7 * j + 2)), .int (xs (7 * j + 3))]) (rest := []) (c_L_link l G hst h1) (vx_cwSW 4 hts tg_L_link rfl rfl rfl (by decide +kernel) ⟨(Nat.le_of_ble_eq_true rfl), (Nat.le_of_ble_eq_true rfl)⟩) rfl hl.1 rfl (Nat.le_of_ble_eq_true rfl) dL_law_607 ⟨by omega, by omega⟩ (fun H locs hW => ?_)
  refine lv_istore (lv' := [(5, .int k1), (0, .ref b), (1, .ref (G.2.2.1 0)), (2, .ref (ad 0)), (3, .ref (G.2.2.1 229)), (4, .int (nI (7 * j)))]) hx hb dL_law_610 hl (by decide) rfl (fun ls hl => ?_)
  refine lv_aload_n hx hb dL_law_612 rfl (lv_at hl 3 rfl) ?_
  refine lv_aload_n hx hb dL_law_613 rfl (lv_at hl 1 rfl) ?_
  refine lv_iload hx hb dL_law_614 (lv_at hl 5 rfl) ?_
  refine lv_iconst (v := 1) hx hb dL_law_616 (by decide) ?_
  refine lv_iadd hx hb dL_law_617 ?_
  refine l_sld hC hX hbl hW (j := j) (k := 1) (by omega) hL (nI_add (7 * j) 1) dL_law_618 ?_
  refine lv_aload_n hx hb dL_law_619 rfl (lv_at hl 1 rfl) ?_
  refine lv_iload hx hb dL_law_620 (lv_at hl 5 rfl) ?_
  refine lv_iconst (v := 2) hx hb dL_law_622 (by decide) ?_
  refine lv_iadd hx hb dL_law_623 ?_
  refine l_sld hC hX hbl hW (j := j) (k := 2) (by omega) hL (nI_add (7 * j) 2) dL_law_624 ?_
  refine lv_aload_n hx hb dL_law_625 rfl (lv_at hl 1 rfl) ?_
  refine lv_iload hx hb dL_law_626 (lv_at hl 5 rfl) ?_
  refine lv_iconst (v := 3) hx hb dL_law_628 (by decide) ?_
  refine lv_iadd hx hb dL_law_629 ?_
  refine l_sld hC hX hbl hW (j := j) (k := 3) (by omega) hL (nI_add (7 * j) 3) dL_law_630 ?_
  refine l_cMv hC hK hW (As := [.int (xs (7 * j + 1)), .int (xs (7 * j + 2)), .int (xs (7 * j + 3))]) (rest := []) (c_X10_link l (l_GM G ad) h2) (cwV 3 hts tg_X10_link rfl rfl rfl (by decide +kernel) ⟨(Nat.le_of_ble_eq_true rfl), (Nat.le_of_ble_eq_true rfl)⟩) rfl hl.1 rfl (Nat.le_of_ble_eq_true rfl) dL_law_631 ⟨by omega, by omega⟩ (fun H locs hW => ?_)
  refine lv_aload_n hx hb dL_law_634 rfl (lv_at hl 3 rfl) ?_
  refine l_cM hC hK hW (As := []) (rest := []) (c_X10_thrown l (l_GM G ad) h3) (cwV 0 hts tg_X10_thrown rfl rfl rfl (by decide +kernel) ⟨(Nat.le_of_ble_eq_true rfl), (Nat.le_of_ble_eq_true rfl)⟩) rfl hl.1 rfl (Nat.le_of_ble_eq_true rfl) dL_law_635 ⟨by omega, by omega⟩ (fun H locs hW => ?_)
  refine lv_iload hx hb dL_law_638 (lv_at hl 0 rfl) ?_
  refine lv_icmp_eq (tgt := 645) hx hb dL_law_640 (by decide) (fun _ => ?_) (fun c9 => absurd rfl c9)
  refine lv_goto (tgt := 2367) hx hb dL_law_645 (by decide) ?_
  refine W.widen (k := cells + 8) (n := slots + 48) (by omega) (by omega) ?_
  exact kN _ _ H locs ls hR hW (lv_sub hl [1, 2, 3, 4, 5] rfl)
set_option maxHeartbeats 4000000 in
set_option maxRecDepth 100000 in
theorem law_case_5 {p : Program} {l : Launch} {e : Env} {s : State} {m : MethodId} {below : List Frame} {meth : Method} {c : Code} {b L : Nat} {xs : Nat → Int32} (hL : L ≤ 3584) (C0 : lw_At p s m meth c b L xs) (hst : l.stackTraces = false) {G : gG} {ad : Nat → Nat} (hK : l_K G ad s) {Rel : gM → gM → Prop} (hop : l_op_5 Rel) {j : Nat} (hj : 7 * j + 7 ≤ L) {mc mm : gM} (hR : Rel mc mm) {H : Heap} {locs : List Loc} {ls : Array Slot} {cells slots : Nat} (hc1 : cells + 8 ≤ 601024) (hc2 : slots + 48 ≤ 7293034) (hW : l_H G ad s H locs mc mm) (hl : lv_has ls 7 [(0, .ref b), (1, .ref (G.2.2.1 0)), (2, .ref (ad 0)), (3, .ref (G.2.2.1 229)), (4, .int (nI (7 * j)))]) (kN : ∀ (mc mm : gM) (H : Heap) (locs : List Loc) (ls : Array Slot), Rel mc mm → l_H G ad s H locs mc mm → lv_has ls 7 [(0, .ref b), (1, .ref (G.2.2.1 0)), (2, .ref (ad 0)), (3, .ref (G.2.2.1 229)), (4, .int (nI (7 * j)))] → W p l e room_1 s m #[Value.ref b] below meth c H locs (cells + 8) (slots + 48) (lw_Z below #[Value.ref b] s) (F0 m 2367 ls [])) : W p l e room_1 s m #[Value.ref b] below meth c H locs cells slots (lw_Z below #[Value.ref b] s) (F0 m 648 ls []) := by
  obtain ⟨hx, hb, hr, hml, hown, hts, hX, hbl, hlocks, hgv⟩ := id C0
  have hC : CallFix p m c cL_law 7 s #[Value.ref b] lw_tbl RL := ⟨hx, hb, hml, hown, hts⟩
  have hR1 : room_1.cells = 601024 := rfl
  have hR2 : room_1.slots = 7293034 := rfl
  obtain ⟨k1, mc2, r1, mm2, h1, h2, h3, h4, hR⟩ := hop mc mm (xs (7 * j + 1)) (xs (7 * j + 2)) (xs (7 * j + 3)) (xs (7 * j + 4)) (xs (7 * j + 5))  hR
  refine lv_aload_n hx hb dL_law_648 rfl (lv_at hl 1 rfl) ?_
  refine lv_aload_n hx hb dL_law_649 rfl (lv_at hl 0 rfl) ?_
  refine lv_iload hx hb dL_law_650 (lv_at hl 4 rfl) ?_
  refine lv_iconst (v := 1) hx hb dL_law_652 (by decide) ?_
  refine lv_iadd hx hb dL_law_653 ?_
  refine l_sld hC hX hbl hW (j := j) (k := 1) (by omega) hL (nI_add (7 * j) 1) dL_law_654 ?_
  refine lv_aload_n hx hb dL_law_655 rfl (lv_at hl 0 rfl) ?_
  refine lv_iload hx hb dL_law_656 (lv_at hl 4 rfl) ?_
  refine lv_iconst (v := 2) hx hb dL_law_658 (by decide) ?_
  refine lv_iadd hx hb dL_law_659 ?_
  refine l_sld hC hX hbl hW (j := j) (k := 2) (by omega) hL (nI_add (7 * j) 2) dL_law_660 ?_
  refine lv_aload_n hx hb dL_law_661 rfl (lv_at hl 0 rfl) ?_
  refine lv_iload hx hb dL_law_662 (lv_at hl 4 rfl) ?_
  refine lv_iconst (v := 3) hx hb dL_law_664 (by decide) ?_
  refine lv_iadd hx hb dL_law_665 ?_
  refine l_sld hC hX hbl hW (j := j) (k := 3) (by omega) hL (nI_add (7 * j) 3) dL_law_666 ?_
  refine lv_aload_n hx hb dL_law_667 rfl (lv_at hl 0 rfl) ?_
  refine lv_iload hx hb dL_law_668 (lv_at hl 4 rfl) ?_
  refine lv_iconst (v := 4) hx hb dL_law_670 (by decide) ?_
  refine lv_iadd hx hb dL_law_671 ?_
  refine l_sld hC hX hbl hW (j := j) (k := 4) (by omega) hL (nI_add (7 * j) 4) dL_law_672 ?_
  refine lv_aload_n hx hb dL_law_673 rfl (lv_at hl 0 rfl) ?_
  refine lv_iload hx hb dL_law_674 (lv_at hl 4 rfl) ?_
  refine lv_iconst (v := 5) hx hb dL_law_676 (by decide) ?_
  refine lv_iadd hx hb dL_law_677 ?_
  refine l_sld hC hX hbl hW (j := j) (k := 5) (by omega) hL (nI_add (7 * j) 5) dL_law_678 ?_
  refine lv_aload_n hx hb dL_law_679 rfl (lv_at hl 3 rfl) ?_
  refine l_cC hC hK hW (As := [.ref (G.2.2.1 0), .int (xs (7 * j + 1)), .int (xs (7 * j + 2)), .int (xs (7 * j + 3)), .int (xs (7 * j + 4)), .int (xs (7 * j + 5)), .ref (G.2.2.1 229)]) (rest := []) (c_L_ask l G hst h1) (vx_cwSW 7 hts tg_L_ask rfl rfl rfl (by decide +kernel) ⟨(Nat.le_of_ble_eq_true rfl), (Nat.le_of_ble_eq_true rfl)⟩) rfl hl.1 rfl (Nat.le_of_ble_eq_true rfl) dL_law_680 ⟨by omega, by omega⟩ (fun H locs hW => ?_)
  refine lv_istore (lv' := [(5, .int k1), (0, .ref b), (1, .ref (G.2.2.1 0)), (2, .ref (ad 0)), (3, .ref (G.2.2.1 229)), (4, .int (nI (7 * j)))]) hx hb dL_law_683 hl (by decide) rfl (fun ls hl => ?_)
  refine lv_aload_n hx hb dL_law_685 rfl (lv_at hl 3 rfl) ?_
  refine lv_aload_n hx hb dL_law_686 rfl (lv_at hl 1 rfl) ?_
  refine lv_iload hx hb dL_law_687 (lv_at hl 5 rfl) ?_
  refine lv_iconst (v := 1) hx hb dL_law_689 (by decide) ?_
  refine lv_iadd hx hb dL_law_690 ?_
  refine l_sld hC hX hbl hW (j := j) (k := 1) (by omega) hL (nI_add (7 * j) 1) dL_law_691 ?_
  refine lv_aload_n hx hb dL_law_692 rfl (lv_at hl 1 rfl) ?_
  refine lv_iload hx hb dL_law_693 (lv_at hl 5 rfl) ?_
  refine lv_iconst (v := 2) hx hb dL_law_695 (by decide) ?_
  refine lv_iadd hx hb dL_law_696 ?_
  refine l_sld hC hX hbl hW (j := j) (k := 2) (by omega) hL (nI_add (7 * j) 2) dL_law_697 ?_
  refine lv_aload_n hx hb dL_law_698 rfl (lv_at hl 1 rfl) ?_
  refine lv_iload hx hb dL_law_699 (lv_at hl 5 rfl) ?_
  refine lv_iconst (v := 3) hx hb dL_law_701 (by decide) ?_
  refine lv_iadd hx hb dL_law_702 ?_
  refine l_sld hC hX hbl hW (j := j) (k := 3) (by omega) hL (nI_add (7 * j) 3) dL_law_703 ?_
  refine lv_aload_n hx hb dL_law_704 rfl (lv_at hl 1 rfl) ?_
  refine lv_iload hx hb dL_law_705 (lv_at hl 5 rfl) ?_
  refine lv_iconst (v := 4) hx hb dL_law_707 (by decide) ?_
  refine lv_iadd hx hb dL_law_708 ?_
  refine l_sld hC hX hbl hW (j := j) (k := 4) (by omega) hL (nI_add (7 * j) 4) dL_law_709 ?_
  refine lv_aload_n hx hb dL_law_710 rfl (lv_at hl 1 rfl) ?_
  refine lv_iload hx hb dL_law_711 (lv_at hl 5 rfl) ?_
  refine lv_iconst (v := 5) hx hb dL_law_713 (by decide) ?_
  refine lv_iadd hx hb dL_law_714 ?_
  refine l_sld hC hX hbl hW (j := j) (k := 5) (by omega) hL (nI_add (7 * j) 5) dL_law_715 ?_
  refine l_cM hC hK hW (As := [.int (xs (7 * j + 1)), .int (xs (7 * j + 2)), .int (xs (7 * j + 3)), .int (xs (7 * j + 4)), .int (xs (7 * j + 5))]) (rest := []) (c_X10_ask l (l_GM G ad) h2) (cwV 5 hts tg_X10_ask rfl rfl rfl (by decide +kernel) ⟨(Nat.le_of_ble_eq_true rfl), (Nat.le_of_ble_eq_true rfl)⟩) rfl hl.1 rfl (Nat.le_of_ble_eq_true rfl) dL_law_716 ⟨by omega, by omega⟩ (fun H locs hW => ?_)
  refine lv_istore (lv' := [(6, .int r1), (5, .int k1), (0, .ref b), (1, .ref (G.2.2.1 0)), (2, .ref (ad 0)), (3, .ref (G.2.2.1 229)), (4, .int (nI (7 * j)))]) hx hb dL_law_719 hl (by decide) rfl (fun ls hl => ?_)
  refine lv_aload_n hx hb dL_law_721 rfl (lv_at hl 4 rfl) ?_
  refine l_cM hC hK hW (As := []) (rest := []) (c_X10_thrown l (l_GM G ad) h3) (cwV 0 hts tg_X10_thrown rfl rfl rfl (by decide +kernel) ⟨(Nat.le_of_ble_eq_true rfl), (Nat.le_of_ble_eq_true rfl)⟩) rfl hl.1 rfl (Nat.le_of_ble_eq_true rfl) dL_law_722 ⟨by omega, by omega⟩ (fun H locs hW => ?_)
  refine lv_iload hx hb dL_law_725 (lv_at hl 1 rfl) ?_
  refine lv_icmp_eq (tgt := 732) hx hb dL_law_727 (by decide) (fun _ => ?_) (fun c9 => absurd rfl c9)
  refine lv_iload hx hb dL_law_732 (lv_at hl 1 rfl) ?_
  refine lv_if_ne (tgt := 749) hx hb dL_law_734 (by decide) (fun c9 => ?_) (fun c9 => ?_)
  · refine lv_goto (tgt := 2367) hx hb dL_law_749 (by decide) ?_
    refine W.widen (k := cells + 8) (n := slots + 48) (by omega) (by omega) ?_
    exact kN _ _ H locs ls hR hW (lv_sub hl [2, 3, 4, 5, 6] rfl)
  · refine lv_aload_n hx hb dL_law_737 rfl (lv_at hl 5 rfl) ?_
    refine lv_iconst (v := 0) hx hb dL_law_738 (by decide) ?_
    refine l_lld hC hK hW dL_law_739 ?_
    refine lv_iload hx hb dL_law_740 (lv_at hl 0 rfl) ?_
    refine lv_i2l (v := (r1).toInt64) hx hb dL_law_742 rfl ?_
    refine W.lcmp hx hb dL_law_743 ?_
    refine lv_if_eq (tgt := 749) hx hb dL_law_744 (by decide) (fun _ => ?_) (fun c8 => absurd (l_cmps (h4 c9)) c8)
    refine lv_goto (tgt := 2367) hx hb dL_law_749 (by decide) ?_
    refine W.widen (k := cells + 8) (n := slots + 48) (by omega) (by omega) ?_
    exact kN _ _ H locs ls hR hW (lv_sub hl [2, 3, 4, 5, 6] rfl)
set_option maxHeartbeats 4000000 in
set_option maxRecDepth 100000 in
theorem law_case_6 {p : Program} {l : Launch} {e : Env} {s : State} {m : MethodId} {below : List Frame} {meth : Method} {c : Code} {b L : Nat} {xs : Nat → Int32} (hL : L ≤ 3584) (C0 : lw_At p s m meth c b L xs) (hst : l.stackTraces = false) {G : gG} {ad : Nat → Nat} (hK : l_K G ad s) {Rel : gM → gM → Prop} (hop : l_op_6 Rel) {j : Nat} (hj : 7 * j + 7 ≤ L) {mc mm : gM} (hR : Rel mc mm) {H : Heap} {locs : List Loc} {ls : Array Slot} {cells slots : Nat} (hc1 : cells + 8 ≤ 601024) (hc2 : slots + 48 ≤ 7293034) (hW : l_H G ad s H locs mc mm) (hl : lv_has ls 7 [(0, .ref b), (1, .ref (G.2.2.1 0)), (2, .ref (ad 0)), (3, .ref (G.2.2.1 229)), (4, .int (nI (7 * j)))]) (kN : ∀ (mc mm : gM) (H : Heap) (locs : List Loc) (ls : Array Slot), Rel mc mm → l_H G ad s H locs mc mm → lv_has ls 7 [(0, .ref b), (1, .ref (G.2.2.1 0)), (2, .ref (ad 0)), (3, .ref (G.2.2.1 229)), (4, .int (nI (7 * j)))] → W p l e room_1 s m #[Value.ref b] below meth c H locs (cells + 8) (slots + 48) (lw_Z below #[Value.ref b] s) (F0 m 2367 ls [])) : W p l e room_1 s m #[Value.ref b] below meth c H locs cells slots (lw_Z below #[Value.ref b] s) (F0 m 752 ls []) := by
  obtain ⟨hx, hb, hr, hml, hown, hts, hX, hbl, hlocks, hgv⟩ := id C0
  have hC : CallFix p m c cL_law 7 s #[Value.ref b] lw_tbl RL := ⟨hx, hb, hml, hown, hts⟩
  have hR1 : room_1.cells = 601024 := rfl
  have hR2 : room_1.slots = 7293034 := rfl
  obtain ⟨k1, mc2, r1, mm2, h1, h2, h3, h4, hR⟩ := hop mc mm   hR
  refine lv_aload_n hx hb dL_law_752 rfl (lv_at hl 1 rfl) ?_
  refine lv_aload_n hx hb dL_law_753 rfl (lv_at hl 3 rfl) ?_
  refine l_cC hC hK hW (As := [.ref (G.2.2.1 0), .ref (G.2.2.1 229)]) (rest := []) (c_L_clear l G hst h1) (vx_cwSW 2 hts tg_L_clear rfl rfl rfl (by decide +kernel) ⟨(Nat.le_of_ble_eq_true rfl), (Nat.le_of_ble_eq_true rfl)⟩) rfl hl.1 rfl (Nat.le_of_ble_eq_true rfl) dL_law_754 ⟨by omega, by omega⟩ (fun H locs hW => ?_)
  refine lv_istore (lv' := [(5, .int k1), (0, .ref b), (1, .ref (G.2.2.1 0)), (2, .ref (ad 0)), (3, .ref (G.2.2.1 229)), (4, .int (nI (7 * j)))]) hx hb dL_law_757 hl (by decide) rfl (fun ls hl => ?_)
  refine lv_aload_n hx hb dL_law_759 rfl (lv_at hl 3 rfl) ?_
  refine l_cM hC hK hW (As := []) (rest := []) (c_X10_clear l (l_GM G ad) h2) (cwV 0 hts tg_X10_clear rfl rfl rfl (by decide +kernel) ⟨(Nat.le_of_ble_eq_true rfl), (Nat.le_of_ble_eq_true rfl)⟩) rfl hl.1 rfl (Nat.le_of_ble_eq_true rfl) dL_law_760 ⟨by omega, by omega⟩ (fun H locs hW => ?_)
  refine lv_istore (lv' := [(6, .int r1), (5, .int k1), (0, .ref b), (1, .ref (G.2.2.1 0)), (2, .ref (ad 0)), (3, .ref (G.2.2.1 229)), (4, .int (nI (7 * j)))]) hx hb dL_law_763 hl (by decide) rfl (fun ls hl => ?_)
  refine lv_aload_n hx hb dL_law_765 rfl (lv_at hl 4 rfl) ?_
  refine l_cM hC hK hW (As := []) (rest := []) (c_X10_thrown l (l_GM G ad) h3) (cwV 0 hts tg_X10_thrown rfl rfl rfl (by decide +kernel) ⟨(Nat.le_of_ble_eq_true rfl), (Nat.le_of_ble_eq_true rfl)⟩) rfl hl.1 rfl (Nat.le_of_ble_eq_true rfl) dL_law_766 ⟨by omega, by omega⟩ (fun H locs hW => ?_)
  refine lv_iload hx hb dL_law_769 (lv_at hl 1 rfl) ?_
  refine lv_icmp_eq (tgt := 776) hx hb dL_law_771 (by decide) (fun _ => ?_) (fun c9 => absurd rfl c9)
  refine lv_iload hx hb dL_law_776 (lv_at hl 1 rfl) ?_
  refine lv_if_ne (tgt := 793) hx hb dL_law_778 (by decide) (fun c9 => ?_) (fun c9 => ?_)
  · refine lv_goto (tgt := 2367) hx hb dL_law_793 (by decide) ?_
    refine W.widen (k := cells + 8) (n := slots + 48) (by omega) (by omega) ?_
    exact kN _ _ H locs ls hR hW (lv_sub hl [2, 3, 4, 5, 6] rfl)
  · refine lv_aload_n hx hb dL_law_781 rfl (lv_at hl 5 rfl) ?_
    refine lv_iconst (v := 0) hx hb dL_law_782 (by decide) ?_
    refine l_lld hC hK hW dL_law_783 ?_
    refine lv_iload hx hb dL_law_784 (lv_at hl 0 rfl) ?_
    refine lv_i2l (v := (r1).toInt64) hx hb dL_law_786 rfl ?_
    refine W.lcmp hx hb dL_law_787 ?_
    refine lv_if_eq (tgt := 793) hx hb dL_law_788 (by decide) (fun _ => ?_) (fun c8 => absurd (l_cmps (h4 c9)) c8)
    refine lv_goto (tgt := 2367) hx hb dL_law_793 (by decide) ?_
    refine W.widen (k := cells + 8) (n := slots + 48) (by omega) (by omega) ?_
    exact kN _ _ H locs ls hR hW (lv_sub hl [2, 3, 4, 5, 6] rfl)
set_option maxHeartbeats 4000000 in
set_option maxRecDepth 100000 in
theorem law_case_7 {p : Program} {l : Launch} {e : Env} {s : State} {m : MethodId} {below : List Frame} {meth : Method} {c : Code} {b L : Nat} {xs : Nat → Int32} (hL : L ≤ 3584) (C0 : lw_At p s m meth c b L xs) (hst : l.stackTraces = false) {G : gG} {ad : Nat → Nat} (hK : l_K G ad s) {Rel : gM → gM → Prop} (hop : l_op_7 Rel) {j : Nat} (hj : 7 * j + 7 ≤ L) {mc mm : gM} (hR : Rel mc mm) {H : Heap} {locs : List Loc} {ls : Array Slot} {cells slots : Nat} (hc1 : cells + 8 ≤ 601024) (hc2 : slots + 48 ≤ 7293034) (hW : l_H G ad s H locs mc mm) (hl : lv_has ls 7 [(0, .ref b), (1, .ref (G.2.2.1 0)), (2, .ref (ad 0)), (3, .ref (G.2.2.1 229)), (4, .int (nI (7 * j)))]) (kN : ∀ (mc mm : gM) (H : Heap) (locs : List Loc) (ls : Array Slot), Rel mc mm → l_H G ad s H locs mc mm → lv_has ls 7 [(0, .ref b), (1, .ref (G.2.2.1 0)), (2, .ref (ad 0)), (3, .ref (G.2.2.1 229)), (4, .int (nI (7 * j)))] → W p l e room_1 s m #[Value.ref b] below meth c H locs (cells + 8) (slots + 48) (lw_Z below #[Value.ref b] s) (F0 m 2367 ls [])) : W p l e room_1 s m #[Value.ref b] below meth c H locs cells slots (lw_Z below #[Value.ref b] s) (F0 m 796 ls []) := by
  obtain ⟨hx, hb, hr, hml, hown, hts, hX, hbl, hlocks, hgv⟩ := id C0
  have hC : CallFix p m c cL_law 7 s #[Value.ref b] lw_tbl RL := ⟨hx, hb, hml, hown, hts⟩
  have hR1 : room_1.cells = 601024 := rfl
  have hR2 : room_1.slots = 7293034 := rfl
  by_cases hbo : xs (7 * j + 4) = 0
  · obtain ⟨k1, mc2, r1, mm2, h1, h2, h3, h4, hR⟩ := hop mc mm (xs (7 * j + 1)) (xs (7 * j + 2)) (xs (7 * j + 3)) 0 (xs (7 * j + 5)) (xs (7 * j + 6)) (Or.inl rfl) hR
    refine lv_aload_n hx hb dL_law_796 rfl (lv_at hl 1 rfl) ?_
    refine lv_aload_n hx hb dL_law_797 rfl (lv_at hl 0 rfl) ?_
    refine lv_iload hx hb dL_law_798 (lv_at hl 4 rfl) ?_
    refine lv_iconst (v := 1) hx hb dL_law_800 (by decide) ?_
    refine lv_iadd hx hb dL_law_801 ?_
    refine l_sld hC hX hbl hW (j := j) (k := 1) (by omega) hL (nI_add (7 * j) 1) dL_law_802 ?_
    refine lv_aload_n hx hb dL_law_803 rfl (lv_at hl 0 rfl) ?_
    refine lv_iload hx hb dL_law_804 (lv_at hl 4 rfl) ?_
    refine lv_iconst (v := 2) hx hb dL_law_806 (by decide) ?_
    refine lv_iadd hx hb dL_law_807 ?_
    refine l_sld hC hX hbl hW (j := j) (k := 2) (by omega) hL (nI_add (7 * j) 2) dL_law_808 ?_
    refine lv_aload_n hx hb dL_law_809 rfl (lv_at hl 0 rfl) ?_
    refine lv_iload hx hb dL_law_810 (lv_at hl 4 rfl) ?_
    refine lv_iconst (v := 3) hx hb dL_law_812 (by decide) ?_
    refine lv_iadd hx hb dL_law_813 ?_
    refine l_sld hC hX hbl hW (j := j) (k := 3) (by omega) hL (nI_add (7 * j) 3) dL_law_814 ?_
    refine lv_aload_n hx hb dL_law_815 rfl (lv_at hl 0 rfl) ?_
    refine lv_iload hx hb dL_law_816 (lv_at hl 4 rfl) ?_
    refine lv_iconst (v := 4) hx hb dL_law_818 (by decide) ?_
    refine lv_iadd hx hb dL_law_819 ?_
    refine l_sld hC hX hbl hW (j := j) (k := 4) (by omega) hL (nI_add (7 * j) 4) dL_law_820 ?_
    refine lv_if_eq (tgt := 828) hx hb dL_law_821 (by decide) (fun _ => ?_) (fun c8 => absurd hbo c8)
    refine lv_iconst (v := 0) hx hb dL_law_828 (by decide) ?_
    refine lv_aload_n hx hb dL_law_829 rfl (lv_at hl 0 rfl) ?_
    refine lv_iload hx hb dL_law_830 (lv_at hl 4 rfl) ?_
    refine lv_iconst (v := 5) hx hb dL_law_832 (by decide) ?_
    refine lv_iadd hx hb dL_law_833 ?_
    refine l_sld hC hX hbl hW (j := j) (k := 5) (by omega) hL (nI_add (7 * j) 5) dL_law_834 ?_
    refine lv_aload_n hx hb dL_law_835 rfl (lv_at hl 0 rfl) ?_
    refine lv_iload hx hb dL_law_836 (lv_at hl 4 rfl) ?_
    refine lv_bipush (v := 6) hx hb dL_law_838 (by decide) ?_
    refine lv_iadd hx hb dL_law_840 ?_
    refine l_sld hC hX hbl hW (j := j) (k := 6) (by omega) hL (nI_add (7 * j) 6) dL_law_841 ?_
    refine lv_aload_n hx hb dL_law_842 rfl (lv_at hl 3 rfl) ?_
    refine l_cC hC hK hW (As := [.ref (G.2.2.1 0), .int (xs (7 * j + 1)), .int (xs (7 * j + 2)), .int (xs (7 * j + 3)), .int 0, .int (xs (7 * j + 5)), .int (xs (7 * j + 6)), .ref (G.2.2.1 229)]) (rest := []) (c_L_offer l G hst h1) (vx_cwSW 8 hts tg_L_offer rfl rfl rfl (by decide +kernel) ⟨(Nat.le_of_ble_eq_true rfl), (Nat.le_of_ble_eq_true rfl)⟩) rfl hl.1 rfl (Nat.le_of_ble_eq_true rfl) dL_law_843 ⟨by omega, by omega⟩ (fun H locs hW => ?_)
    refine lv_istore (lv' := [(5, .int k1), (0, .ref b), (1, .ref (G.2.2.1 0)), (2, .ref (ad 0)), (3, .ref (G.2.2.1 229)), (4, .int (nI (7 * j)))]) hx hb dL_law_846 hl (by decide) rfl (fun ls hl => ?_)
    refine lv_aload_n hx hb dL_law_848 rfl (lv_at hl 3 rfl) ?_
    refine lv_aload_n hx hb dL_law_849 rfl (lv_at hl 1 rfl) ?_
    refine lv_iload hx hb dL_law_850 (lv_at hl 5 rfl) ?_
    refine lv_iconst (v := 1) hx hb dL_law_852 (by decide) ?_
    refine lv_iadd hx hb dL_law_853 ?_
    refine l_sld hC hX hbl hW (j := j) (k := 1) (by omega) hL (nI_add (7 * j) 1) dL_law_854 ?_
    refine lv_aload_n hx hb dL_law_855 rfl (lv_at hl 1 rfl) ?_
    refine lv_iload hx hb dL_law_856 (lv_at hl 5 rfl) ?_
    refine lv_iconst (v := 2) hx hb dL_law_858 (by decide) ?_
    refine lv_iadd hx hb dL_law_859 ?_
    refine l_sld hC hX hbl hW (j := j) (k := 2) (by omega) hL (nI_add (7 * j) 2) dL_law_860 ?_
    refine lv_aload_n hx hb dL_law_861 rfl (lv_at hl 1 rfl) ?_
    refine lv_iload hx hb dL_law_862 (lv_at hl 5 rfl) ?_
    refine lv_iconst (v := 3) hx hb dL_law_864 (by decide) ?_
    refine lv_iadd hx hb dL_law_865 ?_
    refine l_sld hC hX hbl hW (j := j) (k := 3) (by omega) hL (nI_add (7 * j) 3) dL_law_866 ?_
    refine lv_aload_n hx hb dL_law_867 rfl (lv_at hl 1 rfl) ?_
    refine lv_iload hx hb dL_law_868 (lv_at hl 5 rfl) ?_
    refine lv_iconst (v := 4) hx hb dL_law_870 (by decide) ?_
    refine lv_iadd hx hb dL_law_871 ?_
    refine l_sld hC hX hbl hW (j := j) (k := 4) (by omega) hL (nI_add (7 * j) 4) dL_law_872 ?_
    refine lv_if_eq (tgt := 880) hx hb dL_law_873 (by decide) (fun _ => ?_) (fun c8 => absurd hbo c8)
    refine lv_iconst (v := 0) hx hb dL_law_880 (by decide) ?_
    refine lv_aload_n hx hb dL_law_881 rfl (lv_at hl 1 rfl) ?_
    refine lv_iload hx hb dL_law_882 (lv_at hl 5 rfl) ?_
    refine lv_iconst (v := 5) hx hb dL_law_884 (by decide) ?_
    refine lv_iadd hx hb dL_law_885 ?_
    refine l_sld hC hX hbl hW (j := j) (k := 5) (by omega) hL (nI_add (7 * j) 5) dL_law_886 ?_
    refine lv_aload_n hx hb dL_law_887 rfl (lv_at hl 1 rfl) ?_
    refine lv_iload hx hb dL_law_888 (lv_at hl 5 rfl) ?_
    refine lv_bipush (v := 6) hx hb dL_law_890 (by decide) ?_
    refine lv_iadd hx hb dL_law_892 ?_
    refine l_sld hC hX hbl hW (j := j) (k := 6) (by omega) hL (nI_add (7 * j) 6) dL_law_893 ?_
    refine l_cM hC hK hW (As := [.int (xs (7 * j + 1)), .int (xs (7 * j + 2)), .int (xs (7 * j + 3)), .int 0, .int (xs (7 * j + 5)), .int (xs (7 * j + 6))]) (rest := []) (c_X10_offer l (l_GM G ad) h2) (cwV 6 hts tg_X10_offer rfl rfl rfl (by decide +kernel) ⟨(Nat.le_of_ble_eq_true rfl), (Nat.le_of_ble_eq_true rfl)⟩) rfl hl.1 rfl (Nat.le_of_ble_eq_true rfl) dL_law_894 ⟨by omega, by omega⟩ (fun H locs hW => ?_)
    refine lv_istore (lv' := [(6, .int r1), (5, .int k1), (0, .ref b), (1, .ref (G.2.2.1 0)), (2, .ref (ad 0)), (3, .ref (G.2.2.1 229)), (4, .int (nI (7 * j)))]) hx hb dL_law_897 hl (by decide) rfl (fun ls hl => ?_)
    refine lv_aload_n hx hb dL_law_899 rfl (lv_at hl 4 rfl) ?_
    refine l_cM hC hK hW (As := []) (rest := []) (c_X10_thrown l (l_GM G ad) h3) (cwV 0 hts tg_X10_thrown rfl rfl rfl (by decide +kernel) ⟨(Nat.le_of_ble_eq_true rfl), (Nat.le_of_ble_eq_true rfl)⟩) rfl hl.1 rfl (Nat.le_of_ble_eq_true rfl) dL_law_900 ⟨by omega, by omega⟩ (fun H locs hW => ?_)
    refine lv_iload hx hb dL_law_903 (lv_at hl 1 rfl) ?_
    refine lv_icmp_eq (tgt := 910) hx hb dL_law_905 (by decide) (fun _ => ?_) (fun c9 => absurd rfl c9)
    refine lv_iload hx hb dL_law_910 (lv_at hl 1 rfl) ?_
    refine lv_if_ne (tgt := 927) hx hb dL_law_912 (by decide) (fun c9 => ?_) (fun c9 => ?_)
    · refine lv_goto (tgt := 2367) hx hb dL_law_927 (by decide) ?_
      refine W.widen (k := cells + 8) (n := slots + 48) (by omega) (by omega) ?_
      exact kN _ _ H locs ls hR hW (lv_sub hl [2, 3, 4, 5, 6] rfl)
    · refine lv_aload_n hx hb dL_law_915 rfl (lv_at hl 5 rfl) ?_
      refine lv_iconst (v := 0) hx hb dL_law_916 (by decide) ?_
      refine l_lld hC hK hW dL_law_917 ?_
      refine lv_iload hx hb dL_law_918 (lv_at hl 0 rfl) ?_
      refine lv_i2l (v := (r1).toInt64) hx hb dL_law_920 rfl ?_
      refine W.lcmp hx hb dL_law_921 ?_
      refine lv_if_eq (tgt := 927) hx hb dL_law_922 (by decide) (fun _ => ?_) (fun c8 => absurd (l_cmps (h4 c9)) c8)
      refine lv_goto (tgt := 2367) hx hb dL_law_927 (by decide) ?_
      refine W.widen (k := cells + 8) (n := slots + 48) (by omega) (by omega) ?_
      exact kN _ _ H locs ls hR hW (lv_sub hl [2, 3, 4, 5, 6] rfl)
  · obtain ⟨k1, mc2, r1, mm2, h1, h2, h3, h4, hR⟩ := hop mc mm (xs (7 * j + 1)) (xs (7 * j + 2)) (xs (7 * j + 3)) 1 (xs (7 * j + 5)) (xs (7 * j + 6)) (Or.inr rfl) hR
    refine lv_aload_n hx hb dL_law_796 rfl (lv_at hl 1 rfl) ?_
    refine lv_aload_n hx hb dL_law_797 rfl (lv_at hl 0 rfl) ?_
    refine lv_iload hx hb dL_law_798 (lv_at hl 4 rfl) ?_
    refine lv_iconst (v := 1) hx hb dL_law_800 (by decide) ?_
    refine lv_iadd hx hb dL_law_801 ?_
    refine l_sld hC hX hbl hW (j := j) (k := 1) (by omega) hL (nI_add (7 * j) 1) dL_law_802 ?_
    refine lv_aload_n hx hb dL_law_803 rfl (lv_at hl 0 rfl) ?_
    refine lv_iload hx hb dL_law_804 (lv_at hl 4 rfl) ?_
    refine lv_iconst (v := 2) hx hb dL_law_806 (by decide) ?_
    refine lv_iadd hx hb dL_law_807 ?_
    refine l_sld hC hX hbl hW (j := j) (k := 2) (by omega) hL (nI_add (7 * j) 2) dL_law_808 ?_
    refine lv_aload_n hx hb dL_law_809 rfl (lv_at hl 0 rfl) ?_
    refine lv_iload hx hb dL_law_810 (lv_at hl 4 rfl) ?_
    refine lv_iconst (v := 3) hx hb dL_law_812 (by decide) ?_
    refine lv_iadd hx hb dL_law_813 ?_
    refine l_sld hC hX hbl hW (j := j) (k := 3) (by omega) hL (nI_add (7 * j) 3) dL_law_814 ?_
    refine lv_aload_n hx hb dL_law_815 rfl (lv_at hl 0 rfl) ?_
    refine lv_iload hx hb dL_law_816 (lv_at hl 4 rfl) ?_
    refine lv_iconst (v := 4) hx hb dL_law_818 (by decide) ?_
    refine lv_iadd hx hb dL_law_819 ?_
    refine l_sld hC hX hbl hW (j := j) (k := 4) (by omega) hL (nI_add (7 * j) 4) dL_law_820 ?_
    refine lv_if_eq (tgt := 828) hx hb dL_law_821 (by decide) (fun c8 => absurd c8 hbo) (fun _ => ?_)
    refine lv_iconst (v := 1) hx hb dL_law_824 (by decide) ?_
    refine lv_goto (tgt := 829) hx hb dL_law_825 (by decide) ?_
    refine lv_aload_n hx hb dL_law_829 rfl (lv_at hl 0 rfl) ?_
    refine lv_iload hx hb dL_law_830 (lv_at hl 4 rfl) ?_
    refine lv_iconst (v := 5) hx hb dL_law_832 (by decide) ?_
    refine lv_iadd hx hb dL_law_833 ?_
    refine l_sld hC hX hbl hW (j := j) (k := 5) (by omega) hL (nI_add (7 * j) 5) dL_law_834 ?_
    refine lv_aload_n hx hb dL_law_835 rfl (lv_at hl 0 rfl) ?_
    refine lv_iload hx hb dL_law_836 (lv_at hl 4 rfl) ?_
    refine lv_bipush (v := 6) hx hb dL_law_838 (by decide) ?_
    refine lv_iadd hx hb dL_law_840 ?_
    refine l_sld hC hX hbl hW (j := j) (k := 6) (by omega) hL (nI_add (7 * j) 6) dL_law_841 ?_
    refine lv_aload_n hx hb dL_law_842 rfl (lv_at hl 3 rfl) ?_
    refine l_cC hC hK hW (As := [.ref (G.2.2.1 0), .int (xs (7 * j + 1)), .int (xs (7 * j + 2)), .int (xs (7 * j + 3)), .int 1, .int (xs (7 * j + 5)), .int (xs (7 * j + 6)), .ref (G.2.2.1 229)]) (rest := []) (c_L_offer l G hst h1) (vx_cwSW 8 hts tg_L_offer rfl rfl rfl (by decide +kernel) ⟨(Nat.le_of_ble_eq_true rfl), (Nat.le_of_ble_eq_true rfl)⟩) rfl hl.1 rfl (Nat.le_of_ble_eq_true rfl) dL_law_843 ⟨by omega, by omega⟩ (fun H locs hW => ?_)
    refine lv_istore (lv' := [(5, .int k1), (0, .ref b), (1, .ref (G.2.2.1 0)), (2, .ref (ad 0)), (3, .ref (G.2.2.1 229)), (4, .int (nI (7 * j)))]) hx hb dL_law_846 hl (by decide) rfl (fun ls hl => ?_)
    refine lv_aload_n hx hb dL_law_848 rfl (lv_at hl 3 rfl) ?_
    refine lv_aload_n hx hb dL_law_849 rfl (lv_at hl 1 rfl) ?_
    refine lv_iload hx hb dL_law_850 (lv_at hl 5 rfl) ?_
    refine lv_iconst (v := 1) hx hb dL_law_852 (by decide) ?_
    refine lv_iadd hx hb dL_law_853 ?_
    refine l_sld hC hX hbl hW (j := j) (k := 1) (by omega) hL (nI_add (7 * j) 1) dL_law_854 ?_
    refine lv_aload_n hx hb dL_law_855 rfl (lv_at hl 1 rfl) ?_
    refine lv_iload hx hb dL_law_856 (lv_at hl 5 rfl) ?_
    refine lv_iconst (v := 2) hx hb dL_law_858 (by decide) ?_
    refine lv_iadd hx hb dL_law_859 ?_
    refine l_sld hC hX hbl hW (j := j) (k := 2) (by omega) hL (nI_add (7 * j) 2) dL_law_860 ?_
    refine lv_aload_n hx hb dL_law_861 rfl (lv_at hl 1 rfl) ?_
    refine lv_iload hx hb dL_law_862 (lv_at hl 5 rfl) ?_
    refine lv_iconst (v := 3) hx hb dL_law_864 (by decide) ?_
    refine lv_iadd hx hb dL_law_865 ?_
    refine l_sld hC hX hbl hW (j := j) (k := 3) (by omega) hL (nI_add (7 * j) 3) dL_law_866 ?_
    refine lv_aload_n hx hb dL_law_867 rfl (lv_at hl 1 rfl) ?_
    refine lv_iload hx hb dL_law_868 (lv_at hl 5 rfl) ?_
    refine lv_iconst (v := 4) hx hb dL_law_870 (by decide) ?_
    refine lv_iadd hx hb dL_law_871 ?_
    refine l_sld hC hX hbl hW (j := j) (k := 4) (by omega) hL (nI_add (7 * j) 4) dL_law_872 ?_
    refine lv_if_eq (tgt := 880) hx hb dL_law_873 (by decide) (fun c8 => absurd c8 hbo) (fun _ => ?_)
    refine lv_iconst (v := 1) hx hb dL_law_876 (by decide) ?_
    refine lv_goto (tgt := 881) hx hb dL_law_877 (by decide) ?_
    refine lv_aload_n hx hb dL_law_881 rfl (lv_at hl 1 rfl) ?_
    refine lv_iload hx hb dL_law_882 (lv_at hl 5 rfl) ?_
    refine lv_iconst (v := 5) hx hb dL_law_884 (by decide) ?_
    refine lv_iadd hx hb dL_law_885 ?_
    refine l_sld hC hX hbl hW (j := j) (k := 5) (by omega) hL (nI_add (7 * j) 5) dL_law_886 ?_
    refine lv_aload_n hx hb dL_law_887 rfl (lv_at hl 1 rfl) ?_
    refine lv_iload hx hb dL_law_888 (lv_at hl 5 rfl) ?_
    refine lv_bipush (v := 6) hx hb dL_law_890 (by decide) ?_
    refine lv_iadd hx hb dL_law_892 ?_
    refine l_sld hC hX hbl hW (j := j) (k := 6) (by omega) hL (nI_add (7 * j) 6) dL_law_893 ?_
    refine l_cM hC hK hW (As := [.int (xs (7 * j + 1)), .int (xs (7 * j + 2)), .int (xs (7 * j + 3)), .int 1, .int (xs (7 * j + 5)), .int (xs (7 * j + 6))]) (rest := []) (c_X10_offer l (l_GM G ad) h2) (cwV 6 hts tg_X10_offer rfl rfl rfl (by decide +kernel) ⟨(Nat.le_of_ble_eq_true rfl), (Nat.le_of_ble_eq_true rfl)⟩) rfl hl.1 rfl (Nat.le_of_ble_eq_true rfl) dL_law_894 ⟨by omega, by omega⟩ (fun H locs hW => ?_)
    refine lv_istore (lv' := [(6, .int r1), (5, .int k1), (0, .ref b), (1, .ref (G.2.2.1 0)), (2, .ref (ad 0)), (3, .ref (G.2.2.1 229)), (4, .int (nI (7 * j)))]) hx hb dL_law_897 hl (by decide) rfl (fun ls hl => ?_)
    refine lv_aload_n hx hb dL_law_899 rfl (lv_at hl 4 rfl) ?_
    refine l_cM hC hK hW (As := []) (rest := []) (c_X10_thrown l (l_GM G ad) h3) (cwV 0 hts tg_X10_thrown rfl rfl rfl (by decide +kernel) ⟨(Nat.le_of_ble_eq_true rfl), (Nat.le_of_ble_eq_true rfl)⟩) rfl hl.1 rfl (Nat.le_of_ble_eq_true rfl) dL_law_900 ⟨by omega, by omega⟩ (fun H locs hW => ?_)
    refine lv_iload hx hb dL_law_903 (lv_at hl 1 rfl) ?_
    refine lv_icmp_eq (tgt := 910) hx hb dL_law_905 (by decide) (fun _ => ?_) (fun c9 => absurd rfl c9)
    refine lv_iload hx hb dL_law_910 (lv_at hl 1 rfl) ?_
    refine lv_if_ne (tgt := 927) hx hb dL_law_912 (by decide) (fun c9 => ?_) (fun c9 => ?_)
    · refine lv_goto (tgt := 2367) hx hb dL_law_927 (by decide) ?_
      refine W.widen (k := cells + 8) (n := slots + 48) (by omega) (by omega) ?_
      exact kN _ _ H locs ls hR hW (lv_sub hl [2, 3, 4, 5, 6] rfl)
    · refine lv_aload_n hx hb dL_law_915 rfl (lv_at hl 5 rfl) ?_
      refine lv_iconst (v := 0) hx hb dL_law_916 (by decide) ?_
      refine l_lld hC hK hW dL_law_917 ?_
      refine lv_iload hx hb dL_law_918 (lv_at hl 0 rfl) ?_
      refine lv_i2l (v := (r1).toInt64) hx hb dL_law_920 rfl ?_
      refine W.lcmp hx hb dL_law_921 ?_
      refine lv_if_eq (tgt := 927) hx hb dL_law_922 (by decide) (fun _ => ?_) (fun c8 => absurd (l_cmps (h4 c9)) c8)
      refine lv_goto (tgt := 2367) hx hb dL_law_927 (by decide) ?_
      refine W.widen (k := cells + 8) (n := slots + 48) (by omega) (by omega) ?_
      exact kN _ _ H locs ls hR hW (lv_sub hl [2, 3, 4, 5, 6] rfl)
set_option maxHeartbeats 4000000 in
set_option maxRecDepth 100000 in
theorem law_case_8 {p : Program} {l : Launch} {e : Env} {s : State} {m : MethodId} {below : List Frame} {meth : Method} {c : Code} {b L : Nat} {xs : Nat → Int32} (hL : L ≤ 3584) (C0 : lw_At p s m meth c b L xs) (hst : l.stackTraces = false) {G : gG} {ad : Nat → Nat} (hK : l_K G ad s) {Rel : gM → gM → Prop} (hop : l_op_8 Rel) {j : Nat} (hj : 7 * j + 7 ≤ L) {mc mm : gM} (hR : Rel mc mm) {H : Heap} {locs : List Loc} {ls : Array Slot} {cells slots : Nat} (hc1 : cells + 8 ≤ 601024) (hc2 : slots + 48 ≤ 7293034) (hW : l_H G ad s H locs mc mm) (hl : lv_has ls 7 [(0, .ref b), (1, .ref (G.2.2.1 0)), (2, .ref (ad 0)), (3, .ref (G.2.2.1 229)), (4, .int (nI (7 * j)))]) (kN : ∀ (mc mm : gM) (H : Heap) (locs : List Loc) (ls : Array Slot), Rel mc mm → l_H G ad s H locs mc mm → lv_has ls 7 [(0, .ref b), (1, .ref (G.2.2.1 0)), (2, .ref (ad 0)), (3, .ref (G.2.2.1 229)), (4, .int (nI (7 * j)))] → W p l e room_1 s m #[Value.ref b] below meth c H locs (cells + 8) (slots + 48) (lw_Z below #[Value.ref b] s) (F0 m 2367 ls [])) : W p l e room_1 s m #[Value.ref b] below meth c H locs cells slots (lw_Z below #[Value.ref b] s) (F0 m 930 ls []) := by
  obtain ⟨hx, hb, hr, hml, hown, hts, hX, hbl, hlocks, hgv⟩ := id C0
  have hC : CallFix p m c cL_law 7 s #[Value.ref b] lw_tbl RL := ⟨hx, hb, hml, hown, hts⟩
  have hR1 : room_1.cells = 601024 := rfl
  have hR2 : room_1.slots = 7293034 := rfl
  obtain ⟨k1, mc2, r1, mm2, h1, h2, h3, h4, hR⟩ := hop mc mm (xs (7 * j + 1))  hR
  refine lv_aload_n hx hb dL_law_930 rfl (lv_at hl 1 rfl) ?_
  refine lv_aload_n hx hb dL_law_931 rfl (lv_at hl 0 rfl) ?_
  refine lv_iload hx hb dL_law_932 (lv_at hl 4 rfl) ?_
  refine lv_iconst (v := 1) hx hb dL_law_934 (by decide) ?_
  refine lv_iadd hx hb dL_law_935 ?_
  refine l_sld hC hX hbl hW (j := j) (k := 1) (by omega) hL (nI_add (7 * j) 1) dL_law_936 ?_
  refine lv_aload_n hx hb dL_law_937 rfl (lv_at hl 3 rfl) ?_
  refine l_cC hC hK hW (As := [.ref (G.2.2.1 0), .int (xs (7 * j + 1)), .ref (G.2.2.1 229)]) (rest := []) (c_L_takeBack l G hst h1) (vx_cwSW 3 hts tg_L_takeBack rfl rfl rfl (by decide +kernel) ⟨(Nat.le_of_ble_eq_true rfl), (Nat.le_of_ble_eq_true rfl)⟩) rfl hl.1 rfl (Nat.le_of_ble_eq_true rfl) dL_law_938 ⟨by omega, by omega⟩ (fun H locs hW => ?_)
  refine lv_istore (lv' := [(5, .int k1), (0, .ref b), (1, .ref (G.2.2.1 0)), (2, .ref (ad 0)), (3, .ref (G.2.2.1 229)), (4, .int (nI (7 * j)))]) hx hb dL_law_941 hl (by decide) rfl (fun ls hl => ?_)
  refine lv_aload_n hx hb dL_law_943 rfl (lv_at hl 3 rfl) ?_
  refine lv_aload_n hx hb dL_law_944 rfl (lv_at hl 1 rfl) ?_
  refine lv_iload hx hb dL_law_945 (lv_at hl 5 rfl) ?_
  refine lv_iconst (v := 1) hx hb dL_law_947 (by decide) ?_
  refine lv_iadd hx hb dL_law_948 ?_
  refine l_sld hC hX hbl hW (j := j) (k := 1) (by omega) hL (nI_add (7 * j) 1) dL_law_949 ?_
  refine l_cM hC hK hW (As := [.int (xs (7 * j + 1))]) (rest := []) (c_X10_takeBack l (l_GM G ad) h2) (cwV 1 hts tg_X10_takeBack rfl rfl rfl (by decide +kernel) ⟨(Nat.le_of_ble_eq_true rfl), (Nat.le_of_ble_eq_true rfl)⟩) rfl hl.1 rfl (Nat.le_of_ble_eq_true rfl) dL_law_950 ⟨by omega, by omega⟩ (fun H locs hW => ?_)
  refine lv_istore (lv' := [(6, .int r1), (5, .int k1), (0, .ref b), (1, .ref (G.2.2.1 0)), (2, .ref (ad 0)), (3, .ref (G.2.2.1 229)), (4, .int (nI (7 * j)))]) hx hb dL_law_953 hl (by decide) rfl (fun ls hl => ?_)
  refine lv_aload_n hx hb dL_law_955 rfl (lv_at hl 4 rfl) ?_
  refine l_cM hC hK hW (As := []) (rest := []) (c_X10_thrown l (l_GM G ad) h3) (cwV 0 hts tg_X10_thrown rfl rfl rfl (by decide +kernel) ⟨(Nat.le_of_ble_eq_true rfl), (Nat.le_of_ble_eq_true rfl)⟩) rfl hl.1 rfl (Nat.le_of_ble_eq_true rfl) dL_law_956 ⟨by omega, by omega⟩ (fun H locs hW => ?_)
  refine lv_iload hx hb dL_law_959 (lv_at hl 1 rfl) ?_
  refine lv_icmp_eq (tgt := 966) hx hb dL_law_961 (by decide) (fun _ => ?_) (fun c9 => absurd rfl c9)
  refine lv_iload hx hb dL_law_966 (lv_at hl 1 rfl) ?_
  refine lv_if_ne (tgt := 983) hx hb dL_law_968 (by decide) (fun c9 => ?_) (fun c9 => ?_)
  · refine lv_goto (tgt := 2367) hx hb dL_law_983 (by decide) ?_
    refine W.widen (k := cells + 8) (n := slots + 48) (by omega) (by omega) ?_
    exact kN _ _ H locs ls hR hW (lv_sub hl [2, 3, 4, 5, 6] rfl)
  · refine lv_aload_n hx hb dL_law_971 rfl (lv_at hl 5 rfl) ?_
    refine lv_iconst (v := 0) hx hb dL_law_972 (by decide) ?_
    refine l_lld hC hK hW dL_law_973 ?_
    refine lv_iload hx hb dL_law_974 (lv_at hl 0 rfl) ?_
    refine lv_i2l (v := (r1).toInt64) hx hb dL_law_976 rfl ?_
    refine W.lcmp hx hb dL_law_977 ?_
    refine lv_if_eq (tgt := 983) hx hb dL_law_978 (by decide) (fun _ => ?_) (fun c8 => absurd (l_cmps (h4 c9)) c8)
    refine lv_goto (tgt := 2367) hx hb dL_law_983 (by decide) ?_
    refine W.widen (k := cells + 8) (n := slots + 48) (by omega) (by omega) ?_
    exact kN _ _ H locs ls hR hW (lv_sub hl [2, 3, 4, 5, 6] rfl)
set_option maxHeartbeats 4000000 in
set_option maxRecDepth 100000 in
theorem law_case_9 {p : Program} {l : Launch} {e : Env} {s : State} {m : MethodId} {below : List Frame} {meth : Method} {c : Code} {b L : Nat} {xs : Nat → Int32} (hL : L ≤ 3584) (C0 : lw_At p s m meth c b L xs) (hst : l.stackTraces = false) {G : gG} {ad : Nat → Nat} (hK : l_K G ad s) {Rel : gM → gM → Prop} (hop : l_op_9 Rel) {j : Nat} (hj : 7 * j + 7 ≤ L) {mc mm : gM} (hR : Rel mc mm) {H : Heap} {locs : List Loc} {ls : Array Slot} {cells slots : Nat} (hc1 : cells + 8 ≤ 601024) (hc2 : slots + 48 ≤ 7293034) (hW : l_H G ad s H locs mc mm) (hl : lv_has ls 7 [(0, .ref b), (1, .ref (G.2.2.1 0)), (2, .ref (ad 0)), (3, .ref (G.2.2.1 229)), (4, .int (nI (7 * j)))]) (kN : ∀ (mc mm : gM) (H : Heap) (locs : List Loc) (ls : Array Slot), Rel mc mm → l_H G ad s H locs mc mm → lv_has ls 7 [(0, .ref b), (1, .ref (G.2.2.1 0)), (2, .ref (ad 0)), (3, .ref (G.2.2.1 229)), (4, .int (nI (7 * j)))] → W p l e room_1 s m #[Value.ref b] below meth c H locs (cells + 8) (slots + 48) (lw_Z below #[Value.ref b] s) (F0 m 2367 ls [])) : W p l e room_1 s m #[Value.ref b] below meth c H locs cells slots (lw_Z below #[Value.ref b] s) (F0 m 986 ls []) := by
  obtain ⟨hx, hb, hr, hml, hown, hts, hX, hbl, hlocks, hgv⟩ := id C0
  have hC : CallFix p m c cL_law 7 s #[Value.ref b] lw_tbl RL := ⟨hx, hb, hml, hown, hts⟩
  have hR1 : room_1.cells = 601024 := rfl
  have hR2 : room_1.slots = 7293034 := rfl
  by_cases hbo : xs (7 * j + 3) = 0
  · obtain ⟨k1, mc2, r1, mm2, h1, h2, h3, h4, hR⟩ := hop mc mm (xs (7 * j + 1)) (xs (7 * j + 2)) 0 (xs (7 * j + 4)) (xs (7 * j + 5)) (Or.inl rfl) hR
    refine lv_aload_n hx hb dL_law_986 rfl (lv_at hl 1 rfl) ?_
    refine lv_aload_n hx hb dL_law_987 rfl (lv_at hl 0 rfl) ?_
    refine lv_iload hx hb dL_law_988 (lv_at hl 4 rfl) ?_
    refine lv_iconst (v := 1) hx hb dL_law_990 (by decide) ?_
    refine lv_iadd hx hb dL_law_991 ?_
    refine l_sld hC hX hbl hW (j := j) (k := 1) (by omega) hL (nI_add (7 * j) 1) dL_law_992 ?_
    refine lv_aload_n hx hb dL_law_993 rfl (lv_at hl 0 rfl) ?_
    refine lv_iload hx hb dL_law_994 (lv_at hl 4 rfl) ?_
    refine lv_iconst (v := 2) hx hb dL_law_996 (by decide) ?_
    refine lv_iadd hx hb dL_law_997 ?_
    refine l_sld hC hX hbl hW (j := j) (k := 2) (by omega) hL (nI_add (7 * j) 2) dL_law_998 ?_
    refine lv_aload_n hx hb dL_law_999 rfl (lv_at hl 0 rfl) ?_
    refine lv_iload hx hb dL_law_1000 (lv_at hl 4 rfl) ?_
    refine lv_iconst (v := 3) hx hb dL_law_1002 (by decide) ?_
    refine lv_iadd hx hb dL_law_1003 ?_
    refine l_sld hC hX hbl hW (j := j) (k := 3) (by omega) hL (nI_add (7 * j) 3) dL_law_1004 ?_
    refine lv_if_eq (tgt := 1012) hx hb dL_law_1005 (by decide) (fun _ => ?_) (fun c8 => absurd hbo c8)
    refine lv_iconst (v := 0) hx hb dL_law_1012 (by decide) ?_
    refine lv_aload_n hx hb dL_law_1013 rfl (lv_at hl 0 rfl) ?_
    refine lv_iload hx hb dL_law_1014 (lv_at hl 4 rfl) ?_
    refine lv_iconst (v := 4) hx hb dL_law_1016 (by decide) ?_
    refine lv_iadd hx hb dL_law_1017 ?_
    refine l_sld hC hX hbl hW (j := j) (k := 4) (by omega) hL (nI_add (7 * j) 4) dL_law_1018 ?_
    refine lv_aload_n hx hb dL_law_1019 rfl (lv_at hl 0 rfl) ?_
    refine lv_iload hx hb dL_law_1020 (lv_at hl 4 rfl) ?_
    refine lv_iconst (v := 5) hx hb dL_law_1022 (by decide) ?_
    refine lv_iadd hx hb dL_law_1023 ?_
    refine l_sld hC hX hbl hW (j := j) (k := 5) (by omega) hL (nI_add (7 * j) 5) dL_law_1024 ?_
    refine lv_aload_n hx hb dL_law_1025 rfl (lv_at hl 3 rfl) ?_
    refine l_cC hC hK hW (As := [.ref (G.2.2.1 0), .int (xs (7 * j + 1)), .int (xs (7 * j + 2)), .int 0, .int (xs (7 * j + 4)), .int (xs (7 * j + 5)), .ref (G.2.2.1 229)]) (rest := []) (c_L_aid l G hst h1) (vx_cwSW 7 hts tg_L_aid rfl rfl rfl (by decide +kernel) ⟨(Nat.le_of_ble_eq_true rfl), (Nat.le_of_ble_eq_true rfl)⟩) rfl hl.1 rfl (Nat.le_of_ble_eq_true rfl) dL_law_1026 ⟨by omega, by omega⟩ (fun H locs hW => ?_)
    refine lv_istore (lv' := [(5, .int k1), (0, .ref b), (1, .ref (G.2.2.1 0)), (2, .ref (ad 0)), (3, .ref (G.2.2.1 229)), (4, .int (nI (7 * j)))]) hx hb dL_law_1029 hl (by decide) rfl (fun ls hl => ?_)
    refine lv_aload_n hx hb dL_law_1031 rfl (lv_at hl 3 rfl) ?_
    refine lv_aload_n hx hb dL_law_1032 rfl (lv_at hl 1 rfl) ?_
    refine lv_iload hx hb dL_law_1033 (lv_at hl 5 rfl) ?_
    refine lv_iconst (v := 1) hx hb dL_law_1035 (by decide) ?_
    refine lv_iadd hx hb dL_law_1036 ?_
    refine l_sld hC hX hbl hW (j := j) (k := 1) (by omega) hL (nI_add (7 * j) 1) dL_law_1037 ?_
    refine lv_aload_n hx hb dL_law_1038 rfl (lv_at hl 1 rfl) ?_
    refine lv_iload hx hb dL_law_1039 (lv_at hl 5 rfl) ?_
    refine lv_iconst (v := 2) hx hb dL_law_1041 (by decide) ?_
    refine lv_iadd hx hb dL_law_1042 ?_
    refine l_sld hC hX hbl hW (j := j) (k := 2) (by omega) hL (nI_add (7 * j) 2) dL_law_1043 ?_
    refine lv_aload_n hx hb dL_law_1044 rfl (lv_at hl 1 rfl) ?_
    refine lv_iload hx hb dL_law_1045 (lv_at hl 5 rfl) ?_
    refine lv_iconst (v := 3) hx hb dL_law_1047 (by decide) ?_
    refine lv_iadd hx hb dL_law_1048 ?_
    refine l_sld hC hX hbl hW (j := j) (k := 3) (by omega) hL (nI_add (7 * j) 3) dL_law_1049 ?_
    refine lv_if_eq (tgt := 1057) hx hb dL_law_1050 (by decide) (fun _ => ?_) (fun c8 => absurd hbo c8)
    refine lv_iconst (v := 0) hx hb dL_law_1057 (by decide) ?_
    refine lv_aload_n hx hb dL_law_1058 rfl (lv_at hl 1 rfl) ?_
    refine lv_iload hx hb dL_law_1059 (lv_at hl 5 rfl) ?_
    refine lv_iconst (v := 4) hx hb dL_law_1061 (by decide) ?_
    refine lv_iadd hx hb dL_law_1062 ?_
    refine l_sld hC hX hbl hW (j := j) (k := 4) (by omega) hL (nI_add (7 * j) 4) dL_law_1063 ?_
    refine lv_aload_n hx hb dL_law_1064 rfl (lv_at hl 1 rfl) ?_
    refine lv_iload hx hb dL_law_1065 (lv_at hl 5 rfl) ?_
    refine lv_iconst (v := 5) hx hb dL_law_1067 (by decide) ?_
    refine lv_iadd hx hb dL_law_1068 ?_
    refine l_sld hC hX hbl hW (j := j) (k := 5) (by omega) hL (nI_add (7 * j) 5) dL_law_1069 ?_
    refine l_cM hC hK hW (As := [.int (xs (7 * j + 1)), .int (xs (7 * j + 2)), .int 0, .int (xs (7 * j + 4)), .int (xs (7 * j + 5))]) (rest := []) (c_X10_aid l (l_GM G ad) h2) (cwV 5 hts tg_X10_aid rfl rfl rfl (by decide +kernel) ⟨(Nat.le_of_ble_eq_true rfl), (Nat.le_of_ble_eq_true rfl)⟩) rfl hl.1 rfl (Nat.le_of_ble_eq_true rfl) dL_law_1070 ⟨by omega, by omega⟩ (fun H locs hW => ?_)
    refine lv_istore (lv' := [(6, .int r1), (5, .int k1), (0, .ref b), (1, .ref (G.2.2.1 0)), (2, .ref (ad 0)), (3, .ref (G.2.2.1 229)), (4, .int (nI (7 * j)))]) hx hb dL_law_1073 hl (by decide) rfl (fun ls hl => ?_)
    refine lv_aload_n hx hb dL_law_1075 rfl (lv_at hl 4 rfl) ?_
    refine l_cM hC hK hW (As := []) (rest := []) (c_X10_thrown l (l_GM G ad) h3) (cwV 0 hts tg_X10_thrown rfl rfl rfl (by decide +kernel) ⟨(Nat.le_of_ble_eq_true rfl), (Nat.le_of_ble_eq_true rfl)⟩) rfl hl.1 rfl (Nat.le_of_ble_eq_true rfl) dL_law_1076 ⟨by omega, by omega⟩ (fun H locs hW => ?_)
    refine lv_iload hx hb dL_law_1079 (lv_at hl 1 rfl) ?_
    refine lv_icmp_eq (tgt := 1086) hx hb dL_law_1081 (by decide) (fun _ => ?_) (fun c9 => absurd rfl c9)
    refine lv_iload hx hb dL_law_1086 (lv_at hl 1 rfl) ?_
    refine lv_if_ne (tgt := 1103) hx hb dL_law_1088 (by decide) (fun c9 => ?_) (fun c9 => ?_)
    · refine lv_goto (tgt := 2367) hx hb dL_law_1103 (by decide) ?_
      refine W.widen (k := cells + 8) (n := slots + 48) (by omega) (by omega) ?_
      exact kN _ _ H locs ls hR hW (lv_sub hl [2, 3, 4, 5, 6] rfl)
    · refine lv_aload_n hx hb dL_law_1091 rfl (lv_at hl 5 rfl) ?_
      refine lv_iconst (v := 0) hx hb dL_law_1092 (by decide) ?_
      refine l_lld hC hK hW dL_law_1093 ?_
      refine lv_iload hx hb dL_law_1094 (lv_at hl 0 rfl) ?_
      refine lv_i2l (v := (r1).toInt64) hx hb dL_law_1096 rfl ?_
      refine W.lcmp hx hb dL_law_1097 ?_
      refine lv_if_eq (tgt := 1103) hx hb dL_law_1098 (by decide) (fun _ => ?_) (fun c8 => absurd (l_cmps (h4 c9)) c8)
      refine lv_goto (tgt := 2367) hx hb dL_law_1103 (by decide) ?_
      refine W.widen (k := cells + 8) (n := slots + 48) (by omega) (by omega) ?_
      exact kN _ _ H locs ls hR hW (lv_sub hl [2, 3, 4, 5, 6] rfl)
  · obtain ⟨k1, mc2, r1, mm2, h1, h2, h3, h4, hR⟩ := hop mc mm (xs (7 * j + 1)) (xs (7 * j + 2)) 1 (xs (7 * j + 4)) (xs (7 * j + 5)) (Or.inr rfl) hR
    refine lv_aload_n hx hb dL_law_986 rfl (lv_at hl 1 rfl) ?_
    refine lv_aload_n hx hb dL_law_987 rfl (lv_at hl 0 rfl) ?_
    refine lv_iload hx hb dL_law_988 (lv_at hl 4 rfl) ?_
    refine lv_iconst (v := 1) hx hb dL_law_990 (by decide) ?_
    refine lv_iadd hx hb dL_law_991 ?_
    refine l_sld hC hX hbl hW (j := j) (k := 1) (by omega) hL (nI_add (7 * j) 1) dL_law_992 ?_
    refine lv_aload_n hx hb dL_law_993 rfl (lv_at hl 0 rfl) ?_
    refine lv_iload hx hb dL_law_994 (lv_at hl 4 rfl) ?_
    refine lv_iconst (v := 2) hx hb dL_law_996 (by decide) ?_
    refine lv_iadd hx hb dL_law_997 ?_
    refine l_sld hC hX hbl hW (j := j) (k := 2) (by omega) hL (nI_add (7 * j) 2) dL_law_998 ?_
    refine lv_aload_n hx hb dL_law_999 rfl (lv_at hl 0 rfl) ?_
    refine lv_iload hx hb dL_law_1000 (lv_at hl 4 rfl) ?_
    refine lv_iconst (v := 3) hx hb dL_law_1002 (by decide) ?_
    refine lv_iadd hx hb dL_law_1003 ?_
    refine l_sld hC hX hbl hW (j := j) (k := 3) (by omega) hL (nI_add (7 * j) 3) dL_law_1004 ?_
    refine lv_if_eq (tgt := 1012) hx hb dL_law_1005 (by decide) (fun c8 => absurd c8 hbo) (fun _ => ?_)
    refine lv_iconst (v := 1) hx hb dL_law_1008 (by decide) ?_
    refine lv_goto (tgt := 1013) hx hb dL_law_1009 (by decide) ?_
    refine lv_aload_n hx hb dL_law_1013 rfl (lv_at hl 0 rfl) ?_
    refine lv_iload hx hb dL_law_1014 (lv_at hl 4 rfl) ?_
    refine lv_iconst (v := 4) hx hb dL_law_1016 (by decide) ?_
    refine lv_iadd hx hb dL_law_1017 ?_
    refine l_sld hC hX hbl hW (j := j) (k := 4) (by omega) hL (nI_add (7 * j) 4) dL_law_1018 ?_
    refine lv_aload_n hx hb dL_law_1019 rfl (lv_at hl 0 rfl) ?_
    refine lv_iload hx hb dL_law_1020 (lv_at hl 4 rfl) ?_
    refine lv_iconst (v := 5) hx hb dL_law_1022 (by decide) ?_
    refine lv_iadd hx hb dL_law_1023 ?_
    refine l_sld hC hX hbl hW (j := j) (k := 5) (by omega) hL (nI_add (7 * j) 5) dL_law_1024 ?_
    refine lv_aload_n hx hb dL_law_1025 rfl (lv_at hl 3 rfl) ?_
    refine l_cC hC hK hW (As := [.ref (G.2.2.1 0), .int (xs (7 * j + 1)), .int (xs (7 * j + 2)), .int 1, .int (xs (7 * j + 4)), .int (xs (7 * j + 5)), .ref (G.2.2.1 229)]) (rest := []) (c_L_aid l G hst h1) (vx_cwSW 7 hts tg_L_aid rfl rfl rfl (by decide +kernel) ⟨(Nat.le_of_ble_eq_true rfl), (Nat.le_of_ble_eq_true rfl)⟩) rfl hl.1 rfl (Nat.le_of_ble_eq_true rfl) dL_law_1026 ⟨by omega, by omega⟩ (fun H locs hW => ?_)
    refine lv_istore (lv' := [(5, .int k1), (0, .ref b), (1, .ref (G.2.2.1 0)), (2, .ref (ad 0)), (3, .ref (G.2.2.1 229)), (4, .int (nI (7 * j)))]) hx hb dL_law_1029 hl (by decide) rfl (fun ls hl => ?_)
    refine lv_aload_n hx hb dL_law_1031 rfl (lv_at hl 3 rfl) ?_
    refine lv_aload_n hx hb dL_law_1032 rfl (lv_at hl 1 rfl) ?_
    refine lv_iload hx hb dL_law_1033 (lv_at hl 5 rfl) ?_
    refine lv_iconst (v := 1) hx hb dL_law_1035 (by decide) ?_
    refine lv_iadd hx hb dL_law_1036 ?_
    refine l_sld hC hX hbl hW (j := j) (k := 1) (by omega) hL (nI_add (7 * j) 1) dL_law_1037 ?_
    refine lv_aload_n hx hb dL_law_1038 rfl (lv_at hl 1 rfl) ?_
    refine lv_iload hx hb dL_law_1039 (lv_at hl 5 rfl) ?_
    refine lv_iconst (v := 2) hx hb dL_law_1041 (by decide) ?_
    refine lv_iadd hx hb dL_law_1042 ?_
    refine l_sld hC hX hbl hW (j := j) (k := 2) (by omega) hL (nI_add (7 * j) 2) dL_law_1043 ?_
    refine lv_aload_n hx hb dL_law_1044 rfl (lv_at hl 1 rfl) ?_
    refine lv_iload hx hb dL_law_1045 (lv_at hl 5 rfl) ?_
    refine lv_iconst (v := 3) hx hb dL_law_1047 (by decide) ?_
    refine lv_iadd hx hb dL_law_1048 ?_
    refine l_sld hC hX hbl hW (j := j) (k := 3) (by omega) hL (nI_add (7 * j) 3) dL_law_1049 ?_
    refine lv_if_eq (tgt := 1057) hx hb dL_law_1050 (by decide) (fun c8 => absurd c8 hbo) (fun _ => ?_)
    refine lv_iconst (v := 1) hx hb dL_law_1053 (by decide) ?_
    refine lv_goto (tgt := 1058) hx hb dL_law_1054 (by decide) ?_
    refine lv_aload_n hx hb dL_law_1058 rfl (lv_at hl 1 rfl) ?_
    refine lv_iload hx hb dL_law_1059 (lv_at hl 5 rfl) ?_
    refine lv_iconst (v := 4) hx hb dL_law_1061 (by decide) ?_
    refine lv_iadd hx hb dL_law_1062 ?_
    refine l_sld hC hX hbl hW (j := j) (k := 4) (by omega) hL (nI_add (7 * j) 4) dL_law_1063 ?_
    refine lv_aload_n hx hb dL_law_1064 rfl (lv_at hl 1 rfl) ?_
    refine lv_iload hx hb dL_law_1065 (lv_at hl 5 rfl) ?_
    refine lv_iconst (v := 5) hx hb dL_law_1067 (by decide) ?_
    refine lv_iadd hx hb dL_law_1068 ?_
    refine l_sld hC hX hbl hW (j := j) (k := 5) (by omega) hL (nI_add (7 * j) 5) dL_law_1069 ?_
    refine l_cM hC hK hW (As := [.int (xs (7 * j + 1)), .int (xs (7 * j + 2)), .int 1, .int (xs (7 * j + 4)), .int (xs (7 * j + 5))]) (rest := []) (c_X10_aid l (l_GM G ad) h2) (cwV 5 hts tg_X10_aid rfl rfl rfl (by decide +kernel) ⟨(Nat.le_of_ble_eq_true rfl), (Nat.le_of_ble_eq_true rfl)⟩) rfl hl.1 rfl (Nat.le_of_ble_eq_true rfl) dL_law_1070 ⟨by omega, by omega⟩ (fun H locs hW => ?_)
    refine lv_istore (lv' := [(6, .int r1), (5, .int k1), (0, .ref b), (1, .ref (G.2.2.1 0)), (2, .ref (ad 0)), (3, .ref (G.2.2.1 229)), (4, .int (nI (7 * j)))]) hx hb dL_law_1073 hl (by decide) rfl (fun ls hl => ?_)
    refine lv_aload_n hx hb dL_law_1075 rfl (lv_at hl 4 rfl) ?_
    refine l_cM hC hK hW (As := []) (rest := []) (c_X10_thrown l (l_GM G ad) h3) (cwV 0 hts tg_X10_thrown rfl rfl rfl (by decide +kernel) ⟨(Nat.le_of_ble_eq_true rfl), (Nat.le_of_ble_eq_true rfl)⟩) rfl hl.1 rfl (Nat.le_of_ble_eq_true rfl) dL_law_1076 ⟨by omega, by omega⟩ (fun H locs hW => ?_)
    refine lv_iload hx hb dL_law_1079 (lv_at hl 1 rfl) ?_
    refine lv_icmp_eq (tgt := 1086) hx hb dL_law_1081 (by decide) (fun _ => ?_) (fun c9 => absurd rfl c9)
    refine lv_iload hx hb dL_law_1086 (lv_at hl 1 rfl) ?_
    refine lv_if_ne (tgt := 1103) hx hb dL_law_1088 (by decide) (fun c9 => ?_) (fun c9 => ?_)
    · refine lv_goto (tgt := 2367) hx hb dL_law_1103 (by decide) ?_
      refine W.widen (k := cells + 8) (n := slots + 48) (by omega) (by omega) ?_
      exact kN _ _ H locs ls hR hW (lv_sub hl [2, 3, 4, 5, 6] rfl)
    · refine lv_aload_n hx hb dL_law_1091 rfl (lv_at hl 5 rfl) ?_
      refine lv_iconst (v := 0) hx hb dL_law_1092 (by decide) ?_
      refine l_lld hC hK hW dL_law_1093 ?_
      refine lv_iload hx hb dL_law_1094 (lv_at hl 0 rfl) ?_
      refine lv_i2l (v := (r1).toInt64) hx hb dL_law_1096 rfl ?_
      refine W.lcmp hx hb dL_law_1097 ?_
      refine lv_if_eq (tgt := 1103) hx hb dL_law_1098 (by decide) (fun _ => ?_) (fun c8 => absurd (l_cmps (h4 c9)) c8)
      refine lv_goto (tgt := 2367) hx hb dL_law_1103 (by decide) ?_
      refine W.widen (k := cells + 8) (n := slots + 48) (by omega) (by omega) ?_
      exact kN _ _ H locs ls hR hW (lv_sub hl [2, 3, 4, 5, 6] rfl)
set_option maxHeartbeats 4000000 in
set_option maxRecDepth 100000 in
theorem law_case_10 {p : Program} {l : Launch} {e : Env} {s : State} {m : MethodId} {below : List Frame} {meth : Method} {c : Code} {b L : Nat} {xs : Nat → Int32} (hL : L ≤ 3584) (C0 : lw_At p s m meth c b L xs) (hst : l.stackTraces = false) {G : gG} {ad : Nat → Nat} (hK : l_K G ad s) {Rel : gM → gM → Prop} (hop : l_op_10 Rel) {j : Nat} (hj : 7 * j + 7 ≤ L) {mc mm : gM} (hR : Rel mc mm) {H : Heap} {locs : List Loc} {ls : Array Slot} {cells slots : Nat} (hc1 : cells + 8 ≤ 601024) (hc2 : slots + 48 ≤ 7293034) (hW : l_H G ad s H locs mc mm) (hl : lv_has ls 7 [(0, .ref b), (1, .ref (G.2.2.1 0)), (2, .ref (ad 0)), (3, .ref (G.2.2.1 229)), (4, .int (nI (7 * j)))]) (kN : ∀ (mc mm : gM) (H : Heap) (locs : List Loc) (ls : Array Slot), Rel mc mm → l_H G ad s H locs mc mm → lv_has ls 7 [(0, .ref b), (1, .ref (G.2.2.1 0)), (2, .ref (ad 0)), (3, .ref (G.2.2.1 229)), (4, .int (nI (7 * j)))] → W p l e room_1 s m #[Value.ref b] below meth c H locs (cells + 8) (slots + 48) (lw_Z below #[Value.ref b] s) (F0 m 2367 ls [])) : W p l e room_1 s m #[Value.ref b] below meth c H locs cells slots (lw_Z below #[Value.ref b] s) (F0 m 1106 ls []) := by
  obtain ⟨hx, hb, hr, hml, hown, hts, hX, hbl, hlocks, hgv⟩ := id C0
  have hC : CallFix p m c cL_law 7 s #[Value.ref b] lw_tbl RL := ⟨hx, hb, hml, hown, hts⟩
  have hR1 : room_1.cells = 601024 := rfl
  have hR2 : room_1.slots = 7293034 := rfl
  obtain ⟨k1, mc2, r1, mm2, h1, h2, h3, h4, hR⟩ := hop mc mm   hR
  refine lv_aload_n hx hb dL_law_1106 rfl (lv_at hl 1 rfl) ?_
  refine lv_aload_n hx hb dL_law_1107 rfl (lv_at hl 3 rfl) ?_
  refine l_cC hC hK hW (As := [.ref (G.2.2.1 0), .ref (G.2.2.1 229)]) (rest := []) (c_L_close l G hst h1) (vx_cwSW 2 hts tg_L_close rfl rfl rfl (by decide +kernel) ⟨(Nat.le_of_ble_eq_true rfl), (Nat.le_of_ble_eq_true rfl)⟩) rfl hl.1 rfl (Nat.le_of_ble_eq_true rfl) dL_law_1108 ⟨by omega, by omega⟩ (fun H locs hW => ?_)
  refine lv_istore (lv' := [(5, .int k1), (0, .ref b), (1, .ref (G.2.2.1 0)), (2, .ref (ad 0)), (3, .ref (G.2.2.1 229)), (4, .int (nI (7 * j)))]) hx hb dL_law_1111 hl (by decide) rfl (fun ls hl => ?_)
  refine lv_aload_n hx hb dL_law_1113 rfl (lv_at hl 3 rfl) ?_
  refine l_cM hC hK hW (As := []) (rest := []) (c_X10_close l (l_GM G ad) h2) (cwV 0 hts tg_X10_close rfl rfl rfl (by decide +kernel) ⟨(Nat.le_of_ble_eq_true rfl), (Nat.le_of_ble_eq_true rfl)⟩) rfl hl.1 rfl (Nat.le_of_ble_eq_true rfl) dL_law_1114 ⟨by omega, by omega⟩ (fun H locs hW => ?_)
  refine lv_istore (lv' := [(6, .int r1), (5, .int k1), (0, .ref b), (1, .ref (G.2.2.1 0)), (2, .ref (ad 0)), (3, .ref (G.2.2.1 229)), (4, .int (nI (7 * j)))]) hx hb dL_law_1117 hl (by decide) rfl (fun ls hl => ?_)
  refine lv_aload_n hx hb dL_law_1119 rfl (lv_at hl 4 rfl) ?_
  refine l_cM hC hK hW (As := []) (rest := []) (c_X10_thrown l (l_GM G ad) h3) (cwV 0 hts tg_X10_thrown rfl rfl rfl (by decide +kernel) ⟨(Nat.le_of_ble_eq_true rfl), (Nat.le_of_ble_eq_true rfl)⟩) rfl hl.1 rfl (Nat.le_of_ble_eq_true rfl) dL_law_1120 ⟨by omega, by omega⟩ (fun H locs hW => ?_)
  refine lv_iload hx hb dL_law_1123 (lv_at hl 1 rfl) ?_
  refine lv_icmp_eq (tgt := 1130) hx hb dL_law_1125 (by decide) (fun _ => ?_) (fun c9 => absurd rfl c9)
  refine lv_iload hx hb dL_law_1130 (lv_at hl 1 rfl) ?_
  refine lv_if_ne (tgt := 1147) hx hb dL_law_1132 (by decide) (fun c9 => ?_) (fun c9 => ?_)
  · refine lv_goto (tgt := 2367) hx hb dL_law_1147 (by decide) ?_
    refine W.widen (k := cells + 8) (n := slots + 48) (by omega) (by omega) ?_
    exact kN _ _ H locs ls hR hW (lv_sub hl [2, 3, 4, 5, 6] rfl)
  · refine lv_aload_n hx hb dL_law_1135 rfl (lv_at hl 5 rfl) ?_
    refine lv_iconst (v := 0) hx hb dL_law_1136 (by decide) ?_
    refine l_lld hC hK hW dL_law_1137 ?_
    refine lv_iload hx hb dL_law_1138 (lv_at hl 0 rfl) ?_
    refine lv_i2l (v := (r1).toInt64) hx hb dL_law_1140 rfl ?_
    refine W.lcmp hx hb dL_law_1141 ?_
    refine lv_if_eq (tgt := 1147) hx hb dL_law_1142 (by decide) (fun _ => ?_) (fun c8 => absurd (l_cmps (h4 c9)) c8)
    refine lv_goto (tgt := 2367) hx hb dL_law_1147 (by decide) ?_
    refine W.widen (k := cells + 8) (n := slots + 48) (by omega) (by omega) ?_
    exact kN _ _ H locs ls hR hW (lv_sub hl [2, 3, 4, 5, 6] rfl)
set_option maxHeartbeats 4000000 in
set_option maxRecDepth 100000 in
theorem law_case_11 {p : Program} {l : Launch} {e : Env} {s : State} {m : MethodId} {below : List Frame} {meth : Method} {c : Code} {b L : Nat} {xs : Nat → Int32} (hL : L ≤ 3584) (C0 : lw_At p s m meth c b L xs) (hst : l.stackTraces = false) {G : gG} {ad : Nat → Nat} (hK : l_K G ad s) {Rel : gM → gM → Prop} (hop : l_op_11 Rel) {j : Nat} (hj : 7 * j + 7 ≤ L) {mc mm : gM} (hR : Rel mc mm) {H : Heap} {locs : List Loc} {ls : Array Slot} {cells slots : Nat} (hc1 : cells + 8 ≤ 601024) (hc2 : slots + 48 ≤ 7293034) (hW : l_H G ad s H locs mc mm) (hl : lv_has ls 7 [(0, .ref b), (1, .ref (G.2.2.1 0)), (2, .ref (ad 0)), (3, .ref (G.2.2.1 229)), (4, .int (nI (7 * j)))]) (kN : ∀ (mc mm : gM) (H : Heap) (locs : List Loc) (ls : Array Slot), Rel mc mm → l_H G ad s H locs mc mm → lv_has ls 7 [(0, .ref b), (1, .ref (G.2.2.1 0)), (2, .ref (ad 0)), (3, .ref (G.2.2.1 229)), (4, .int (nI (7 * j)))] → W p l e room_1 s m #[Value.ref b] below meth c H locs (cells + 8) (slots + 48) (lw_Z below #[Value.ref b] s) (F0 m 2367 ls [])) : W p l e room_1 s m #[Value.ref b] below meth c H locs cells slots (lw_Z below #[Value.ref b] s) (F0 m 1150 ls []) := by
  obtain ⟨hx, hb, hr, hml, hown, hts, hX, hbl, hlocks, hgv⟩ := id C0
  have hC : CallFix p m c cL_law 7 s #[Value.ref b] lw_tbl RL := ⟨hx, hb, hml, hown, hts⟩
  have hR1 : room_1.cells = 601024 := rfl
  have hR2 : room_1.slots = 7293034 := rfl
  obtain ⟨k1, mc2, r1, mm2, h1, h2, h3, h4, hR⟩ := hop mc mm (xs (7 * j + 1)) (xs (7 * j + 2)) (xs (7 * j + 3)) (xs (7 * j + 4)) (xs (7 * j + 5))  hR
  refine lv_aload_n hx hb dL_law_1150 rfl (lv_at hl 1 rfl) ?_
  refine lv_aload_n hx hb dL_law_1151 rfl (lv_at hl 0 rfl) ?_
  refine lv_iload hx hb dL_law_1152 (lv_at hl 4 rfl) ?_
  refine lv_iconst (v := 1) hx hb dL_law_1154 (by decide) ?_
  refine lv_iadd hx hb dL_law_1155 ?_
  refine l_sld hC hX hbl hW (j := j) (k := 1) (by omega) hL (nI_add (7 * j) 1) dL_law_1156 ?_
  refine lv_aload_n hx hb dL_law_1157 rfl (lv_at hl 0 rfl) ?_
  refine lv_iload hx hb dL_law_1158 (lv_at hl 4 rfl) ?_
  refine lv_iconst (v := 2) hx hb dL_law_1160 (by decide) ?_
  refine lv_iadd hx hb dL_law_1161 ?_
  refine l_sld hC hX hbl hW (j := j) (k := 2) (by omega) hL (nI_add (7 * j) 2) dL_law_1162 ?_
  refine lv_aload_n hx hb dL_law_1163 rfl (lv_at hl 0 rfl) ?_
  refine lv_iload hx hb dL_law_1164 (lv_at hl 4 rfl) ?_
  refine lv_iconst (v := 3) hx hb dL_law_1166 (by decide) ?_
  refine lv_iadd hx hb dL_law_1167 ?_
  refine l_sld hC hX hbl hW (j := j) (k := 3) (by omega) hL (nI_add (7 * j) 3) dL_law_1168 ?_
  refine lv_aload_n hx hb dL_law_1169 rfl (lv_at hl 0 rfl) ?_
  refine lv_iload hx hb dL_law_1170 (lv_at hl 4 rfl) ?_
  refine lv_iconst (v := 4) hx hb dL_law_1172 (by decide) ?_
  refine lv_iadd hx hb dL_law_1173 ?_
  refine l_sld hC hX hbl hW (j := j) (k := 4) (by omega) hL (nI_add (7 * j) 4) dL_law_1174 ?_
  refine lv_aload_n hx hb dL_law_1175 rfl (lv_at hl 0 rfl) ?_
  refine lv_iload hx hb dL_law_1176 (lv_at hl 4 rfl) ?_
  refine lv_iconst (v := 5) hx hb dL_law_1178 (by decide) ?_
  refine lv_iadd hx hb dL_law_1179 ?_
  refine l_sld hC hX hbl hW (j := j) (k := 5) (by omega) hL (nI_add (7 * j) 5) dL_law_1180 ?_
  refine lv_aload_n hx hb dL_law_1181 rfl (lv_at hl 3 rfl) ?_
  refine l_cC hC hK hW (As := [.ref (G.2.2.1 0), .int (xs (7 * j + 1)), .int (xs (7 * j + 2)), .int (xs (7 * j + 3)), .int (xs (7 * j + 4)), .int (xs (7 * j + 5)), .ref (G.2.2.1 229)]) (rest := []) (c_L_read l G hst h1) (vx_cwSW 7 hts tg_L_read rfl rfl rfl (by decide +kernel) ⟨(Nat.le_of_ble_eq_true rfl), (Nat.le_of_ble_eq_true rfl)⟩) rfl hl.1 rfl (Nat.le_of_ble_eq_true rfl) dL_law_1182 ⟨by omega, by omega⟩ (fun H locs hW => ?_)
  refine lv_istore (lv' := [(5, .int k1), (0, .ref b), (1, .ref (G.2.2.1 0)), (2, .ref (ad 0)), (3, .ref (G.2.2.1 229)), (4, .int (nI (7 * j)))]) hx hb dL_law_1185 hl (by decide) rfl (fun ls hl => ?_)
  refine lv_aload_n hx hb dL_law_1187 rfl (lv_at hl 3 rfl) ?_
  refine lv_aload_n hx hb dL_law_1188 rfl (lv_at hl 1 rfl) ?_
  refine lv_iload hx hb dL_law_1189 (lv_at hl 5 rfl) ?_
  refine lv_iconst (v := 1) hx hb dL_law_1191 (by decide) ?_
  refine lv_iadd hx hb dL_law_1192 ?_
  refine l_sld hC hX hbl hW (j := j) (k := 1) (by omega) hL (nI_add (7 * j) 1) dL_law_1193 ?_
  refine lv_aload_n hx hb dL_law_1194 rfl (lv_at hl 1 rfl) ?_
  refine lv_iload hx hb dL_law_1195 (lv_at hl 5 rfl) ?_
  refine lv_iconst (v := 2) hx hb dL_law_1197 (by decide) ?_
  refine lv_iadd hx hb dL_law_1198 ?_
  refine l_sld hC hX hbl hW (j := j) (k := 2) (by omega) hL (nI_add (7 * j) 2) dL_law_1199 ?_
  refine lv_aload_n hx hb dL_law_1200 rfl (lv_at hl 1 rfl) ?_
  refine lv_iload hx hb dL_law_1201 (lv_at hl 5 rfl) ?_
  refine lv_iconst (v := 3) hx hb dL_law_1203 (by decide) ?_
  refine lv_iadd hx hb dL_law_1204 ?_
  refine l_sld hC hX hbl hW (j := j) (k := 3) (by omega) hL (nI_add (7 * j) 3) dL_law_1205 ?_
  refine lv_aload_n hx hb dL_law_1206 rfl (lv_at hl 1 rfl) ?_
  refine lv_iload hx hb dL_law_1207 (lv_at hl 5 rfl) ?_
  refine lv_iconst (v := 4) hx hb dL_law_1209 (by decide) ?_
  refine lv_iadd hx hb dL_law_1210 ?_
  refine l_sld hC hX hbl hW (j := j) (k := 4) (by omega) hL (nI_add (7 * j) 4) dL_law_1211 ?_
  refine lv_aload_n hx hb dL_law_1212 rfl (lv_at hl 1 rfl) ?_
  refine lv_iload hx hb dL_law_1213 (lv_at hl 5 rfl) ?_
  refine lv_iconst (v := 5) hx hb dL_law_1215 (by decide) ?_
  refine lv_iadd hx hb dL_law_1216 ?_
  refine l_sld hC hX hbl hW (j := j) (k := 5) (by omega) hL (nI_add (7 * j) 5) dL_law_1217 ?_
  refine l_cM hC hK hW (As := [.int (xs (7 * j + 1)), .int (xs (7 * j + 2)), .int (xs (7 * j + 3)), .int (xs (7 * j + 4)), .int (xs (7 * j + 5))]) (rest := []) (c_X10_read l (l_GM G ad) h2) (cwV 5 hts tg_X10_read rfl rfl rfl (by decide +kernel) ⟨(Nat.le_of_ble_eq_true rfl), (Nat.le_of_ble_eq_true rfl)⟩) rfl hl.1 rfl (Nat.le_of_ble_eq_true rfl) dL_law_1218 ⟨by omega, by omega⟩ (fun H locs hW => ?_)
  refine lv_istore (lv' := [(6, .int r1), (5, .int k1), (0, .ref b), (1, .ref (G.2.2.1 0)), (2, .ref (ad 0)), (3, .ref (G.2.2.1 229)), (4, .int (nI (7 * j)))]) hx hb dL_law_1221 hl (by decide) rfl (fun ls hl => ?_)
  refine lv_aload_n hx hb dL_law_1223 rfl (lv_at hl 4 rfl) ?_
  refine l_cM hC hK hW (As := []) (rest := []) (c_X10_thrown l (l_GM G ad) h3) (cwV 0 hts tg_X10_thrown rfl rfl rfl (by decide +kernel) ⟨(Nat.le_of_ble_eq_true rfl), (Nat.le_of_ble_eq_true rfl)⟩) rfl hl.1 rfl (Nat.le_of_ble_eq_true rfl) dL_law_1224 ⟨by omega, by omega⟩ (fun H locs hW => ?_)
  refine lv_iload hx hb dL_law_1227 (lv_at hl 1 rfl) ?_
  refine lv_icmp_eq (tgt := 1234) hx hb dL_law_1229 (by decide) (fun _ => ?_) (fun c9 => absurd rfl c9)
  refine lv_iload hx hb dL_law_1234 (lv_at hl 1 rfl) ?_
  refine lv_if_ne (tgt := 1251) hx hb dL_law_1236 (by decide) (fun c9 => ?_) (fun c9 => ?_)
  · refine lv_goto (tgt := 2367) hx hb dL_law_1251 (by decide) ?_
    refine W.widen (k := cells + 8) (n := slots + 48) (by omega) (by omega) ?_
    exact kN _ _ H locs ls hR hW (lv_sub hl [2, 3, 4, 5, 6] rfl)
  · refine lv_aload_n hx hb dL_law_1239 rfl (lv_at hl 5 rfl) ?_
    refine lv_iconst (v := 0) hx hb dL_law_1240 (by decide) ?_
    refine l_lld hC hK hW dL_law_1241 ?_
    refine lv_iload hx hb dL_law_1242 (lv_at hl 0 rfl) ?_
    refine lv_i2l (v := (r1).toInt64) hx hb dL_law_1244 rfl ?_
    refine W.lcmp hx hb dL_law_1245 ?_
    refine lv_if_eq (tgt := 1251) hx hb dL_law_1246 (by decide) (fun _ => ?_) (fun c8 => absurd (l_cmps (h4 c9)) c8)
    refine lv_goto (tgt := 2367) hx hb dL_law_1251 (by decide) ?_
    refine W.widen (k := cells + 8) (n := slots + 48) (by omega) (by omega) ?_
    exact kN _ _ H locs ls hR hW (lv_sub hl [2, 3, 4, 5, 6] rfl)
set_option maxHeartbeats 4000000 in
set_option maxRecDepth 100000 in
theorem law_case_12 {p : Program} {l : Launch} {e : Env} {s : State} {m : MethodId} {below : List Frame} {meth : Method} {c : Code} {b L : Nat} {xs : Nat → Int32} (hL : L ≤ 3584) (C0 : lw_At p s m meth c b L xs) (hst : l.stackTraces = false) {G : gG} {ad : Nat → Nat} (hK : l_K G ad s) {Rel : gM → gM → Prop} (hop : l_op_12 Rel) {j : Nat} (hj : 7 * j + 7 ≤ L) {mc mm : gM} (hR : Rel mc mm) {H : Heap} {locs : List Loc} {ls : Array Slot} {cells slots : Nat} (hc1 : cells + 8 ≤ 601024) (hc2 : slots + 48 ≤ 7293034) (hW : l_H G ad s H locs mc mm) (hl : lv_has ls 7 [(0, .ref b), (1, .ref (G.2.2.1 0)), (2, .ref (ad 0)), (3, .ref (G.2.2.1 229)), (4, .int (nI (7 * j)))]) (kN : ∀ (mc mm : gM) (H : Heap) (locs : List Loc) (ls : Array Slot), Rel mc mm → l_H G ad s H locs mc mm → lv_has ls 7 [(0, .ref b), (1, .ref (G.2.2.1 0)), (2, .ref (ad 0)), (3, .ref (G.2.2.1 229)), (4, .int (nI (7 * j)))] → W p l e room_1 s m #[Value.ref b] below meth c H locs (cells + 8) (slots + 48) (lw_Z below #[Value.ref b] s) (F0 m 2367 ls [])) : W p l e room_1 s m #[Value.ref b] below meth c H locs cells slots (lw_Z below #[Value.ref b] s) (F0 m 1254 ls []) := by
  obtain ⟨hx, hb, hr, hml, hown, hts, hX, hbl, hlocks, hgv⟩ := id C0
  have hC : CallFix p m c cL_law 7 s #[Value.ref b] lw_tbl RL := ⟨hx, hb, hml, hown, hts⟩
  have hR1 : room_1.cells = 601024 := rfl
  have hR2 : room_1.slots = 7293034 := rfl
  obtain ⟨k1, mc2, r1, mm2, h1, h2, h3, h4, hR⟩ := hop mc mm (xs (7 * j + 1))  hR
  refine lv_aload_n hx hb dL_law_1254 rfl (lv_at hl 1 rfl) ?_
  refine lv_aload_n hx hb dL_law_1255 rfl (lv_at hl 0 rfl) ?_
  refine lv_iload hx hb dL_law_1256 (lv_at hl 4 rfl) ?_
  refine lv_iconst (v := 1) hx hb dL_law_1258 (by decide) ?_
  refine lv_iadd hx hb dL_law_1259 ?_
  refine l_sld hC hX hbl hW (j := j) (k := 1) (by omega) hL (nI_add (7 * j) 1) dL_law_1260 ?_
  refine lv_aload_n hx hb dL_law_1261 rfl (lv_at hl 3 rfl) ?_
  refine l_cC hC hK hW (As := [.ref (G.2.2.1 0), .int (xs (7 * j + 1)), .ref (G.2.2.1 229)]) (rest := []) (c_L_run l G hst h1) (vx_cwSW 3 hts tg_L_run rfl rfl rfl (by decide +kernel) ⟨(Nat.le_of_ble_eq_true rfl), (Nat.le_of_ble_eq_true rfl)⟩) rfl hl.1 rfl (Nat.le_of_ble_eq_true rfl) dL_law_1262 ⟨by omega, by omega⟩ (fun H locs hW => ?_)
  refine lv_istore (lv' := [(5, .int k1), (0, .ref b), (1, .ref (G.2.2.1 0)), (2, .ref (ad 0)), (3, .ref (G.2.2.1 229)), (4, .int (nI (7 * j)))]) hx hb dL_law_1265 hl (by decide) rfl (fun ls hl => ?_)
  refine lv_aload_n hx hb dL_law_1267 rfl (lv_at hl 3 rfl) ?_
  refine lv_aload_n hx hb dL_law_1268 rfl (lv_at hl 1 rfl) ?_
  refine lv_iload hx hb dL_law_1269 (lv_at hl 5 rfl) ?_
  refine lv_iconst (v := 1) hx hb dL_law_1271 (by decide) ?_
  refine lv_iadd hx hb dL_law_1272 ?_
  refine l_sld hC hX hbl hW (j := j) (k := 1) (by omega) hL (nI_add (7 * j) 1) dL_law_1273 ?_
  refine l_cM hC hK hW (As := [.int (xs (7 * j + 1))]) (rest := []) (c_X10_run l (l_GM G ad) h2) (cwV 1 hts tg_X10_run rfl rfl rfl (by decide +kernel) ⟨(Nat.le_of_ble_eq_true rfl), (Nat.le_of_ble_eq_true rfl)⟩) rfl hl.1 rfl (Nat.le_of_ble_eq_true rfl) dL_law_1274 ⟨by omega, by omega⟩ (fun H locs hW => ?_)
  refine lv_istore (lv' := [(6, .int r1), (5, .int k1), (0, .ref b), (1, .ref (G.2.2.1 0)), (2, .ref (ad 0)), (3, .ref (G.2.2.1 229)), (4, .int (nI (7 * j)))]) hx hb dL_law_1277 hl (by decide) rfl (fun ls hl => ?_)
  refine lv_aload_n hx hb dL_law_1279 rfl (lv_at hl 4 rfl) ?_
  refine l_cM hC hK hW (As := []) (rest := []) (c_X10_thrown l (l_GM G ad) h3) (cwV 0 hts tg_X10_thrown rfl rfl rfl (by decide +kernel) ⟨(Nat.le_of_ble_eq_true rfl), (Nat.le_of_ble_eq_true rfl)⟩) rfl hl.1 rfl (Nat.le_of_ble_eq_true rfl) dL_law_1280 ⟨by omega, by omega⟩ (fun H locs hW => ?_)
  refine lv_iload hx hb dL_law_1283 (lv_at hl 1 rfl) ?_
  refine lv_icmp_eq (tgt := 1290) hx hb dL_law_1285 (by decide) (fun _ => ?_) (fun c9 => absurd rfl c9)
  refine lv_iload hx hb dL_law_1290 (lv_at hl 1 rfl) ?_
  refine lv_if_ne (tgt := 1307) hx hb dL_law_1292 (by decide) (fun c9 => ?_) (fun c9 => ?_)
  · refine lv_goto (tgt := 2367) hx hb dL_law_1307 (by decide) ?_
    refine W.widen (k := cells + 8) (n := slots + 48) (by omega) (by omega) ?_
    exact kN _ _ H locs ls hR hW (lv_sub hl [2, 3, 4, 5, 6] rfl)
  · refine lv_aload_n hx hb dL_law_1295 rfl (lv_at hl 5 rfl) ?_
    refine lv_iconst (v := 0) hx hb dL_law_1296 (by decide) ?_
    refine l_lld hC hK hW dL_law_1297 ?_
    refine lv_iload hx hb dL_law_1298 (lv_at hl 0 rfl) ?_
    refine lv_i2l (v := (r1).toInt64) hx hb dL_law_1300 rfl ?_
    refine W.lcmp hx hb dL_law_1301 ?_
    refine lv_if_eq (tgt := 1307) hx hb dL_law_1302 (by decide) (fun _ => ?_) (fun c8 => absurd (l_cmps (h4 c9)) c8)
    refine lv_goto (tgt := 2367) hx hb dL_law_1307 (by decide) ?_
    refine W.widen (k := cells + 8) (n := slots + 48) (by omega) (by omega) ?_
    exact kN _ _ H locs ls hR hW (lv_sub hl [2, 3, 4, 5, 6] rfl)
set_option maxHeartbeats 4000000 in
set_option maxRecDepth 100000 in
theorem law_case_13 {p : Program} {l : Launch} {e : Env} {s : State} {m : MethodId} {below : List Frame} {meth : Method} {c : Code} {b L : Nat} {xs : Nat → Int32} (hL : L ≤ 3584) (C0 : lw_At p s m meth c b L xs) (hst : l.stackTraces = false) {G : gG} {ad : Nat → Nat} (hK : l_K G ad s) {Rel : gM → gM → Prop} (hop : l_op_13 Rel) {j : Nat} (hj : 7 * j + 7 ≤ L) {mc mm : gM} (hR : Rel mc mm) {H : Heap} {locs : List Loc} {ls : Array Slot} {cells slots : Nat} (hc1 : cells + 8 ≤ 601024) (hc2 : slots + 48 ≤ 7293034) (hW : l_H G ad s H locs mc mm) (hl : lv_has ls 7 [(0, .ref b), (1, .ref (G.2.2.1 0)), (2, .ref (ad 0)), (3, .ref (G.2.2.1 229)), (4, .int (nI (7 * j)))]) (kN : ∀ (mc mm : gM) (H : Heap) (locs : List Loc) (ls : Array Slot), Rel mc mm → l_H G ad s H locs mc mm → lv_has ls 7 [(0, .ref b), (1, .ref (G.2.2.1 0)), (2, .ref (ad 0)), (3, .ref (G.2.2.1 229)), (4, .int (nI (7 * j)))] → W p l e room_1 s m #[Value.ref b] below meth c H locs (cells + 8) (slots + 48) (lw_Z below #[Value.ref b] s) (F0 m 2367 ls [])) : W p l e room_1 s m #[Value.ref b] below meth c H locs cells slots (lw_Z below #[Value.ref b] s) (F0 m 1310 ls []) := by
  obtain ⟨hx, hb, hr, hml, hown, hts, hX, hbl, hlocks, hgv⟩ := id C0
  have hC : CallFix p m c cL_law 7 s #[Value.ref b] lw_tbl RL := ⟨hx, hb, hml, hown, hts⟩
  have hR1 : room_1.cells = 601024 := rfl
  have hR2 : room_1.slots = 7293034 := rfl
  obtain ⟨r1, mm2, h1, h2, hR⟩ := hop mc mm hR
  refine lv_aload_n hx hb dL_law_1310 rfl (lv_at hl 1 rfl) ?_
  refine l_cX hC hK hW (As := []) (rest := []) (c_X9_day l G h1) (cwV 0 hts tg_X9_day rfl rfl rfl (by decide +kernel) ⟨(Nat.le_of_ble_eq_true rfl), (Nat.le_of_ble_eq_true rfl)⟩) rfl hl.1 rfl (Nat.le_of_ble_eq_true rfl) dL_law_1311 ⟨by omega, by omega⟩ (fun H locs hW => ?_)
  refine lv_aload_n hx hb dL_law_1314 rfl (lv_at hl 2 rfl) ?_
  refine l_cM hC hK hW (As := []) (rest := [.int r1]) (c_X10_day l (l_GM G ad) h2) (cwV 0 hts tg_X10_day rfl rfl rfl (by decide +kernel) ⟨(Nat.le_of_ble_eq_true rfl), (Nat.le_of_ble_eq_true rfl)⟩) rfl hl.1 rfl (Nat.le_of_ble_eq_true rfl) dL_law_1315 ⟨by omega, by omega⟩ (fun H locs hW => ?_)
  refine lv_icmp_eq (tgt := 2367) hx hb dL_law_1318 (by decide) (fun _ => ?_) (fun c9 => absurd rfl c9)
  refine W.widen (k := cells + 8) (n := slots + 48) (by omega) (by omega) ?_
  exact kN _ _ H locs ls hR hW (lv_sub hl [0, 1, 2, 3, 4] rfl)
set_option maxHeartbeats 4000000 in
set_option maxRecDepth 100000 in
theorem law_case_14 {p : Program} {l : Launch} {e : Env} {s : State} {m : MethodId} {below : List Frame} {meth : Method} {c : Code} {b L : Nat} {xs : Nat → Int32} (hL : L ≤ 3584) (C0 : lw_At p s m meth c b L xs) (hst : l.stackTraces = false) {G : gG} {ad : Nat → Nat} (hK : l_K G ad s) {Rel : gM → gM → Prop} (hop : l_op_14 Rel) {j : Nat} (hj : 7 * j + 7 ≤ L) {mc mm : gM} (hR : Rel mc mm) {H : Heap} {locs : List Loc} {ls : Array Slot} {cells slots : Nat} (hc1 : cells + 8 ≤ 601024) (hc2 : slots + 48 ≤ 7293034) (hW : l_H G ad s H locs mc mm) (hl : lv_has ls 7 [(0, .ref b), (1, .ref (G.2.2.1 0)), (2, .ref (ad 0)), (3, .ref (G.2.2.1 229)), (4, .int (nI (7 * j)))]) (kN : ∀ (mc mm : gM) (H : Heap) (locs : List Loc) (ls : Array Slot), Rel mc mm → l_H G ad s H locs mc mm → lv_has ls 7 [(0, .ref b), (1, .ref (G.2.2.1 0)), (2, .ref (ad 0)), (3, .ref (G.2.2.1 229)), (4, .int (nI (7 * j)))] → W p l e room_1 s m #[Value.ref b] below meth c H locs (cells + 8) (slots + 48) (lw_Z below #[Value.ref b] s) (F0 m 2367 ls [])) : W p l e room_1 s m #[Value.ref b] below meth c H locs cells slots (lw_Z below #[Value.ref b] s) (F0 m 1323 ls []) := by
  obtain ⟨hx, hb, hr, hml, hown, hts, hX, hbl, hlocks, hgv⟩ := id C0
  have hC : CallFix p m c cL_law 7 s #[Value.ref b] lw_tbl RL := ⟨hx, hb, hml, hown, hts⟩
  have hR1 : room_1.cells = 601024 := rfl
  have hR2 : room_1.slots = 7293034 := rfl
  obtain ⟨r1, mm2, h1, h2, hR⟩ := hop mc mm hR
  refine lv_aload_n hx hb dL_law_1323 rfl (lv_at hl 1 rfl) ?_
  refine l_cX hC hK hW (As := []) (rest := []) (c_X9_phase l G h1) (cwV 0 hts tg_X9_phase rfl rfl rfl (by decide +kernel) ⟨(Nat.le_of_ble_eq_true rfl), (Nat.le_of_ble_eq_true rfl)⟩) rfl hl.1 rfl (Nat.le_of_ble_eq_true rfl) dL_law_1324 ⟨by omega, by omega⟩ (fun H locs hW => ?_)
  refine lv_aload_n hx hb dL_law_1327 rfl (lv_at hl 2 rfl) ?_
  refine l_cM hC hK hW (As := []) (rest := [.int r1]) (c_X10_phase l (l_GM G ad) h2) (cwV 0 hts tg_X10_phase rfl rfl rfl (by decide +kernel) ⟨(Nat.le_of_ble_eq_true rfl), (Nat.le_of_ble_eq_true rfl)⟩) rfl hl.1 rfl (Nat.le_of_ble_eq_true rfl) dL_law_1328 ⟨by omega, by omega⟩ (fun H locs hW => ?_)
  refine lv_icmp_eq (tgt := 2367) hx hb dL_law_1331 (by decide) (fun _ => ?_) (fun c9 => absurd rfl c9)
  refine W.widen (k := cells + 8) (n := slots + 48) (by omega) (by omega) ?_
  exact kN _ _ H locs ls hR hW (lv_sub hl [0, 1, 2, 3, 4] rfl)
set_option maxHeartbeats 4000000 in
set_option maxRecDepth 100000 in
theorem law_case_15 {p : Program} {l : Launch} {e : Env} {s : State} {m : MethodId} {below : List Frame} {meth : Method} {c : Code} {b L : Nat} {xs : Nat → Int32} (hL : L ≤ 3584) (C0 : lw_At p s m meth c b L xs) (hst : l.stackTraces = false) {G : gG} {ad : Nat → Nat} (hK : l_K G ad s) {Rel : gM → gM → Prop} (hop : l_op_15 Rel) {j : Nat} (hj : 7 * j + 7 ≤ L) {mc mm : gM} (hR : Rel mc mm) {H : Heap} {locs : List Loc} {ls : Array Slot} {cells slots : Nat} (hc1 : cells + 8 ≤ 601024) (hc2 : slots + 48 ≤ 7293034) (hW : l_H G ad s H locs mc mm) (hl : lv_has ls 7 [(0, .ref b), (1, .ref (G.2.2.1 0)), (2, .ref (ad 0)), (3, .ref (G.2.2.1 229)), (4, .int (nI (7 * j)))]) (kN : ∀ (mc mm : gM) (H : Heap) (locs : List Loc) (ls : Array Slot), Rel mc mm → l_H G ad s H locs mc mm → lv_has ls 7 [(0, .ref b), (1, .ref (G.2.2.1 0)), (2, .ref (ad 0)), (3, .ref (G.2.2.1 229)), (4, .int (nI (7 * j)))] → W p l e room_1 s m #[Value.ref b] below meth c H locs (cells + 8) (slots + 48) (lw_Z below #[Value.ref b] s) (F0 m 2367 ls [])) : W p l e room_1 s m #[Value.ref b] below meth c H locs cells slots (lw_Z below #[Value.ref b] s) (F0 m 1336 ls []) := by
  obtain ⟨hx, hb, hr, hml, hown, hts, hX, hbl, hlocks, hgv⟩ := id C0
  have hC : CallFix p m c cL_law 7 s #[Value.ref b] lw_tbl RL := ⟨hx, hb, hml, hown, hts⟩
  have hR1 : room_1.cells = 601024 := rfl
  have hR2 : room_1.slots = 7293034 := rfl
  obtain ⟨k1, mc2, r1, mm2, h1, h2, h3, h4, hR⟩ := hop mc mm (xs (7 * j + 1)) (xs (7 * j + 2))  hR
  refine lv_aload_n hx hb dL_law_1336 rfl (lv_at hl 1 rfl) ?_
  refine lv_aload_n hx hb dL_law_1337 rfl (lv_at hl 0 rfl) ?_
  refine lv_iload hx hb dL_law_1338 (lv_at hl 4 rfl) ?_
  refine lv_iconst (v := 1) hx hb dL_law_1340 (by decide) ?_
  refine lv_iadd hx hb dL_law_1341 ?_
  refine l_sld hC hX hbl hW (j := j) (k := 1) (by omega) hL (nI_add (7 * j) 1) dL_law_1342 ?_
  refine lv_aload_n hx hb dL_law_1343 rfl (lv_at hl 0 rfl) ?_
  refine lv_iload hx hb dL_law_1344 (lv_at hl 4 rfl) ?_
  refine lv_iconst (v := 2) hx hb dL_law_1346 (by decide) ?_
  refine lv_iadd hx hb dL_law_1347 ?_
  refine l_sld hC hX hbl hW (j := j) (k := 2) (by omega) hL (nI_add (7 * j) 2) dL_law_1348 ?_
  refine lv_aload_n hx hb dL_law_1349 rfl (lv_at hl 3 rfl) ?_
  refine l_cC hC hK hW (As := [.ref (G.2.2.1 0), .int (xs (7 * j + 1)), .int (xs (7 * j + 2)), .ref (G.2.2.1 229)]) (rest := []) (c_L_price l G hst h1) (vx_cwSW 4 hts tg_L_price rfl rfl rfl (by decide +kernel) ⟨(Nat.le_of_ble_eq_true rfl), (Nat.le_of_ble_eq_true rfl)⟩) rfl hl.1 rfl (Nat.le_of_ble_eq_true rfl) dL_law_1350 ⟨by omega, by omega⟩ (fun H locs hW => ?_)
  refine lv_istore (lv' := [(5, .int k1), (0, .ref b), (1, .ref (G.2.2.1 0)), (2, .ref (ad 0)), (3, .ref (G.2.2.1 229)), (4, .int (nI (7 * j)))]) hx hb dL_law_1353 hl (by decide) rfl (fun ls hl => ?_)
  refine lv_aload_n hx hb dL_law_1355 rfl (lv_at hl 3 rfl) ?_
  refine lv_aload_n hx hb dL_law_1356 rfl (lv_at hl 1 rfl) ?_
  refine lv_iload hx hb dL_law_1357 (lv_at hl 5 rfl) ?_
  refine lv_iconst (v := 1) hx hb dL_law_1359 (by decide) ?_
  refine lv_iadd hx hb dL_law_1360 ?_
  refine l_sld hC hX hbl hW (j := j) (k := 1) (by omega) hL (nI_add (7 * j) 1) dL_law_1361 ?_
  refine lv_aload_n hx hb dL_law_1362 rfl (lv_at hl 1 rfl) ?_
  refine lv_iload hx hb dL_law_1363 (lv_at hl 5 rfl) ?_
  refine lv_iconst (v := 2) hx hb dL_law_1365 (by decide) ?_
  refine lv_iadd hx hb dL_law_1366 ?_
  refine l_sld hC hX hbl hW (j := j) (k := 2) (by omega) hL (nI_add (7 * j) 2) dL_law_1367 ?_
  refine l_cM hC hK hW (As := [.int (xs (7 * j + 1)), .int (xs (7 * j + 2))]) (rest := []) (c_X10_price l (l_GM G ad) h2) (cwV 2 hts tg_X10_price rfl rfl rfl (by decide +kernel) ⟨(Nat.le_of_ble_eq_true rfl), (Nat.le_of_ble_eq_true rfl)⟩) rfl hl.1 rfl (Nat.le_of_ble_eq_true rfl) dL_law_1368 ⟨by omega, by omega⟩ (fun H locs hW => ?_)
  refine lv_istore (lv' := [(6, .int r1), (5, .int k1), (0, .ref b), (1, .ref (G.2.2.1 0)), (2, .ref (ad 0)), (3, .ref (G.2.2.1 229)), (4, .int (nI (7 * j)))]) hx hb dL_law_1371 hl (by decide) rfl (fun ls hl => ?_)
  refine lv_aload_n hx hb dL_law_1373 rfl (lv_at hl 4 rfl) ?_
  refine l_cM hC hK hW (As := []) (rest := []) (c_X10_thrown l (l_GM G ad) h3) (cwV 0 hts tg_X10_thrown rfl rfl rfl (by decide +kernel) ⟨(Nat.le_of_ble_eq_true rfl), (Nat.le_of_ble_eq_true rfl)⟩) rfl hl.1 rfl (Nat.le_of_ble_eq_true rfl) dL_law_1374 ⟨by omega, by omega⟩ (fun H locs hW => ?_)
  refine lv_iload hx hb dL_law_1377 (lv_at hl 1 rfl) ?_
  refine lv_icmp_eq (tgt := 1384) hx hb dL_law_1379 (by decide) (fun _ => ?_) (fun c9 => absurd rfl c9)
  refine lv_iload hx hb dL_law_1384 (lv_at hl 1 rfl) ?_
  refine lv_if_ne (tgt := 1401) hx hb dL_law_1386 (by decide) (fun c9 => ?_) (fun c9 => ?_)
  · refine lv_goto (tgt := 2367) hx hb dL_law_1401 (by decide) ?_
    refine W.widen (k := cells + 8) (n := slots + 48) (by omega) (by omega) ?_
    exact kN _ _ H locs ls hR hW (lv_sub hl [2, 3, 4, 5, 6] rfl)
  · refine lv_aload_n hx hb dL_law_1389 rfl (lv_at hl 5 rfl) ?_
    refine lv_iconst (v := 0) hx hb dL_law_1390 (by decide) ?_
    refine l_lld hC hK hW dL_law_1391 ?_
    refine lv_iload hx hb dL_law_1392 (lv_at hl 0 rfl) ?_
    refine lv_i2l (v := (r1).toInt64) hx hb dL_law_1394 rfl ?_
    refine W.lcmp hx hb dL_law_1395 ?_
    refine lv_if_eq (tgt := 1401) hx hb dL_law_1396 (by decide) (fun _ => ?_) (fun c8 => absurd (l_cmps (h4 c9)) c8)
    refine lv_goto (tgt := 2367) hx hb dL_law_1401 (by decide) ?_
    refine W.widen (k := cells + 8) (n := slots + 48) (by omega) (by omega) ?_
    exact kN _ _ H locs ls hR hW (lv_sub hl [2, 3, 4, 5, 6] rfl)
