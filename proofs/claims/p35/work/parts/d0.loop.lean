theorem init_L : LInv 0 0 0 0 0 0 0 5 s_mc := by
  have z : ∀ c k, c ≠ 3 → c ≠ 22 → s_mc c k = 0 := fun c k h1 h2 => by rw [s_mc0 h1 h2]
  have a0 : acS s_mc 6 = 0 := by
    have : ∀ k, acS s_mc k = 0 := by
      intro k
      induction k with
      | zero => exact z 65 3 (by decide) (by decide)
      | succ k ih =>
        show acS s_mc k + s_mc 66 k = 0
        rw [ih, z 66 k (by decide) (by decide)]
        rfl
    exact this 6
  refine ⟨⟨s_mm, rel_0⟩, 0, 0, by omega, by omega, z _ _ (by decide) (by decide), z _ _ (by decide) (by decide), z _ _ (by decide) (by decide), z _ _ (by decide) (by decide), ⟨0, by omega, rfl⟩, z _ _ (by decide) (by decide), z _ _ (by decide) (by decide), z _ _ (by decide) (by decide), fun k _ => rfl, ⟨a0, fun k hk => ?_⟩, semD_0 (fun j hj i hi => ?_), fun j h1 h2 => z _ _ (by omega) (by omega)⟩
  · rw [z 68 k (by decide) (by decide), z 66 k (by decide) (by decide), z 67 k (by decide) (by decide)]
    exact ⟨Or.inl ⟨rfl, Or.inl (by decide)⟩, by decide, by decide⟩
  · rw [z _ _ (by omega) (by omega)]
    decide
theorem nI_1add (j : Nat) : 1 + nI j = nI (j + 1) := by rw [Int32.add_comm]; exact nI_add j 1
theorem nI_leN {a b : Nat} (ha : a ≤ 1000) (hb : b ≤ 1000) : (nI a ≤ nI b) = (a ≤ b) := by
  rw [iI_nI, iI_nI, iI_leP (by omega) (by omega) (by omega) (by omega)]
  exact propext ⟨fun h => by omega, fun h => by omega⟩
set_option maxHeartbeats 4000000 in
set_option maxRecDepth 100000 in
theorem law_loop {p : Program} {l : Launch} {e : Env} {s : State} {m : MethodId} {below : List Frame} {meth : Method} {c : Code} {b L : Nat} {xs : Nat → Int32} (hL : L ≤ 260) (C0 : lw_At p s m meth c b L xs) (hst : l.stackTraces = false) {G : gG} (hK : l_K G s) {t : Nat} (ht : t ≤ 60) :
    ∀ (n j : Nat), j ≤ t → t + 1 ≤ j + n → ∀ (x2 x3 x4 x5 x6 x7 x8 : Int32) (mc : gM) (H : Heap) (locs : List Loc) (ls : Array Slot), LInv j x2 x3 x4 x5 x6 x7 x8 mc → l_H G s H locs mc → lv_has ls 23 [(0, .ref b), (1, .ref (G.2.2.1 0)), (2, .int x2), (3, .int x3), (4, .int x4), (5, .int x5), (6, .int x6), (7, .int x7), (8, .int x8), (9, .int 1), (10, .int (nI t)), (11, .int (nI j))] → W p l e room_1 s m #[Value.ref b] below meth c H locs (300 + 8 * j) (10000 + 48 * j) (lw_Z below #[Value.ref b] s) (F0 m 48 ls []) := by
  obtain ⟨hx, hb, hr, hml, hown, hts, hX, hbl, hlocks, hgv⟩ := id C0
  have hC : CallFix p m c cL_law 23 s #[Value.ref b] lw_tbl RL := ⟨hx, hb, hml, hown, hts⟩
  have hR1 : room_1.cells = 600074 := rfl
  have hR2 : room_1.slots = 7301550 := rfl
  intro n
  induction n with
  | zero =>
    intro j h1 h2
    exact absurd h2 (by omega)
  | succ n ih =>
    intro j h1 h2 x2 x3 x4 x5 x6 x7 x8 mc H locs ls hI hW hl
    refine lv_iload hx hb dL_law_48 (lv_at hl 11 rfl) ?_
    refine lv_iload hx hb dL_law_50 (lv_at hl 10 rfl) ?_
    refine lv_icmp_ge (tgt := 1367) hx hb dL_law_52 (by decide) (fun c9 => ?_) (fun c9 => ?_)
    · refine lv_iload hx hb dL_law_1367 (lv_at hl 9 rfl) ?_
      refine va_forget (fun q hq => hW.2.1.2.2 q hq) ?_
      refine W.widen (k := 600074) (n := 7301550) (by omega) (by omega) ?_
      exact lw_ret hx hb hr hlocks dL_law_1369
    · have hlt : j < t := by
        rw [nI_leN (by omega) (by omega)] at c9
        omega
      refine lv_iload hx hb dL_law_55 (lv_at hl 9 rfl) ?_
      refine lv_if_eq (tgt := 1367) hx hb dL_law_57 (by decide) (fun h => absurd h (by decide)) (fun _ => ?_)
      refine lv_aload_n hx hb dL_law_60 rfl (lv_at hl 0 rfl) ?_
      refine lv_iconst (v := 1) hx hb dL_law_61 (by decide) ?_
      refine lv_iload hx hb dL_law_62 (lv_at hl 11 rfl) ?_
      refine lv_iadd hx hb dL_law_64 ?_
      refine l_cell hC hW hX hbl (by omega) (j := j + 1) (by omega) (nI_1add j) hl.1 (Nat.le_of_ble_eq_true rfl) dL_law_65 ⟨by omega, by omega⟩ (fun H locs hW => ?_)
      refine lv_istore (lv' := (12, .int (cellv xs L (j + 1))) :: [(0, .ref b), (1, .ref (G.2.2.1 0)), (2, .int x2), (3, .int x3), (4, .int x4), (5, .int x5), (6, .int x6), (7, .int x7), (8, .int x8), (9, .int 1), (10, .int (nI t)), (11, .int (nI j))]) hx hb dL_law_68 hl (by decide) rfl (fun ls hl => ?_)
      obtain ⟨y2, y3, y4, y5, y6, y7, y8, mf, hf, hI2⟩ := turn_ok (show j ≤ 1000 by omega) hI (cellv xs L (j + 1))
      refine law_B70 hC hst hK (kc2 := 300 + 8 * (j + 1)) (ks2 := 10000 + 48 * (j + 1)) (by omega) (by omega) (by omega) (by omega) hf hW (lv_sub hl [1, 2, 3, 4, 5, 6, 7, 8, 9, 10, 11, 12, 0] rfl) (fun H locs ls hW hl => ?_)
      refine lv_iinc (v := nI (j + 1)) (lv' := (11, .int (nI (j + 1))) :: [(0, .ref b), (1, .ref (G.2.2.1 0)), (2, .int y2), (3, .int y3), (4, .int y4), (5, .int y5), (6, .int y6), (7, .int y7), (8, .int y8), (9, .int 1), (10, .int (nI t))]) hx hb dL_law_1361 hl (k := 11) rfl (nI_add j 1) (by decide) rfl (fun ls hl => ?_)
      refine lv_goto (tgt := 48) hx hb dL_law_1364 (by decide) ?_
      exact ih (j + 1) (by omega) (by omega) y2 y3 y4 y5 y6 y7 y8 mf H locs ls hI2 hW (lv_sub hl [1, 2, 3, 4, 5, 6, 7, 8, 9, 10, 11, 0] rfl)
