theorem s_kept {D : va_G} {Z : gZ} {G : gG} {m : gM} {H H1 : Heap} {N : Nat} (h : va_P D vwCl (g_ws Z G m) H) (ha : ∀ c, c < Z.1 → G.2.2.1 c < N) (hk : ∀ q, q < N → H1[q]? = H[q]?) : va_P D vwCl (g_ws Z G m) H1 := by
  refine h.kept (fun k q hq => ?_)
  obtain ⟨h1, rfl⟩ := g_ws_inv hq
  exact hk _ (ha k h1)
set_option maxHeartbeats 4000000 in
set_option maxRecDepth 100000 in
theorem whole_start {p : Program} {e : Env} {s : State} {m : MethodId} {below : List Frame} {meth : Method} {c : Code} (l : Launch) (hflags : l.flags = flags0) {b L : Nat} {xs : Nat → Int32} (hL : L ≤ 260) (C0 : lw_At p s m meth c b L xs) : W p l e room_1 s m #[Value.ref b] below meth c s.heap [] 0 0 (lw_Z below #[Value.ref b] s) (entryFrame m ([Value.ref b] : List Value).toArray 23) := by
  obtain ⟨hx, hb, hr, hml, hown, hts, hX, hbl, hlocks, hgv⟩ := id C0
  have hst : l.stackTraces = false := lw_hst hflags
  have hC : CallFix p m c cL_law 23 s #[Value.ref b] lw_tbl RL := ⟨hx, hb, hml, hown, hts⟩
  have hR1 : room_1.cells = 600074 := rfl
  have hR2 : room_1.slots = 7301550 := rfl
  obtain ⟨D, T, hK⟩ := s_K hts
  have hNw : i_Nw i_nl s := ⟨fun q hq => va_Nw.of rfl (hts _ (s_inest q hq)), va_AO.of (hts _ s_ao5), va_AO.of (hts _ s_ao6)⟩
  obtain ⟨SC, eC, nC, rC⟩ := s_ofR s_rC
  have vC : ∀ k, k < 229 → ∀ j, j < s_len ZC k → SC.2.2 k j = s_mc k j := s_ofV (by rw [← eC]; exact s_vC)
  obtain ⟨z0, ez⟩ : ∃ z : Nat, z = s.heap.size := ⟨_, rfl⟩
  obtain ⟨G0, eG0⟩ : ∃ G : gG, G = (D, T, (fun c => z0 + c), z0) := ⟨_, rfl⟩
  have g01 : G0.1 = D := by rw [eG0]
  have g02 : G0.2.1 = T := by rw [eG0]
  have g03 : ∀ c, G0.2.2.1 c = z0 + c := fun c => by rw [eG0]
  have g04 : G0.2.2.2 = z0 := by rw [eG0]
  have hW0 : l_I ZC i_nl G0 s s.heap [] s_00 := ⟨fun k q h => absurd (g_ws_inv h).1 (Nat.not_lt_zero k), va_S.rf, by rw [g01]; unfold g_tys; rw [g02]; exact hK, hNw, by rw [g04, ez]; rfl, fun c => by rw [g03, g04]⟩
  have hl := lv_entry ([.ref b]) (n := 23) (Nat.le_of_ble_eq_true rfl)
  rw [lg_entry_eq]
  generalize (lg_sl ([.ref b]) ++ List.replicate (23 - (lg_sl ([.ref b])).length) Slot.unset).toArray = ls at hl ⊢
  have hl : lv_has ls 23 [(0, .ref b)] := hl
  refine l_newo hC hW0 (ci := 9) (C := RX9) (T := TX9) (N := 10) (S' := s_C0) rfl (fun w h => (tbX9 w h).1) tyX9_ok i_df9 s_cl9 s_in9 s_ini9 (if_pos (show ZC.2.1 0 = 9 + 1 by decide +kernel)) (by omega) (by omega) dL_law_0 (fun Ha hWa ka => ?_)
  refine lv_dup hx hb dL_law_3 rfl ?_
  refine l_callI hC (Nat.le_of_eq (by rw [g04, ez])) hWa (o := 0) (As := []) (rest := [.ref (G0.2.2.1 0)]) (c_X9_init l G0 eC) (cwI 0 hts twsX9_init rfl rfl rfl (hts _ s_ini9) (hts _ s_ml9) (hts _ s_im9) rfl (by decide +kernel) ⟨(Nat.le_of_ble_eq_true rfl), (Nat.le_of_ble_eq_true rfl)⟩) rfl hl.1 rfl (Nat.le_of_ble_eq_true rfl) dL_law_4 ⟨by omega, by omega⟩ (fun Hb locsb hWb kb => ?_)
  have zb : Hb.size = z0 + 229 := by rw [hWb.2.2.2.2.1, g04, nC]
  obtain ⟨G, eG⟩ : ∃ G : gG, G = (D, T, (fun c => z0 + c), z0 + 229) := ⟨_, rfl⟩
  have g1 : G.1 = D := by rw [eG]
  have g2 : G.2.1 = T := by rw [eG]
  have g3 : ∀ c, G.2.2.1 c = z0 + c := fun c => by rw [eG]
  have g4 : G.2.2.2 = z0 + 229 := by rw [eG]
  rw [show G0.2.2.1 0 = G.2.2.1 0 by rw [g03, g3]]
  refine lv_astore_n (lv' := [(1, .ref (G.2.2.1 0)), (0, .ref b)]) hx hb dL_law_7 rfl hl (by decide) rfl (fun ls hl => ?_)
  have hPC : va_P G.1 vwCl (g_ws ZC G s_mc) Hb := by
    intro k q hq
    obtain ⟨hk, rfl⟩ := g_ws_inv hq
    have hk : k < 229 := hk
    refine s_en (vC k hk) ?_
    exact lw_at (G1 := G0) (G2 := G) 229 12 (by rw [g1, g01]) (by rw [g2, g02]) (fun c hc => by rw [g3, g03]) rC s_gC s_lC hWb.1 nC hk
  have hs := flat_of_before _ hgv
  have hnA : ∀ a : Nat, a < s.heap.size → ¬ l_A s a := fun a h h2 => absurd (show s.heap.size ≤ a from h2) (Nat.not_le.mpr h)
  have hKl : l_K G s := by
    refine ⟨by rw [g1]; unfold g_tys; rw [g2]; exact hK, fun q hq => va_Nw.of rfl (hts _ (s_nest q hq)), ?_, ?_, trivial, vx_Zqof (hts _ s_us) (hts _ s_tN) (hs _ (by decide +kernel)) hnA, vx_Zqof (hts _ s_ss) (hts _ s_tN) (hs _ (by decide +kernel)) hnA, fun w hw => va_Nw.of (s_xwT w hw) (hts _ (s_xw w hw)), ?_, by rw [g4, ← ez]; omega⟩
    · intro i j hi hj h
      rw [g3, g3] at h
      omega
    · intro c hc
      rw [g3, g4, ← ez]
      omega
    · have hcur := (hK.1 9 _ rfl).2.1
      have h1 := hts _ s_str
      obtain ⟨-, -, -, sa, -, -, -, -, -, hev⟩ := Cond.stringRef_spec hcur h1
      exact ⟨sa, vk_R.of h1 hev⟩
  have hWl : l_H G s Hb locsb s_mc := ⟨hPC, hWb.2.1, by rw [g4, zb]; exact Nat.le_refl _⟩
  refine lv_iconst (v := 0) hx hb dL_law_8 (by decide) ?_
  refine lv_istore_n (lv' := [(2, .int 0), (1, .ref (G.2.2.1 0)), (0, .ref b)]) hx hb dL_law_9 rfl hl (by decide) rfl (fun ls hl => ?_)
  refine lv_iconst (v := 0) hx hb dL_law_10 (by decide) ?_
  refine lv_istore_n (lv' := [(3, .int 0), (2, .int 0), (1, .ref (G.2.2.1 0)), (0, .ref b)]) hx hb dL_law_11 rfl hl (by decide) rfl (fun ls hl => ?_)
  refine lv_iconst (v := 0) hx hb dL_law_12 (by decide) ?_
  refine lv_istore (lv' := [(4, .int 0), (3, .int 0), (2, .int 0), (1, .ref (G.2.2.1 0)), (0, .ref b)]) hx hb dL_law_13 hl (by decide) rfl (fun ls hl => ?_)
  refine lv_iconst (v := 0) hx hb dL_law_15 (by decide) ?_
  refine lv_istore (lv' := [(5, .int 0), (4, .int 0), (3, .int 0), (2, .int 0), (1, .ref (G.2.2.1 0)), (0, .ref b)]) hx hb dL_law_16 hl (by decide) rfl (fun ls hl => ?_)
  refine lv_iconst (v := 0) hx hb dL_law_18 (by decide) ?_
  refine lv_istore (lv' := [(6, .int 0), (5, .int 0), (4, .int 0), (3, .int 0), (2, .int 0), (1, .ref (G.2.2.1 0)), (0, .ref b)]) hx hb dL_law_19 hl (by decide) rfl (fun ls hl => ?_)
  refine lv_iconst (v := 0) hx hb dL_law_21 (by decide) ?_
  refine lv_istore (lv' := [(7, .int 0), (6, .int 0), (5, .int 0), (4, .int 0), (3, .int 0), (2, .int 0), (1, .ref (G.2.2.1 0)), (0, .ref b)]) hx hb dL_law_22 hl (by decide) rfl (fun ls hl => ?_)
  refine lv_iconst (v := 5) hx hb dL_law_24 (by decide) ?_
  refine lv_istore (lv' := [(8, .int 5), (7, .int 0), (6, .int 0), (5, .int 0), (4, .int 0), (3, .int 0), (2, .int 0), (1, .ref (G.2.2.1 0)), (0, .ref b)]) hx hb dL_law_25 hl (by decide) rfl (fun ls hl => ?_)
  refine lv_iconst (v := 1) hx hb dL_law_27 (by decide) ?_
  refine lv_istore (lv' := [(9, .int 1), (8, .int 5), (7, .int 0), (6, .int 0), (5, .int 0), (4, .int 0), (3, .int 0), (2, .int 0), (1, .ref (G.2.2.1 0)), (0, .ref b)]) hx hb dL_law_28 hl (by decide) rfl (fun ls hl => ?_)
  refine lv_bipush (v := 10) hx hb dL_law_30 (by decide) ?_
  refine lv_aload_n hx hb dL_law_32 rfl (lv_at hl 9 rfl) ?_
  refine lv_iconst (v := 0) hx hb dL_law_33 (by decide) ?_
  refine l_cell hC hWl hX hbl (by omega) (j := 0) (by omega) rfl hl.1 (Nat.le_of_ble_eq_true rfl) dL_law_34 ⟨by omega, by omega⟩ (fun H locs hW => ?_)
  refine lv_bipush (v := 50) hx hb dL_law_37 (by decide) ?_
  obtain ⟨r, hr50, er⟩ := low_ok (cellv xs L 0) (n := 50) (y := 50) rfl (by omega) (by omega)
  refine l_cS hC hKl hW (As := [.int (cellv xs L 0), .int 50]) (rest := [.int 10]) (c_L_low l G er) (va_cwS 2 hts tg_L_low rfl rfl rfl (by decide +kernel) ⟨(Nat.le_of_ble_eq_true rfl), (Nat.le_of_ble_eq_true rfl)⟩) rfl hl.1 rfl (Nat.le_of_ble_eq_true rfl) dL_law_39 ⟨by omega, by omega⟩ (fun H locs hW => ?_)
  refine lv_iadd hx hb dL_law_42 ?_
  have e10 : 10 + iI (r : Nat) = nI (r + 10) := by
    rw [iI_nI, iL_10, iI_add]
    congr 1
    omega
  rw [e10]
  refine lv_istore (lv' := [(10, .int (nI (r + 10))), (9, .int 1), (8, .int 5), (7, .int 0), (6, .int 0), (5, .int 0), (4, .int 0), (3, .int 0), (2, .int 0), (1, .ref (G.2.2.1 0)), (0, .ref b)]) hx hb dL_law_43 hl (by decide) rfl (fun ls hl => ?_)
  refine lv_iconst (v := 0) hx hb dL_law_45 (by decide) ?_
  refine lv_istore (lv' := [(11, .int 0), (10, .int (nI (r + 10))), (9, .int 1), (8, .int 5), (7, .int 0), (6, .int 0), (5, .int 0), (4, .int 0), (3, .int 0), (2, .int 0), (1, .ref (G.2.2.1 0)), (0, .ref b)]) hx hb dL_law_46 hl (by decide) rfl (fun ls hl => ?_)
  refine W.widen (k := 300 + 8 * 0) (n := 10000 + 48 * 0) (by omega) (by omega) ?_
  exact law_loop hL C0 hst hKl (t := r + 10) (by omega) (r + 11) 0 (by omega) (by omega) 0 0 0 0 0 0 5 s_mc H locs ls init_L hW (lv_sub hl [11, 10, 9, 8, 7, 6, 5, 4, 3, 2, 1, 0] rfl)
