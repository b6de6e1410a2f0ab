theorem s_kept {D : va_G} {Z : gZ} {G : gG} {m : gM} {H H1 : Heap} {N : Nat} (h : va_P D vwCl (g_ws Z G m) H) (ha : ∀ c, c < Z.1 → G.2.2.1 c < N) (hk : ∀ q, q < N → H1[q]? = H[q]?) : va_P D vwCl (g_ws Z G m) H1 := by
  refine h.kept (fun k q hq => ?_)
  obtain ⟨h1, rfl⟩ := g_ws_inv hq
  exact hk _ (ha k h1)
set_option maxHeartbeats 4000000 in
set_option maxRecDepth 100000 in
theorem whole_start {p : Program} {e : Env} {s : State} {m : MethodId} {below : List Frame} {meth : Method} {c : Code} (l : Launch) (hflags : l.flags = flags0) {b L : Nat} {xs : Nat → Int32} (hL : L ≤ 3584) (C0 : lw_At p s m meth c b L xs) : W p l e room_1 s m #[Value.ref b] below meth c s.heap [] 0 0 (lw_Z below #[Value.ref b] s) (entryFrame m ([Value.ref b] : List Value).toArray 7) := by
  obtain ⟨hx, hb, hr, hml, hown, hts, hX, hbl, hlocks, hgv⟩ := id C0
  have hst : l.stackTraces = false := lw_hst hflags
  have hC : CallFix p m c cL_law 7 s #[Value.ref b] lw_tbl RL := ⟨hx, hb, hml, hown, hts⟩
  have hR1 : room_1.cells = 601024 := rfl
  have hR2 : room_1.slots = 7293034 := rfl
  obtain ⟨D, T, hK⟩ := s_K hts
  have hNw : i_Nw i_nl s := ⟨fun q hq => va_Nw.of rfl (hts _ (s_inest q hq)), va_AO.of (hts _ s_ao5), va_AO.of (hts _ s_ao6)⟩
  obtain ⟨SC, eC, nC, rC⟩ := s_ofR s_rC
  obtain ⟨SM, eM, nM, rM⟩ := s_ofR s_rM
  have vC : ∀ k, k < 229 → ∀ j, j < s_len ZC k → SC.2.2 k j = s_mc k j := s_ofV (by rw [← eC]; exact s_vC)
  have vM : ∀ k, k < 56 → ∀ j, j < s_len ZM k → SM.2.2 k j = s_mm k j := s_ofV (by rw [← eM]; exact s_vM)
  obtain ⟨z0, ez⟩ : ∃ z : Nat, z = s.heap.size := ⟨_, rfl⟩
  obtain ⟨G0, eG0⟩ : ∃ G : gG, G = (D, T, (fun c => z0 + c), z0) := ⟨_, rfl⟩
  obtain ⟨G1, eG1⟩ : ∃ G : gG, G = (D, T, (fun c => z0 + 229 + c), z0 + 229) := ⟨_, rfl⟩
  have g01 : G0.1 = D := by rw [eG0]
  have g02 : G0.2.1 = T := by rw [eG0]
  have g03 : ∀ c, G0.2.2.1 c = z0 + c := fun c => by rw [eG0]
  have g04 : G0.2.2.2 = z0 := by rw [eG0]
  have g11 : G1.1 = D := by rw [eG1]
  have g12 : G1.2.1 = T := by rw [eG1]
  have g13 : ∀ c, G1.2.2.1 c = z0 + 229 + c := fun c => by rw [eG1]
  have g14 : G1.2.2.2 = z0 + 229 := by rw [eG1]
  have hW0 : l_I ZC i_nl G0 s s.heap [] s_00 := ⟨fun k q h => absurd (g_ws_inv h).1 (Nat.not_lt_zero k), va_S.rf, by rw [g01]; unfold g_tys; rw [g02]; exact hK, hNw, by rw [g04, ez]; rfl, fun c => by rw [g03, g04]⟩
  have hl := lv_entry ([.ref b]) (n := 7) (Nat.le_of_ble_eq_true rfl)
  rw [lg_entry_eq]
  generalize (lg_sl ([.ref b]) ++ List.replicate (7 - (lg_sl ([.ref b])).length) Slot.unset).toArray = ls at hl ⊢
  have hl : lv_has ls 7 [(0, .ref b)] := hl
  refine l_newo hC hW0 (ci := 9) (C := RX9) (T := TX9) (N := 10) (S' := s_C0) rfl (fun w h => (tbX9 w h).1) tyX9_ok i_df9 s_cl9 s_in9 s_ini9 (if_pos (show ZC.2.1 0 = 9 + 1 by decide +kernel)) (by omega) (by omega) dL_law_0 (fun Ha hWa ka => ?_)
  refine lv_dup hx hb dL_law_3 rfl ?_
  refine l_callI hC (Nat.le_of_eq (by rw [g04, ez])) hWa (o := 0) (As := []) (rest := [.ref (G0.2.2.1 0)]) (c_X9_init l G0 eC) (cwI 0 hts twsX9_init rfl rfl rfl (hts _ s_ini9) (hts _ s_ml9) (hts _ s_im9) rfl (by decide +kernel) ⟨(Nat.le_of_ble_eq_true rfl), (Nat.le_of_ble_eq_true rfl)⟩) rfl hl.1 rfl (Nat.le_of_ble_eq_true rfl) dL_law_4 ⟨by omega, by omega⟩ (fun Hb locsb hWb kb => ?_)
  refine lv_astore_n (lv' := [(1, .ref (G0.2.2.1 0)), (0, .ref b)]) hx hb dL_law_7 rfl hl (by decide) rfl (fun ls hl => ?_)
  have zb : Hb.size = z0 + 229 := by rw [hWb.2.2.2.2.1, g04, nC]
  have hW1 : l_I ZM i_nl G1 s Hb locsb s_00 := ⟨fun k q h => absurd (g_ws_inv h).1 (Nat.not_lt_zero k), hWb.2.1, by rw [g11]; unfold g_tys; rw [g12]; exact hK, hNw, by rw [g14, zb]; rfl, fun c => by rw [g13, g14]⟩
  refine l_newo hC hW1 (ci := 10) (C := RX10) (T := TX10) (N := 68) (S' := s_C0) rfl (fun w h => (tbX10 w h).1) tyX10_ok i_df10 s_cl10 s_in10 s_ini10 (if_pos (show ZM.2.1 0 = 10 + 1 by decide +kernel)) (by omega) (by omega) dL_law_8 (fun Hc hWc kc => ?_)
  refine lv_dup hx hb dL_law_11 rfl ?_
  refine l_callI hC (by rw [g14, ez]; omega) hWc (o := 0) (As := []) (rest := [.ref (G1.2.2.1 0)]) (c_X10_init l G1 eM) (cwI 0 hts twsX10_init rfl rfl rfl (hts _ s_ini10) (hts _ s_ml10) (hts _ s_im10) rfl (by decide +kernel) ⟨(Nat.le_of_ble_eq_true rfl), (Nat.le_of_ble_eq_true rfl)⟩) rfl hl.1 rfl (Nat.le_of_ble_eq_true rfl) dL_law_12 ⟨by omega, by omega⟩ (fun Hd locsd hWd kd => ?_)
  refine lv_astore_n (lv' := [(2, .ref (G1.2.2.1 0)), (1, .ref (G0.2.2.1 0)), (0, .ref b)]) hx hb dL_law_15 rfl hl (by decide) rfl (fun ls hl => ?_)
  refine lv_iconst (v := 1) hx hb dL_law_16 (by decide) ?_
  have zd : Hd.size = z0 + 285 := by rw [hWd.2.2.2.2.1, g14, nM]
  have zc : Hc.size = z0 + 230 := by rw [hWc.2.2.2.2.1, g14]; rfl
  refine va_newaK (atype := .long) (g := F0 m 17 ls [.int 1]) hx hb (hts (Cond.arrayClass .long) s_arrL) rfl dL_law_17 (n := 1) (N := 1) rfl (by decide) (by decide) (by decide) (by omega) (by omega) (h := z0 + 285) zd (fun He cA e1 z1 o1 hA hf => ?_)
  show W p l e room_1 s m #[Value.ref b] below meth c He _ _ _ _ (F0 m 19 ls [.ref (z0 + 285)])
  refine lv_astore_n (lv' := [(3, .ref (z0 + 285)), (2, .ref (G1.2.2.1 0)), (1, .ref (G0.2.2.1 0)), (0, .ref b)]) hx hb dL_law_19 rfl hl (by decide) rfl (fun ls hl => ?_)
  refine lv_iconst (v := 0) hx hb dL_law_20 (by decide) ?_
  refine lv_istore (lv' := [(4, .int 0), (3, .ref (z0 + 285)), (2, .ref (G1.2.2.1 0)), (1, .ref (G0.2.2.1 0)), (0, .ref b)]) hx hb dL_law_21 hl (by decide) rfl (fun ls hl => ?_)
  have ecA : cA = T 2 := by
    have h2 : s.vm.findClass ("[" ++ (FieldType.long).toString) = some (T 2) := (hK.2 2 _ rfl).2
    exact Option.some.inj (hf.symm.trans h2)
  obtain ⟨G, eG⟩ : ∃ G : gG, G = (D, T, (fun c => if c = 229 then z0 + 285 else z0 + c), z0 + 286) := ⟨_, rfl⟩
  obtain ⟨ad, ead⟩ : ∃ ad : Nat → Nat, ad = fun c => z0 + 229 + c := ⟨_, rfl⟩
  have g1 : G.1 = D := by rw [eG]
  have g2 : G.2.1 = T := by rw [eG]
  have g3 : ∀ c, G.2.2.1 c = if c = 229 then z0 + 285 else z0 + c := fun c => by rw [eG]
  have g4 : G.2.2.2 = z0 + 286 := by rw [eG]
  have ad3 : ∀ c, ad c = z0 + 229 + c := fun c => by rw [ead]
  have hA1 : ∀ q, q < z0 + 229 → ¬ i_A G1 q := fun q h h2 => by
    have h3 : G1.2.2.2 ≤ q := h2
    rw [g14] at h3
    omega
  have keepC : ∀ q, q < z0 + 229 → He[q]? = Hb[q]? := fun q h => by
    rw [o1 q (by omega), kd q (by omega) (hA1 q h), kc q (by omega)]
  have hPc : va_P G0.1 vwCl (g_ws (i_Z ZC SC) G0 SC.2.2) He := s_kept hWb.1 (N := z0 + 229) (fun c hc => by
    have hc : c < SC.1 := hc
    rw [g03]; omega) keepC
  have hPm : va_P G1.1 vwCl (g_ws (i_Z ZM SM) G1 SM.2.2) He := s_kept hWd.1 (N := z0 + 285) (fun c hc => by
    have hc : c < SM.1 := hc
    rw [g13]; omega) (fun q h => o1 q h)
  have hPC : va_P G.1 vwCl (g_ws ZC G s_mc) He := by
    intro k q hq
    obtain ⟨hk, rfl⟩ := g_ws_inv hq
    have hk : k < 230 := hk
    by_cases c9 : k = 229
    · subst c9
      rw [g_en_l zc_k229, zc_n229, g3, if_pos rfl, g2]
      show He[z0 + 285]? = some (vp_cell (T 2) (1, .inr (.inl (fun j => (s_mc 229 j).toInt64))))
      rw [e1, ecA, vp_cell_l]
      exact congrArg some (lw_arrC (fun j _ => rfl))
    · refine s_en (vC k (by omega)) ?_
      exact lw_at (G1 := G0) (G2 := G) 229 12 (by rw [g1, g01]) (by rw [g2, g02]) (fun c hc => by rw [g3, if_neg (show ¬ c = 229 by omega), g03]) rC s_gC s_lC hPc nC (show k < 229 by omega)
  have hPM : va_P G.1 vwCl (g_ws ZM (l_GM G ad) s_mm) He := by
    intro k q hq
    obtain ⟨hk, rfl⟩ := g_ws_inv hq
    have hk : k < 56 := hk
    refine s_en (vM k (by omega)) ?_
    exact lw_at (G1 := G1) (G2 := l_GM G ad) 56 70 (by show G.1 = G1.1; rw [g1, g11]) (by show G.2.1 = G1.2.1; rw [g2, g12]) (fun c hc => by show ad c = _; rw [ad3, g13]) rM s_gM s_lM hPm nM hk
  have hs := flat_of_before _ hgv
  have hnA : ∀ a : Nat, a < s.heap.size → ¬ l_A s a := fun a h h2 => absurd (show s.heap.size ≤ a from h2) (Nat.not_le.mpr h)
  have hKl : l_K G ad s := by
    refine ⟨by rw [g1]; unfold g_tys; rw [g2]; exact hK, fun q hq => va_Nw.of rfl (hts _ (s_nest q hq)), ?_, ?_, ?_, ?_, ?_, ⟨va_Nc.of (hs _ (by decide +kernel)), va_Nc.of (hs _ (by decide +kernel)), va_Nc.of (hs _ (by decide +kernel))⟩, vx_Zqof (hts _ s_us) (hts _ s_tN) (hs _ (by decide +kernel)) hnA, vx_Zqof (hts _ s_ss) (hts _ s_tN) (hs _ (by decide +kernel)) hnA, fun w hw => va_Nw.of (s_xwT w hw) (hts _ (s_xw w hw)), ?_, by rw [g4, ← ez]; omega⟩
    · intro i j hi hj h
      have hi : i < 230 := hi
      have hj : j < 230 := hj
      rw [g3, g3] at h
      by_cases c1 : i = 229
      · by_cases c2 : j = 229
        · omega
        · rw [if_pos c1, if_neg c2] at h; omega
      · by_cases c2 : j = 229
        · rw [if_neg c1, if_pos c2] at h; omega
        · rw [if_neg c1, if_neg c2] at h; omega
    · intro i j hi hj h
      have h : ad i = ad j := h
      rw [ad3, ad3] at h
      omega
    · intro c hc
      rw [g3, g4, ← ez]
      by_cases c1 : c = 229
      · rw [if_pos c1]; omega
      · rw [if_neg c1]; omega
    · intro c hc
      rw [ad3, g4, ← ez]
      omega
    · intro i j hi hj h
      rw [g3, ad3] at h
      by_cases c1 : i = 229
      · rw [if_pos c1] at h; omega
      · rw [if_neg c1] at h; omega
    · have hcur := (hK.1 9 _ rfl).2.1
      have h1 := hts _ s_str
      obtain ⟨-, -, -, sa, -, -, -, -, -, hev⟩ := Cond.stringRef_spec hcur h1
      exact ⟨sa, vk_R.of h1 hev⟩
  have hWl : l_H G ad s He locsd s_mc s_mm := by
    refine ⟨hPC, hPM, ⟨?_, ?_, hWd.2.1.2.2⟩, by rw [g4, z1]; omega⟩
    · rw [z1, ← ez]; omega
    · intro q h1 h2
      rw [o1 q (by omega)]
      exact hWd.2.1.2.1 q h1 h2
  refine W.widen (k := 286 + 8 * 0) (n := 19312 + 48 * 0) (by omega) (by omega) ?_
  refine law_loop hL C0 hst hKl (L + 1) 0 (by omega) (by omega) s_mc s_mm He locsd ls rel_0 hWl ?_
  have hl2 := lv_sub (l' := [(0, .ref b), (1, .ref (G0.2.2.1 0)), (2, .ref (G1.2.2.1 0)), (3, .ref (z0 + 285)), (4, .int 0)]) hl [4, 3, 2, 1, 0] rfl
  rw [g03, g13] at hl2
  rw [g3, g3, if_neg (by decide), if_pos rfl, ad3]
  rw [show nI (7 * 0) = 0 from nI_0]
  exact hl2
