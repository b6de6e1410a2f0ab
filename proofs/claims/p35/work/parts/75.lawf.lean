theorem lw_arrC {c : ClassId} {n : Nat} {f g : Nat → Value} (h : ∀ j, j < n → f j = g j) : arrV c n f = arrV c n g := by
  unfold arrV
  congr 1
  congr 1
  funext j
  exact h j.val j.isLt
theorem lw_hst {l : Launch} (h : l.flags = flags0) : l.stackTraces = false := by
  unfold Launch.stackTraces
  rw [h]
  decide +kernel
theorem lw_arrP {args : Array Value} {s : State} {ty : FieldType} (h : (Cond.arrayClass ty).before args s = true) : ∃ cA, ArrOfT s cA ty ∧ s.vm.findClass ("[" ++ ty.toString) = some cA := by
  obtain ⟨c, k, comp, h1, h2, h3⟩ := Cond.arrayClass_spec h
  exact ⟨c, fun n z => ⟨fun k h => (by cases h), k, h2, comp, h3⟩, h1⟩
theorem lw_arrO {args : Array Value} {s : State} {C : String} (h : (Cond.arrayOver (.object C)).before args s = true) : ∃ cA, ArrOfT s cA (.object C) ∧ va_RA s cA (.object C) := by
  obtain ⟨comp, c, k, h1, h2, h3, h4, h5⟩ := Cond.arrayOver_spec h
  exact ⟨c, fun n z => ⟨fun k h => (by cases h), k, h3, comp, h4⟩, ⟨k, comp, h3, h4, h1, h5⟩⟩
theorem lw_at {Z : gZ} {G1 G2 : gG} {S : gS} {H : Heap} (n J : Nat) (h1 : G2.1 = G1.1) (hT : G2.2.1 = G1.2.1) (had : ∀ c, c < n → G2.2.2.1 c = G1.2.2.1 c) (hrf : ∀ k, k < n → ∀ j, j < J → Z.2.2.2 k j = S.2.1 k j ∧ S.2.1 k j ≤ n) (hgn : ∀ k, k < n → g_n (Z.2.1 k - 1) ≤ J) (hln : ∀ k, k < n → Z.2.1 k = 23 ∨ Z.2.1 k = 24 → Z.2.2.1 k ≤ J) (hP : va_P G1.1 vwCl (g_ws (i_Z Z S) G1 S.2.2) H) (hS : S.1 = n) {k : Nat} (hk : k < n) : va_at G2.1 vwCl (G2.2.2.1 k, g_en Z G2 k (S.2.2 k)) H := by
  have h := hP k _ (g_ws_get (Z := i_Z Z S) (show k < S.1 by omega))
  rw [h1, had k hk]
  have hg : ∀ j, j < J → g_rf G2 (Z.2.2.2 k j) = g_rf G1 (S.2.1 k j) := by
    intro j hj
    obtain ⟨e1, e2⟩ := hrf k hk j hj
    rw [e1]
    unfold g_rf
    by_cases h0 : S.2.1 k j = 0
    · rw [if_pos h0, if_pos h0]
    · rw [if_neg h0, if_neg h0, had _ (by omega)]
  have hfs : g_fs G2 (Z.2.1 k - 1) (Z.2.2.2 k) (S.2.2 k) = g_fs G1 (Z.2.1 k - 1) (S.2.1 k) (S.2.2 k) := by
    unfold g_fs
    apply List.map_congr_left
    intro j hj
    have hj2 := List.mem_range.mp hj
    rw [hg j (Nat.lt_of_lt_of_le hj2 (hgn k hk))]
  by_cases c0 : Z.2.1 k = 20
  · rw [g_en_i c0]
    rw [g_en_i (by exact c0)] at h
    rw [hT]; exact h
  by_cases c1 : Z.2.1 k = 21
  · rw [g_en_z c1]
    rw [g_en_z (by exact c1)] at h
    rw [hT]; exact h
  by_cases c2 : Z.2.1 k = 22
  · rw [g_en_l c2]
    rw [g_en_l (by exact c2)] at h
    rw [hT]; exact h
  by_cases c3 : Z.2.1 k = 23
  · rw [g_en_rC c3]
    rw [g_en_rC (by exact c3)] at h
    rw [hT]
    have hl := hln k hk (Or.inl c3)
    have h' : H[G1.2.2.1 k]? = some (vp_cell (G1.2.1 3) (Z.2.2.1 k, .inr (.inr (.inr (.inr (fun j => g_rf G1 (S.2.1 k j))))))) := h
    show H[G1.2.2.1 k]? = some (vp_cell (G1.2.1 3) (Z.2.2.1 k, .inr (.inr (.inr (.inr (fun j => g_rf G2 (Z.2.2.2 k j)))))))
    rw [h', vp_cell_q, vp_cell_q]
    exact congrArg some (lw_arrC (fun j hj => by rw [hg j (Nat.lt_of_lt_of_le hj hl)]))
  by_cases c4 : Z.2.1 k = 24
  · rw [g_en_rD c4]
    rw [g_en_rD (by exact c4)] at h
    rw [hT]
    have hl := hln k hk (Or.inr c4)
    have h' : H[G1.2.2.1 k]? = some (vp_cell (G1.2.1 4) (Z.2.2.1 k, .inr (.inr (.inr (.inr (fun j => g_rf G1 (S.2.1 k j))))))) := h
    show H[G1.2.2.1 k]? = some (vp_cell (G1.2.1 4) (Z.2.2.1 k, .inr (.inr (.inr (.inr (fun j => g_rf G2 (Z.2.2.2 k j)))))))
    rw [h', vp_cell_q, vp_cell_q]
    exact congrArg some (lw_arrC (fun j hj => by rw [hg j (Nat.lt_of_lt_of_le hj hl)]))
  have e : ∀ (Z' : gZ) (G : gG) (r : Nat → Int32), Z'.2.1 k = Z.2.1 k → g_en Z' G k r = .inr (Z.2.1 k - 1, g_fs G (Z.2.1 k - 1) (Z'.2.2.2 k) r) := by
    intro Z' G r hz
    simp only [g_en, hz, if_neg c0, if_neg c1, if_neg c2, if_neg c3, if_neg c4]
  rw [e Z G2 _ rfl, hfs]
  rw [e (i_Z Z S) G1 _ rfl] at h
  exact h
def l_A (s : State) : Nat → Prop := fun q => s.heap.size ≤ q
def l_K (G : gG) (s : State) : Prop := va_K G.1 vwCl (g_tys G) s ∧ g_Nw s ∧ g_inj ZC G ∧ (∀ c, c < 229 → s.heap.size ≤ G.2.2.1 c ∧ G.2.2.1 c < G.2.2.2) ∧ g_nc s ∧ vx_Zq Bundle.tN "UNASSIGNED_STACK" Bundle.steD (l_A s) s s.heap ∧ vx_Zq Bundle.tN "SUPPRESSED_SENTINEL" Bundle.listD (l_A s) s s.heap ∧ (∀ w ∈ g_xw, va_Nw w s) ∧ (∃ sa, vk_R RX9 119 g_xs sa s) ∧ s.heap.size ≤ G.2.2.2
def l_H (G : gG) (s : State) (H : Heap) (locs : List Loc) (mc : gM) : Prop := va_P G.1 vwCl (g_ws ZC G mc) H ∧ va_S (l_A s) s.heap H locs ∧ G.2.2.2 ≤ H.size
theorem l_AC {G : gG} {s : State} (hK : l_K G s) : ∀ q, g_A ZC G q → l_A s q := by
  obtain ⟨-, -, -, h, -, -, -, -, -, h2⟩ := hK
  rintro q (⟨c, hc, rfl⟩ | hq)
  · exact (h c hc).1
  · exact Nat.le_trans h2 hq
theorem l_WC {G : gG} {s U : State} {H : Heap} {locs : List Loc} {mc : gM} (hK : l_K G s) (hW : l_H G s H locs mc) (hU : U.heap = H) (hV : s.WarmedH U.vm) : g_WY ZC G mc U := by
  obtain ⟨k1, k2, k3, k5, k8, k9, k10, k11, ⟨sa, k12⟩, k13⟩ := id hK
  refine ⟨⟨⟨by rw [hU]; exact hW.1, va_K.moved hV.alike k1, g_Nw_moved hV k2, k3, by rw [hU]; exact hW.2.2⟩, ?_, ?_, g_xw_moved hV k11, sa, vk_R.warm hV k12⟩, g_nc_moved hV.alike k8⟩
  · rw [hU]; exact ((k9.moved hV.alike).kept (fun a ha hA => hW.2.1.2.1 a ha hA)).narrow (l_AC hK)
  · rw [hU]; exact ((k10.moved hV.alike).kept (fun a ha hA => hW.2.1.2.1 a ha hA)).narrow (l_AC hK)
section LROWS
variable {p : Program} {l : Launch} {e : Env} {R : Room} {s : State} {m : MethodId} {args : Array Value} {below : List Frame} {meth : Method} {c : Code} {H : Heap} {locs : List Loc} {cells slots cm sm : Nat} {Q : State → Prop}
variable {cc : ByteArray} {pc nL : Nat} {ls : Array Slot} {rest st0 As : List Value} {Ts : List Cond} {own : String} {G : gG} {mc m0 : gM} {r0 : Int32} {y : MethodName} {bytes : ByteArray} {maxL n index : Nat} {ret : Option FieldType} {ws : List Cond} {rm : Room} {hh : List (Nat × Nat × Nat × Nat)}
theorem l_cC (hC : CallFix p m c cc nL s args Ts own) (hK : l_K G s) (hW : l_H G s H locs mc) (hM : vx_Met l y ws rm (va_Pc As (g_WY ZC G mc)) (g_Qi ZC G r0 m0) (g_XN G) cm sm (g_A ZC G)) (cw : vx_CSW R s args own index y bytes maxL ret hh ws rm cm sm n) (hn : As.length = n) (hsize : ls.size = nL) (hst : st0 = As.reverse ++ rest) (hWt : (rest.map fun v => v.category).sum ≤ 8) (hdg : decode cc pc = .ok (.invokestatic index, 3)) (hf : cells + cm ≤ R.cells ∧ slots + sm ≤ R.slots)
    (kk : ∀ (H1 : Heap) (locs1 : List Loc), l_H G s H1 locs1 m0 → W p l e R s m args below meth c H1 locs1 (cells + cm) (slots + sm) Q (F0 m (pc + 3) ls (.int r0 :: rest))) : W p l e R s m args below meth c H locs cells slots Q (F0 m pc ls st0) := by
  subst hst
  refine vx_calli (vx_runSX (As := As) (rest := rest) hC hM cw ⟨g_blindY, fun U hU hV => ⟨rfl, l_WC hK hW hU hV⟩⟩ rfl hn hsize rfl (lv_room hWt) hdg hf) hW.2.1 (fun q _ h => l_AC hK q h) (fun q h => l_AC hK q h) (fun q _ h => l_AC hK q h) (fun E ce q9 k t H1 locs1 ht hvm hk hB hz1 hk1 hS hq hcv hcl => hk.elim) (fun r u t H1 locs1 ht hvm hw hB hz1 hk1 hS => ?_)
  subst hw
  exact kk H1 locs1 ⟨by rw [← ht]; exact hB.1, hS, Nat.le_trans hW.2.2 hz1⟩
theorem l_cX (hC : CallFix p m c cc nL s args Ts own) (hK : l_K G s) (hW : l_H G s H locs mc) (hM : Met l y ws rm (va_Pc (.ref (G.2.2.1 0) :: As) (g_W ZC G mc)) (g_Qi ZC G r0 m0) 0 0 (g_A ZC G)) (cw : CallW R s args own RX9 index y bytes maxL ret ws rm 0 0 n) (hn : As.length = n) (hsize : ls.size = nL) (hst : st0 = As.reverse ++ .ref (G.2.2.1 0) :: rest) (hWt : (rest.map fun v => v.category).sum ≤ 8) (hdg : decode cc pc = .ok (.invokevirtual index, 3)) (hf : cells + 0 ≤ R.cells ∧ slots + 0 ≤ R.slots)
    (kk : ∀ (H1 : Heap) (locs1 : List Loc), l_H G s H1 locs1 m0 → W p l e R s m args below meth c H1 locs1 cells slots Q (F0 m (pc + 3) ls (.int r0 :: rest))) : W p l e R s m args below meth c H locs cells slots Q (F0 m pc ls st0) := by
  subst hst
  refine va_calli (va_runV (As := As) (rest := rest) hC hM cw ⟨g_blind, va_recv hK.1 hW.1 (q := (RX9, TX9, 10)) (q0 := 0) (ci := 9) (fs := g_fs G 9 (ZC.2.2.2 0) (mc 0)) rfl (by rw [g_ws_get zc_b0, g_en_o (ci := 9) zc_k0 (by decide)]), fun U hU hV => ⟨rfl, (l_WC hK hW hU hV).1.1⟩⟩ rfl hn hsize rfl (lv_room hWt) hdg hf) hW.2.1 (fun q _ h => l_AC hK q h) (fun q h => l_AC hK q h) (fun r u t H1 locs1 ht hvm hw hB hz1 hk1 hS => ?_)
  subst hw
  exact kk H1 locs1 ⟨by rw [← ht]; exact hB.1, hS, Nat.le_trans hW.2.2 hz1⟩
theorem l_cXv (hC : CallFix p m c cc nL s args Ts own) (hK : l_K G s) (hW : l_H G s H locs mc) (hM : Met l y ws rm (va_Pc (.ref (G.2.2.1 0) :: As) (g_W ZC G mc)) (g_Qv ZC G m0) 0 0 (g_A ZC G)) (cw : CallW R s args own RX9 index y bytes maxL ret ws rm 0 0 n) (hn : As.length = n) (hsize : ls.size = nL) (hst : st0 = As.reverse ++ .ref (G.2.2.1 0) :: rest) (hWt : (rest.map fun v => v.category).sum ≤ 8) (hdg : decode cc pc = .ok (.invokevirtual index, 3)) (hf : cells + 0 ≤ R.cells ∧ slots + 0 ≤ R.slots)
    (kk : ∀ (H1 : Heap) (locs1 : List Loc), l_H G s H1 locs1 m0 → W p l e R s m args below meth c H1 locs1 cells slots Q (F0 m (pc + 3) ls rest)) : W p l e R s m args below meth c H locs cells slots Q (F0 m pc ls st0) := by
  subst hst
  refine va_callv (va_runV (As := As) (rest := rest) hC hM cw ⟨g_blind, va_recv hK.1 hW.1 (q := (RX9, TX9, 10)) (q0 := 0) (ci := 9) (fs := g_fs G 9 (ZC.2.2.2 0) (mc 0)) rfl (by rw [g_ws_get zc_b0, g_en_o (ci := 9) zc_k0 (by decide)]), fun U hU hV => ⟨rfl, (l_WC hK hW hU hV).1.1⟩⟩ rfl hn hsize rfl (lv_room hWt) hdg hf) hW.2.1 (fun q _ h => l_AC hK q h) (fun q h => l_AC hK q h) (fun u t H1 locs1 ht hvm hw hB hz1 hk1 hS => ?_)
  exact kk H1 locs1 ⟨by rw [← ht]; exact hB.1, hS, Nat.le_trans hW.2.2 hz1⟩
theorem l_cS (hC : CallFix p m c cc nL s args Ts own) (hK : l_K G s) (hW : l_H G s H locs mc) (hM : Met l y ws rm (va_Pc As (g_W ZC G mc)) (g_Qi ZC G r0 m0) 0 0 (g_A ZC G)) (cw : CallB R s args own index y bytes maxL ret ws rm 0 0 n ∧ (Cond.static y).before args s = true) (hn : As.length = n) (hsize : ls.size = nL) (hst : st0 = As.reverse ++ rest) (hWt : (rest.map fun v => v.category).sum ≤ 8) (hdg : decode cc pc = .ok (.invokestatic index, 3)) (hf : cells + 0 ≤ R.cells ∧ slots + 0 ≤ R.slots)
    (kk : ∀ (H1 : Heap) (locs1 : List Loc), l_H G s H1 locs1 m0 → W p l e R s m args below meth c H1 locs1 cells slots Q (F0 m (pc + 3) ls (.int r0 :: rest))) : W p l e R s m args below meth c H locs cells slots Q (F0 m pc ls st0) := by
  subst hst
  refine va_calli (va_runS (As := As) (rest := rest) hC hM cw ⟨g_blind, fun U hU hV => ⟨rfl, (l_WC hK hW hU hV).1.1⟩⟩ rfl hn hsize rfl (lv_room hWt) hdg hf) hW.2.1 (fun q _ h => l_AC hK q h) (fun q h => l_AC hK q h) (fun r u t H1 locs1 ht hvm hw hB hz1 hk1 hS => ?_)
  subst hw
  exact kk H1 locs1 ⟨by rw [← ht]; exact hB.1, hS, Nat.le_trans hW.2.2 hz1⟩
end LROWS
