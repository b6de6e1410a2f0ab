def l_cB (b L : Nat) (xs : Nat → Int32) (U : State) : Prop := va_X b L xs U U.heap ∧ b < U.heap.size
def cellv (xs : Nat → Int32) (L j : Nat) : Int32 := if j < L then xs j else 40503 * nI j + 977
def l_F : Nat → Prop := fun _ => False
abbrev rmL_cell : Room := { frames := 0, cells := 0, slots := 0, locals := 0 }
theorem l_cB_blind {b L : Nat} {xs : Nat → Int32} {av : List Value} : FrameBlind (va_Pc av (l_cB b L xs)) := by
  intro a U g mk h
  obtain ⟨h0, h1, h2⟩ := h
  exact ⟨h0, h1.moved (u := U) (U := U.calling g mk a) (Vm.Alike.refl U.vm), h2⟩
theorem l_geN {L j : Nat} (hL : L ≤ 1000) (hj : j ≤ 1000) : (Int32.ofNat L ≤ nI j) ↔ L ≤ j := by
  rw [show Int32.ofNat L = nI L from rfl]
  rw [Int32.le_iff_toInt_le]
  have e : ∀ k : Nat, k ≤ 1000 → (nI k).toInt = k := fun k hk => by
    have h : nI k = Int32.ofNat k := rfl
    rw [h]
    exact Int32.toInt_ofNat_of_lt (by omega)
  rw [e L hL, e j hj]
  omega
set_option maxHeartbeats 4000000 in
set_option maxRecDepth 100000 in
theorem c_L_cell (l : Launch) {b L j : Nat} {xs : Nat → Int32} (hL : L ≤ 1000) (hj : j ≤ 1000) : Met l yL_cell wsL_cell rmL_cell (va_Pc [.ref b, .int (nI j)] (l_cB b L xs)) (va_Qi (fun (r : Int32) (_ : Unit) => r = cellv xs L j) (fun _ _ => True) l_F) 0 0 l_F := by
  refine Met.ofW (cc := cL_cell) (maxL := 2) (ret := (some .int)) (by decide) rfl ?_
  intro p e s m args below meth c s₁ B hml hv
  obtain ⟨rfl, hX, hbl⟩ := hv
  have hC : CallFix p m c cL_cell 2 s ([.ref b, .int (nI j)] : List Value).toArray wsL_cell RL := ⟨B.exec, B.bytes, hml, findClass_of_methodNamed B.named, atoms_spec (ws := wsL_cell) B.pre⟩
  have hx := hC.1
  have hb := hC.2.1
  have hown := hC.2.2.2.1
  have hts := hC.2.2.2.2
  have hr := B.returns
  have hlocks := B.notSynchronized
  have hS : va_S l_F s.heap s.heap [] := va_S.rf
  have hl := lv_entry ([.ref b, .int (nI j)]) (n := 2) (Nat.le_of_ble_eq_true rfl)
  rw [lg_entry_eq]
  generalize (lg_sl ([.ref b, .int (nI j)]) ++ List.replicate (2 - (lg_sl ([.ref b, .int (nI j)])).length) Slot.unset).toArray = ls at hl ⊢
  have hl : lv_has ls 2 [(0, .ref b), (1, .int (nI j))] := hl
  refine lv_iload_n hx hb dL_cell_0 rfl (lv_at hl 1 rfl) ?_
  refine lv_aload_n hx hb dL_cell_1 rfl (lv_at hl 0 rfl) ?_
  refine va_slen hx hb hX hbl id hS dL_cell_2 ?_
  refine lv_icmp_ge (tgt := 12) hx hb dL_cell_3 (by decide) (fun c1 => ?_) (fun c1 => ?_)
  · have h1 := (l_geN hL hj).1 c1
    refine lv_ldc (v := 40503) hx hb hown (hts _ (by decide +kernel : Cond.constant RL 8 (40503) ∈ wsL_cell)) dL_cell_12 ?_
    refine lv_iload_n hx hb dL_cell_14 rfl (lv_at hl 1 rfl) ?_
    refine lv_imul hx hb dL_cell_15 ?_
    refine lv_sipush (v := 977) hx hb dL_cell_16 (by decide) ?_
    refine lv_iadd hx hb dL_cell_19 ?_
    exact W.iret (v := 40503 * nI j + 977) hx hb hr (fun t ht hV => ⟨⟨_, (), rfl, (if_neg (by omega)).symm, trivial⟩, hS.F ht⟩) hS.2.2 dL_cell_20 hlocks
  · have h1 : j < L := by
      rcases Nat.lt_or_ge j L with h | h
      · exact h
      · exact absurd ((l_geN hL hj).2 h) c1
    refine lv_aload_n hx hb dL_cell_6 rfl (lv_at hl 0 rfl) ?_
    refine lv_iload_n hx hb dL_cell_7 rfl (lv_at hl 1 rfl) ?_
    refine va_sld hx hb hX hbl id hS (vp_in_nI h1 (by omega)) dL_cell_8 ?_
    refine lv_goto (tgt := 20) hx hb dL_cell_9 (by decide) ?_
    exact W.iret (v := xs (nI j).toNatClampNeg) hx hb hr (fun t ht hV => ⟨⟨_, (), rfl, by rw [nI_clamp (by omega)]; exact (if_pos h1).symm, trivial⟩, hS.F ht⟩) hS.2.2 dL_cell_20 hlocks
section LCELL
variable {p : Program} {l : Launch} {e : Env} {s : State} {m : MethodId} {below : List Frame} {meth : Method} {c : Code} {H : Heap} {locs : List Loc} {cells slots : Nat} {Q : State → Prop}
variable {cc : ByteArray} {pc nL : Nat} {ls : Array Slot} {rest : List Value} {G : gG} {mc : gM} {b L j : Nat} {xs : Nat → Int32}
theorem l_cell (hC : CallFix p m c cc nL s #[Value.ref b] lw_tbl RL) (hW : l_H G s H locs mc) (hX : va_X b L xs s s.heap) (hbl : b < s.heap.size) (hL : L ≤ 1000) (hj : j ≤ 1000) {k : Int32} (hk : k = nI j) (hsize : ls.size = nL) (hWt : (rest.map fun v => v.category).sum ≤ 8) (hdg : decode cc pc = .ok (.invokestatic 75, 3)) (hf : cells + 0 ≤ room_1.cells ∧ slots + 0 ≤ room_1.slots)
    (kk : ∀ (H1 : Heap) (locs1 : List Loc), l_H G s H1 locs1 mc → W p l e room_1 s m #[Value.ref b] below meth c H1 locs1 cells slots Q (F0 m (pc + 3) ls (.int (cellv xs L j) :: rest))) : W p l e room_1 s m #[Value.ref b] below meth c H locs cells slots Q (F0 m pc ls (.int k :: .ref b :: rest)) := by
  subst hk
  have hnb : ¬ l_A s b := fun h => absurd (show s.heap.size ≤ b from h) (Nat.not_le.mpr hbl)
  refine va_calli (va_runS (As := [.ref b, .int (nI j)]) (rest := rest) hC (c_L_cell l (xs := xs) hL hj) (va_cwS 2 hC.2.2.2.2 tg_L_cell rfl rfl rfl (by decide +kernel) ⟨Nat.le_of_ble_eq_true rfl, Nat.le_of_ble_eq_true rfl⟩) ⟨l_cB_blind, fun U hU hV => ⟨rfl, (hX.moved hV.alike).kept (by rw [hU]; exact hW.2.1.2.1 b hbl hnb), by rw [hU]; exact Nat.lt_of_lt_of_le hbl hW.2.1.1⟩⟩ rfl rfl hsize rfl (lv_room hWt) hdg hf) hW.2.1 (fun q _ h => h.elim) (fun q h => h.elim) (fun r u t H1 locs1 ht hvm hw hB hz1 hk1 hS => ?_)
  subst hw
  exact kk H1 locs1 ⟨hW.1.kept (fun k q hq => hk1 _ (vx_lt hW.1 hq) id), hS, Nat.le_trans hW.2.2 hz1⟩
end LCELL
