theorem s_xw : ∀ w ∈ g_xw, w ∈ lw_tbl := by decide +kernel
theorem s_xwT : ∀ w ∈ g_xw, w.onTables = true := by decide +kernel
theorem s_nest : ∀ q ∈ g_nest, Cond.methodLinkNest q.1 q.2.1 q.2.2 "GridMarket" ∈ lw_tbl := by decide +kernel
theorem s_inest : ∀ q ∈ i_nl, Cond.methodLinkNest q.1 q.2.1 q.2.2 "GridMarket" ∈ lw_tbl := by decide +kernel
theorem s_ao5 : Cond.arrayOver (.object "GridMarket$Day") ∈ lw_tbl := by decide +kernel
theorem s_ao6 : Cond.arrayOver (.object "GridMarket$Curve") ∈ lw_tbl := by decide +kernel
theorem s_arrI : Cond.arrayClass .int ∈ lw_tbl := by decide +kernel
theorem s_arrZ : Cond.arrayClass .boolean ∈ lw_tbl := by decide +kernel
theorem s_arrB : Cond.arrayClass .byte ∈ lw_tbl := by decide +kernel
theorem s_cl9 : Cond.classLink RL 10 RX9 ∈ lw_tbl := by decide +kernel
theorem s_in9 : Cond.instantiable RX9 10 ∈ lw_tbl := by decide +kernel
theorem s_ini9 : Cond.initialized RX9 ∈ lw_tbl := by decide +kernel
theorem s_inst : ∀ q ∈ vwCl, Cond.instantiable q.1 q.2.2 ∈ lw_tbl := by decide +kernel
theorem s_us : Cond.laysStatic Bundle.tN "UNASSIGNED_STACK" Bundle.steD ∈ lw_tbl := by decide +kernel
theorem s_ss : Cond.laysStatic Bundle.tN "SUPPRESSED_SENTINEL" Bundle.listD ∈ lw_tbl := by decide +kernel
theorem s_tN : Cond.initialized Bundle.tN ∈ lw_tbl := by decide +kernel
theorem s_str : Cond.stringRef RX9 119 g_xs ∈ lw_tbl := by decide +kernel
theorem s_ml9 : Cond.methodLink RL 74 yX9_init ∈ lw_tbl := by decide +kernel
theorem s_im9 : Cond.instanceMethod yX9_init ∈ lw_tbl := by decide +kernel
def s_00 : gS := (0, fun _ _ => 0, fun _ _ => 0)
def s_C0 : gS := (1, i_up (fun _ _ => 0) 0 (fun _ => 0), g_up (fun _ _ => 0) 0 (fun _ => 0))
def s_okR (Z : gZ) (n J : Nat) (S : Option gS) : Bool := match S with
  | some S => S.1 == n && (List.range n).all (fun c => (List.range J).all (fun j => S.2.1 c j == Z.2.2.2 c j && Nat.ble (S.2.1 c j) n))
  | none => false
def s_len (Z : gZ) (c : Nat) : Nat := if Z.2.1 c = 20 ∨ Z.2.1 c = 21 ∨ Z.2.1 c = 22 then Z.2.2.1 c else if Z.2.1 c = 23 ∨ Z.2.1 c = 24 then 0 else g_n (Z.2.1 c - 1)
def s_okV (Z : gZ) (n : Nat) (m : gM) (S : Option gS) : Bool := match S with
  | some S => (List.range n).all (fun c => (List.range (s_len Z c)).all (fun j => S.2.2 c j == m c j))
  | none => false
theorem s_rC : s_okR ZC 229 12 (f_X9_init 0 s_C0) = true := by decide +kernel
theorem s_vC : s_okV ZC 229 s_mc (f_X9_init 0 s_C0) = true := by decide +kernel
theorem s_gC : ∀ k, k < 229 → g_n (ZC.2.1 k - 1) ≤ 12 := by decide +kernel
theorem s_lC : ∀ k, k < 229 → ZC.2.1 k = 23 ∨ ZC.2.1 k = 24 → ZC.2.2.1 k ≤ 12 := by decide +kernel
theorem s_ofR {Z : gZ} {n J : Nat} {x : Option gS} (h : s_okR Z n J x = true) : ∃ S, x = some S ∧ S.1 = n ∧ ∀ k, k < n → ∀ j, j < J → Z.2.2.2 k j = S.2.1 k j ∧ S.2.1 k j ≤ n := by
  cases x with
  | none => exact Bool.noConfusion (show false = true from h)
  | some S =>
    have h : (S.1 == n && (List.range n).all (fun c => (List.range J).all (fun j => S.2.1 c j == Z.2.2.2 c j && Nat.ble (S.2.1 c j) n))) = true := h
    rw [Bool.and_eq_true] at h
    refine ⟨S, rfl, eq_of_beq h.1, fun k hk j hj => ?_⟩
    have h1 := List.all_eq_true.mp (List.all_eq_true.mp h.2 k (List.mem_range.mpr hk)) j (List.mem_range.mpr hj)
    rw [Bool.and_eq_true] at h1
    exact ⟨(eq_of_beq h1.1).symm, Nat.le_of_ble_eq_true h1.2⟩
theorem s_ofV {Z : gZ} {n : Nat} {m : gM} {S : gS} (h : s_okV Z n m (some S) = true) : ∀ k, k < n → ∀ j, j < s_len Z k → S.2.2 k j = m k j := by
  intro k hk j hj
  have h : (List.range n).all (fun c => (List.range (s_len Z c)).all (fun j => S.2.2 c j == m c j)) = true := h
  have h1 := List.all_eq_true.mp (List.all_eq_true.mp h k (List.mem_range.mpr hk)) j (List.mem_range.mpr hj)
  exact eq_of_beq h1
theorem s_en {Z : gZ} {G : gG} {D : va_G} {H : Heap} {k a : Nat} {r r2 : Nat → Int32} (hv : ∀ j, j < s_len Z k → r j = r2 j) (h : va_at D vwCl (a, g_en Z G k r) H) : va_at D vwCl (a, g_en Z G k r2) H := by
  unfold s_len at hv
  by_cases c0 : Z.2.1 k = 20
  · rw [if_pos (Or.inl c0)] at hv
    rw [g_en_i c0] at h
    rw [g_en_i c0]
    have h' : H[a]? = some (vp_cell (G.2.1 0) (Z.2.2.1 k, .inl r)) := h
    show H[a]? = some (vp_cell (G.2.1 0) (Z.2.2.1 k, .inl r2))
    rw [h', vp_cell_i, vp_cell_i]
    exact congrArg some (lw_arrC (fun j hj => by rw [hv j hj]))
  by_cases c1 : Z.2.1 k = 21
  · rw [if_pos (Or.inr (Or.inl c1))] at hv
    rw [g_en_z c1] at h
    rw [g_en_z c1]
    have h' : H[a]? = some (vp_cell (G.2.1 1) (Z.2.2.1 k, .inl r)) := h
    show H[a]? = some (vp_cell (G.2.1 1) (Z.2.2.1 k, .inl r2))
    rw [h', vp_cell_i, vp_cell_i]
    exact congrArg some (lw_arrC (fun j hj => by rw [hv j hj]))
  by_cases c2 : Z.2.1 k = 22
  · rw [if_pos (Or.inr (Or.inr c2))] at hv
    rw [g_en_l c2] at h
    rw [g_en_l c2]
    have h' : H[a]? = some (vp_cell (G.2.1 2) (Z.2.2.1 k, .inr (.inl (fun j => (r j).toInt64)))) := h
    show H[a]? = some (vp_cell (G.2.1 2) (Z.2.2.1 k, .inr (.inl (fun j => (r2 j).toInt64))))
    rw [h', vp_cell_l, vp_cell_l]
    exact congrArg some (lw_arrC (fun j hj => by rw [hv j hj]))
  by_cases c3 : Z.2.1 k = 23
  · rw [g_en_rC c3] at h
    rw [g_en_rC c3]
    exact h
  by_cases c4 : Z.2.1 k = 24
  · rw [g_en_rD c4] at h
    rw [g_en_rD c4]
    exact h
  rw [if_neg (fun q => q.elim c0 (fun q => q.elim c1 c2)), if_neg (fun q => q.elim c3 c4)] at hv
  have e : ∀ r : Nat → Int32, g_en Z G k r = .inr (Z.2.1 k - 1, g_fs G (Z.2.1 k - 1) (Z.2.2.2 k) r) := fun r => by simp only [g_en, if_neg c0, if_neg c1, if_neg c2, if_neg c3, if_neg c4]
  have ef : g_fs G (Z.2.1 k - 1) (Z.2.2.2 k) r = g_fs G (Z.2.1 k - 1) (Z.2.2.2 k) r2 := by
    unfold g_fs
    apply List.map_congr_left
    intro j hj
    rw [hv j (List.mem_range.mp hj)]
  rw [e r, ef] at h
  rw [e r2]
  exact h
theorem s_K {s : State} {A : Array Value} (hts : ∀ w ∈ lw_tbl, w.before A s = true) : ∃ (D : va_G) (T : Nat → ClassId), va_K D vwCl [(T 0, .int), (T 1, .boolean), (T 2, .byte), (T 3, .object "GridMarket$Curve"), (T 4, .object "GridMarket$Day")] s := by
  have hex : ∀ k : Nat, ∃ (c : ClassId) (iS : Nat → Nat), ∀ q : vw_C, vwCl[k]? = some q → u_Kn s q.1 q.2.1 q.2.2 c iS := by
    intro k
    match k with
    | 0 => obtain ⟨c, iS, h⟩ := u_known (C := RX0) (T := TX0) (N := 4) (n := 4) hts (fun w h => (tbX0 w h).1) (hts _ (s_inst (RX0, TX0, 4) (by simp [vwCl]))); exact ⟨c, iS, fun q hq => by cases hq; exact h⟩
    | 1 => obtain ⟨c, iS, h⟩ := u_known (C := RX1) (T := TX1) (N := 2) (n := 2) hts (fun w h => (tbX1 w h).1) (hts _ (s_inst (RX1, TX1, 2) (by simp [vwCl]))); exact ⟨c, iS, fun q hq => by cases hq; exact h⟩
    | 2 => obtain ⟨c, iS, h⟩ := u_known (C := RX2) (T := TX2) (N := 10) (n := 10) hts (fun w h => (tbX2 w h).1) (hts _ (s_inst (RX2, TX2, 10) (by simp [vwCl]))); exact ⟨c, iS, fun q hq => by cases hq; exact h⟩
    | 3 => obtain ⟨c, iS, h⟩ := u_known (C := RX3) (T := TX3) (N := 9) (n := 9) hts (fun w h => (tbX3 w h).1) (hts _ (s_inst (RX3, TX3, 9) (by simp [vwCl]))); exact ⟨c, iS, fun q hq => by cases hq; exact h⟩
    | 4 => obtain ⟨c, iS, h⟩ := u_known (C := RX4) (T := TX4) (N := 5) (n := 5) hts (fun w h => (tbX4 w h).1) (hts _ (s_inst (RX4, TX4, 5) (by simp [vwCl]))); exact ⟨c, iS, fun q hq => by cases hq; exact h⟩
    | 5 => obtain ⟨c, iS, h⟩ := u_known (C := RX5) (T := TX5) (N := 8) (n := 8) hts (fun w h => (tbX5 w h).1) (hts _ (s_inst (RX5, TX5, 8) (by simp [vwCl]))); exact ⟨c, iS, fun q hq => by cases hq; exact h⟩
    | 6 => obtain ⟨c, iS, h⟩ := u_known (C := RX6) (T := TX6) (N := 1) (n := 1) hts (fun w h => (tbX6 w h).1) (hts _ (s_inst (RX6, TX6, 1) (by simp [vwCl]))); exact ⟨c, iS, fun q hq => by cases hq; exact h⟩
    | 7 => obtain ⟨c, iS, h⟩ := u_known (C := RX7) (T := TX7) (N := 6) (n := 6) hts (fun w h => (tbX7 w h).1) (hts _ (s_inst (RX7, TX7, 6) (by simp [vwCl]))); exact ⟨c, iS, fun q hq => by cases hq; exact h⟩
    | 8 => obtain ⟨c, iS, h⟩ := u_known (C := RX8) (T := TX8) (N := 9) (n := 9) hts (fun w h => (tbX8 w h).1) (hts _ (s_inst (RX8, TX8, 9) (by simp [vwCl]))); exact ⟨c, iS, fun q hq => by cases hq; exact h⟩
    | 9 => obtain ⟨c, iS, h⟩ := u_known (C := RX9) (T := TX9) (N := 10) (n := 10) hts (fun w h => (tbX9 w h).1) (hts _ (s_inst (RX9, TX9, 10) (by simp [vwCl]))); exact ⟨c, iS, fun q hq => by cases hq; exact h⟩
    | k + 10 => exact ⟨0, fun _ => 0, fun q hq => by simp [vwCl] at hq⟩
  obtain ⟨a0, b0, f0⟩ := lw_arrP (hts _ s_arrI)
  obtain ⟨a1, b1, f1⟩ := lw_arrP (hts _ s_arrZ)
  obtain ⟨a2, b2, f2⟩ := lw_arrP (hts _ s_arrB)
  obtain ⟨a3, b3, f3⟩ := lw_arrO (hts _ s_ao6)
  obtain ⟨a4, b4, f4⟩ := lw_arrO (hts _ s_ao5)
  refine ⟨(fun k => Classical.choose (hex k), fun k => Classical.choose (Classical.choose_spec (hex k))), (fun i => match i with
    | 0 => a0
    | 1 => a1
    | 2 => a2
    | 3 => a3
    | _ => a4), fun k q hq => Classical.choose_spec (Classical.choose_spec (hex k)) q hq, ?_⟩
  intro k q hq
  match k, hq with
  | 0, hq => cases hq; exact ⟨b0, f0⟩
  | 1, hq => cases hq; exact ⟨b1, f1⟩
  | 2, hq => cases hq; exact ⟨b2, f2⟩
  | 3, hq => cases hq; exact ⟨b3, f3⟩
  | 4, hq => cases hq; exact ⟨b4, f4⟩
  | k + 5, hq => simp at hq
def l_I (Z : gZ) (N : List (String × Nat × MethodName)) (G : gG) (s : State) (H : Heap) (locs : List Loc) (S : gS) : Prop := va_P G.1 vwCl (g_ws (i_Z Z S) G S.2.2) H ∧ va_S (l_A s) s.heap H locs ∧ va_K G.1 vwCl (g_tys G) s ∧ i_Nw N s ∧ H.size = G.2.2.2 + S.1 ∧ ∀ c, G.2.2.1 c = G.2.2.2 + c
theorem l_I_W {Z : gZ} {N : List (String × Nat × MethodName)} {G : gG} {S : gS} {s U : State} {H : Heap} {locs : List Loc} (h : l_I Z N G s H locs S) (hU : U.heap = H) (hW : s.WarmedH U.vm) : i_W Z N G S U := ⟨by rw [hU]; exact h.1, va_K.moved hW.alike h.2.2.1, i_Nw_moved hW h.2.2.2.1, by rw [hU]; exact h.2.2.2.2.1, h.2.2.2.2.2⟩
section IROWS
variable {p : Program} {l : Launch} {e : Env} {R : Room} {s : State} {m : MethodId} {args : Array Value} {below : List Frame} {meth : Method} {c : Code} {H : Heap} {locs : List Loc} {cells slots mc ms : Nat} {Q : State → Prop}
variable {cc : ByteArray} {pc nL : Nat} {ls : Array Slot} {rest st0 As : List Value} {Ts : List Cond} {own : String} {Z : gZ} {NL : List (String × Nat × MethodName)} {G : gG} {S S' : gS} {y : MethodName} {bytes : ByteArray} {maxL n index : Nat} {ws : List Cond} {rm : Room}
theorem l_newo (hC : CallFix p m c cc nL s args Ts own) (hW : l_I Z NL G s H locs S) {ci : Nat} {C : String} {T : u_T} {N : Nat} (hc : vwCl[ci]? = some (C, T, N)) (hin : ∀ w ∈ u_ws C T N, w ∈ Ts) (hty : ∀ k, k < N → parseFieldDescriptor (T k).2.2.1 = some (g_ty ci k)) (hdf : ∀ j, j < N → defaultValue (g_ty ci j) = if g_isI (g_ty ci j) then .int 0 else .null) (hcl : Cond.classLink own index C ∈ Ts) (hinst : Cond.instantiable C N ∈ Ts) (hini : Cond.initialized C ∈ Ts) (hv : i_new Z (ci + 1) S = some S') (hcells : cells + 1 ≤ R.cells) (hslots : slots + N ≤ R.slots) (hdg : decode cc pc = .ok (.new index, 3))
    (kk : ∀ (H1 : Heap), l_I Z NL G s H1 locs S' → (∀ q, q < H.size → H1[q]? = H[q]?) → W p l e R s m args below meth c H1 locs (cells + 1) (slots + N) Q (F0 m (pc + 3) ls (.ref (G.2.2.1 S.1) :: rest))) : W p l e R s m args below meth c H locs cells slots Q (F0 m pc ls rest) := by
  have hts := hC.2.2.2.2
  have hK := hW.2.2.1
  have hP := hW.1
  have hKn := hK.1 ci _ hc
  have hci : ci < 11 := (Nat.lt_of_lt_of_le (List.getElem?_eq_some_iff.mp hc).1 (show vwCl.length ≤ 11 by decide))
  have hN : g_n ci = N := by rw [g_n, hc]; rfl
  obtain ⟨hk1, rfl⟩ := i_if hv
  refine W.newcK hC.1 hC.2.1 hC.2.2.2.1 (hts _ hcl) (hts _ hinst) (hts _ hini) rfl hdg hcells hslots hKn.2.1 rfl fun H1 kC hkC e1 z1 o1 => ?_
  have had : G.2.2.1 S.1 = H.size := by rw [hW.2.2.2.2.1, hW.2.2.2.2.2]
  have hkp : ∀ (k : Nat) (x : Nat × va_E), (g_ws (i_Z Z S) G S.2.2)[k]? = some x → H1[x.1]? = H[x.1]? := fun k x hx => o1 x.1 ((hP k x hx).lt)
  have k2 := kk H1 ⟨by
    show va_P G.1 vwCl (g_ws (i_Z Z (S.1 + 1, i_up S.2.1 S.1 (fun _ => 0), g_up S.2.2 S.1 (fun _ => 0))) G (g_up S.2.2 S.1 (fun _ => 0))) H1
    rw [i_push, g_en_o (Z := i_Z Z (S.1 + 1, i_up S.2.1 S.1 (fun _ => 0), g_up S.2.2 S.1 (fun _ => 0))) (ci := ci) (by exact hk1) hci, had]
    refine (hP.kept hkp).app (fun k x hx => ?_)
    have hz : k < 1 := (List.getElem?_eq_some_iff.mp hx).1
    rw [show k = 0 by omega] at hx
    cases hx
    refine ⟨_, hc, (u_born (g_ty ci) hts hin hKn hkC e1 hty).to (fun j hj => ?_)⟩
    rw [hdf j hj]
    show _ = vp_V (g_fs G ci (i_up S.2.1 S.1 (fun _ => 0) S.1) (fun _ => 0)) j
    rw [i_up_at]
    show _ = (g_fs G ci (fun _ => 0) (fun _ => 0)).getD j .null
    rw [List.getD_eq_getElem?_getD, g_fs_get (by rw [hN]; exact hj)]
    cases g_isI (g_ty ci j) <;> rfl, ⟨Nat.le_trans hW.2.1.1 (by omega), fun x h1 h2 => (o1 x (Nat.lt_of_lt_of_le h1 hW.2.1.1)).trans (hW.2.1.2.1 x h1 h2), hW.2.1.2.2⟩, hK, hW.2.2.2.1, by rw [z1, hW.2.2.2.2.1]; show _ = G.2.2.2 + (S.1 + 1); omega, hW.2.2.2.2.2⟩ o1
  rw [had] at k2
  exact k2
theorem l_callI (hC : CallFix p m c cc nL s args Ts own) (hle : s.heap.size ≤ G.2.2.2) (hW : l_I Z NL G s H locs S) {o : Nat} (hM : Met l y ws rm (va_Pc (.ref (G.2.2.1 o) :: As) (i_W Z NL G S)) (i_Q Z NL G S') mc ms (i_A G)) (cw : CallB R s args own index y bytes maxL none ws rm mc ms n ∧ y.name = "<init>" ∧ (Cond.instanceMethod y).before args s = true) (hn : As.length = n) (hsize : ls.size = nL) (hst : st0 = As.reverse ++ .ref (G.2.2.1 o) :: rest) (hWt : (rest.map fun v => v.category).sum ≤ 8) (hdg : decode cc pc = .ok (.invokespecial index, 3)) (hf : cells + mc ≤ R.cells ∧ slots + ms ≤ R.slots)
    (kk : ∀ (H1 : Heap) (locs1 : List Loc), l_I Z NL G s H1 locs1 S' → (∀ q, q < H.size → ¬ i_A G q → H1[q]? = H[q]?) → W p l e R s m args below meth c H1 locs1 (cells + mc) (slots + ms) Q (F0 m (pc + 3) ls rest)) : W p l e R s m args below meth c H locs cells slots Q (F0 m pc ls st0) := by
  subst hst
  refine va_callv (va_runI (As := As) (rest := rest) hC hM cw ⟨i_blind, fun U hU hV => ⟨rfl, l_I_W hW hU hV⟩⟩ rfl hn hsize rfl (lv_room hWt) hdg hf) hW.2.1 (fun q _ h => Nat.le_trans hle h) (fun q h => Nat.le_trans hle h) (fun u t H1 locs1 ht hvm hw hB hz1 hk1 hS => ?_)
  exact kk H1 locs1 ⟨by rw [← ht]; exact hB.1, hS, hW.2.2.1, hW.2.2.2.1, by rw [← ht]; exact hB.2.2.2.1, hW.2.2.2.2.2⟩ hk1
end IROWS
