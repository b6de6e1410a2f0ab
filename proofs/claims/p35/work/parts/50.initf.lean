abbrev gS : Type := Nat × (Nat → Nat → Nat) × gM
def i_up (rf : Nat → Nat → Nat) (o : Nat) (f : Nat → Nat) : Nat → Nat → Nat := fun c => if c = o then f else rf c
theorem i_up_ne (rf : Nat → Nat → Nat) {o c : Nat} (f : Nat → Nat) (h : c ≠ o) : i_up rf o f c = rf c := if_neg h
theorem i_up_at (rf : Nat → Nat → Nat) (o : Nat) (f : Nat → Nat) : i_up rf o f o = f := if_pos rfl
def i_Z (Z : gZ) (S : gS) : gZ := (S.1, Z.2.1, Z.2.2.1, S.2.1)
def i_new (Z : gZ) (k : Nat) (S : gS) : Option gS := if Z.2.1 S.1 = k then some (S.1 + 1, i_up S.2.1 S.1 (fun _ => 0), g_up S.2.2 S.1 (fun _ => 0)) else none
def i_arr (Z : gZ) (t n : Nat) (S : gS) : Option gS := if Z.2.1 S.1 = t ∧ Z.2.2.1 S.1 = n then some (S.1 + 1, i_up S.2.1 S.1 (fun _ => 0), g_up S.2.2 S.1 (fun _ => 0)) else none
def i_pr (Z : gZ) (ci o k t : Nat) (S : gS) : Option gS := if Z.2.1 o = ci + 1 ∧ o < S.1 ∧ t < S.1 then some (S.1, i_up S.2.1 o (fun j => if j = k then t + 1 else S.2.1 o j), S.2.2) else none
def i_pi (Z : gZ) (ci o k : Nat) (v : Int32) (S : gS) : Option gS := if Z.2.1 o = ci + 1 ∧ o < S.1 then some (S.1, S.2.1, g_up S.2.2 o (upd (S.2.2 o) k v)) else none
def i_gr (Z : gZ) (ci o k : Nat) (S : gS) : Option Nat := if Z.2.1 o = ci + 1 ∧ o < S.1 ∧ S.2.1 o k ≠ 0 then some (S.2.1 o k - 1) else none
def i_ai (Z : gZ) (a : Nat) (i v : Int32) (S : gS) : Option gS := if Z.2.1 a = 20 ∧ a < S.1 ∧ ¬ (i < 0 ∨ Z.2.2.1 a ≤ i.toNatClampNeg) then some (S.1, S.2.1, g_up S.2.2 a (upd (S.2.2 a) i.toNatClampNeg v)) else none
def i_ar (Z : gZ) (tc ci a : Nat) (i : Int32) (t : Nat) (S : gS) : Option gS := if Z.2.1 a = tc ∧ a < S.1 ∧ ¬ (i < 0 ∨ Z.2.2.1 a ≤ i.toNatClampNeg) ∧ Z.2.1 t = ci + 1 ∧ t < S.1 then some (S.1, i_up S.2.1 a (fun j => if j = i.toNatClampNeg then t + 1 else S.2.1 a j), S.2.2) else none
theorem i_if {α : Type} {c : Prop} [Decidable c] {a r : α} (h : (if c then some a else none) = some r) : c ∧ a = r := by
  by_cases hc : c
  · rw [if_pos hc] at h; exact ⟨hc, Option.some.inj h⟩
  · rw [if_neg hc] at h; cases h
def i_nest : List (String × Nat × MethodName × String) := [(RX9, 11, yX3_init, RX9)]
def i_A (G : gG) : Nat → Prop := fun q => G.2.2.2 ≤ q
def i_Nw (N : List (String × Nat × MethodName)) (U : State) : Prop := (∀ q ∈ N, va_Nw (.methodLinkNest q.1 q.2.1 q.2.2 "GridMarket") U) ∧ va_AO "GridMarket$Day" U ∧ va_AO "GridMarket$Curve" U
def i_W (Z : gZ) (N : List (String × Nat × MethodName)) (G : gG) (S : gS) (U : State) : Prop := va_P G.1 vwCl (g_ws (i_Z Z S) G S.2.2) U.heap ∧ va_K G.1 vwCl (g_tys G) U ∧ i_Nw N U ∧ U.heap.size = G.2.2.2 + S.1 ∧ ∀ c, G.2.2.1 c = G.2.2.2 + c
def i_H (Z : gZ) (N : List (String × Nat × MethodName)) (G : gG) (s : State) (H : Heap) (locs : List Loc) (S : gS) : Prop := va_P G.1 vwCl (g_ws (i_Z Z S) G S.2.2) H ∧ va_S (i_A G) s.heap H locs ∧ va_K G.1 vwCl (g_tys G) s ∧ i_Nw N s ∧ H.size = G.2.2.2 + S.1 ∧ (∀ c, G.2.2.1 c = G.2.2.2 + c) ∧ G.2.2.2 ≤ s.heap.size
theorem i_inj {Z : gZ} {G : gG} {S : gS} (h : ∀ c, G.2.2.1 c = G.2.2.2 + c) : va_D (i_A G) (g_ws (i_Z Z S) G S.2.2) := by
  refine ⟨fun i j p q hp hq e => ?_, fun k q hq => ?_⟩
  · obtain ⟨hi, rfl⟩ := g_ws_inv hp
    obtain ⟨hj, rfl⟩ := g_ws_inv hq
    have e2 : G.2.2.1 i = G.2.2.1 j := e
    rw [h, h] at e2
    omega
  · obtain ⟨hk, rfl⟩ := g_ws_inv hq
    show G.2.2.2 ≤ G.2.2.1 k
    rw [h]
    omega
theorem i_push {Z : gZ} {G : gG} {S : gS} {r : Nat → Nat} {f : Nat → Int32} : g_ws (i_Z Z (S.1 + 1, i_up S.2.1 S.1 r, g_up S.2.2 S.1 f)) G (g_up S.2.2 S.1 f) = g_ws (i_Z Z S) G S.2.2 ++ [(G.2.2.1 S.1, g_en (i_Z Z (S.1 + 1, i_up S.2.1 S.1 r, g_up S.2.2 S.1 f)) G S.1 f)] := by
  simp only [g_ws, i_Z, List.range_succ, List.map_append, List.map_cons, List.map_nil, g_up_at]
  congr 1
  apply List.map_congr_left
  intro c hc
  have h : c ≠ S.1 := by
    have := List.mem_range.mp hc
    omega
  simp only [g_up_ne _ _ h, g_en, g_fs, i_up_ne _ _ h]
theorem g_en_congr {Z Z' : gZ} {G : gG} {c : Nat} {f : Nat → Int32} (h1 : Z.2.1 c = Z'.2.1 c) (h2 : Z.2.2.1 c = Z'.2.2.1 c) (h3 : Z.2.2.2 c = Z'.2.2.2 c) : g_en Z G c f = g_en Z' G c f := by simp only [g_en, h1, h2, h3]
theorem i_set {Z : gZ} {G : gG} {S : gS} {o : Nat} {r : Nat → Nat} {e : va_E} (h : o < S.1) (he : e = g_en (i_Z Z (S.1, i_up S.2.1 o r, S.2.2)) G o (S.2.2 o)) : (g_ws (i_Z Z S) G S.2.2).set o (G.2.2.1 o, e) = g_ws (i_Z Z (S.1, i_up S.2.1 o r, S.2.2)) G S.2.2 := by
  subst he
  apply List.ext_getElem?
  intro i
  rw [List.getElem?_set]
  by_cases hi : o = i
  · subst hi
    have hl : o < (g_ws (i_Z Z S) G S.2.2).length := by simpa [g_ws, i_Z] using h
    rw [if_pos rfl, if_pos hl, g_ws_get (by exact h)]
  · rw [if_neg hi]
    by_cases hl : i < S.1
    · rw [g_ws_get (by exact hl), g_ws_get (by exact hl)]
      exact congrArg (fun z => some (G.2.2.1 i, z)) (g_en_congr rfl rfl (i_up_ne _ _ (fun x => hi x.symm)).symm)
    · rw [List.getElem?_eq_none (by simp [g_ws, i_Z]; omega), List.getElem?_eq_none (by simp [g_ws, i_Z]; omega)]
theorem i_Nw_moved {N : List (String × Nat × MethodName)} {s U : State} (hW : s.WarmedH U.vm) (h : i_Nw N s) : i_Nw N U := ⟨fun q hq => va_Nw.warmM hW (h.1 q hq), va_AO.moved hW.alike h.2.1, va_AO.moved hW.alike h.2.2⟩
theorem i_Nw_same {N : List (String × Nat × MethodName)} {s U : State} (hv : s.vm = U.vm) (h : i_Nw N s) : i_Nw N U := ⟨fun q hq => va_Nw.same rfl hv (h.1 q hq), va_AO.moved (by rw [hv]; exact Vm.Alike.refl _) h.2.1, va_AO.moved (by rw [hv]; exact Vm.Alike.refl _) h.2.2⟩
theorem i_blind {Z : gZ} {N : List (String × Nat × MethodName)} {G : gG} {S : gS} {av : List Value} : FrameBlind (va_Pc av (i_W Z N G S)) := by
  intro a U g mk h
  obtain ⟨h0, h1, h2, h3, h4, h5⟩ := h
  exact ⟨h0, h1, va_K.moved (u := U) (U := U.calling g mk a) (Vm.Alike.refl U.vm) h2, i_Nw_same (s := U) (U := U.calling g mk a) rfl h3, h4, h5⟩
theorem i_enter {Z : gZ} {N : List (String × Nat × MethodName)} {G : gG} {S : gS} {s : State} (h : i_W Z N G S s) : i_H Z N G s s.heap [] S := ⟨h.1, va_S.rf, h.2.1, h.2.2.1, h.2.2.2.1, h.2.2.2.2, by rw [h.2.2.2.1]; omega⟩
theorem i_H_W {Z : gZ} {N : List (String × Nat × MethodName)} {G : gG} {S : gS} {s U : State} {H : Heap} {locs : List Loc} (h : i_H Z N G s H locs S) (hU : U.heap = H) (hW : s.WarmedH U.vm) : i_W Z N G S U := ⟨by rw [hU]; exact h.1, va_K.moved hW.alike h.2.2.1, i_Nw_moved hW h.2.2.2.1, by rw [hU]; exact h.2.2.2.2.1, h.2.2.2.2.2.1⟩
section IROWS
variable {p : Program} {l : Launch} {e : Env} {R : Room} {s : State} {m : MethodId} {args : Array Value} {below : List Frame} {meth : Method} {c : Code} {H : Heap} {locs : List Loc} {cells slots mc ms : Nat} {Q : State → Prop}
variable {cc : ByteArray} {pc nL : Nat} {ls : Array Slot} {rest st0 As : List Value} {Ts : List Cond} {own : String} {Z : gZ} {NL : List (String × Nat × MethodName)} {G : gG} {S S' : gS} {y : MethodName} {bytes : ByteArray} {maxL n index : Nat} {ws : List Cond} {rm : Room}
theorem i_newo (hC : CallFix p m c cc nL s args Ts own) (hW : i_H Z NL G s H locs S) {ci : Nat} {C : String} {T : u_T} {N : Nat} (hc : vwCl[ci]? = some (C, T, N)) (hin : ∀ w ∈ u_ws C T N, w ∈ Ts) (hty : ∀ k, k < N → parseFieldDescriptor (T k).2.2.1 = some (g_ty ci k)) (hdf : ∀ j, j < N → defaultValue (g_ty ci j) = if g_isI (g_ty ci j) then .int 0 else .null) (hcl : Cond.classLink own index C ∈ Ts) (hinst : Cond.instantiable C N ∈ Ts) (hini : Cond.initialized C ∈ Ts) (hv : i_new Z (ci + 1) S = some S') (hcells : cells + 1 ≤ R.cells) (hslots : slots + N ≤ R.slots) (hdg : decode cc pc = .ok (.new index, 3))
    (kk : ∀ (H1 : Heap), i_H Z NL G s H1 locs S' → W p l e R s m args below meth c H1 locs (cells + 1) (slots + N) Q (F0 m (pc + 3) ls (.ref (G.2.2.1 S.1) :: rest))) : W p l e R s m args below meth c H locs cells slots Q (F0 m pc ls rest) := by
  have hts := hC.2.2.2.2
  have hK := hW.2.2.1
  have hP := hW.1
  have hKn := hK.1 ci _ hc
  have hci : ci < 11 := (Nat.lt_of_lt_of_le (List.getElem?_eq_some_iff.mp hc).1 (show vwCl.length ≤ 11 by decide))
  have hN : g_n ci = N := by rw [g_n, hc]; rfl
  obtain ⟨hk1, rfl⟩ := i_if hv
  refine W.newcK hC.1 hC.2.1 hC.2.2.2.1 (hts _ hcl) (hts _ hinst) (hts _ hini) rfl hdg hcells hslots hKn.2.1 rfl fun H1 kC hkC e1 z1 o1 => ?_
  have had : G.2.2.1 S.1 = H.size := by rw [hW.2.2.2.2.1, hW.2.2.2.2.2.1]
  have hkp : ∀ (k : Nat) (x : Nat × va_E), (g_ws (i_Z Z S) G S.2.2)[k]? = some x → H1[x.1]? = H[x.1]? := fun k x hx => o1 x.1 ((hP k x hx).lt)
  have k2 := kk H1 ⟨by
    show va_P G.1 vwCl (g_ws (i_Z Z (S.1 + 1, i_up S.2.1 S.1 (fun _ => 0), g_up S.2.2 S.1 (fun _ => 0))) G (g_up S.2.2 S.1 (fun _ => 0))) H1
    rw [i_push, g_en_o (Z := i_Z Z (S.1 + 1, i_up S.2.1 S.1 (fun _ => 0), g_up S.2.2 S.1 (fun _ => 0))) (ci := ci) (by exact hk1) hci, had]
    refine (hP.kept hkp).app (fun k x hx => ?_)
    have hz : k < 1 := (List.getElem?_eq_some_iff.mp hx).1
    rw [show k = 0 by omega] at hx
    cases hx
    refine ⟨_, hc, (u_born (g_ty ci) hts hin hKn hkC e1 hty).to (fun j hj => ?_)⟩
    rw [hdf j hj]
    show _ = vp_V (g_fs G ci (i_up S.2.1 S.1 (fun _ => 0) S.1) (fun _ => 0)) j
    rw [i_up_at]
    show _ = (g_fs G ci (fun _ => 0) (fun _ => 0)).getD j .null
    rw [List.getD_eq_getElem?_getD, g_fs_get (by rw [hN]; exact hj)]
    cases g_isI (g_ty ci j) <;> rfl, ⟨Nat.le_trans hW.2.1.1 (by omega), fun x h1 h2 => (o1 x (Nat.lt_of_lt_of_le h1 hW.2.1.1)).trans (hW.2.1.2.1 x h1 h2), hW.2.1.2.2⟩, hK, hW.2.2.2.1, by rw [z1, hW.2.2.2.2.1]; show _ = G.2.2.2 + (S.1 + 1); omega, hW.2.2.2.2.2⟩
  rw [had] at k2
  exact k2
theorem i_newar (hC : CallFix p m c cc nL s args Ts own) (hW : i_H Z NL G s H locs S) {atype : ArrayType} {ai : Nat} {ty : FieldType} (hai : ai = 0 ∨ ai = 1) (hatt : newarray.typeOf atype = ty) (htys : (g_tys G)[ai]? = some (G.2.1 ai, ty)) (hdv : defaultValue ty = .int 0) (hra : ∀ cA : ClassId, va_RA s cA ty = (s.vm.findClass ("[" ++ ty.toString) = some cA)) (harr : Cond.arrayClass (newarray.typeOf atype) ∈ Ts) {i : Int32} {N : Nat} (hn : ¬ i < 0) (hN : i.toNatClampNeg = N) (hbytes : N * componentBytes ty ≤ 536870912) (hv : i_arr Z (20 + ai) N S = some S') (hcells : cells + 1 ≤ R.cells) (hslots : slots + N ≤ R.slots) (hdg : decode cc pc = .ok (.newarray atype, 2))
    (kk : ∀ (H1 : Heap), i_H Z NL G s H1 locs S' → W p l e R s m args below meth c H1 locs (cells + 1) (slots + N) Q (F0 m (pc + 2) ls (.ref (G.2.2.1 S.1) :: rest))) : W p l e R s m args below meth c H locs cells slots Q (F0 m pc ls (.int i :: rest)) := by
  have hts := hC.2.2.2.2
  have hK := hW.2.2.1
  have hP := hW.1
  obtain ⟨⟨hk1, hk2⟩, rfl⟩ := i_if hv
  subst hatt
  refine va_newaK hC.1 hC.2.1 (hts _ harr) rfl hdg rfl hn hN hbytes hcells hslots rfl fun H1 cA e1 z1 o1 hAr hNm => ?_
  have hcA : cA = G.2.1 ai := by
    have h2 := (hK.2 ai _ htys).2
    rw [hra] at h2
    exact Option.some.inj (hNm.symm.trans h2)
  subst hcA
  have had : G.2.2.1 S.1 = H.size := by rw [hW.2.2.2.2.1, hW.2.2.2.2.2.1]
  have hkp : ∀ (k : Nat) (x : Nat × va_E), (g_ws (i_Z Z S) G S.2.2)[k]? = some x → H1[x.1]? = H[x.1]? := fun k x hx => o1 x.1 ((hP k x hx).lt)
  have k2 := kk H1 ⟨by
    show va_P G.1 vwCl (g_ws (i_Z Z (S.1 + 1, i_up S.2.1 S.1 (fun _ => 0), g_up S.2.2 S.1 (fun _ => 0))) G (g_up S.2.2 S.1 (fun _ => 0))) H1
    have hen : g_en (i_Z Z (S.1 + 1, i_up S.2.1 S.1 (fun _ => 0), g_up S.2.2 S.1 (fun _ => 0))) G S.1 (fun _ => 0) = .inl (G.2.1 ai, N, .inl (fun _ => 0)) := by
      have hk3 : (i_Z Z (S.1 + 1, i_up S.2.1 S.1 (fun _ => 0), g_up S.2.2 S.1 (fun _ => 0))).2.2.1 S.1 = N := hk2
      rcases hai with rfl | rfl
      · rw [g_en_i (by exact hk1), hk3]
      · rw [g_en_z (by exact hk1), hk3]
    rw [i_push, hen, had]
    refine (hP.kept hkp).app (fun k x hx => ?_)
    have hz : k < 1 := (List.getElem?_eq_some_iff.mp hx).1
    rw [show k = 0 by omega] at hx
    cases hx
    show H1[H.size]? = some (vp_cell (G.2.1 ai) (N, .inl (fun _ => 0)))
    rw [e1, vp_cell_i, hdv], ⟨Nat.le_trans hW.2.1.1 (by omega), fun x h1 h2 => (o1 x (Nat.lt_of_lt_of_le h1 hW.2.1.1)).trans (hW.2.1.2.1 x h1 h2), hW.2.1.2.2⟩, hK, hW.2.2.2.1, by rw [z1, hW.2.2.2.2.1]; show _ = G.2.2.2 + (S.1 + 1); omega, hW.2.2.2.2.2⟩
  rw [had] at k2
  exact k2
theorem i_newq (hC : CallFix p m c cc nL s args Ts own) (hW : i_H Z NL G s H locs S) {ai : Nat} {C : String} (hai : ai = 3 ∨ ai = 4) (htys : (g_tys G)[ai]? = some (G.2.1 ai, .object C)) (hover : va_AO C s) (hcl : Cond.classLink own index C ∈ Ts) {i : Int32} {N : Nat} (hn : ¬ i < 0) (hN : i.toNatClampNeg = N) (hbytes : N * 4 ≤ 536870912) (hv : i_arr Z (20 + ai) N S = some S') (hcells : cells + 1 ≤ R.cells) (hslots : slots + N ≤ R.slots) (hdg : decode cc pc = .ok (.anewarray index, 3))
    (kk : ∀ (H1 : Heap), i_H Z NL G s H1 locs S' → W p l e R s m args below meth c H1 locs (cells + 1) (slots + N) Q (F0 m (pc + 3) ls (.ref (G.2.2.1 S.1) :: rest))) : W p l e R s m args below meth c H locs cells slots Q (F0 m pc ls (.int i :: rest)) := by
  have hts := hC.2.2.2.2
  have hK := hW.2.2.1
  have hP := hW.1
  obtain ⟨⟨hk1, hk2⟩, rfl⟩ := i_if hv
  subst hN
  refine W.anew hC.1 hC.2.1 hC.2.2.2.1 (hts _ hcl) (va_AO.use hover) rfl hdg rfl hn hbytes hcells hslots fun cA kA comp f1 f2 f3 f4 => ?_
  have hcA : cA = G.2.1 ai := by
    obtain ⟨kA2, comp2, h1, h2, h3, h4⟩ := (hK.2 ai _ htys).2
    exact Option.some.inj (f1.symm.trans h4)
  subst hcA
  generalize hH1 : H.push ({ cls := G.2.1 ai, slots := Array.replicate i.toNatClampNeg .null, vm := .none } : Cell) = H1
  have z1 : H1.size = H.size + 1 := by rw [← hH1, Array.size_push]
  have e1 : H1[H.size]? = some (arrV (G.2.1 ai) i.toNatClampNeg (fun _ => .null)) := by rw [← hH1, Array.getElem?_push_size, ← arrV_new]
  have o1 : ∀ q : Nat, q < H.size → H1[q]? = H[q]? := fun q hq => by rw [← hH1, Array.getElem?_push, if_neg (Nat.ne_of_lt hq)]
  have had : G.2.2.1 S.1 = H.size := by rw [hW.2.2.2.2.1, hW.2.2.2.2.2.1]
  have hkp : ∀ (k : Nat) (x : Nat × va_E), (g_ws (i_Z Z S) G S.2.2)[k]? = some x → H1[x.1]? = H[x.1]? := fun k x hx => o1 x.1 ((hP k x hx).lt)
  have k2 := kk H1 ⟨by
    show va_P G.1 vwCl (g_ws (i_Z Z (S.1 + 1, i_up S.2.1 S.1 (fun _ => 0), g_up S.2.2 S.1 (fun _ => 0))) G (g_up S.2.2 S.1 (fun _ => 0))) H1
    have hrf : (i_Z Z (S.1 + 1, i_up S.2.1 S.1 (fun _ => 0), g_up S.2.2 S.1 (fun _ => 0))).2.2.2 S.1 = fun _ => 0 := i_up_at _ _ _
    have hen : g_en (i_Z Z (S.1 + 1, i_up S.2.1 S.1 (fun _ => 0), g_up S.2.2 S.1 (fun _ => 0))) G S.1 (fun _ => 0) = .inl (G.2.1 ai, i.toNatClampNeg, .inr (.inr (.inr (.inr (fun _ => none))))) := by
      have hk3 : (i_Z Z (S.1 + 1, i_up S.2.1 S.1 (fun _ => 0), g_up S.2.2 S.1 (fun _ => 0))).2.2.1 S.1 = i.toNatClampNeg := hk2
      rcases hai with rfl | rfl
      · rw [g_en_rC (by exact hk1), hk3, hrf]; rfl
      · rw [g_en_rD (by exact hk1), hk3, hrf]; rfl
    rw [i_push, hen, had]
    refine (hP.kept hkp).app (fun k x hx => ?_)
    have hz : k < 1 := (List.getElem?_eq_some_iff.mp hx).1
    rw [show k = 0 by omega] at hx
    cases hx
    show H1[H.size]? = some (vp_cell (G.2.1 ai) (i.toNatClampNeg, .inr (.inr (.inr (.inr (fun _ => none))))))
    rw [e1, vp_cell_q]; rfl, ⟨Nat.le_trans hW.2.1.1 (by omega), fun x h1 h2 => (o1 x (Nat.lt_of_lt_of_le h1 hW.2.1.1)).trans (hW.2.1.2.1 x h1 h2), hW.2.1.2.2⟩, hK, hW.2.2.2.1, by rw [z1, hW.2.2.2.2.1]; show _ = G.2.2.2 + (S.1 + 1); omega, hW.2.2.2.2.2⟩
  rw [had] at k2
  exact k2
theorem i_getr (hC : CallFix p m c cc nL s args Ts own) (hW : i_H Z NL G s H locs S) {o ci k t : Nat} {C : String} {T : u_T} {N : Nat} (hv : i_gr Z ci o k S = some t) (hc : vwCl[ci]? = some (C, T, N)) (hin : ∀ w ∈ u_ws C T N, w ∈ Ts) (hk : k < N) (hI : g_isI (g_ty ci k) = false) (hlink : Cond.fieldLink own index (T k).1 (T k).2.1 (T k).2.2.1 ∈ Ts) (hdg : decode cc pc = .ok (.getfield index, 3))
    (kk : W p l e R s m args below meth c H locs cells slots Q (F0 m (pc + 3) ls (.ref (G.2.2.1 t) :: rest))) : W p l e R s m args below meth c H locs cells slots Q (F0 m pc ls (.ref (G.2.2.1 o) :: rest)) := by
  obtain ⟨⟨h1, h2, h3⟩, h4⟩ := i_if hv
  have hci : ci < 11 := (Nat.lt_of_lt_of_le (List.getElem?_eq_some_iff.mp hc).1 (show vwCl.length ≤ 11 by decide))
  have hN : g_n ci = N := by rw [g_n, hc]; rfl
  refine va_get (D := G.1) (ci := ci) (fs := g_fs G ci (S.2.1 o) (S.2.2 o)) (v := .ref (G.2.2.1 t)) (C := C) (T := T) (N := N) hC.1 hC.2.1 hC.2.2.2.2 hin hC.2.2.2.1 hW.2.2.1 hW.1 o (by rw [g_ws_get (by exact h2), g_en_o (by exact h1) hci]; rfl) hc k hk (hC.2.2.2.2 _ hlink) (fun _ h9 => h9) ?_ hdg kk
  rw [g_fs_get (by rw [hN]; exact hk), hI, ← h4]
  simp [g_rf, h3, va_rf]
theorem i_fs_setr {G : gG} {ci k t : Nat} {rf : Nat → Nat} {r : Nat → Int32} (hI : g_isI (g_ty ci k) = false) : (g_fs G ci rf r).set k (.ref (G.2.2.1 t)) = g_fs G ci (fun j => if j = k then t + 1 else rf j) r := by
  apply List.ext_getElem?
  intro i
  rw [List.getElem?_set]
  by_cases hi : k = i
  · subst hi
    by_cases hl : k < g_n ci
    · have hl2 : k < (g_fs G ci rf r).length := by simpa [g_fs] using hl
      rw [if_pos rfl, if_pos hl2, g_fs_get hl, hI]
      simp [g_rf, va_rf]
    · have hl2 : ¬ k < (g_fs G ci rf r).length := by simpa [g_fs] using hl
      rw [if_pos rfl, if_neg hl2, List.getElem?_eq_none (by simp [g_fs]; omega)]
  · rw [if_neg hi]
    by_cases hl : i < g_n ci
    · rw [g_fs_get hl, g_fs_get hl]
      have hne : i ≠ k := fun e => hi e.symm
      simp [hne]
    · rw [List.getElem?_eq_none (by simp [g_fs]; omega), List.getElem?_eq_none (by simp [g_fs]; omega)]
theorem i_putr (hC : CallFix p m c cc nL s args Ts own) (hW : i_H Z NL G s H locs S) {o ci k t : Nat} {C : String} {T : u_T} {N : Nat} {ty0 : Nat → FieldType} (hv : i_pr Z ci o k t S = some S') (hc : vwCl[ci]? = some (C, T, N)) (hin : ∀ w ∈ u_ws C T N, w ∈ Ts) (hty : ∀ k, k < N → parseFieldDescriptor (T k).2.2.1 = some (ty0 k)) (hnm : ∀ a, a < N → ∀ b, b < N → a ≠ b → (T a).2.1 ≠ (T b).2.1) (hk : k < N) (hI : g_isI (g_ty ci k) = false) (hfin : (T k).2.2.2 = true) (hin2 : meth.name = "<init>") (hdecl : (T k).1 = own) (hnr : ∀ a : Nat, narrow (ty0 k) (.ref a) = .ref a) (hft : ∀ a : Nat, fits (ty0 k) (.ref a) = true) (hlink : Cond.fieldLink own index (T k).1 (T k).2.1 (T k).2.2.1 ∈ Ts) (hdg : decode cc pc = .ok (.putfield index, 3))
    (kk : ∀ (H1 : Heap) (locs1 : List Loc), i_H Z NL G s H1 locs1 S' → W p l e R s m args below meth c H1 locs1 cells slots Q (F0 m (pc + 3) ls rest)) : W p l e R s m args below meth c H locs cells slots Q (F0 m pc ls (.ref (G.2.2.1 t) :: .ref (G.2.2.1 o) :: rest)) := by
  obtain ⟨⟨h1, h2, h3⟩, rfl⟩ := i_if hv
  have hci : ci < 11 := (Nat.lt_of_lt_of_le (List.getElem?_eq_some_iff.mp hc).1 (show vwCl.length ≤ 11 by decide))
  have hN : g_n ci = N := by rw [g_n, hc]; rfl
  have hts := hC.2.2.2.2
  have hK := hW.2.2.1
  have hl : k < (g_fs G ci (S.2.1 o) (S.2.2 o)).length := by simpa [g_fs, hN] using hk
  have hset : (g_ws (i_Z Z S) G S.2.2).set o (G.2.2.1 o, .inr (ci, (g_fs G ci (S.2.1 o) (S.2.2 o)).set k (.ref (G.2.2.1 t)))) = g_ws (i_Z Z (S.1, i_up S.2.1 o (fun j => if j = k then t + 1 else S.2.1 o j), S.2.2)) G S.2.2 := i_set h2 (by
    rw [i_fs_setr hI, g_en_o (by exact h1) hci]
    show _ = (Sum.inr (ci, g_fs G ci (i_up S.2.1 o (fun j => if j = k then t + 1 else S.2.1 o j) o) (S.2.2 o)) : va_E)
    rw [i_up_at])
  have he : (g_ws (i_Z Z S) G S.2.2)[o]? = some (G.2.2.1 o, .inr (ci, g_fs G ci (S.2.1 o) (S.2.2 o))) := by rw [g_ws_get (by exact h2), g_en_o (by exact h1) hci]; rfl
  have hap := va_apart (own := own) hts hin ty0 hty hnm hK hc
  obtain ⟨r, g1, cell, q1, q2, q3, q4⟩ := hW.1 o _ he
  have hr : r = (C, T, N) := Option.some.inj (g1.symm.trans hc)
  subst hr
  obtain ⟨hSl, hfc, kC, hkC, hkind⟩ := hK.1 ci _ hc
  obtain ⟨cf, kf, fi, f, hi, hsl⟩ := hSl k hk
  have hlay := hts _ (hin _ (u_in_lay hk))
  unfold u_lay at hlay
  rw [if_pos hfin] at hlay
  have hst := (u_facts hfc hkC (u_lays hts hin hk) hi).1
  have hcf : m.cls = cf := by
    obtain ⟨_, _, c', _, _, _, -, -, hf', -, -, -, hown2, -⟩ := Cond.laysFinal_spec hlay
    have e1 : c' = cf := by have := hi.symm.trans hf'; simp at this; exact this.1.symm
    rw [hdecl] at hown2
    rw [← e1]; exact Option.some.inj (hC.2.2.2.1.symm.trans hown2)
  have h6 := u_fits hfc hkC hkind (Or.inr hlay) hi (hty k hk) (hnr (G.2.2.1 t)) (hft (G.2.2.1 t))
  refine W.putFinK hC.1 hC.2.1 hC.2.2.2.1 (hts _ hlink) hi hst hcf hin2 (by rw [q2]; exact h6) q1 q3 (by rw [hsl]; exact k2_hasslot (q4 k hk)) rfl rfl hdg fun H1 e1 e2 e3 => ?_
  rw [hsl] at e1 ⊢
  refine kk H1 _ ⟨?_, hW.2.1.put e2 e3 ((i_inj (Z := Z) (S := S) hW.2.2.2.2.2.1).2 o _ he), hK, hW.2.2.2.1, by rw [e2]; exact hW.2.2.2.2.1, hW.2.2.2.2.2⟩
  show va_P G.1 vwCl (g_ws (i_Z Z (S.1, i_up S.2.1 o (fun j => if j = k then t + 1 else S.2.1 o j), S.2.2)) G S.2.2) H1
  rw [← hset]
  exact hW.1.set (i_inj hW.2.2.2.2.2.1) he ⟨_, hc, t_OB.to (V := updV (vp_V (g_fs G ci (S.2.1 o) (S.2.2 o))) k (.ref (G.2.2.1 t))) ⟨_, e1, q2, q3, t_set q4 hap hk _⟩ (fun j _ => vp_updV_set hl _ j)⟩ e3
theorem i_puti (hC : CallFix p m c cc nL s args Ts own) (hW : i_H Z NL G s H locs S) {o ci k : Nat} {x : Int32} {C : String} {T : u_T} {N : Nat} {ty0 : Nat → FieldType} (hv : i_pi Z ci o k x S = some S') (hc : vwCl[ci]? = some (C, T, N)) (hin : ∀ w ∈ u_ws C T N, w ∈ Ts) (hty : ∀ k, k < N → parseFieldDescriptor (T k).2.2.1 = some (ty0 k)) (hnm : ∀ a, a < N → ∀ b, b < N → a ≠ b → (T a).2.1 ≠ (T b).2.1) (hk : k < N) (hI : g_isI (g_ty ci k) = true) (ht : ty0 k = .int) (hfin : (T k).2.2.2 = false) (hlink : Cond.fieldLink own index (T k).1 (T k).2.1 (T k).2.2.1 ∈ Ts) (hdg : decode cc pc = .ok (.putfield index, 3))
    (kk : ∀ (H1 : Heap) (locs1 : List Loc), i_H Z NL G s H1 locs1 S' → W p l e R s m args below meth c H1 locs1 cells slots Q (F0 m (pc + 3) ls rest)) : W p l e R s m args below meth c H locs cells slots Q (F0 m pc ls (.int x :: .ref (G.2.2.1 o) :: rest)) := by
  obtain ⟨⟨h1, h2⟩, rfl⟩ := i_if hv
  have hci : ci < 11 := (Nat.lt_of_lt_of_le (List.getElem?_eq_some_iff.mp hc).1 (show vwCl.length ≤ 11 by decide))
  have hN : g_n ci = N := by rw [g_n, hc]; rfl
  have hts := hC.2.2.2.2
  have hK := hW.2.2.1
  have hl : k < (g_fs G ci (S.2.1 o) (S.2.2 o)).length := by simpa [g_fs, hN] using hk
  have he : (g_ws (i_Z Z S) G S.2.2)[o]? = some (G.2.2.1 o, .inr (ci, g_fs G ci (S.2.1 o) (S.2.2 o))) := by rw [g_ws_get (by exact h2), g_en_o (by exact h1) hci]; rfl
  have hset : (g_ws (i_Z Z S) G S.2.2).set o (G.2.2.1 o, .inr (ci, (g_fs G ci (S.2.1 o) (S.2.2 o)).set k (.int x))) = g_ws (i_Z Z S) G (g_up S.2.2 o (upd (S.2.2 o) k x)) := g_ws_set (by exact h2) (by rw [g_fs_set hI, g_en_o (by exact h1) hci]; rfl)
  have hap := va_apart (own := own) hts hin ty0 hty hnm hK hc
  obtain ⟨r, g1, cell, q1, q2, q3, q4⟩ := hW.1 o _ he
  have hr : r = (C, T, N) := Option.some.inj (g1.symm.trans hc)
  subst hr
  obtain ⟨hSl, hfc, kC, hkC, hkind⟩ := hK.1 ci _ hc
  obtain ⟨cf, kf, fi, f, hi, hsl⟩ := hSl k hk
  have hlay := hts _ (hin _ (u_in_lay hk))
  unfold u_lay at hlay
  rw [if_neg (by rw [hfin]; decide)] at hlay
  have hst := (u_facts hfc hkC (u_lays hts hin hk) hi).1
  have h6 := u_store (v := .int x) hfc hkC hkind hlay hi (hty k hk) (by rw [ht]; rfl) (by rw [ht]; rfl)
  refine W.putK hC.1 hC.2.1 (f := f) ⟨hC.2.2.2.1, hts _ hlink, ⟨_, _, _, hi⟩, hst⟩ (by rw [q2]; exact h6) q1 q3 (by rw [hsl]; exact k2_hasslot (q4 k hk)) rfl rfl hdg fun H1 e1 e2 e3 => ?_
  rw [hsl] at e1 ⊢
  refine kk H1 _ ⟨?_, hW.2.1.put e2 e3 ((i_inj (Z := Z) (S := S) hW.2.2.2.2.2.1).2 o _ he), hK, hW.2.2.2.1, by rw [e2]; exact hW.2.2.2.2.1, hW.2.2.2.2.2⟩
  show va_P G.1 vwCl (g_ws (i_Z Z S) G (g_up S.2.2 o (upd (S.2.2 o) k x))) H1
  rw [← hset]
  exact hW.1.set (i_inj hW.2.2.2.2.2.1) he ⟨_, hc, t_OB.to (V := updV (vp_V (g_fs G ci (S.2.1 o) (S.2.2 o))) k (.int x)) ⟨_, e1, q2, q3, t_set q4 hap hk _⟩ (fun j _ => vp_updV_set hl _ j)⟩ e3
theorem i_ist (hC : CallFix p m c cc nL s args Ts own) (hW : i_H Z NL G s H locs S) {a : Nat} {i x : Int32} (hv : i_ai Z a i x S = some S') (hdg : decode cc pc = .ok (.iastore, 1))
    (kk : ∀ (H1 : Heap) (locs1 : List Loc), i_H Z NL G s H1 locs1 S' → W p l e R s m args below meth c H1 locs1 cells slots Q (F0 m (pc + 1) ls rest)) : W p l e R s m args below meth c H locs cells slots Q (F0 m pc ls (.int x :: .int i :: .ref (G.2.2.1 a) :: rest)) := by
  obtain ⟨⟨h1, h2, h3⟩, rfl⟩ := i_if hv
  have he : (g_ws (i_Z Z S) G S.2.2)[a]? = some (G.2.2.1 a, .inl (G.2.1 0, Z.2.2.1 a, .inl (S.2.2 a))) := by rw [g_ws_get (by exact h2), g_en_i (by exact h1)]; rfl
  have hset : (g_ws (i_Z Z S) G S.2.2).set a (G.2.2.1 a, .inl (G.2.1 0, Z.2.2.1 a, .inl (upd (S.2.2 a) i.toNatClampNeg x))) = g_ws (i_Z Z S) G (g_up S.2.2 a (upd (S.2.2 a) i.toNatClampNeg x)) := g_ws_set (by exact h2) (by rw [g_en_i (by exact h1)]; rfl)
  refine W.iast hC.1 hC.2.1 (hW.1 a _ he) ((hW.2.2.1.2 0 _ rfl).1 (Z.2.2.1 a) (fun j => .int (S.2.2 a j))) (fun q => by cases q) (by show ¬ (i < 0 ∨ (arrV _ _ _).slots.size ≤ _); rw [arrV_size]; exact h3) rfl rfl hdg fun H1 e z oq => ?_
  refine kk H1 _ ⟨?_, hW.2.1.put z oq ((i_inj (Z := Z) (S := S) hW.2.2.2.2.2.1).2 a _ he), hW.2.2.1, hW.2.2.2.1, by rw [z]; exact hW.2.2.2.2.1, hW.2.2.2.2.2⟩
  show va_P G.1 vwCl (g_ws (i_Z Z S) G (g_up S.2.2 a (upd (S.2.2 a) i.toNatClampNeg x))) H1
  rw [← hset]
  refine hW.1.set (i_inj hW.2.2.2.2.2.1) he ?_ oq
  show H1[G.2.2.1 a]? = some (vp_cell _ _)
  rw [e, vp_cell_i, vp_cell_i, arrV_store]
  congr 2
  funext q
  by_cases hq : q = i.toNatClampNeg
  · subst hq
    simp [updV, upd]
  · simp [updV, upd, hq]
theorem i_rst (hC : CallFix p m c cc nL s args Ts own) (hW : i_H Z NL G s H locs S) {ai ci a t : Nat} {r : vw_C} {i : Int32} (hai : ai = 3 ∨ ai = 4) (hv : i_ar Z (20 + ai) ci a i t S = some S') (hc : vwCl[ci]? = some r) (htys : (g_tys G)[ai]? = some (G.2.1 ai, .object r.1)) (hdg : decode cc pc = .ok (.aastore, 1))
    (kk : ∀ (H1 : Heap) (locs1 : List Loc), i_H Z NL G s H1 locs1 S' → W p l e R s m args below meth c H1 locs1 cells slots Q (F0 m (pc + 1) ls rest)) : W p l e R s m args below meth c H locs cells slots Q (F0 m pc ls (.ref (G.2.2.1 t) :: .int i :: .ref (G.2.2.1 a) :: rest)) := by
  obtain ⟨⟨h1, h2, h3, h4, h5⟩, rfl⟩ := i_if hv
  have hci : ci < 11 := (Nat.lt_of_lt_of_le (List.getElem?_eq_some_iff.mp hc).1 (show vwCl.length ≤ 11 by decide))
  have hen : ∀ (rf2 : Nat → Nat → Nat), g_en (i_Z Z (S.1, rf2, S.2.2)) G a (S.2.2 a) = .inl (G.2.1 ai, Z.2.2.1 a, .inr (.inr (.inr (.inr (fun j => g_rf G (rf2 a j)))))) := by
    intro rf2
    rcases hai with rfl | rfl
    · rw [g_en_rC (by exact h1)]; rfl
    · rw [g_en_rD (by exact h1)]; rfl
  have he : (g_ws (i_Z Z S) G S.2.2)[a]? = some (G.2.2.1 a, .inl (G.2.1 ai, Z.2.2.1 a, .inr (.inr (.inr (.inr (fun j => g_rf G (S.2.1 a j))))))) := by rw [g_ws_get (by exact h2)]; exact congrArg (fun z => some (G.2.2.1 a, z)) (hen S.2.1)
  have hev : (g_ws (i_Z Z S) G S.2.2)[t]? = some (G.2.2.1 t, .inr (ci, g_fs G ci (S.2.1 t) (S.2.2 t))) := by rw [g_ws_get (by exact h5), g_en_o (by exact h4) hci]; rfl
  have hset : (g_ws (i_Z Z S) G S.2.2).set a (G.2.2.1 a, .inl (G.2.1 ai, Z.2.2.1 a, .inr (.inr (.inr (.inr (va_up (fun j => g_rf G (S.2.1 a j)) i.toNatClampNeg (some (G.2.2.1 t)))))))) = g_ws (i_Z Z (S.1, i_up S.2.1 a (fun j => if j = i.toNatClampNeg then t + 1 else S.2.1 a j), S.2.2)) G S.2.2 := i_set h2 (by
    rw [hen]
    refine congrArg (fun z => (Sum.inl (G.2.1 ai, Z.2.2.1 a, Sum.inr (Sum.inr (Sum.inr (Sum.inr z)))) : va_E)) ?_
    funext j
    rw [i_up_at]
    by_cases hj : j = i.toNatClampNeg
    · simp [va_up, hj, g_rf]
    · simp [va_up, hj])
  have hcls := (hW.2.2.1.1 ci r hc).2
  obtain ⟨r', hr', cellV, g1, g2, g3, -⟩ := hW.1 t _ hev
  obtain ⟨kA, comp, k1, k2, k3, -⟩ := (hW.2.2.1.2 ai _ htys).2
  have hcomp : comp = G.1.1 ci := Option.some.inj (k3.symm.trans hcls.1)
  subst hcomp
  obtain ⟨kC, hkC, -⟩ := hcls.2
  have h0 : ¬ i < 0 := fun q => h3 (Or.inl q)
  have hlt : i.toNatClampNeg < Z.2.2.1 a := Nat.not_le.mp fun q => h3 (Or.inr q)
  refine W.aast hC.1 hC.2.1 (hW.1 a _ he) (fun q h => by cases h) (fun h => by cases h) k1 k2 rfl hkC ⟨h0, by show _ < (arrV _ _ _).slots.size; rw [arrV_size]; exact hlt⟩ g1 (fun q h => by rw [g3] at h; cases h) (by rw [g2]; exact hkC) (by rw [g2]; exact va_assign hcls) rfl rfl hdg fun H1 e z oq => ?_
  refine kk H1 _ ⟨?_, hW.2.1.put z oq ((i_inj (Z := Z) (S := S) hW.2.2.2.2.2.1).2 a _ he), hW.2.2.1, hW.2.2.2.1, by rw [z]; exact hW.2.2.2.2.1, hW.2.2.2.2.2⟩
  show va_P G.1 vwCl (g_ws (i_Z Z (S.1, i_up S.2.1 a (fun j => if j = i.toNatClampNeg then t + 1 else S.2.1 a j), S.2.2)) G S.2.2) H1
  rw [← hset]
  refine hW.1.set (i_inj hW.2.2.2.2.2.1) he ?_ oq
  show H1[G.2.2.1 a]? = some (vp_cell _ _)
  rw [e, vp_cell_q, vp_cell_q, arrV_store]
  congr 2
  funext q
  by_cases hq : q = i.toNatClampNeg
  · subst hq
    simp [updV, va_up, va_rf]
  · simp [updV, va_up, hq]
abbrev i_Q (Z : gZ) (N : List (String × Nat × MethodName)) (G : gG) (S' : gS) := va_Qv (fun (_ : Unit) => True) (fun _ t => i_W Z N G S' t) (i_A G)
theorem i_callI (hC : CallFix p m c cc nL s args Ts own) (hW : i_H Z NL G s H locs S) {o : Nat} (hM : Met l y ws rm (va_Pc (.ref (G.2.2.1 o) :: As) (i_W Z NL G S)) (i_Q Z NL G S') mc ms (i_A G)) (cw : CallB R s args own index y bytes maxL none ws rm mc ms n ∧ y.name = "<init>" ∧ (Cond.instanceMethod y).before args s = true) (hn : As.length = n) (hsize : ls.size = nL) (hst : st0 = As.reverse ++ .ref (G.2.2.1 o) :: rest) (hWt : (rest.map fun v => v.category).sum ≤ 8) (hdg : decode cc pc = .ok (.invokespecial index, 3)) (hf : cells + mc ≤ R.cells ∧ slots + ms ≤ R.slots)
    (kk : ∀ (H1 : Heap) (locs1 : List Loc), i_H Z NL G s H1 locs1 S' → W p l e R s m args below meth c H1 locs1 (cells + mc) (slots + ms) Q (F0 m (pc + 3) ls rest)) : W p l e R s m args below meth c H locs cells slots Q (F0 m pc ls st0) := by
  subst hst
  refine va_callv (va_runI (As := As) (rest := rest) hC hM cw ⟨i_blind, fun U hU hV => ⟨rfl, i_H_W hW hU hV⟩⟩ rfl hn hsize rfl (lv_room hWt) hdg hf) hW.2.1 (fun q _ h => h) (fun q h => h) (fun u t H1 locs1 ht hvm hw hB hz1 hk1 hS => ?_)
  exact kk H1 locs1 ⟨by rw [← ht]; exact hB.1, hS, hW.2.2.1, hW.2.2.2.1, by rw [← ht]; exact hB.2.2.2.1, hW.2.2.2.2.2⟩
theorem i_callN (hC : CallFix p m c cc nL s args Ts own) (hW : i_H Z NL G s H locs S) {o : Nat} {host : String} (hM : Met l y ws rm (va_Pc (.ref (G.2.2.1 o) :: As) (i_W Z NL G S)) (i_Q Z NL G S') mc ms (i_A G)) (cw : va_CN R s args own index y host bytes maxL none ws rm mc ms n ∧ y.name = "<init>" ∧ (Cond.instanceMethod y).before args s = true) (hn : As.length = n) (hsize : ls.size = nL) (hst : st0 = As.reverse ++ .ref (G.2.2.1 o) :: rest) (hWt : (rest.map fun v => v.category).sum ≤ 8) (hdg : decode cc pc = .ok (.invokespecial index, 3)) (hf : cells + mc ≤ R.cells ∧ slots + ms ≤ R.slots)
    (kk : ∀ (H1 : Heap) (locs1 : List Loc), i_H Z NL G s H1 locs1 S' → W p l e R s m args below meth c H1 locs1 (cells + mc) (slots + ms) Q (F0 m (pc + 3) ls rest)) : W p l e R s m args below meth c H locs cells slots Q (F0 m pc ls st0) := by
  subst hst
  refine va_callv (va_runIN (As := As) (rest := rest) hC hM cw ⟨i_blind, fun U hU hV => ⟨rfl, i_H_W hW hU hV⟩⟩ rfl hn hsize rfl (lv_room hWt) hdg hf) hW.2.1 (fun q _ h => h) (fun q h => h) (fun u t H1 locs1 ht hvm hw hB hz1 hk1 hS => ?_)
  exact kk H1 locs1 ⟨by rw [← ht]; exact hB.1, hS, hW.2.2.1, hW.2.2.2.1, by rw [← ht]; exact hB.2.2.2.1, hW.2.2.2.2.2⟩
theorem i_vret (hC : CallFix p m c cc nL s args Ts own) (hW : i_H Z NL G s H locs S) (hr : meth.sig.returnType = none) (hlocks : meth.locks = false) (hm : S = S') (h1 : cells ≤ mc) (h2 : slots ≤ ms) (hdg : decode cc pc = .ok (.return_, 1)) : W p l e R s m args below meth c H locs cells slots (MQ below (i_Q Z NL G S') args s mc ms (i_A G)) (F0 m pc ls []) := by
  subst hm
  refine W.widen h1 h2 ?_
  exact W.vret hC.1 hC.2.1 hr (fun t ht hV => ⟨⟨(), rfl, trivial, i_H_W hW ht hV⟩, hW.2.1.F ht⟩) hW.2.1.2.2 hdg hlocks
theorem i_start {g : JFrame} (hW : i_H Z NL G s s.heap [] S) (k : ∀ (H : Heap) (locs : List Loc), i_H Z NL G s H locs S → W p l e R s m args below meth c H locs cells slots Q g) : W p l e R s m args below meth c s.heap [] cells slots Q g := k _ _ hW
end IROWS
