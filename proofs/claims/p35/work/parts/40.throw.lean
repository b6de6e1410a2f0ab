def g_xn (k : Nat) : String := match k with
  | 1 => "java/lang/IndexOutOfBoundsException"
  | 2 => "java/lang/IllegalArgumentException"
  | _ => "java/lang/IllegalStateException"
def g_xnames : List String := ["java/lang/RuntimeException", "java/lang/Exception"]
def g_xw : List Cond := ((vx_at0 RX9 224 (g_xn 1) g_xnames ++ vx_at0 RX9 225 (g_xn 2) g_xnames ++ vx_at0 RX9 228 (g_xn 3) g_xnames ++ vx_atS RX9 121 (g_xn 2) g_xnames).filter (fun w => !goodWord w))
def g_xs : String := "a right is from a zone to another one"
def g_X (Z : gZ) (G : gG) (U : State) : Prop := vx_Zq Bundle.tN "UNASSIGNED_STACK" Bundle.steD (g_A Z G) U U.heap ∧ vx_Zq Bundle.tN "SUPPRESSED_SENTINEL" Bundle.listD (g_A Z G) U U.heap ∧ (∀ w ∈ g_xw, va_Nw w U) ∧ ∃ sa, vk_R RX9 119 g_xs sa U
def g_WX (Z : gZ) (G : gG) (m : gM) (U : State) : Prop := g_W Z G m U ∧ g_X Z G U
def ox {α β : Type} (x : Option (Nat ⊕ α)) (k : α → Option (Nat ⊕ β)) : Option (Nat ⊕ β) := match x with
  | some (.inl c) => some (.inl c)
  | some (.inr a) => k a
  | none => none
theorem ox_inv {α β : Type} {x : Option (Nat ⊕ α)} {k : α → Option (Nat ⊕ β)} {r : Nat ⊕ β} (h : ox x k = some r) : ∃ v, x = some v ∧ (∀ c, v = .inl c → r = .inl c) ∧ (∀ a, v = .inr a → k a = some r) := by
  cases x with
  | none => cases h
  | some v =>
    refine ⟨v, rfl, fun a ha => ?_, fun a ha => ?_⟩
    · subst ha; exact (Option.some.inj h).symm
    · subst ha; exact h
abbrev g_XC {ρ : Type} (Z : gZ) (G : gG) (r0 : Nat ⊕ ρ) (m : gM) : String → State → State → Prop := vx_X (fun (k : Nat) => r0 = .inl k) (fun E k t => E = g_xn k ∧ va_P G.1 vwCl (g_ws Z G m) t.heap) (g_A Z G)
abbrev g_Qxu (Z : gZ) (G : gG) (r0 : Nat ⊕ Unit) (m : gM) := va_Qv (fun (_ : Unit) => r0 = .inr ()) (fun _ t => g_W Z G m t) (g_A Z G)
abbrev g_Qxm (Z : gZ) (G : gG) (r0 : Nat ⊕ gM) := va_Qv (fun (u : gM) => r0 = .inr u) (fun u t => g_W Z G u t) (g_A Z G)
abbrev g_Qxi (Z : gZ) (G : gG) (r0 : Nat ⊕ Int32) (m : gM) := va_Qi (fun (r : Int32) (_ : Unit) => r0 = .inr r) (fun _ t => g_W Z G m t) (g_A Z G)
abbrev g_Qxw (Z : gZ) (G : gG) (r0 : Nat ⊕ (Int32 × gM)) := va_Qi (fun (r : Int32) (u : gM) => r0 = .inr (r, u)) (fun u t => g_W Z G u t) (g_A Z G)
def g_dc (w : Cond) : Bool := match w with
  | .declares _ => true
  | .castable _ _ => true
  | _ => false
theorem g_xw_dc : ∀ w ∈ g_xw, g_dc w = true := by decide +kernel
theorem g_xw_moved {s U : State} (hW : s.WarmedH U.vm) (h : ∀ w ∈ g_xw, va_Nw w s) : ∀ w ∈ g_xw, va_Nw w U := by
  intro w hw
  have h1 := g_xw_dc w hw
  have h2 := h w hw
  cases w <;> first | exact va_Nw.warmD hW h2 | exact va_Nw.warmC hW h2 | cases h1
theorem g_xw_same {s U : State} (hv : s.vm = U.vm) (h : ∀ w ∈ g_xw, va_Nw w s) : ∀ w ∈ g_xw, va_Nw w U := by
  intro w hw
  have h1 := g_xw_dc w hw
  have h2 := h w hw
  cases w <;> first | exact va_Nw.same rfl hv h2 | cases h1
theorem g_X_moved {Z : gZ} {G : gG} {s U : State} {H : Heap} {locs : List Loc} (hW : s.WarmedH U.vm) (hS : va_S (g_A Z G) s.heap H locs) (hU : U.heap = H) (h : g_X Z G s) : g_X Z G U := by
  obtain ⟨h1, h2, h3, sa, h4⟩ := h
  refine ⟨?_, ?_, g_xw_moved hW h3, sa, vk_R.warm hW h4⟩
  · rw [hU]; exact (h1.moved hW.alike).kept (fun a ha hA => hS.2.1 a ha hA)
  · rw [hU]; exact (h2.moved hW.alike).kept (fun a ha hA => hS.2.1 a ha hA)
theorem g_blindX {Z : gZ} {G : gG} {m : gM} {av : List Value} : FrameBlind (va_Pc av (g_WX Z G m)) := by
  intro a U g mk h
  obtain ⟨h0, hw, h1, h2, h3, sa, h4⟩ := h
  have hb := (g_blind (Z := Z) (G := G) (m := m) (av := av)) a U g mk ⟨h0, hw⟩
  refine ⟨h0, hb.2, ?_, ?_, g_xw_same (s := U) (U := U.calling g mk a) rfl h3, sa, vk_R.same (u := U) (U := U.calling g mk a) rfl h4⟩
  · exact h1.moved (u := U) (U := U.calling g mk a) (Vm.Alike.refl U.vm)
  · exact h2.moved (u := U) (U := U.calling g mk a) (Vm.Alike.refl U.vm)
section GTHROW
variable {p : Program} {l : Launch} {e : Env} {R : Room} {s : State} {m : MethodId} {args : Array Value} {below : List Frame} {meth : Method} {c : Code} {H : Heap} {locs : List Loc} {cells slots mc ms mcT msT : Nat} {Q : State → Prop} {Qc : Array Value → State → Outcome → State → Prop}
variable {cc : ByteArray} {pc nL : Nat} {ls : Array Slot} {rest st0 As : List Value} {Ts : List Cond} {own : String} {Z : gZ} {G : gG} {me me' : gM} {y : MethodName} {bytes : ByteArray} {maxL n index : Nat} {ret : Option FieldType} {ws : List Cond} {rm : Room} {ρ : Type} {r0 : Nat ⊕ ρ}
theorem g_cXS (hC : CallFix p m c cc nL s args Ts own) (hW : g_H Z G s H locs me) (hX : g_X Z G s) {v : Nat ⊕ Unit} (hM : vx_Met l y ws rm (va_Pc As (g_WX Z G me)) (g_Qxu Z G v me) (g_XC Z G v me) mc ms (g_A Z G)) (hv : ∀ k, v = .inl k → r0 = .inl k) (cw : CallB R s args own index y bytes maxL ret ws rm mc ms n ∧ (Cond.static y).before args s = true) (hn : As.length = n) (hsize : ls.size = nL) (hst : st0 = As.reverse ++ rest) (hWt : (rest.map fun v => v.category).sum ≤ 8) (hdg : decode cc pc = .ok (.invokestatic index, 3)) (hf : cells + mc ≤ R.cells ∧ slots + ms ≤ R.slots) (hT : cells + mc ≤ mcT ∧ slots + ms ≤ msT) (hnoh : ∀ x ∈ c.exceptionTable.toList, False) (hlocks : meth.locks = false) (hQ : Q = vx_MQ below Qc (g_XC Z G r0 me) args s mcT msT (g_A Z G))
    (kk : v = .inr () → ∀ (H1 : Heap) (locs1 : List Loc), g_H Z G s H1 locs1 me → W p l e R s m args below meth c H1 locs1 (cells + mc) (slots + ms) Q (F0 m (pc + 3) ls rest)) : W p l e R s m args below meth c H locs cells slots Q (F0 m pc ls st0) := by
  subst hst
  subst hQ
  refine vx_callv (vx_runS (As := As) (rest := rest) hC hM cw ⟨g_blindX, fun U hU hV => ⟨rfl, g_H_W hW hU hV, g_X_moved hV hW.2.1 hU hX⟩⟩ rfl hn hsize rfl (lv_room hWt) hdg hf) hW.2.1 (fun q _ h => h) (fun q h => h) (fun q _ h => h) (fun E ce q9 k t H1 locs1 ht hvm hk hB hz1 hk1 hS hq hcv hcl => ?_) (fun u t H1 locs1 ht hvm hw hB hz1 hk1 hS => ?_)
  · refine vx_out (E := E) (fun x hx => (hnoh x hx).elim) hlocks hq hcv hcl (fun t2 ht2 hv2 => ⟨k, hv k hk, ⟨hB.1, by rw [ht2, ← ht]; exact hB.2⟩, hS.F ht2⟩) hS.2.2 hT.1 hT.2
  · exact kk hw H1 locs1 ⟨by rw [← ht]; exact hB.1, hS, hW.2.2⟩
theorem g_throw0 (hC : CallFix p m c cc nL s args Ts own) (hW : g_H Z G s H locs me) (hX : g_X Z G s) (hl : l.stackTraces = false) {k ik ic : Nat} (hcls : Bundle.fit (g_xn k) = true) (hk : Cond.classLink own ik (g_xn k) ∈ Ts) (hini : Cond.initialized (g_xn k) ∈ Ts) (hat1 : ∀ w ∈ (vx_at0 own ic (g_xn k) g_xnames).filter goodWord, w ∈ Ts) (hat2 : ∀ w ∈ (vx_at0 own ic (g_xn k) g_xnames).filter (fun w => !goodWord w), w ∈ g_xw)
    (hgood : ∀ w ∈ Cond.classLink own ik (g_xn k) :: Cond.initialized (g_xn k) :: vx_at0 own ic (g_xn k) g_xnames, vx_ot w = true) (hdc : ∀ w ∈ g_xw, w.onTables = true) (hsize : ls.size = nL)
    (d0 : decode cc pc = .ok (.new ik, 3)) (d3 : decode cc (pc + 3) = .ok (.dup, 1)) (d4 : decode cc (pc + 4) = .ok (.invokespecial ic, 3)) (d7 : decode cc (pc + 7) = .ok (.athrow, 1)) (hnoh : ∀ x ∈ c.exceptionTable.toList, False)
    (hRf : 5 < R.frames) (hRl : (rest.map fun v => v.category).sum + 81 ≤ R.locals) (hRc : cells + 1 ≤ R.cells) (hRs : slots + 6 ≤ R.slots) (hlocks : meth.locks = false) (hr0 : r0 = .inl k) (hc : cells + 1 ≤ mcT) (hs : slots + 6 ≤ msT) (hQ : Q = vx_MQ below Qc (g_XC Z G r0 me) args s mcT msT (g_A Z G)) :
    W p l e R s m args below meth c H locs cells slots Q (F0 m pc ls rest) := by
  subst hQ
  have hts := hC.2.2.2.2
  refine vx_throw0 (names := g_xnames) (ik := ik) (ic := ic) hC.1 hC.2.1 hl hC.2.2.2.1 hcls (by decide +kernel) (hts _ hk) (hts _ hini) (vx_hat (fun w hw => hts w (hat1 w hw)) hat2 (fun w hw => va_Nw.use (hdc w hw) (hX.2.2.1 w hw))) hgood hX.1 hX.2.1 hW.2.1 (hsize.trans hC.2.2.1.symm) d0 d3 d4 d7 (fun x hx => (hnoh x hx).elim) hRf hRl hRc hRs hlocks (fun t hv hsz hq => ?_) hW.2.1.2.2 hc hs
  refine ⟨k, hr0, ⟨rfl, hW.1.kept (fun j q hj => hq _ (vx_lt hW.1 hj))⟩, Nat.le_trans hW.2.1.1 hsz, fun q h1 h2 => ?_⟩
  rw [hq q (Nat.lt_of_lt_of_le h1 hW.2.1.1)]
  exact hW.2.1.2.1 q h1 h2
theorem g_throwS (hC : CallFix p m c cc nL s args Ts own) (hW : g_H Z G s H locs me) (hX : g_X Z G s) (hl : l.stackTraces = false) {k ik ic is : Nat} (hcls : Bundle.fit (g_xn k) = true) (hown9 : own = RX9) (his : is = 119) (hk : Cond.classLink own ik (g_xn k) ∈ Ts) (hini : Cond.initialized (g_xn k) ∈ Ts) (hat1 : ∀ w ∈ (vx_atS own ic (g_xn k) g_xnames).filter goodWord, w ∈ Ts) (hat2 : ∀ w ∈ (vx_atS own ic (g_xn k) g_xnames).filter (fun w => !goodWord w), w ∈ g_xw)
    (hgood : ∀ w ∈ Cond.classLink own ik (g_xn k) :: Cond.initialized (g_xn k) :: vx_atS own ic (g_xn k) g_xnames, vx_ot w = true) (hdc : ∀ w ∈ g_xw, w.onTables = true) (hsize : ls.size = nL)
    (d0 : decode cc pc = .ok (.new ik, 3)) (d3 : decode cc (pc + 3) = .ok (.dup, 1)) (d4 : decode cc (pc + 4) = .ok (.ldc is, 2)) (d6 : decode cc (pc + 6) = .ok (.invokespecial ic, 3)) (d9 : decode cc (pc + 9) = .ok (.athrow, 1)) (hnoh : ∀ x ∈ c.exceptionTable.toList, False)
    (hRf : 5 < R.frames) (hRl : (rest.map fun v => v.category).sum + 82 ≤ R.locals) (hRc : cells + 1 ≤ R.cells) (hRs : slots + 6 ≤ R.slots) (hlocks : meth.locks = false) (hr0 : r0 = .inl k) (hc : cells + 1 ≤ mcT) (hs : slots + 6 ≤ msT) (hQ : Q = vx_MQ below Qc (g_XC Z G r0 me) args s mcT msT (g_A Z G)) :
    W p l e R s m args below meth c H locs cells slots Q (F0 m pc ls rest) := by
  subst hQ
  subst hown9
  subst his
  have hts := hC.2.2.2.2
  obtain ⟨sa, hsa⟩ := hX.2.2.2
  refine vx_throwS (names := g_xnames) (ik := ik) (ic := ic) (text := g_xs) (sa := sa) hC.1 hC.2.1 hl hC.2.2.2.1 hcls (by decide +kernel) (hts _ hk) (hts _ hini) hsa (vx_hat (fun w hw => hts w (hat1 w hw)) hat2 (fun w hw => va_Nw.use (hdc w hw) (hX.2.2.1 w hw))) hgood hX.1 hX.2.1 hW.2.1 (hsize.trans hC.2.2.1.symm) d0 d3 d4 d6 d9 (fun x hx => (hnoh x hx).elim) hRf hRl hRc hRs hlocks (fun t hv hsz hq => ?_) hW.2.1.2.2 hc hs
  refine ⟨k, hr0, ⟨rfl, hW.1.kept (fun j q hj => hq _ (vx_lt hW.1 hj))⟩, Nat.le_trans hW.2.1.1 hsz, fun q h1 h2 => ?_⟩
  rw [hq q (Nat.lt_of_lt_of_le h1 hW.2.1.1)]
  exact hW.2.1.2.1 q h1 h2
theorem g_xvretu {XC : String → State → State → Prop} {r0 : Nat ⊕ Unit} (hC : CallFix p m c cc nL s args Ts own) (hW : g_H Z G s H locs me) (hr : meth.sig.returnType = none) (hlocks : meth.locks = false) (hv : r0 = .inr ()) (h1 : cells ≤ mcT) (h2 : slots ≤ msT) (hdg : decode cc pc = .ok (.return_, 1)) : W p l e R s m args below meth c H locs cells slots (vx_MQ below (g_Qxu Z G r0 me) XC args s mcT msT (g_A Z G)) (F0 m pc ls []) := by
  refine W.widen h1 h2 (vx_ret ?_)
  exact W.vret hC.1 hC.2.1 hr (fun t ht hV => ⟨⟨(), rfl, hv, g_H_W hW ht hV⟩, hW.2.1.F ht⟩) hW.2.1.2.2 hdg hlocks
theorem g_xvretm {XC : String → State → State → Prop} {r0 : Nat ⊕ gM} (hC : CallFix p m c cc nL s args Ts own) (hW : g_H Z G s H locs me) (hr : meth.sig.returnType = none) (hlocks : meth.locks = false) (hv : r0 = .inr me) (h1 : cells ≤ mcT) (h2 : slots ≤ msT) (hdg : decode cc pc = .ok (.return_, 1)) : W p l e R s m args below meth c H locs cells slots (vx_MQ below (g_Qxm Z G r0) XC args s mcT msT (g_A Z G)) (F0 m pc ls []) := by
  refine W.widen h1 h2 (vx_ret ?_)
  exact W.vret hC.1 hC.2.1 hr (fun t ht hV => ⟨⟨me, rfl, hv, g_H_W hW ht hV⟩, hW.2.1.F ht⟩) hW.2.1.2.2 hdg hlocks
theorem g_xireti {XC : String → State → State → Prop} {v : Int32} {r0 : Nat ⊕ Int32} (hC : CallFix p m c cc nL s args Ts own) (hW : g_H Z G s H locs me) (hr : meth.sig.returnType = some .int) (hlocks : meth.locks = false) (hv : r0 = .inr v) (h1 : cells ≤ mcT) (h2 : slots ≤ msT) (hdg : decode cc pc = .ok (.ireturn, 1)) : W p l e R s m args below meth c H locs cells slots (vx_MQ below (g_Qxi Z G r0 me) XC args s mcT msT (g_A Z G)) (F0 m pc ls [.int v]) := by
  refine W.widen h1 h2 (vx_ret ?_)
  exact W.iret (v := v) hC.1 hC.2.1 hr (fun t ht hV => ⟨⟨v, (), rfl, hv, g_H_W hW ht hV⟩, hW.2.1.F ht⟩) hW.2.1.2.2 hdg hlocks
theorem g_xzreti {XC : String → State → State → Prop} {v : Int32} {r0 : Nat ⊕ Int32} (hC : CallFix p m c cc nL s args Ts own) (hW : g_H Z G s H locs me) (hr : meth.sig.returnType = some .boolean) (hlocks : meth.locks = false) (hn : narrow .boolean (.int v) = .int v) (hv : r0 = .inr v) (h1 : cells ≤ mcT) (h2 : slots ≤ msT) (hdg : decode cc pc = .ok (.ireturn, 1)) : W p l e R s m args below meth c H locs cells slots (vx_MQ below (g_Qxi Z G r0 me) XC args s mcT msT (g_A Z G)) (F0 m pc ls [.int v]) := by
  refine W.widen h1 h2 (vx_ret ?_)
  exact W.zret (v := v) (ty := .boolean) hC.1 hC.2.1 hr hn (fun t ht hV => ⟨⟨v, (), rfl, hv, g_H_W hW ht hV⟩, hW.2.1.F ht⟩) hW.2.1.2.2 hdg hlocks
theorem g_xiretw {XC : String → State → State → Prop} {v : Int32} {r0 : Nat ⊕ (Int32 × gM)} (hC : CallFix p m c cc nL s args Ts own) (hW : g_H Z G s H locs me) (hr : meth.sig.returnType = some .int) (hlocks : meth.locks = false) (hv : r0 = .inr (v, me)) (h1 : cells ≤ mcT) (h2 : slots ≤ msT) (hdg : decode cc pc = .ok (.ireturn, 1)) : W p l e R s m args below meth c H locs cells slots (vx_MQ below (g_Qxw Z G r0) XC args s mcT msT (g_A Z G)) (F0 m pc ls [.int v]) := by
  refine W.widen h1 h2 (vx_ret ?_)
  exact W.iret (v := v) hC.1 hC.2.1 hr (fun t ht hV => ⟨⟨v, me, rfl, hv, g_H_W hW ht hV⟩, hW.2.1.F ht⟩) hW.2.1.2.2 hdg hlocks
end GTHROW
theorem g_xw_ot : ∀ w ∈ g_xw, w.onTables = true := by decide +kernel
theorem g_hat2_1 : ∀ w ∈ (vx_at0 RX9 224 (g_xn 1) g_xnames).filter (fun w => !goodWord w), w ∈ g_xw := fun w hw => List.mem_filter.mpr ⟨List.mem_append_left _ (List.mem_append_left _ (List.mem_append_left _ (List.mem_filter.mp hw).1)), (List.mem_filter.mp hw).2⟩
theorem g_hat2_2 : ∀ w ∈ (vx_at0 RX9 225 (g_xn 2) g_xnames).filter (fun w => !goodWord w), w ∈ g_xw := fun w hw => List.mem_filter.mpr ⟨List.mem_append_left _ (List.mem_append_left _ (List.mem_append_right _ (List.mem_filter.mp hw).1)), (List.mem_filter.mp hw).2⟩
theorem g_hat2_3 : ∀ w ∈ (vx_at0 RX9 228 (g_xn 3) g_xnames).filter (fun w => !goodWord w), w ∈ g_xw := fun w hw => List.mem_filter.mpr ⟨List.mem_append_left _ (List.mem_append_right _ (List.mem_filter.mp hw).1), (List.mem_filter.mp hw).2⟩
theorem g_hat2S : ∀ w ∈ (vx_atS RX9 121 (g_xn 2) g_xnames).filter (fun w => !goodWord w), w ∈ g_xw := fun w hw => List.mem_filter.mpr ⟨List.mem_append_right _ (List.mem_filter.mp hw).1, (List.mem_filter.mp hw).2⟩
