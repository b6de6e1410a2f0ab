def g_nc (_ : State) : Prop := True
def g_WY (Z : gZ) (G : gG) (m : gM) (U : State) : Prop := g_WX Z G m U ∧ g_nc U
def a_lst (n a : Nat) (i : Int32) (v : Int64) (m : gM) : Option gM := if v.toInt32.toInt64 = v then a_st n a i v.toInt32 m else none
theorem g_nc_moved {u U : State} (_ : u.vm.Alike U.vm) (_ : g_nc u) : g_nc U := trivial
theorem g_blindY {Z : gZ} {G : gG} {m : gM} {av : List Value} : FrameBlind (va_Pc av (g_WY Z G m)) := by
  intro a U g mk h
  obtain ⟨h0, hw, hn⟩ := h
  exact ⟨h0, (g_blindX (Z := Z) (G := G) (m := m) (av := av) a U g mk ⟨h0, hw⟩).2, g_nc_moved (u := U) (U := U.calling g mk a) (Vm.Alike.refl U.vm) hn⟩
theorem os_inv2 {α ρ β : Type} {x : Option (α ⊕ ρ)} {k : α → Option β} {h : ρ → Option β} {r : β} (e : os x k h = some r) : ∃ v, x = some v ∧ (∀ a, v = .inl a → k a = some r) ∧ (∀ a, v = .inr a → h a = some r) := os_inv e
theorem ob_inv1 {A γ : Type} {a : A} {k : A → Option γ} {r : γ} (h : ob (some a) k = some r) : k a = some r := h
abbrev g_XN (G : gG) : String → State → State → Prop := vx_X (fun (_ : Unit) => False) (fun _ _ _ => True) (g_A ZC G)
section GWRAP
variable {p : Program} {l : Launch} {e : Env} {R : Room} {s : State} {m : MethodId} {args : Array Value} {below : List Frame} {meth : Method} {c : Code} {H : Heap} {locs : List Loc} {cells slots mc ms mcT msT : Nat} {Q : State → Prop}
variable {cc : ByteArray} {pc nL : Nat} {ls : Array Slot} {rest st0 As : List Value} {Ts : List Cond} {own : String} {Z : gZ} {G : gG} {me me' : gM} {y : MethodName} {bytes : ByteArray} {maxL n index : Nat} {ret : Option FieldType} {ws : List Cond} {rm : Room}
theorem g_cXVw (hC : CallFix p m c cc nL s args Ts own) (hW : g_H Z G s H locs me) (hX : g_X Z G s) {o ci : Nat} {q : vw_C} (ho : Z.2.1 o = ci + 1) (hlt : o < Z.1) (hc : vwCl[ci]? = some q) {v : Nat ⊕ (Int32 × gM)} (hM : vx_Met l y ws rm (va_Pc (.ref (G.2.2.1 o) :: As) (g_WX Z G me)) (g_Qxw Z G v) (g_XC Z G v me) mc ms (g_A Z G)) (cw : CallW R s args own q.1 index y bytes maxL ret ws rm mc ms n) (hn : As.length = n) (hsize : ls.size = nL) (hst : st0 = As.reverse ++ .ref (G.2.2.1 o) :: rest) (hWt : (rest.map fun v => v.category).sum ≤ 8) (hdg : decode cc pc = .ok (.invokevirtual index, 3)) (hf : cells + mc ≤ R.cells ∧ slots + ms ≤ R.slots)
    (kx : ∀ k, v = .inl k → ∀ (H1 : Heap) (locs1 : List Loc) (q9 : Addr) (ce : Cell), g_H Z G s H1 locs1 me → H1[q9]? = some ce → ce.vm = .none → s.vm.findClass (g_xn k) = some ce.cls → vx_W p l e R s m args below meth c H1 locs1 (cells + mc) (slots + ms) Q (F0 m pc ls rest) q9)
    (kk : ∀ r m', v = .inr (r, m') → ∀ (H1 : Heap) (locs1 : List Loc), g_H Z G s H1 locs1 m' → W p l e R s m args below meth c H1 locs1 (cells + mc) (slots + ms) Q (F0 m (pc + 3) ls (.int r :: rest))) : W p l e R s m args below meth c H locs cells slots Q (F0 m pc ls st0) := by
  subst hst
  refine vx_calli (vx_runV (As := As) (rest := rest) hC hM cw ⟨g_blindX, g_recv hW ho hlt hc, fun U hU hV => ⟨rfl, g_H_W hW hU hV, g_X_moved hV hW.2.1 hU hX⟩⟩ rfl hn hsize rfl (lv_room hWt) hdg hf) hW.2.1 (fun q _ h => h) (fun q h => h) (fun q _ h => h) (fun E ce q9 k t H1 locs1 ht hvm hk hB hz1 hk1 hS hq hcv hcl => ?_) (fun r u t H1 locs1 ht hvm hw hB hz1 hk1 hS => ?_)
  · refine kx k hk H1 locs1 q9 ce ⟨by rw [← ht]; exact hB.2, hS, hW.2.2⟩ hq hcv ?_
    rw [← hB.1]; exact hcl
  · exact kk r u hw H1 locs1 ⟨by rw [← ht]; exact hB.1, hS, hW.2.2⟩
theorem g_cXVi (hC : CallFix p m c cc nL s args Ts own) (hW : g_H Z G s H locs me) (hX : g_X Z G s) {o ci : Nat} {q : vw_C} (ho : Z.2.1 o = ci + 1) (hlt : o < Z.1) (hc : vwCl[ci]? = some q) {v : Nat ⊕ Int32} (hM : vx_Met l y ws rm (va_Pc (.ref (G.2.2.1 o) :: As) (g_WX Z G me)) (g_Qxi Z G v me) (g_XC Z G v me) mc ms (g_A Z G)) (cw : CallW R s args own q.1 index y bytes maxL ret ws rm mc ms n) (hn : As.length = n) (hsize : ls.size = nL) (hst : st0 = As.reverse ++ .ref (G.2.2.1 o) :: rest) (hWt : (rest.map fun v => v.category).sum ≤ 8) (hdg : decode cc pc = .ok (.invokevirtual index, 3)) (hf : cells + mc ≤ R.cells ∧ slots + ms ≤ R.slots)
    (kx : ∀ k, v = .inl k → ∀ (H1 : Heap) (locs1 : List Loc) (q9 : Addr) (ce : Cell), g_H Z G s H1 locs1 me → H1[q9]? = some ce → ce.vm = .none → s.vm.findClass (g_xn k) = some ce.cls → vx_W p l e R s m args below meth c H1 locs1 (cells + mc) (slots + ms) Q (F0 m pc ls rest) q9)
    (kk : ∀ r, v = .inr r → ∀ (H1 : Heap) (locs1 : List Loc), g_H Z G s H1 locs1 me → W p l e R s m args below meth c H1 locs1 (cells + mc) (slots + ms) Q (F0 m (pc + 3) ls (.int r :: rest))) : W p l e R s m args below meth c H locs cells slots Q (F0 m pc ls st0) := by
  subst hst
  refine vx_calli (vx_runV (As := As) (rest := rest) hC hM cw ⟨g_blindX, g_recv hW ho hlt hc, fun U hU hV => ⟨rfl, g_H_W hW hU hV, g_X_moved hV hW.2.1 hU hX⟩⟩ rfl hn hsize rfl (lv_room hWt) hdg hf) hW.2.1 (fun q _ h => h) (fun q h => h) (fun q _ h => h) (fun E ce q9 k t H1 locs1 ht hvm hk hB hz1 hk1 hS hq hcv hcl => ?_) (fun r u t H1 locs1 ht hvm hw hB hz1 hk1 hS => ?_)
  · refine kx k hk H1 locs1 q9 ce ⟨by rw [← ht]; exact hB.2, hS, hW.2.2⟩ hq hcv ?_
    rw [← hB.1]; exact hcl
  · exact kk r hw H1 locs1 ⟨by rw [← ht]; exact hB.1, hS, hW.2.2⟩
theorem g_cXVm (hC : CallFix p m c cc nL s args Ts own) (hW : g_H Z G s H locs me) (hX : g_X Z G s) {o ci : Nat} {q : vw_C} (ho : Z.2.1 o = ci + 1) (hlt : o < Z.1) (hc : vwCl[ci]? = some q) {v : Nat ⊕ gM} (hM : vx_Met l y ws rm (va_Pc (.ref (G.2.2.1 o) :: As) (g_WX Z G me)) (g_Qxm Z G v) (g_XC Z G v me) mc ms (g_A Z G)) (cw : CallW R s args own q.1 index y bytes maxL ret ws rm mc ms n) (hn : As.length = n) (hsize : ls.size = nL) (hst : st0 = As.reverse ++ .ref (G.2.2.1 o) :: rest) (hWt : (rest.map fun v => v.category).sum ≤ 8) (hdg : decode cc pc = .ok (.invokevirtual index, 3)) (hf : cells + mc ≤ R.cells ∧ slots + ms ≤ R.slots)
    (kx : ∀ k, v = .inl k → ∀ (H1 : Heap) (locs1 : List Loc) (q9 : Addr) (ce : Cell), g_H Z G s H1 locs1 me → H1[q9]? = some ce → ce.vm = .none → s.vm.findClass (g_xn k) = some ce.cls → vx_W p l e R s m args below meth c H1 locs1 (cells + mc) (slots + ms) Q (F0 m pc ls rest) q9)
    (kk : ∀ m', v = .inr m' → ∀ (H1 : Heap) (locs1 : List Loc), g_H Z G s H1 locs1 m' → W p l e R s m args below meth c H1 locs1 (cells + mc) (slots + ms) Q (F0 m (pc + 3) ls rest)) : W p l e R s m args below meth c H locs cells slots Q (F0 m pc ls st0) := by
  subst hst
  refine vx_callv (vx_runV (As := As) (rest := rest) hC hM cw ⟨g_blindX, g_recv hW ho hlt hc, fun U hU hV => ⟨rfl, g_H_W hW hU hV, g_X_moved hV hW.2.1 hU hX⟩⟩ rfl hn hsize rfl (lv_room hWt) hdg hf) hW.2.1 (fun q _ h => h) (fun q h => h) (fun q _ h => h) (fun E ce q9 k t H1 locs1 ht hvm hk hB hz1 hk1 hS hq hcv hcl => ?_) (fun u t H1 locs1 ht hvm hw hB hz1 hk1 hS => ?_)
  · refine kx k hk H1 locs1 q9 ce ⟨by rw [← ht]; exact hB.2, hS, hW.2.2⟩ hq hcv ?_
    rw [← hB.1]; exact hcl
  · exact kk u hw H1 locs1 ⟨by rw [← ht]; exact hB.1, hS, hW.2.2⟩
theorem g_yiret {XC : String → State → State → Prop} {v r : Int32} (hC : CallFix p m c cc nL s args Ts own) (hW : g_H Z G s H locs me) (hr : meth.sig.returnType = some .int) (hlocks : meth.locks = false) (hv : v = r) (hm : me = me') (h1 : cells ≤ mcT) (h2 : slots ≤ msT) (hdg : decode cc pc = .ok (.ireturn, 1)) : W p l e R s m args below meth c H locs cells slots (vx_MQ below (g_Qi Z G r me') XC args s mcT msT (g_A Z G)) (F0 m pc ls [.int v]) := by
  subst hv
  subst hm
  refine W.widen h1 h2 (vx_ret ?_)
  exact W.iret (v := v) hC.1 hC.2.1 hr (fun t ht hV => ⟨⟨v, (), rfl, rfl, g_H_W hW ht hV⟩, hW.2.1.F ht⟩) hW.2.1.2.2 hdg hlocks
end GWRAP
