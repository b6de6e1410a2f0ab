abbrev gZ : Type := Nat × (Nat → Nat) × (Nat → Nat) × (Nat → Nat → Nat)
abbrev gM : Type := Nat → Nat → Int32
abbrev gG : Type := va_G × (Nat → ClassId) × (Nat → Nat) × Nat
def g_up (m : gM) (a : Nat) (f : Nat → Int32) : gM := fun c => if c = a then f else m c
theorem g_up_at (m : gM) (a : Nat) (f : Nat → Int32) : g_up m a f a = f := if_pos rfl
theorem g_up_ne (m : gM) {a b : Nat} (f : Nat → Int32) (h : b ≠ a) : g_up m a f b = m b := if_neg h
def ob {α β : Type} (x : Option α) (k : α → Option β) : Option β := match x with
  | some a => k a
  | none => none
theorem ob_some {α β : Type} (a : α) (k : α → Option β) : ob (some a) k = k a := rfl
theorem ob_inv {α β : Type} {x : Option α} {k : α → Option β} {r : β} (h : ob x k = some r) : ∃ a, x = some a ∧ k a = some r := by
  cases x with
  | none => cases h
  | some a => exact ⟨a, rfl, h⟩
def os {α ρ β : Type} (x : Option (α ⊕ ρ)) (k : α → Option β) (h : ρ → Option β) : Option β := match x with
  | some (.inl a) => k a
  | some (.inr a) => h a
  | none => none
theorem os_l {α ρ β : Type} (a : α) (k : α → Option β) (h : ρ → Option β) : os (some (.inl a)) k h = k a := rfl
theorem os_r {α ρ β : Type} (a : ρ) (k : α → Option β) (h : ρ → Option β) : os (some (.inr a)) k h = h a := rfl
theorem os_inv {α ρ β : Type} {x : Option (α ⊕ ρ)} {k : α → Option β} {h : ρ → Option β} {r : β} (e : os x k h = some r) : ∃ v, x = some v ∧ (∀ a, v = .inl a → k a = some r) ∧ (∀ a, v = .inr a → h a = some r) := by
  cases x with
  | none => cases e
  | some v =>
    refine ⟨v, rfl, fun a ha => ?_, fun a ha => ?_⟩
    · subst ha; exact e
    · subst ha; exact e
def a_ld (n a : Nat) (i : Int32) (m : gM) : Option Int32 := if i < 0 ∨ n ≤ i.toNatClampNeg then none else some (m a i.toNatClampNeg)
def a_st (n a : Nat) (i v : Int32) (m : gM) : Option gM := if i < 0 ∨ n ≤ i.toNatClampNeg then none else some (g_up m a (upd (m a) i.toNatClampNeg v))
def a_zst (n a : Nat) (i v : Int32) (m : gM) : Option gM := if i < 0 ∨ n ≤ i.toNatClampNeg then none else if v = 0 ∨ v = 1 then some (g_up m a (upd (m a) i.toNatClampNeg v)) else none
def a_rf (n b w : Nat) (i : Int32) : Option Nat := if i < 0 ∨ n ≤ i.toNatClampNeg then none else some (b + w * i.toNatClampNeg)
def a_zc (v : Int32) : Option Int32 := if v = 0 ∨ v = 1 then some v else none
def a_dv (x y : Int64) : Option Int64 := if y = 0 then none else some (x / y)
def a_max (x y : Int32) : Int32 := if x < y then y else x
def a_min (x y : Int32) : Int32 := if y < x then y else x
def a_abs (x : Int32) : Int32 := if 0 ≤ x then x else 0 - x
def f_fuel : Nat := 100000
theorem a_ld_inv {n a : Nat} {i v : Int32} {m : gM} (h : a_ld n a i m = some v) : vp_in i n ∧ m a i.toNatClampNeg = v := by
  unfold a_ld at h
  by_cases c : i < 0 ∨ n ≤ i.toNatClampNeg
  · rw [if_pos c] at h; cases h
  · rw [if_neg c] at h; exact ⟨c, Option.some.inj h⟩
theorem a_st_inv {n a : Nat} {i v : Int32} {m m' : gM} (h : a_st n a i v m = some m') : vp_in i n ∧ g_up m a (upd (m a) i.toNatClampNeg v) = m' := by
  unfold a_st at h
  by_cases c : i < 0 ∨ n ≤ i.toNatClampNeg
  · rw [if_pos c] at h; cases h
  · rw [if_neg c] at h; exact ⟨c, Option.some.inj h⟩
theorem a_zc_inv {v r : Int32} (h : a_zc v = some r) : v = r ∧ narrow .boolean (.int r) = .int r := by
  unfold a_zc at h
  by_cases c : v = 0 ∨ v = 1
  · rw [if_pos c] at h
    have e := Option.some.inj h
    subst e
    refine ⟨rfl, ?_⟩
    rcases c with rfl | rfl <;> rfl
  · rw [if_neg c] at h; cases h
theorem a_zst_inv {n a : Nat} {i v : Int32} {m m' : gM} (h : a_zst n a i v m = some m') : vp_in i n ∧ g_up m a (upd (m a) i.toNatClampNeg (vp_nar .boolean v)) = m' := by
  unfold a_zst at h
  by_cases c : i < 0 ∨ n ≤ i.toNatClampNeg
  · rw [if_pos c] at h; cases h
  · rw [if_neg c] at h
    by_cases d : v = 0 ∨ v = 1
    · rw [if_pos d] at h
      refine ⟨c, ?_⟩
      rw [show vp_nar .boolean v = v from by rcases d with rfl | rfl <;> rfl]
      exact Option.some.inj h
    · rw [if_neg d] at h; cases h
theorem a_rf_inv {n b w : Nat} {i : Int32} {r : Nat} (h : a_rf n b w i = some r) : vp_in i n ∧ r = b + w * i.toNatClampNeg ∧ i.toNatClampNeg < n := by
  unfold a_rf at h
  by_cases c : i < 0 ∨ n ≤ i.toNatClampNeg
  · rw [if_pos c] at h; cases h
  · rw [if_neg c] at h; exact ⟨c, (Option.some.inj h).symm, Nat.not_le.mp fun q => c (Or.inr q)⟩
theorem a_dv_inv {x y r : Int64} (h : a_dv x y = some r) : ¬ y = 0 ∧ x / y = r := by
  unfold a_dv at h
  by_cases c : y = 0
  · rw [if_pos c] at h; cases h
  · rw [if_neg c] at h; exact ⟨c, Option.some.inj h⟩
theorem a_if_t {α : Type} {c : Prop} [Decidable c] {a b r : α} (h : c) (e : (if c then a else b) = r) : a = r := by rw [if_pos h] at e; exact e
theorem a_if_f {α : Type} {c : Prop} [Decidable c] {a b r : α} (h : ¬ c) (e : (if c then a else b) = r) : b = r := by rw [if_neg h] at e; exact e

def g_ty (ci k : Nat) : FieldType := match ci with
  | 0 => tyX0 k | 1 => tyX1 k | 2 => tyX2 k | 3 => tyX3 k | 4 => tyX4 k | 5 => tyX5 k | 6 => tyX6 k | 7 => tyX7 k | 8 => tyX8 k | 9 => tyX9 k | _ => tyX10 k
def g_isI (t : FieldType) : Bool := match t with
  | .int => true
  | _ => false
def g_n (ci : Nat) : Nat := ((vwCl[ci]?).map (fun q => q.2.2)).getD 0
def g_rf (G : gG) (r : Nat) : Option Nat := if r = 0 then none else some (G.2.2.1 (r - 1))
def g_fs (G : gG) (ci : Nat) (rf : Nat → Nat) (r : Nat → Int32) : List Value := (List.range (g_n ci)).map (fun k => if g_isI (g_ty ci k) then .int (r k) else va_rf (g_rf G (rf k)))
def g_en (Z : gZ) (G : gG) (c : Nat) (r : Nat → Int32) : va_E :=
  if Z.2.1 c = 20 then .inl (G.2.1 0, Z.2.2.1 c, .inl r)
  else if Z.2.1 c = 21 then .inl (G.2.1 1, Z.2.2.1 c, .inl r)
  else if Z.2.1 c = 22 then .inl (G.2.1 2, Z.2.2.1 c, .inr (.inl (fun j => (r j).toInt64)))
  else if Z.2.1 c = 23 then .inl (G.2.1 3, Z.2.2.1 c, .inr (.inr (.inr (.inr (fun j => g_rf G (Z.2.2.2 c j))))))
  else if Z.2.1 c = 24 then .inl (G.2.1 4, Z.2.2.1 c, .inr (.inr (.inr (.inr (fun j => g_rf G (Z.2.2.2 c j))))))
  else .inr (Z.2.1 c - 1, g_fs G (Z.2.1 c - 1) (Z.2.2.2 c) r)
def g_ws (Z : gZ) (G : gG) (m : gM) : va_W := (List.range Z.1).map (fun c => (G.2.2.1 c, g_en Z G c (m c)))
abbrev g_tys (G : gG) : List (ClassId × FieldType) := [(G.2.1 0, .int), (G.2.1 1, .boolean), (G.2.1 2, .byte), (G.2.1 3, .object "GridMarket$Curve"), (G.2.1 4, .object "GridMarket$Day")]
def g_A (Z : gZ) (G : gG) : Nat → Prop := fun q => (∃ c, c < Z.1 ∧ q = G.2.2.1 c) ∨ G.2.2.2 ≤ q
def g_inj (Z : gZ) (G : gG) : Prop := ∀ i j, i < Z.1 → j < Z.1 → G.2.2.1 i = G.2.2.1 j → i = j
def g_nest : List (String × Nat × MethodName) := [(RX2, 44, yX9_isMember), (RX2, 54, yX9_spotOf), (RX3, 126, yX9_spotOf), (RX5, 43, yX9_spotOf), (RX5, 52, yX9_placeOf)]
def g_Nw (U : State) : Prop := ∀ q ∈ g_nest, va_Nw (.methodLinkNest q.1 q.2.1 q.2.2 "GridMarket") U
def g_W (Z : gZ) (G : gG) (m : gM) (U : State) : Prop := va_P G.1 vwCl (g_ws Z G m) U.heap ∧ va_K G.1 vwCl (g_tys G) U ∧ g_Nw U ∧ g_inj Z G ∧ G.2.2.2 ≤ U.heap.size
def g_H (Z : gZ) (G : gG) (s : State) (H : Heap) (locs : List Loc) (m : gM) : Prop := va_P G.1 vwCl (g_ws Z G m) H ∧ va_S (g_A Z G) s.heap H locs ∧ va_K G.1 vwCl (g_tys G) s ∧ g_Nw s ∧ g_inj Z G ∧ G.2.2.2 ≤ s.heap.size
theorem g_ws_get {Z : gZ} {G : gG} {m : gM} {c : Nat} (h : c < Z.1) : (g_ws Z G m)[c]? = some (G.2.2.1 c, g_en Z G c (m c)) := by
  simp [g_ws, List.getElem?_map, List.getElem?_range h]
theorem g_ws_inv {Z : gZ} {G : gG} {m : gM} {c : Nat} {q : Nat × va_E} (h : (g_ws Z G m)[c]? = some q) : c < Z.1 ∧ q = (G.2.2.1 c, g_en Z G c (m c)) := by
  have hl : c < Z.1 := by
    have := (List.getElem?_eq_some_iff.mp h).1
    simpa [g_ws] using this
  rw [g_ws_get hl] at h
  exact ⟨hl, (Option.some.inj h).symm⟩
theorem g_ws_set {Z : gZ} {G : gG} {m : gM} {c : Nat} {f : Nat → Int32} {e : va_E} (h : c < Z.1) (he : e = g_en Z G c f) : (g_ws Z G m).set c (G.2.2.1 c, e) = g_ws Z G (g_up m c f) := by
  subst he
  apply List.ext_getElem?
  intro i
  rw [List.getElem?_set]
  by_cases hi : c = i
  · subst hi
    have hl : c < (g_ws Z G m).length := by simpa [g_ws] using h
    rw [if_pos rfl, if_pos hl, g_ws_get h, g_up_at]
  · rw [if_neg hi]
    by_cases hl : i < Z.1
    · rw [g_ws_get hl, g_ws_get hl, g_up_ne _ _ (fun x => hi x.symm)]
    · rw [List.getElem?_eq_none (by simp [g_ws]; omega), List.getElem?_eq_none (by simp [g_ws]; omega)]
theorem g_D {Z : gZ} {G : gG} {m : gM} (h : g_inj Z G) : va_D (g_A Z G) (g_ws Z G m) := by
  refine ⟨fun i j p q hp hq e => ?_, fun k q hq => ?_⟩
  · obtain ⟨hi, rfl⟩ := g_ws_inv hp
    obtain ⟨hj, rfl⟩ := g_ws_inv hq
    exact h i j hi hj e
  · obtain ⟨hk, rfl⟩ := g_ws_inv hq
    exact Or.inl ⟨k, hk, rfl⟩
theorem g_fs_get {G : gG} {ci k : Nat} {rf : Nat → Nat} {r : Nat → Int32} (h : k < g_n ci) : (g_fs G ci rf r)[k]? = some (if g_isI (g_ty ci k) then .int (r k) else va_rf (g_rf G (rf k))) := by
  simp [g_fs, List.getElem?_map, List.getElem?_range h]
theorem g_fs_set {G : gG} {ci k : Nat} {rf : Nat → Nat} {r : Nat → Int32} {x : Int32} (hI : g_isI (g_ty ci k) = true) : (g_fs G ci rf r).set k (.int x) = g_fs G ci rf (upd r k x) := by
  apply List.ext_getElem?
  intro i
  rw [List.getElem?_set]
  by_cases hi : k = i
  · subst hi
    by_cases hl : k < g_n ci
    · have hl2 : k < (g_fs G ci rf r).length := by simpa [g_fs] using hl
      rw [if_pos rfl, if_pos hl2, g_fs_get hl, if_pos hI]
      simp [upd]
    · have hl2 : ¬ k < (g_fs G ci rf r).length := by simpa [g_fs] using hl
      rw [if_pos rfl, if_neg hl2, List.getElem?_eq_none (by simp [g_fs]; omega)]
  · rw [if_neg hi]
    by_cases hl : i < g_n ci
    · rw [g_fs_get hl, g_fs_get hl]
      have hne : i ≠ k := fun e => hi e.symm
      simp [upd, hne]
    · rw [List.getElem?_eq_none (by simp [g_fs]; omega), List.getElem?_eq_none (by simp [g_fs]; omega)]
theorem g_en_o {Z : gZ} {G : gG} {c ci : Nat} {r : Nat → Int32} (h : Z.2.1 c = ci + 1) (hl : ci < 11) : g_en Z G c r = .inr (ci, g_fs G ci (Z.2.2.2 c) r) := by
  have h1 : ¬ Z.2.1 c = 20 := by omega
  have h2 : ¬ Z.2.1 c = 21 := by omega
  have h3 : ¬ Z.2.1 c = 22 := by omega
  have h4 : ¬ Z.2.1 c = 23 := by omega
  have h5 : ¬ Z.2.1 c = 24 := by omega
  have h6 : Z.2.1 c - 1 = ci := by omega
  simp only [g_en, if_neg h1, if_neg h2, if_neg h3, if_neg h4, if_neg h5, h6]
theorem g_en_i {Z : gZ} {G : gG} {c : Nat} {r : Nat → Int32} (h : Z.2.1 c = 20) : g_en Z G c r = .inl (G.2.1 0, Z.2.2.1 c, .inl r) := by
  simp only [g_en, if_pos h]
theorem g_en_z {Z : gZ} {G : gG} {c : Nat} {r : Nat → Int32} (h : Z.2.1 c = 21) : g_en Z G c r = .inl (G.2.1 1, Z.2.2.1 c, .inl r) := by
  simp [g_en, h]
theorem g_en_l {Z : gZ} {G : gG} {c : Nat} {r : Nat → Int32} (h : Z.2.1 c = 22) : g_en Z G c r = .inl (G.2.1 2, Z.2.2.1 c, .inr (.inl (fun j => (r j).toInt64))) := by
  simp [g_en, h]
theorem g_en_rC {Z : gZ} {G : gG} {c : Nat} {r : Nat → Int32} (h : Z.2.1 c = 23) : g_en Z G c r = .inl (G.2.1 3, Z.2.2.1 c, .inr (.inr (.inr (.inr (fun j => g_rf G (Z.2.2.2 c j)))))) := by
  simp [g_en, h]
theorem g_en_rD {Z : gZ} {G : gG} {c : Nat} {r : Nat → Int32} (h : Z.2.1 c = 24) : g_en Z G c r = .inl (G.2.1 4, Z.2.2.1 c, .inr (.inr (.inr (.inr (fun j => g_rf G (Z.2.2.2 c j)))))) := by
  simp [g_en, h]
theorem g_Nw_moved {s U : State} (hW : s.WarmedH U.vm) (h : g_Nw s) : g_Nw U := fun q hq => va_Nw.warmM hW (h q hq)
theorem g_Nw_same {s U : State} (h : s.vm = U.vm) (hN : g_Nw s) : g_Nw U := fun q hq => va_Nw.same rfl h (hN q hq)
theorem g_blind {Z : gZ} {G : gG} {m : gM} {av : List Value} : FrameBlind (va_Pc av (g_W Z G m)) := by
  intro a U g mk h
  obtain ⟨h0, h1, h2, h3, h4, h5⟩ := h
  exact ⟨h0, h1, va_K.moved (u := U) (U := U.calling g mk a) (Vm.Alike.refl U.vm) h2, g_Nw_same (s := U) (U := U.calling g mk a) rfl h3, h4, h5⟩
theorem g_H_enter {Z : gZ} {G : gG} {m : gM} {s : State} (h : g_W Z G m s) : g_H Z G s s.heap [] m := ⟨h.1, va_S.rf, h.2.1, h.2.2.1, h.2.2.2.1, h.2.2.2.2⟩
theorem g_H_W {Z : gZ} {G : gG} {m : gM} {s U : State} {H : Heap} {locs : List Loc} (h : g_H Z G s H locs m) (hU : U.heap = H) (hW : s.WarmedH U.vm) : g_W Z G m U := by
  refine ⟨by rw [hU]; exact h.1, va_K.moved hW.alike h.2.2.1, g_Nw_moved hW h.2.2.2.1, h.2.2.2.2.1, ?_⟩
  rw [hU]
  exact Nat.le_trans h.2.2.2.2.2 h.2.1.1
theorem g_hA {Z : gZ} {G : gG} {m : gM} {s : State} {H : Heap} {locs : List Loc} (h : g_H Z G s H locs m) : ∀ q, s.heap.size ≤ q → g_A Z G q := fun _ hq => Or.inr (Nat.le_trans h.2.2.2.2.2 hq)
section GROWS
variable {p : Program} {l : Launch} {e : Env} {R : Room} {s : State} {m : MethodId} {args : Array Value} {below : List Frame} {meth : Method} {c : Code} {H : Heap} {locs : List Loc} {cells slots : Nat} {Q : State → Prop}
variable {cc : ByteArray} {pc nL : Nat} {ls : Array Slot} {rest : List Value} {Ts : List Cond} {own : String} {Z : gZ} {G : gG} {me : gM}
theorem g_nmi {x y : Int32} (h : x = y) (k : W p l e R s m args below meth c H locs cells slots Q (F0 m pc ls (.int y :: rest))) : W p l e R s m args below meth c H locs cells slots Q (F0 m pc ls (.int x :: rest)) := by
  subst h; exact k
theorem g_nml {x y : Int64} (h : x = y) (k : W p l e R s m args below meth c H locs cells slots Q (F0 m pc ls (.long y :: rest))) : W p l e R s m args below meth c H locs cells slots Q (F0 m pc ls (.long x :: rest)) := by
  subst h; exact k
theorem g_geti (hC : CallFix p m c cc nL s args Ts own) (hW : g_H Z G s H locs me) {o ci k index : Nat} {C : String} {T : u_T} {N : Nat} (ho : Z.2.1 o = ci + 1) (hlt : o < Z.1) (hc : vwCl[ci]? = some (C, T, N)) (hin : ∀ w ∈ u_ws C T N, w ∈ Ts) (hk : k < N) (hI : g_isI (g_ty ci k) = true)
    (hlink : Cond.fieldLink own index (T k).1 (T k).2.1 (T k).2.2.1 ∈ Ts) (hdg : decode cc pc = .ok (.getfield index, 3))
    (kk : W p l e R s m args below meth c H locs cells slots Q (F0 m (pc + 3) ls (.int (me o k) :: rest))) : W p l e R s m args below meth c H locs cells slots Q (F0 m pc ls (.ref (G.2.2.1 o) :: rest)) := by
  have hci : ci < 11 := (Nat.lt_of_lt_of_le (List.getElem?_eq_some_iff.mp hc).1 (show vwCl.length ≤ 11 by decide))
  have hN : g_n ci = N := by rw [g_n, hc]; rfl
  refine va_get (D := G.1) (ci := ci) (fs := g_fs G ci (Z.2.2.2 o) (me o)) (v := .int (me o k)) (C := C) (T := T) (N := N) hC.1 hC.2.1 hC.2.2.2.2 hin hC.2.2.2.1 hW.2.2.1 hW.1 o (by rw [g_ws_get hlt, g_en_o ho hci]) hc k hk (hC.2.2.2.2 _ hlink) (fun _ h9 => h9) ?_ hdg kk
  rw [g_fs_get (by rw [hN]; exact hk), if_pos hI]
theorem g_getr (hC : CallFix p m c cc nL s args Ts own) (hW : g_H Z G s H locs me) {o ci k index t : Nat} {C : String} {T : u_T} {N : Nat} (ho : Z.2.1 o = ci + 1) (hlt : o < Z.1) (hc : vwCl[ci]? = some (C, T, N)) (hin : ∀ w ∈ u_ws C T N, w ∈ Ts) (hk : k < N) (hI : g_isI (g_ty ci k) = false) (hr : Z.2.2.2 o k = t + 1)
    (hlink : Cond.fieldLink own index (T k).1 (T k).2.1 (T k).2.2.1 ∈ Ts) (hdg : decode cc pc = .ok (.getfield index, 3))
    (kk : W p l e R s m args below meth c H locs cells slots Q (F0 m (pc + 3) ls (.ref (G.2.2.1 t) :: rest))) : W p l e R s m args below meth c H locs cells slots Q (F0 m pc ls (.ref (G.2.2.1 o) :: rest)) := by
  have hci : ci < 11 := (Nat.lt_of_lt_of_le (List.getElem?_eq_some_iff.mp hc).1 (show vwCl.length ≤ 11 by decide))
  have hN : g_n ci = N := by rw [g_n, hc]; rfl
  refine va_get (D := G.1) (ci := ci) (fs := g_fs G ci (Z.2.2.2 o) (me o)) (v := .ref (G.2.2.1 t)) (C := C) (T := T) (N := N) hC.1 hC.2.1 hC.2.2.2.2 hin hC.2.2.2.1 hW.2.2.1 hW.1 o (by rw [g_ws_get hlt, g_en_o ho hci]) hc k hk (hC.2.2.2.2 _ hlink) (fun _ h9 => h9) ?_ hdg kk
  rw [g_fs_get (by rw [hN]; exact hk), hI]
  simp [g_rf, hr, va_rf]
theorem g_puti (hC : CallFix p m c cc nL s args Ts own) (hW : g_H Z G s H locs me) {o ci k index : Nat} {C : String} {T : u_T} {N : Nat} {ty0 : Nat → FieldType} (ho : Z.2.1 o = ci + 1) (hlt : o < Z.1) (hc : vwCl[ci]? = some (C, T, N)) (hin : ∀ w ∈ u_ws C T N, w ∈ Ts) (hty : ∀ k, k < N → parseFieldDescriptor (T k).2.2.1 = some (ty0 k)) (hnm : ∀ a, a < N → ∀ b, b < N → a ≠ b → (T a).2.1 ≠ (T b).2.1) (hk : k < N) (hI : g_isI (g_ty ci k) = true) (ht : ty0 k = .int) (hfin : (T k).2.2.2 = false) {x : Int32}
    (hlink : Cond.fieldLink own index (T k).1 (T k).2.1 (T k).2.2.1 ∈ Ts) (hdg : decode cc pc = .ok (.putfield index, 3))
    (kk : ∀ (H1 : Heap) (locs1 : List Loc), g_H Z G s H1 locs1 (g_up me o (upd (me o) k x)) → W p l e R s m args below meth c H1 locs1 cells slots Q (F0 m (pc + 3) ls rest)) : W p l e R s m args below meth c H locs cells slots Q (F0 m pc ls (.int x :: .ref (G.2.2.1 o) :: rest)) := by
  have hci : ci < 11 := (Nat.lt_of_lt_of_le (List.getElem?_eq_some_iff.mp hc).1 (show vwCl.length ≤ 11 by decide))
  have hN : g_n ci = N := by rw [g_n, hc]; rfl
  have hset : (g_ws Z G me).set o (G.2.2.1 o, .inr (ci, (g_fs G ci (Z.2.2.2 o) (me o)).set k (.int x))) = g_ws Z G (g_up me o (upd (me o) k x)) := g_ws_set hlt (by rw [g_fs_set hI, g_en_o ho hci])
  refine va_put (D := G.1) (ci := ci) (fs := g_fs G ci (Z.2.2.2 o) (me o)) (v := .int x) (ty := .int) (C := C) (T := T) (N := N) hC.1 hC.2.1 hC.2.2.2.2 hin ty0 hty hnm hC.2.2.2.1 hW.2.2.1 hW.1 (g_D hW.2.2.2.2.1) hW.2.1 o (by rw [g_ws_get hlt, g_en_o ho hci]) hc k hk (hC.2.2.2.2 _ hlink) (fun _ h9 => h9) hfin (by rw [hty k hk, ht]) rfl rfl (by simpa [g_fs, hN] using hk) hdg (fun H1 locs1 hP hD hS => ?_)
  rw [hset] at hP
  exact kk H1 locs1 ⟨hP, hS, hW.2.2⟩
theorem g_ild (hC : CallFix p m c cc nL s args Ts own) (hW : g_H Z G s H locs me) {a n : Nat} {i v : Int32} (ha : Z.2.1 a = 20) (hlt : a < Z.1) (hn : Z.2.2.1 a = n) (hv : a_ld n a i me = some v) (hdg : decode cc pc = .ok (.iaload, 1))
    (kk : W p l e R s m args below meth c H locs cells slots Q (F0 m (pc + 1) ls (.int v :: rest))) : W p l e R s m args below meth c H locs cells slots Q (F0 m pc ls (.int i :: .ref (G.2.2.1 a) :: rest)) := by
  obtain ⟨h1, rfl⟩ := a_ld_inv hv
  exact va_iald hC.1 hC.2.1 hW.2.2.1 hW.1 a 0 (by rw [g_ws_get hlt, g_en_i ha, hn]) rfl h1 hdg kk
theorem g_zld (hC : CallFix p m c cc nL s args Ts own) (hW : g_H Z G s H locs me) {a n : Nat} {i v : Int32} (ha : Z.2.1 a = 21) (hlt : a < Z.1) (hn : Z.2.2.1 a = n) (hv : a_ld n a i me = some v) (hdg : decode cc pc = .ok (.baload, 1))
    (kk : W p l e R s m args below meth c H locs cells slots Q (F0 m (pc + 1) ls (.int v :: rest))) : W p l e R s m args below meth c H locs cells slots Q (F0 m pc ls (.int i :: .ref (G.2.2.1 a) :: rest)) := by
  obtain ⟨h1, rfl⟩ := a_ld_inv hv
  exact va_zald hC.1 hC.2.1 hW.2.2.1 hW.1 a 1 (by rw [g_ws_get hlt, g_en_z ha, hn]) rfl h1 hdg kk
theorem g_ist (hC : CallFix p m c cc nL s args Ts own) (hW : g_H Z G s H locs me) {a n : Nat} {i v : Int32} {me' : gM} (ha : Z.2.1 a = 20) (hlt : a < Z.1) (hn : Z.2.2.1 a = n) (hv : a_st n a i v me = some me') (hdg : decode cc pc = .ok (.iastore, 1))
    (kk : ∀ (H1 : Heap) (locs1 : List Loc), g_H Z G s H1 locs1 me' → W p l e R s m args below meth c H1 locs1 cells slots Q (F0 m (pc + 1) ls rest)) : W p l e R s m args below meth c H locs cells slots Q (F0 m pc ls (.int v :: .int i :: .ref (G.2.2.1 a) :: rest)) := by
  obtain ⟨h1, rfl⟩ := a_st_inv hv
  refine va_iast hC.1 hC.2.1 hW.2.2.1 hW.1 (g_D hW.2.2.2.2.1) hW.2.1 a 0 (by rw [g_ws_get hlt, g_en_i ha, hn]) rfl h1 hdg (fun H1 locs1 hP hD hS => ?_)
  rw [g_ws_set hlt (by rw [g_en_i ha, hn])] at hP
  exact kk H1 locs1 ⟨hP, hS, hW.2.2⟩
theorem g_zst (hC : CallFix p m c cc nL s args Ts own) (hW : g_H Z G s H locs me) {a n : Nat} {i v : Int32} {me' : gM} (ha : Z.2.1 a = 21) (hlt : a < Z.1) (hn : Z.2.2.1 a = n) (hv : a_zst n a i v me = some me') (hdg : decode cc pc = .ok (.bastore, 1))
    (kk : ∀ (H1 : Heap) (locs1 : List Loc), g_H Z G s H1 locs1 me' → W p l e R s m args below meth c H1 locs1 cells slots Q (F0 m (pc + 1) ls rest)) : W p l e R s m args below meth c H locs cells slots Q (F0 m pc ls (.int v :: .int i :: .ref (G.2.2.1 a) :: rest)) := by
  obtain ⟨h1, rfl⟩ := a_zst_inv hv
  refine va_zast hC.1 hC.2.1 hW.2.2.1 hW.1 (g_D hW.2.2.2.2.1) hW.2.1 a 1 (by rw [g_ws_get hlt, g_en_z ha, hn]) rfl h1 hdg (fun H1 locs1 hP hD hS => ?_)
  rw [g_ws_set hlt (by rw [g_en_z ha, hn])] at hP
  exact kk H1 locs1 ⟨hP, hS, hW.2.2⟩
theorem g_rldD (hC : CallFix p m c cc nL s args Ts own) (hW : g_H Z G s H locs me) {a n b w t : Nat} {i : Int32} (ha : Z.2.1 a = 24) (hlt : a < Z.1) (hn : Z.2.2.1 a = n) (hr : ∀ j, j < n → Z.2.2.2 a j = b + w * j + 1) (hv : a_rf n b w i = some t) (hdg : decode cc pc = .ok (.aaload, 1))
    (kk : W p l e R s m args below meth c H locs cells slots Q (F0 m (pc + 1) ls (.ref (G.2.2.1 t) :: rest))) : W p l e R s m args below meth c H locs cells slots Q (F0 m pc ls (.int i :: .ref (G.2.2.1 a) :: rest)) := by
  obtain ⟨h1, rfl, h2⟩ := a_rf_inv hv
  refine va_aldq hC.1 hC.2.1 hW.2.2.1 hW.1 a 4 (by rw [g_ws_get hlt, g_en_rD ha, hn]) rfl h1 hdg ?_
  simpa [g_rf, hr _ h2, va_rf] using kk
theorem g_rldC (hC : CallFix p m c cc nL s args Ts own) (hW : g_H Z G s H locs me) {a n b w t : Nat} {i : Int32} (ha : Z.2.1 a = 23) (hlt : a < Z.1) (hn : Z.2.2.1 a = n) (hr : ∀ j, j < n → Z.2.2.2 a j = b + w * j + 1) (hv : a_rf n b w i = some t) (hdg : decode cc pc = .ok (.aaload, 1))
    (kk : W p l e R s m args below meth c H locs cells slots Q (F0 m (pc + 1) ls (.ref (G.2.2.1 t) :: rest))) : W p l e R s m args below meth c H locs cells slots Q (F0 m pc ls (.int i :: .ref (G.2.2.1 a) :: rest)) := by
  obtain ⟨h1, rfl, h2⟩ := a_rf_inv hv
  refine va_aldq hC.1 hC.2.1 hW.2.2.1 hW.1 a 3 (by rw [g_ws_get hlt, g_en_rC ha, hn]) rfl h1 hdg ?_
  simpa [g_rf, hr _ h2, va_rf] using kk
theorem g_leni (hC : CallFix p m c cc nL s args Ts own) (hW : g_H Z G s H locs me) {a n : Nat} (ha : Z.2.1 a = 20) (hlt : a < Z.1) (hn : Z.2.2.1 a = n) (hdg : decode cc pc = .ok (.arraylength, 1))
    (kk : W p l e R s m args below meth c H locs cells slots Q (F0 m (pc + 1) ls (.int (nI n) :: rest))) : W p l e R s m args below meth c H locs cells slots Q (F0 m pc ls (.ref (G.2.2.1 a) :: rest)) :=
  va_alen (cA := G.2.1 0) (x := (n, .inl (me a))) (ty := .int) hC.1 hC.2.1 hW.2.2.1 hW.1 a 0 (by rw [g_ws_get hlt, g_en_i ha, hn]) rfl rfl hdg kk
theorem g_lenz (hC : CallFix p m c cc nL s args Ts own) (hW : g_H Z G s H locs me) {a n : Nat} (ha : Z.2.1 a = 21) (hlt : a < Z.1) (hn : Z.2.2.1 a = n) (hdg : decode cc pc = .ok (.arraylength, 1))
    (kk : W p l e R s m args below meth c H locs cells slots Q (F0 m (pc + 1) ls (.int (nI n) :: rest))) : W p l e R s m args below meth c H locs cells slots Q (F0 m pc ls (.ref (G.2.2.1 a) :: rest)) :=
  va_alen (cA := G.2.1 1) (x := (n, .inl (me a))) (ty := .boolean) hC.1 hC.2.1 hW.2.2.1 hW.1 a 1 (by rw [g_ws_get hlt, g_en_z ha, hn]) rfl rfl hdg kk
end GROWS
abbrev g_Qi (Z : gZ) (G : gG) (r : Int32) (m' : gM) := va_Qi (fun (r2 : Int32) (_ : Unit) => r2 = r) (fun _ t => g_W Z G m' t) (g_A Z G)
abbrev g_Qv (Z : gZ) (G : gG) (m' : gM) := va_Qv (fun (_ : Unit) => True) (fun _ t => g_W Z G m' t) (g_A Z G)
section GCALLS
variable {p : Program} {l : Launch} {e : Env} {R : Room} {s : State} {m : MethodId} {args : Array Value} {below : List Frame} {meth : Method} {c : Code} {H : Heap} {locs : List Loc} {cells slots : Nat} {Q : State → Prop}
variable {cc : ByteArray} {pc nL : Nat} {ls : Array Slot} {rest st0 As : List Value} {Ts : List Cond} {own : String} {Z : gZ} {G : gG} {me me' : gM} {y : MethodName} {bytes : ByteArray} {maxL n index : Nat} {ret : Option FieldType} {ws : List Cond} {rm : Room}
theorem g_recv (hW : g_H Z G s H locs me) {o ci : Nat} {q : vw_C} (ho : Z.2.1 o = ci + 1) (hlt : o < Z.1) (hc : vwCl[ci]? = some q) : ∃ cell : Cell, H[G.2.2.1 o]? = some cell ∧ cell.vm.isStatics = false ∧ s.vm.findClass q.1 = some cell.cls :=
  va_recv hW.2.2.1 hW.1 (q0 := o) (fs := g_fs G ci (Z.2.2.2 o) (me o)) hc (by rw [g_ws_get hlt, g_en_o ho (Nat.lt_of_lt_of_le (List.getElem?_eq_some_iff.mp hc).1 (show vwCl.length ≤ 11 by decide))])
theorem g_cVi (hC : CallFix p m c cc nL s args Ts own) (hW : g_H Z G s H locs me) {o ci : Nat} {q : vw_C} {r : Int32} (ho : Z.2.1 o = ci + 1) (hlt : o < Z.1) (hc : vwCl[ci]? = some q) (hM : Met l y ws rm (va_Pc (.ref (G.2.2.1 o) :: As) (g_W Z G me)) (g_Qi Z G r me') 0 0 (g_A Z G)) (cw : CallW R s args own q.1 index y bytes maxL ret ws rm 0 0 n) (hn : As.length = n) (hsize : ls.size = nL) (hst : st0 = As.reverse ++ .ref (G.2.2.1 o) :: rest) (hWt : (rest.map fun v => v.category).sum ≤ 8) (hdg : decode cc pc = .ok (.invokevirtual index, 3)) (hf : cells + 0 ≤ R.cells ∧ slots + 0 ≤ R.slots)
    (kk : ∀ (H1 : Heap) (locs1 : List Loc), g_H Z G s H1 locs1 me' → W p l e R s m args below meth c H1 locs1 cells slots Q (F0 m (pc + 3) ls (.int r :: rest))) : W p l e R s m args below meth c H locs cells slots Q (F0 m pc ls st0) := by
  subst hst
  refine va_calli (va_runV (As := As) (rest := rest) hC hM cw ⟨g_blind, g_recv hW ho hlt hc, fun U hU hV => ⟨rfl, g_H_W hW hU hV⟩⟩ rfl hn hsize rfl (lv_room hWt) hdg hf) hW.2.1 (fun q _ h => h) (fun q h => h) (fun r1 u t H1 locs1 ht hvm hw hB hz1 hk1 hS => ?_)
  subst hw
  exact kk H1 locs1 ⟨by rw [← ht]; exact hB.1, hS, hW.2.2⟩
theorem g_cVv (hC : CallFix p m c cc nL s args Ts own) (hW : g_H Z G s H locs me) {o ci : Nat} {q : vw_C} (ho : Z.2.1 o = ci + 1) (hlt : o < Z.1) (hc : vwCl[ci]? = some q) (hM : Met l y ws rm (va_Pc (.ref (G.2.2.1 o) :: As) (g_W Z G me)) (g_Qv Z G me') 0 0 (g_A Z G)) (cw : CallW R s args own q.1 index y bytes maxL ret ws rm 0 0 n) (hn : As.length = n) (hsize : ls.size = nL) (hst : st0 = As.reverse ++ .ref (G.2.2.1 o) :: rest) (hWt : (rest.map fun v => v.category).sum ≤ 8) (hdg : decode cc pc = .ok (.invokevirtual index, 3)) (hf : cells + 0 ≤ R.cells ∧ slots + 0 ≤ R.slots)
    (kk : ∀ (H1 : Heap) (locs1 : List Loc), g_H Z G s H1 locs1 me' → W p l e R s m args below meth c H1 locs1 cells slots Q (F0 m (pc + 3) ls rest)) : W p l e R s m args below meth c H locs cells slots Q (F0 m pc ls st0) := by
  subst hst
  refine va_callv (va_runV (As := As) (rest := rest) hC hM cw ⟨g_blind, g_recv hW ho hlt hc, fun U hU hV => ⟨rfl, g_H_W hW hU hV⟩⟩ rfl hn hsize rfl (lv_room hWt) hdg hf) hW.2.1 (fun q _ h => h) (fun q h => h) (fun u t H1 locs1 ht hvm hw hB hz1 hk1 hS => ?_)
  exact kk H1 locs1 ⟨by rw [← ht]; exact hB.1, hS, hW.2.2⟩
theorem g_cSi (hC : CallFix p m c cc nL s args Ts own) (hW : g_H Z G s H locs me) {r : Int32} (hM : Met l y ws rm (va_Pc As (g_W Z G me)) (g_Qi Z G r me') 0 0 (g_A Z G)) (cw : CallB R s args own index y bytes maxL ret ws rm 0 0 n ∧ (Cond.static y).before args s = true) (hn : As.length = n) (hsize : ls.size = nL) (hst : st0 = As.reverse ++ rest) (hWt : (rest.map fun v => v.category).sum ≤ 8) (hdg : decode cc pc = .ok (.invokestatic index, 3)) (hf : cells + 0 ≤ R.cells ∧ slots + 0 ≤ R.slots)
    (kk : ∀ (H1 : Heap) (locs1 : List Loc), g_H Z G s H1 locs1 me' → W p l e R s m args below meth c H1 locs1 cells slots Q (F0 m (pc + 3) ls (.int r :: rest))) : W p l e R s m args below meth c H locs cells slots Q (F0 m pc ls st0) := by
  subst hst
  refine va_calli (va_runS (As := As) (rest := rest) hC hM cw ⟨g_blind, fun U hU hV => ⟨rfl, g_H_W hW hU hV⟩⟩ rfl hn hsize rfl (lv_room hWt) hdg hf) hW.2.1 (fun q _ h => h) (fun q h => h) (fun r1 u t H1 locs1 ht hvm hw hB hz1 hk1 hS => ?_)
  subst hw
  exact kk H1 locs1 ⟨by rw [← ht]; exact hB.1, hS, hW.2.2⟩
theorem g_cNi (hC : CallFix p m c cc nL s args Ts own) (hW : g_H Z G s H locs me) {r : Int32} {host : String} (hM : Met l y ws rm (va_Pc As (g_W Z G me)) (g_Qi Z G r me') 0 0 (g_A Z G)) (cw : va_CN R s args own index y host bytes maxL ret ws rm 0 0 n ∧ (Cond.static y).before args s = true ∧ True) (hn : As.length = n) (hsize : ls.size = nL) (hst : st0 = As.reverse ++ rest) (hWt : (rest.map fun v => v.category).sum ≤ 8) (hdg : decode cc pc = .ok (.invokestatic index, 3)) (hf : cells + 0 ≤ R.cells ∧ slots + 0 ≤ R.slots)
    (kk : ∀ (H1 : Heap) (locs1 : List Loc), g_H Z G s H1 locs1 me' → W p l e R s m args below meth c H1 locs1 cells slots Q (F0 m (pc + 3) ls (.int r :: rest))) : W p l e R s m args below meth c H locs cells slots Q (F0 m pc ls st0) := by
  subst hst
  refine va_calli (va_runSN (As := As) (rest := rest) hC hM cw ⟨g_blind, fun U hU hV => ⟨rfl, g_H_W hW hU hV⟩⟩ rfl hn hsize rfl (lv_room hWt) hdg hf) hW.2.1 (fun q _ h => h) (fun q h => h) (fun r1 u t H1 locs1 ht hvm hw hB hz1 hk1 hS => ?_)
  subst hw
  exact kk H1 locs1 ⟨by rw [← ht]; exact hB.1, hS, hW.2.2⟩
theorem g_iret (hC : CallFix p m c cc nL s args Ts own) (hW : g_H Z G s H locs me) (hr : meth.sig.returnType = some .int) (hlocks : meth.locks = false) {v r : Int32} (hv : v = r) (hm : me = me') (hdg : decode cc pc = .ok (.ireturn, 1)) : W p l e R s m args below meth c H locs cells slots (MQ below (g_Qi Z G r me') args s cells slots (g_A Z G)) (F0 m pc ls [.int v]) := by
  subst hv
  subst hm
  exact W.iret (v := v) hC.1 hC.2.1 hr (fun t ht hV => ⟨⟨v, (), rfl, rfl, g_H_W hW ht hV⟩, hW.2.1.F ht⟩) hW.2.1.2.2 hdg hlocks
theorem g_zret (hC : CallFix p m c cc nL s args Ts own) (hW : g_H Z G s H locs me) (hr : meth.sig.returnType = some .boolean) (hlocks : meth.locks = false) {v r : Int32} (hn : narrow .boolean (.int v) = .int v) (hv : v = r) (hm : me = me') (hdg : decode cc pc = .ok (.ireturn, 1)) : W p l e R s m args below meth c H locs cells slots (MQ below (g_Qi Z G r me') args s cells slots (g_A Z G)) (F0 m pc ls [.int v]) := by
  subst hv
  subst hm
  exact W.zret (v := v) (ty := .boolean) hC.1 hC.2.1 hr hn (fun t ht hV => ⟨⟨v, (), rfl, rfl, g_H_W hW ht hV⟩, hW.2.1.F ht⟩) hW.2.1.2.2 hdg hlocks
theorem g_vret (hC : CallFix p m c cc nL s args Ts own) (hW : g_H Z G s H locs me) (hr : meth.sig.returnType = none) (hlocks : meth.locks = false) (hm : me = me') (hdg : decode cc pc = .ok (.return_, 1)) : W p l e R s m args below meth c H locs cells slots (MQ below (g_Qv Z G me') args s cells slots (g_A Z G)) (F0 m pc ls []) := by
  subst hm
  exact W.vret hC.1 hC.2.1 hr (fun t ht hV => ⟨⟨(), rfl, trivial, g_H_W hW ht hV⟩, hW.2.1.F ht⟩) hW.2.1.2.2 hdg hlocks
end GCALLS
def a_ushr (x y : Int32) : Int32 := (x.toUInt32 >>> (y.toUInt32 &&& Int32.toUInt32 31)).toInt32
def oz {α ρ β : Type} (x : Option (α ⊕ ρ)) (h : ρ → Option β) (k : α → Option β) : Option β := os x k h
theorem oz_inv {α ρ β : Type} {x : Option (α ⊕ ρ)} {k : α → Option β} {h : ρ → Option β} {r : β} (e : oz x h k = some r) : ∃ v, x = some v ∧ (∀ a, v = .inl a → k a = some r) ∧ (∀ a, v = .inr a → h a = some r) := os_inv e
theorem ob_inv2 {A B γ : Type} {a : A} {b : B} {k : A → B → Option γ} {r : γ} (h : ob (some (a, b).1) (fun x => ob (some (a, b).2) (fun y => k x y)) = some r) : k a b = some r := h
theorem ob_inv3 {A B C γ : Type} {a : A} {b : B} {c : C} {k : A → B → C → Option γ} {r : γ} (h : ob (some (a, b, c).1) (fun x => ob (some (a, b, c).2.1) (fun y => ob (some (a, b, c).2.2) (fun z => k x y z))) = some r) : k a b c = some r := h
theorem ob_inv4 {A B C D γ : Type} {a : A} {b : B} {c : C} {d : D} {k : A → B → C → D → Option γ} {r : γ} (h : ob (some (a, b, c, d).1) (fun x => ob (some (a, b, c, d).2.1) (fun y => ob (some (a, b, c, d).2.2.1) (fun z => ob (some (a, b, c, d).2.2.2) (fun u => k x y z u)))) = some r) : k a b c d = some r := h
theorem ob_inv5 {A B C D E γ : Type} {a : A} {b : B} {c : C} {d : D} {e : E} {k : A → B → C → D → E → Option γ} {r : γ} (h : ob (some (a, b, c, d, e).1) (fun x => ob (some (a, b, c, d, e).2.1) (fun y => ob (some (a, b, c, d, e).2.2.1) (fun z => ob (some (a, b, c, d, e).2.2.2.1) (fun u => ob (some (a, b, c, d, e).2.2.2.2) (fun v => k x y z u v))))) = some r) : k a b c d e = some r := h
theorem ob_inv6 {A B C D E F γ : Type} {a : A} {b : B} {c : C} {d : D} {e : E} {f : F} {k : A → B → C → D → E → F → Option γ} {r : γ} (h : ob (some (a, b, c, d, e, f).1) (fun x => ob (some (a, b, c, d, e, f).2.1) (fun y => ob (some (a, b, c, d, e, f).2.2.1) (fun z => ob (some (a, b, c, d, e, f).2.2.2.1) (fun u => ob (some (a, b, c, d, e, f).2.2.2.2.1) (fun v => ob (some (a, b, c, d, e, f).2.2.2.2.2) (fun w => k x y z u v w)))))) = some r) : k a b c d e f = some r := h
section GMORE
variable {p : Program} {l : Launch} {e : Env} {R : Room} {s : State} {m : MethodId} {args : Array Value} {below : List Frame} {meth : Method} {c : Code} {H : Heap} {locs : List Loc} {cells slots : Nat} {Q Q2 : State → Prop}
variable {cc : ByteArray} {pc nL : Nat} {ls : Array Slot} {rest : List Value} {Ts : List Cond} {own : String} {Z : gZ} {G : gG} {me : gM}
theorem g_goQ {g : JFrame} (h : Q = Q2) (k : W p l e R s m args below meth c H locs cells slots Q g) : W p l e R s m args below meth c H locs cells slots Q2 g := h ▸ k
theorem g_start {g : JFrame} (hW : g_H Z G s s.heap [] me) (k : ∀ (H : Heap) (locs : List Loc), g_H Z G s H locs me → W p l e R s m args below meth c H locs cells slots Q g) : W p l e R s m args below meth c s.heap [] cells slots Q g := k _ _ hW
theorem g_max (hC : CallFix p m c cc nL s args Ts own) (hsz : ls.size = nL) {index : Nat} (h1 : Cond.methodLink own index Lib.Math.max.name ∈ Ts) (h2 : Cond.static Lib.Math.max.name ∈ Ts) (h3 : Cond.initialized "java/lang/Math" ∈ Ts) (h4 : Cond.code Lib.Math.max.name Lib.Math.max.code 2 (some .int) ∈ Ts) (hframes : 1 ≤ R.frames) (hlocals : (rest.map fun v => v.category).sum + 13 ≤ R.locals) (hc : cells ≤ R.cells) (hs : slots ≤ R.slots) {x y : Int32} (hdg : decode cc pc = .ok (.invokestatic index, 3))
    (kk : W p l e R s m args below meth c H locs cells slots Q (F0 m (pc + 3) ls (.int (a_max x y) :: rest))) : W p l e R s m args below meth c H locs cells slots Q (F0 m pc ls (.int y :: .int x :: rest)) :=
  va_mmax hC.1 hC.2.1 (hC.2.2.1.trans hsz.symm) hC.2.2.2.1 (hC.2.2.2.2 _ h1) (hC.2.2.2.2 _ h2) (hC.2.2.2.2 _ h3) (hC.2.2.2.2 _ h4) hframes hlocals hc hs hdg kk
theorem g_min (hC : CallFix p m c cc nL s args Ts own) (hsz : ls.size = nL) {index : Nat} (h1 : Cond.methodLink own index Lib.Math.min.name ∈ Ts) (h2 : Cond.static Lib.Math.min.name ∈ Ts) (h3 : Cond.initialized "java/lang/Math" ∈ Ts) (h4 : Cond.code Lib.Math.min.name Lib.Math.min.code 2 (some .int) ∈ Ts) (hframes : 1 ≤ R.frames) (hlocals : (rest.map fun v => v.category).sum + 13 ≤ R.locals) (hc : cells ≤ R.cells) (hs : slots ≤ R.slots) {x y : Int32} (hdg : decode cc pc = .ok (.invokestatic index, 3))
    (kk : W p l e R s m args below meth c H locs cells slots Q (F0 m (pc + 3) ls (.int (a_min x y) :: rest))) : W p l e R s m args below meth c H locs cells slots Q (F0 m pc ls (.int y :: .int x :: rest)) :=
  va_mmin hC.1 hC.2.1 (hC.2.2.1.trans hsz.symm) hC.2.2.2.1 (hC.2.2.2.2 _ h1) (hC.2.2.2.2 _ h2) (hC.2.2.2.2 _ h3) (hC.2.2.2.2 _ h4) hframes hlocals hc hs hdg kk
theorem g_abs (hC : CallFix p m c cc nL s args Ts own) (hsz : ls.size = nL) {index : Nat} (h1 : Cond.methodLink own index Lib.Math.abs.name ∈ Ts) (h2 : Cond.static Lib.Math.abs.name ∈ Ts) (h3 : Cond.initialized "java/lang/Math" ∈ Ts) (h4 : Cond.code Lib.Math.abs.name Lib.Math.abs.code 1 (some .int) ∈ Ts) (hframes : 1 ≤ R.frames) (hlocals : (rest.map fun v => v.category).sum + 13 ≤ R.locals) (hc : cells ≤ R.cells) (hs : slots ≤ R.slots) {x : Int32} (hdg : decode cc pc = .ok (.invokestatic index, 3))
    (kk : W p l e R s m args below meth c H locs cells slots Q (F0 m (pc + 3) ls (.int (a_abs x) :: rest))) : W p l e R s m args below meth c H locs cells slots Q (F0 m pc ls (.int x :: rest)) :=
  va_mabs hC.1 hC.2.1 (hC.2.2.1.trans hsz.symm) hC.2.2.2.1 (hC.2.2.2.2 _ h1) (hC.2.2.2.2 _ h2) (hC.2.2.2.2 _ h3) (hC.2.2.2.2 _ h4) hframes hlocals hc hs hdg kk
end GMORE
