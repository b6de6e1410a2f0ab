def ot {α β : Type} (x : Option (Nat ⊕ α)) (k : α → Option β) : Option β := match x with
  | some (.inr a) => k a
  | some (.inl _) => none
  | none => none
theorem ot_r {α β : Type} (a : α) (k : α → Option β) : ot (some (.inr a)) k = k a := rfl
theorem ot_inv {α β : Type} {x : Option (Nat ⊕ α)} {k : α → Option β} {r : β} (h : ot x k = some r) : ∃ a, x = some (.inr a) ∧ k a = some r := by
  cases x with
  | none => cases h
  | some v =>
    cases v with
    | inl c => cases h
    | inr a => exact ⟨a, rfl, h⟩
theorem ox_invR {α β : Type} {x : Option (Nat ⊕ α)} {k : α → Option (Nat ⊕ β)} {r : β} (h : ox x k = some (.inr r)) : ∃ a, x = some (.inr a) ∧ k a = some (.inr r) := by
  cases x with
  | none => cases h
  | some v =>
    cases v with
    | inl c => cases h
    | inr a => exact ⟨a, rfl, h⟩
def a_rm (x y : Int32) : Option Int32 := if y = 0 then none else some (x - x / y * y)
theorem a_rm_inv {x y r : Int32} (h : a_rm x y = some r) : ¬ y = 0 ∧ x - x / y * y = r := by
  unfold a_rm at h
  by_cases c : y = 0
  · rw [if_pos c] at h; cases h
  · rw [if_neg c] at h; exact ⟨c, Option.some.inj h⟩
section GNT
variable {p : Program} {l : Launch} {e : Env} {R : Room} {s : State} {m : MethodId} {args : Array Value} {below : List Frame} {meth : Method} {c : Code} {H : Heap} {locs : List Loc} {cells slots : Nat} {Q : State → Prop}
variable {cc : ByteArray} {pc nL : Nat} {ls : Array Slot} {rest st0 As : List Value} {Ts : List Cond} {own : String} {Z : gZ} {G : gG} {me me' : gM} {y : MethodName} {bytes : ByteArray} {maxL n index : Nat} {ret : Option FieldType} {ws : List Cond} {rm : Room}
theorem g_cSv (hC : CallFix p m c cc nL s args Ts own) (hW : g_H Z G s H locs me) (hM : Met l y ws rm (va_Pc As (g_W Z G me)) (g_Qv Z G me') 0 0 (g_A Z G)) (cw : CallB R s args own index y bytes maxL ret ws rm 0 0 n ∧ (Cond.static y).before args s = true) (hn : As.length = n) (hsize : ls.size = nL) (hst : st0 = As.reverse ++ rest) (hWt : (rest.map fun v => v.category).sum ≤ 8) (hdg : decode cc pc = .ok (.invokestatic index, 3)) (hf : cells + 0 ≤ R.cells ∧ slots + 0 ≤ R.slots)
    (kk : ∀ (H1 : Heap) (locs1 : List Loc), g_H Z G s H1 locs1 me' → W p l e R s m args below meth c H1 locs1 cells slots Q (F0 m (pc + 3) ls rest)) : W p l e R s m args below meth c H locs cells slots Q (F0 m pc ls st0) := by
  subst hst
  refine va_callv (va_runS (As := As) (rest := rest) hC hM cw ⟨g_blind, fun U hU hV => ⟨rfl, g_H_W hW hU hV⟩⟩ rfl hn hsize rfl (lv_room hWt) hdg hf) hW.2.1 (fun q _ h => h) (fun q h => h) (fun u t H1 locs1 ht hvm hw hB hz1 hk1 hS => ?_)
  exact kk H1 locs1 ⟨by rw [← ht]; exact hB.1, hS, hW.2.2⟩
end GNT
