theorem g_up_swap (m : gM) {a b : Nat} (f g : Nat → Int32) (h : a ≠ b) : g_up (g_up m a f) b g = g_up (g_up m b g) a f := by
  funext c
  by_cases w1 : c = b
  · subst w1
    rw [g_up_at, g_up_ne _ _ (Ne.symm h), g_up_at]
  · rw [g_up_ne _ _ w1]
    by_cases w2 : c = a
    · subst w2
      rw [g_up_at, g_up_at]
    · rw [g_up_ne _ _ w2, g_up_ne _ _ w2, g_up_ne _ _ w1]
theorem sp_forgets {m : gM} : T (f_X10_forgets m) (fun m2 => ∃ row, m2 = g_up m 12 row ∧ ∀ k, k < 40 → row k = 0) := by
  unfold f_X10_forgets
  refine T_ob (P := fun t => ∃ row, t.2 = g_up m 12 row ∧ ∀ k, k < 40 → row k = 0) ?_ (fun t ht => T_some ht)
  refine T_run2 (f_X10_forgets_L2) (fun k x m2 => x = iI (k : Nat) ∧ ∃ row, m2 = g_up m 12 row ∧ ∀ i, i < k → row i = 0) _ 40 0 _ _ ⟨rfl, m 12, by rw [g_upE _ _ _ rfl], fun i hi => absurd hi (by omega)⟩ (Nat.zero_le _) (by omega) ?_
  intro k x m2 f hI hk hcont
  obtain ⟨e, row, e2, h1⟩ := hI
  subst e
  subst e2
  unfold f_X10_forgets_L2
  rw [iL_40, iI_le (by omega) (by omega) (by omega) (by omega)]
  by_cases c : (40 : Int) ≤ k
  · rw [if_pos c]
    have e : k = 40 := by omega
    subst e
    exact T_some ⟨row, rfl, h1⟩
  · rw [if_neg c, a_stI (by omega) (by omega) (by omega), ob_some, Int.toNat_natCast, g_up_at, g_up2]
    refine hcont (by omega) _ _ ⟨by rw [iL_1, iI_add]; rfl, _, rfl, ?_⟩
    intro i hi
    rw [updA]
    by_cases q : i = k
    · rw [if_pos q]
    · rw [if_neg q]; exact h1 i (by omega)
theorem sp_takesM {n : Nat} {m : gM} {M : List Nat} (hb : bidsM m n M) {z h b : Int32} (hbb : b = 0 ∨ b = 1) {q : Nat} (hq : q ≤ sU (uU m) (Lz m M z h b)) (hq4 : q ≤ 400) (h0 : ∀ k, k ∈ Lz m M z h b → m 11 k = iI 0) : T (f_X10_takes z h b (iI (q : Nat)) m) (fun m2 => ∃ r11 r12, m2 = g_up (g_up m 11 r11) 12 r12 ∧ ∀ k, r11 k = if k ∈ Lz m M z h b then iI (tk (uU m) (Lz m M z h b) q k : Nat) else m 11 k) := by
  have hn := hb.1
  unfold f_X10_takes
  refine T_ob (sp_forgets (m := m)) ?_
  intro m1 hm1
  obtain ⟨row, e, hrow⟩ := hm1
  subst e
  generalize hLd : Lz m M z h b = L at *
  have hLn : ∀ k, k ∈ L → k < n := by
    intro k hk
    rw [← hLd] at hk
    exact ((Lz_mem hb).1 hk).1
  have hnd : L.Nodup := by
    rw [← hLd]
    exact srt_nodup (Lz_srt hb z h b)
  have hLL : L.length ≤ 40 := by
    have h2 : (Lz m M z h b).length ≤ M.length := List.length_filter_le _ _
    rw [hLd, hb.2.2.1.1] at h2
    omega
  refine T_ob (P := fun t => ∃ r11 r12, t.2 = g_up (g_up m 11 r11) 12 r12 ∧ ∀ k, r11 k = if k ∈ L then iI (tk (uU m) L q k : Nat) else m 11 k) ?_ (fun t ht => T_some ht)
  refine T_run2 (f_X10_takes_L8 z h b) (fun i x m2 => ∃ r11 r12, x = iI ((q - sU (uU m) (L.take i) : Nat) : Int) ∧ m2 = g_up (g_up m 11 r11) 12 r12 ∧ (∀ k, k ∈ L.take i → r12 k = 1) ∧ (∀ k, k < 40 → k ∉ L.take i → r12 k = 0) ∧ ∀ k, r11 k = if k ∈ L.take i then iI (tk (uU m) (L.take i) q k : Nat) else m 11 k) _ L.length 0 _ _ ?_ (Nat.zero_le _) (by omega) ?_
  · refine ⟨m 11, row, rfl, ?_, fun k hk => absurd hk (by simp), fun k hk _ => hrow k hk, fun k => ?_⟩
    · rw [g_upE m 11 _ rfl]
    · rw [if_neg (by simp)]
  · intro i x m3 f hI hk hcont
    obtain ⟨r11, r12, e1, e2, u1, u2, u3⟩ := hI
    subst e1
    subst e2
    unfold f_X10_takes_L8
    have hfin : q - sU (uU m) (L.take i) = 0 → ∀ k, r11 k = if k ∈ L then iI (tk (uU m) L q k : Nat) else m 11 k := by
      intro hz k
      rw [u3 k]
      by_cases w : k ∈ L.take i
      · rw [if_pos w, if_pos (List.mem_of_mem_take w)]
        have := tk_appL (U := uU m) (A := L.take i) (B := L.drop i) (q := q) (k := k) w
        rw [List.take_append_drop] at this
        rw [this]
      · rw [if_neg w]
        by_cases v : k ∈ L
        · rw [if_pos v, h0 k v]
          have := tk_app (U := uU m) (A := L.take i) (B := L.drop i) (q := q) (k := k) w
          rw [List.take_append_drop, hz, tk_0] at this
          rw [this]
          rfl
        · rw [if_neg v]
    have hle := sU_take_le (U := uU m) L i
    rw [iL_0, iI_le (by omega) (by omega) (by omega) (by omega)]
    by_cases c : ((q - sU (uU m) (L.take i) : Nat) : Int) ≤ 0
    · rw [if_pos c]
      exact T_some ⟨r11, r12, rfl, hfin (by omega)⟩
    · rw [if_neg c]
      have hiL : i < L.length := by
        by_cases w : i < L.length
        · exact w
        · exfalso
          rw [List.take_of_length_le (by omega)] at c
          omega
      have hd : L.drop i = L[i] :: L.drop (i + 1) := List.drop_eq_getElem_cons hiL
      have htk : L.take (i + 1) = L.take i ++ [L[i]] := List.take_succ_eq_append_getElem hiL
      have hmem : L[i] ∈ L := List.getElem_mem hiL
      have hnm : L[i] ∉ L.take i := by
        have hnd2 := hnd
        rw [← List.take_append_drop (i + 1) L, htk, List.nodup_append] at hnd2
        have := hnd2.1
        rw [List.nodup_append] at this
        intro u
        exact this.2.2 _ u _ (List.mem_singleton.2 rfl) rfl
      have hdn : ∀ k, k ∈ L.drop i → k ∉ L.take i := by
        intro k hk w
        have hnd2 := hnd
        rw [← List.take_append_drop i L, List.nodup_append] at hnd2
        exact hnd2.2.2 k w k hk rfl
      have hb9 : bidsM (g_up (g_up m 11 r11) 12 r12) n M := bidsM_fr hb (by rw [g_up_ne _ _ (by decide), g_up_ne _ _ (by decide)]) (fun c c1 c2 => by rw [g_up_ne _ _ (by omega), g_up_ne _ _ (by omega)])
      have hL9 : Lz (g_up (g_up m 11 r11) 12 r12) M z h b = L.take i ++ L.drop i := by
        rw [List.take_append_drop, ← hLd]
        exact (cz_frM (fun c c1 c2 => by rw [g_up_ne _ _ (by omega), g_up_ne _ _ (by omega)])).1
      have hnb := sp_nextBid hb9 hbb hL9 (fun k hk => by rw [g_up_at]; exact u1 k hk) (fun k hk => by rw [g_up_at]; exact u2 k (by have := hLn k (List.mem_of_mem_drop hk); omega) (hdn k hk))
      rw [hnb, ob_some, hd]
      have hrn := hLn _ hmem
      generalize hr : L[i] = r at *
      obtain ⟨eU, hU1, hU2⟩ := uU_of (hb.2.2.2 r hrn).2.2.2.2.2
      have l10 : ∀ r9, a_ld 40 10 (iI (r : Nat)) (g_up (g_up m 11 r11) 12 r9) = some (iI (uU m r : Nat)) := by
        intro r9
        rw [a_ldI (by omega) (by omega) (by omega), Int.toNat_natCast, g_up_ne _ _ (by decide), g_up_ne _ _ (by decide)]
        exact congrArg some eU
      have ehd : ∀ T9 : List Nat, hdI (r :: T9) = iI (r : Nat) := fun _ => rfl
      rw [ehd, a_stI (by omega) (by omega) (by omega), ob_some, Int.toNat_natCast, g_up_at, g_up2, l10, ob_some, iI_le (by omega) (by omega) (by omega) (by omega)]
      have hz : ∀ {α : Type} (g : Int32 → Option α), ob (if ((q - sU (uU m) (L.take i) : Nat) : Int) ≤ ((uU m r : Nat) : Int) then some (iI ((q - sU (uU m) (L.take i) : Nat) : Int)) else ob (some (iI (uU m r : Nat))) fun v12 => some v12) g = g (iI ((min (uU m r) (q - sU (uU m) (L.take i)) : Nat) : Int)) := by
        intro α g
        by_cases w : ((q - sU (uU m) (L.take i) : Nat) : Int) ≤ ((uU m r : Nat) : Int)
        · rw [if_pos w, ob_some, Nat.min_eq_right (by omega)]
        · rw [if_neg w, ob_some, ob_some, Nat.min_eq_left (by omega)]
      rw [hz, a_stI (by omega) (by omega) (by omega), ob_some, Int.toNat_natCast]
      have e11 : g_up (g_up (g_up m 11 r11) 12 (upd r12 r 1)) 11 (upd ((g_up (g_up m 11 r11) 12 (upd r12 r 1)) 11) r (iI ((min (uU m r) (q - sU (uU m) (L.take i)) : Nat) : Int))) = g_up (g_up m 11 (upd r11 r (iI ((min (uU m r) (q - sU (uU m) (L.take i)) : Nat) : Int)))) 12 (upd r12 r 1) := by
        rw [g_up_ne _ _ (show (11 : Nat) ≠ 12 by decide), g_up_at, g_up_swap _ _ _ (show (12 : Nat) ≠ 11 by decide), g_up2]
      rw [e11, a_ldI (by omega) (by omega) (by omega), ob_some, Int.toNat_natCast, g_up_ne _ _ (by decide), g_up_at, updA, if_pos rfl, ob_some, iI_sub]
      refine hcont hiL _ _ ⟨_, _, ?_, rfl, ?_, ?_, ?_⟩
      · rw [htk, sU_app]
        congr 1
        show _ = ((q - (sU (uU m) (L.take i) + (uU m r + 0)) : Nat) : Int)
        omega
      · intro k hk2
        rw [updA]
        by_cases w : k = r
        · rw [if_pos w]
        · rw [if_neg w]
          rw [htk, List.mem_append, List.mem_singleton] at hk2
          exact u1 k (hk2.resolve_right w)
      · intro k hk4 hk2
        rw [htk, List.mem_append, List.mem_singleton] at hk2
        rw [updA, if_neg (fun w => hk2 (Or.inr w))]
        exact u2 k hk4 (fun w => hk2 (Or.inl w))
      · intro k
        rw [updA, htk]
        by_cases w : k = r
        · subst w
          rw [if_pos rfl, if_pos (List.mem_append_right _ (List.mem_singleton.2 rfl)), tk_last hnm]
        · rw [if_neg w, u3 k]
          by_cases v : k ∈ L.take i
          · rw [if_pos v, if_pos (List.mem_append_left _ v), tk_appL v]
          · rw [if_neg v, if_neg (fun u => by rw [List.mem_append, List.mem_singleton] at u; exact u.elim v w)]
