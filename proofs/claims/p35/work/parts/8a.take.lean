def sU (U : Nat → Nat) : List Nat → Nat
  | [] => 0
  | a :: L => U a + sU U L
theorem sU_app (U : Nat → Nat) : ∀ (A B : List Nat), sU U (A ++ B) = sU U A + sU U B
  | [], B => by simp [sU]
  | a :: A, B => by
    show U a + sU U (A ++ B) = U a + sU U A + sU U B
    rw [sU_app U A B]
    omega
theorem ups_lenS (P : Nat → Int) (U : Nat → Nat) : ∀ L : List Nat, (ups P U L).length = sU U L
  | [] => rfl
  | a :: L => by
    rw [ups_cons, List.length_append, List.length_replicate, ups_lenS P U L]
    rfl
theorem tk_app {U : Nat → Nat} : ∀ {A B : List Nat} {q k : Nat}, k ∉ A → tk U (A ++ B) q k = tk U B (q - sU U A) k
  | [], B, q, k, _ => by show tk U B q k = tk U B (q - 0) k; rw [Nat.sub_zero]
  | a :: A, B, q, k, h => by
    have h1 : ¬ k = a := fun e => h (by rw [e]; exact List.mem_cons_self)
    show (if k = a then min (U a) q else tk U (A ++ B) (q - min (U a) q) k) = tk U B (q - (U a + sU U A)) k
    rw [if_neg h1, tk_app (fun e => h (List.mem_cons_of_mem _ e)), show q - min (U a) q - sU U A = q - (U a + sU U A) by omega]
theorem tk_appL {U : Nat → Nat} : ∀ {A B : List Nat} {q k : Nat}, k ∈ A → tk U (A ++ B) q k = tk U A q k
  | [], B, q, k, h => absurd h List.not_mem_nil
  | a :: A, B, q, k, h => by
    show (if k = a then min (U a) q else tk U (A ++ B) (q - min (U a) q) k) = (if k = a then min (U a) q else tk U A (q - min (U a) q) k)
    by_cases c : k = a
    · rw [if_pos c, if_pos c]
    · rw [if_neg c, if_neg c]
      rcases List.mem_cons.1 h with e | e
      · exact absurd e c
      · exact tk_appL e
theorem tk_last {U : Nat → Nat} {A : List Nat} {q k : Nat} (h : k ∉ A) : tk U (A ++ [k]) q k = min (U k) (q - sU U A) := by
  rw [tk_app h]
  unfold tk
  rw [if_pos rfl]
theorem sU_take_le {U : Nat → Nat} (L : List Nat) (i : Nat) : sU U (L.take i) ≤ sU U L := by
  have h := sU_app U (L.take i) (L.drop i)
  rw [List.take_append_drop] at h
  omega
theorem uU_of {m : gM} {k : Nat} (h : rg (m 10 k) 1 10) : m 10 k = iI (uU m k : Nat) ∧ 1 ≤ uU m k ∧ uU m k ≤ 10 := by
  unfold uU
  obtain ⟨a, b⟩ := h
  refine ⟨?_, by omega, by omega⟩
  rw [Int.toNat_of_nonneg (by omega), iI_of]
def tkv (m : gM) (M : List Nat) (z h : Int32) (qb qs k : Nat) : Nat := if m 8 k = 0 then tk (uU m) (Lz m M z h 0) qs k else tk (uU m) (Lz m M z h 1) qb k
theorem sp_takeC {n : Nat} {m : gM} {M : List Nat} {z h : Int32} (hb : bidsOk m n M) {qb qs : Nat} (h1 : qb ≤ 400) (h2 : qs ≤ 400) : T (f_X8_take 4 z h (iI (qb : Nat)) (iI (qs : Nat)) m) (fun m2 => ∃ row, m2 = g_up m 11 row ∧ ∀ k, k < n → row k = if m 6 k = z ∧ m 7 k = h then m 10 k - iI (tkv m M z h qb qs k : Nat) else m 11 k) := by
  have hM := hb.2.2.1
  have hn := hb.1
  have hnd : M.Nodup := srt_nodup hM.2.1
  unfold f_X8_take
  have hL : f_oln 4 = 40 := rfl
  refine T_ob (P := fun t => ∃ row, t.2.2.2 = g_up m 11 row ∧ ∀ k, k < n → row k = if m 6 k = z ∧ m 7 k = h then m 10 k - iI (tkv m M z h qb qs k : Nat) else m 11 k) ?_ (fun t ht => T_some ht)
  refine T_run4 (f_X8_take_L10 4 z h) (fun i x y w m2 => ∃ row, x = iI ((qb - sU (uU m) ((M.take i).filter (isZ m z h 1)) : Nat) : Int) ∧ y = iI ((qs - sU (uU m) ((M.take i).filter (isZ m z h 0)) : Nat) : Int) ∧ w = iI (i : Nat) ∧ m2 = g_up m 11 row ∧ ∀ k, k < n → row k = if k ∈ M.take i ∧ m 6 k = z ∧ m 7 k = h then m 10 k - iI ((if m 8 k = 0 then tk (uU m) ((M.take i).filter (isZ m z h 0)) qs k else tk (uU m) ((M.take i).filter (isZ m z h 1)) qb k : Nat) : Int) else m 11 k) _ n 0 _ _ _ _ ?_ (Nat.zero_le _) (by omega) ?_
  · refine ⟨m 11, rfl, rfl, rfl, by rw [g_upE _ _ _ rfl], fun k hk => ?_⟩
    rw [if_neg]
    intro w
    exact absurd w.1 (by simp)
  · intro i x y w m4 f hI hk hcont
    obtain ⟨row, e1, e2, e3, e4, hr⟩ := hI
    subst e1
    subst e2
    subst e3
    subst e4
    unfold f_X8_take_L10
    rw [g_up_ne _ _ (by decide), hb.2.1, iI_le (by omega) (by omega) (by omega) (by omega)]
    by_cases c : (n : Int) ≤ i
    · rw [if_pos c]
      have e : i = n := by omega
      subst e
      refine T_some ⟨row, rfl, fun k hk => ?_⟩
      have e2 : M.take i = M := by rw [← hM.1]; exact List.take_length
      have := hr k hk
      rw [e2] at this
      rw [this]
      have hkM := (hM.2.2.1 k).2 hk
      by_cases q : m 6 k = z ∧ m 7 k = h
      · rw [if_pos ⟨hkM, q⟩, if_pos q]
        rfl
      · rw [if_neg (fun u => q u.2), if_neg q]
    · have hin : i < n := by omega
      have hlt := Mer_lt hM hin
      have hrow := hb.2.2.2 _ hlt
      have htk := take_getD M 0 (show i < M.length by rw [hM.1]; exact hin)
      have hnm : M.getD i 0 ∉ M.take i := by
        have hnd2 := hnd
        rw [← List.take_append_drop (i + 1) M, htk, List.nodup_append] at hnd2
        have := hnd2.1
        rw [List.nodup_append] at this
        intro u
        exact this.2.2 _ u _ (List.mem_singleton.2 rfl) rfl
      have hf0 := filter_take hM.1 hin (isZ m z h 0)
      have hf1 := filter_take hM.1 hin (isZ m z h 1)
      rw [if_neg c, hL, a_ldI (by omega) (by omega) (by omega), ob_some, Int.toNat_natCast, show (4 + 8 : Nat) = 12 from rfl, g_up_ne _ _ (by decide), hM.2.2.2 i hin, sp_isIn (by rw [hL]; omega) (by rw [hL]; omega), ob_some, show (4 + 2 : Nat) = 6 from rfl, show (4 + 3 : Nat) = 7 from rfl, g_up_ne _ _ (by decide), g_up_ne _ _ (by decide)]
      generalize hq : M.getD i 0 = q at *
      obtain ⟨eU, hU1, hU2⟩ := uU_of hrow.2.2.2.2.2
      by_cases d : m 6 q = z ∧ m 7 q = h
      · rw [if_pos d, if_neg (by decide)]
        have l10 : a_ld 40 (4 + 6) (iI (q : Nat)) (g_up m 11 row) = some (iI (uU m q : Nat)) := by
          rw [a_ldI (by omega) (by omega) (by omega), Int.toNat_natCast, g_up_ne _ _ (by decide)]
          exact congrArg some eU
        have l8 : a_ld 40 (4 + 4) (iI (q : Nat)) (g_up m 11 row) = some (m 8 q) := by
          rw [a_ldI (by omega) (by omega) (by omega), Int.toNat_natCast, g_up_ne _ _ (by decide)]
        rw [l10, ob_some, l8, ob_some]
        rcases hrow.2.2.2.1 with b0 | b1
        · have hp0 : isZ m z h 0 q = true := decide_eq_true ⟨d.1, d.2, b0⟩
          have hp1 : isZ m z h 1 q = false := decide_eq_false (fun x => absurd (b0.symm.trans x.2.2) (by decide))
          rw [hp0, if_pos rfl] at hf0
          rw [hp1, if_neg (by decide), List.append_nil] at hf1
          generalize hA : (M.take i).filter (isZ m z h 0) = A at *
          generalize hB : (M.take i).filter (isZ m z h 1) = B at *
          have hqA : q ∉ A := by
            rw [← hA]
            intro u
            exact hnm (List.mem_filter.1 u).1
          rw [b0, if_pos rfl, ob_some, a_minI (by omega) (by omega) (by omega) (by omega), ob_some, ob_some, a_stI (by omega) (by omega) (by omega), ob_some, Int.toNat_natCast, show (4 + 7 : Nat) = 11 from rfl, g_up_at, g_up2, iI_sub]
          have l8b : ∀ r9, a_ld 40 (4 + 4) (iI (q : Nat)) (g_up m 11 r9) = some 0 := by
            intro r9
            rw [a_ldI (by omega) (by omega) (by omega), Int.toNat_natCast, g_up_ne _ _ (by decide)]
            exact congrArg some b0
          rw [l8b, ob_some, if_pos rfl, ob_some, ob_some, ob_some, if_pos rfl, ob_some, ob_some, ob_some]
          dsimp only
          refine hcont hin _ _ _ _ ⟨upd row q (iI ((uU m q : Nat) - min ((uU m q : Nat) : Int) ((qs - sU (uU m) A : Nat) : Int))), ?_, ?_, by rw [iL_1, iI_add]; rfl, rfl, ?_⟩
          · rw [hf1, iL_0, iI_sub, Int.sub_zero]
          · rw [hf0, sU_app, iI_sub]
            congr 1
            show _ = ((qs - (sU (uU m) A + (uU m q + 0)) : Nat) : Int)
            omega
          · intro k hk
            rw [updA, hf0, hf1, htk]
            by_cases w : k = q
            · subst w
              rw [if_pos rfl, if_pos ⟨List.mem_append_right _ (List.mem_singleton.2 rfl), d⟩, if_pos b0, tk_last hqA, eU, iI_sub]
              congr 1
              omega
            · rw [if_neg w, hr k hk]
              have hmm : (k ∈ M.take i ++ [q]) ↔ k ∈ M.take i := by
                rw [List.mem_append, List.mem_singleton]
                exact ⟨fun u => u.resolve_right w, Or.inl⟩
              by_cases u : k ∈ M.take i ∧ m 6 k = z ∧ m 7 k = h
              · rw [if_pos u, if_pos (show k ∈ M.take i ++ [q] ∧ m 6 k = z ∧ m 7 k = h from ⟨hmm.2 u.1, u.2⟩)]
                by_cases v : m 8 k = 0
                · rw [if_pos v, if_pos v, tk_appL]
                  rw [← hA, List.mem_filter]
                  exact ⟨u.1, decide_eq_true ⟨u.2.1, u.2.2, v⟩⟩
                · rw [if_neg v, if_neg v]
              · rw [if_neg u, if_neg (show ¬ (k ∈ M.take i ++ [q] ∧ m 6 k = z ∧ m 7 k = h) from fun v => u ⟨hmm.1 v.1, v.2⟩)]
        · have hp1 : isZ m z h 1 q = true := decide_eq_true ⟨d.1, d.2, b1⟩
          have hp0 : isZ m z h 0 q = false := decide_eq_false (fun x => absurd (b1.symm.trans x.2.2) (by decide))
          rw [hp1, if_pos rfl] at hf1
          rw [hp0, if_neg (by decide), List.append_nil] at hf0
          generalize hA : (M.take i).filter (isZ m z h 0) = A at *
          generalize hB : (M.take i).filter (isZ m z h 1) = B at *
          have hqB : q ∉ B := by
            rw [← hB]
            intro u
            exact hnm (List.mem_filter.1 u).1
          rw [b1, if_neg (by decide), ob_some, a_minI (by omega) (by omega) (by omega) (by omega), ob_some, ob_some, a_stI (by omega) (by omega) (by omega), ob_some, Int.toNat_natCast, show (4 + 7 : Nat) = 11 from rfl, g_up_at, g_up2, iI_sub]
          have l8b : ∀ r9, a_ld 40 (4 + 4) (iI (q : Nat)) (g_up m 11 r9) = some 1 := by
            intro r9
            rw [a_ldI (by omega) (by omega) (by omega), Int.toNat_natCast, g_up_ne _ _ (by decide)]
            exact congrArg some b1
          rw [l8b, ob_some, if_neg (by decide), ob_some, ob_some, ob_some, if_neg (by decide), ob_some, ob_some, ob_some]
          dsimp only
          refine hcont hin _ _ _ _ ⟨upd row q (iI ((uU m q : Nat) - min ((uU m q : Nat) : Int) ((qb - sU (uU m) B : Nat) : Int))), ?_, ?_, by rw [iL_1, iI_add]; rfl, rfl, ?_⟩
          · rw [hf1, sU_app, iI_sub]
            congr 1
            show _ = ((qb - (sU (uU m) B + (uU m q + 0)) : Nat) : Int)
            omega
          · rw [hf0, iL_0, iI_sub, Int.sub_zero]
          · intro k hk
            rw [updA, hf0, hf1, htk]
            by_cases w : k = q
            · subst w
              rw [if_pos rfl, if_pos ⟨List.mem_append_right _ (List.mem_singleton.2 rfl), d⟩, if_neg (by rw [b1]; decide), tk_last hqB, eU, iI_sub]
              congr 1
              omega
            · rw [if_neg w, hr k hk]
              have hmm : (k ∈ M.take i ++ [q]) ↔ k ∈ M.take i := by
                rw [List.mem_append, List.mem_singleton]
                exact ⟨fun u => u.resolve_right w, Or.inl⟩
              by_cases u : k ∈ M.take i ∧ m 6 k = z ∧ m 7 k = h
              · rw [if_pos u, if_pos (show k ∈ M.take i ++ [q] ∧ m 6 k = z ∧ m 7 k = h from ⟨hmm.2 u.1, u.2⟩)]
                by_cases v : m 8 k = 0
                · rw [if_pos v, if_pos v]
                · rw [if_neg v, if_neg v, tk_appL]
                  rw [← hB, List.mem_filter]
                  refine ⟨u.1, decide_eq_true ⟨u.2.1, u.2.2, ?_⟩⟩
                  exact ((hb.2.2.2 k hk).2.2.2.1).resolve_left v
              · rw [if_neg u, if_neg (show ¬ (k ∈ M.take i ++ [q] ∧ m 6 k = z ∧ m 7 k = h) from fun v => u ⟨hmm.1 v.1, v.2⟩)]
      · rw [if_neg d, if_pos rfl, ob_some]
        have hp0 : isZ m z h 0 q = false := decide_eq_false (fun x => d ⟨x.1, x.2.1⟩)
        have hp1 : isZ m z h 1 q = false := decide_eq_false (fun x => d ⟨x.1, x.2.1⟩)
        rw [hp0, if_neg (by decide), List.append_nil] at hf0
        rw [hp1, if_neg (by decide), List.append_nil] at hf1
        simp only [ob_some]
        refine hcont hin _ _ _ _ ⟨row, by rw [hf1], by rw [hf0], by rw [iL_1, iI_add]; rfl, rfl, ?_⟩
        intro k hk
        rw [hf0, hf1, htk, hr k hk]
        by_cases w : k = q
        · subst w
          rw [if_neg (fun u => d u.2), if_neg (fun u => d u.2)]
        · have hmm : (k ∈ M.take i ++ [q]) ↔ k ∈ M.take i := by
            rw [List.mem_append, List.mem_singleton]
            exact ⟨fun u => u.resolve_right w, Or.inl⟩
          by_cases u : k ∈ M.take i ∧ m 6 k = z ∧ m 7 k = h
          · rw [if_pos u, if_pos (show k ∈ M.take i ++ [q] ∧ m 6 k = z ∧ m 7 k = h from ⟨hmm.2 u.1, u.2⟩)]
          · rw [if_neg u, if_neg (show ¬ (k ∈ M.take i ++ [q] ∧ m 6 k = z ∧ m 7 k = h) from fun v => u ⟨hmm.1 v.1, v.2⟩)]
