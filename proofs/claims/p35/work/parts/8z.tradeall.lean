theorem lt0' (x : Int) (h1 : -2147483648 ≤ x) (h2 : x < 2147483648) : (0 < iI x) = (0 < x) := by
  rw [iL_0, iI_ltP (by omega) (by omega) h1 h2]
theorem sp_ofits {N c q : Nat} {m1 m2 : gM} (hO : ofR N m1 m2) (hc : c < N) (hq : q < N) : (el m1 c q = true ∧ m1 56 c ≠ m1 56 q → f_X8_fits 55 (iI (c : Nat)) (iI (q : Nat)) m1 = some 1) ∧ (¬ (el m1 c q = true ∧ m1 56 c ≠ m1 56 q) → f_X8_fits 55 (iI (c : Nat)) (iI (q : Nat)) m1 = some 0) := by
  obtain ⟨hN, -, hk⟩ := hO
  have ln : ∀ (C k : Nat), k < N → a_ld (f_oln 55) C (iI (k : Nat)) m1 = some (m1 C k) := by
    intro C k hk
    rw [oln55, a_ldI (by omega) (by omega) (by omega), Int.toNat_natCast]
  have kr : ∀ k, k < N → -300 ≤ keyO m1 55 k ∧ keyO m1 55 k ≤ 300 := fun k hk2 => keyO_rng (o := 55) (B := 300) (hk k hk2).2.2.2.2.1
  have kc := kr c hc
  have kq := kr q hq
  have hel : (el m1 c q = true) = (0 < (m1 62 q).toInt ∧ m1 58 q = m1 58 c ∧ m1 59 q ≠ m1 59 c ∧ keyO m1 55 c + keyO m1 55 q ≤ 0) := by
    unfold el
    rw [decide_eq_true_eq]
  unfold f_X8_fits
  rw [ln _ c hc, ob_some, ln _ q hq, ob_some, show (55 + 4 : Nat) = 59 from rfl, show (55 + 3 : Nat) = 58 from rfl, show (55 + 1 : Nat) = 56 from rfl, show (55 + 7 : Nat) = 62 from rfl, hel]
  by_cases a1 : m1 59 c = m1 59 q
  · rw [if_pos a1]
    exact ⟨fun h => absurd a1.symm h.1.2.2.1, fun _ => rfl⟩
  · rw [if_neg a1, ln 58 c hc, ob_some, ln 58 q hq, ob_some]
    by_cases a2 : m1 58 c = m1 58 q
    · rw [if_pos a2, ln 56 c hc, ob_some, ln 56 q hq, ob_some]
      by_cases a3 : m1 56 c = m1 56 q
      · rw [if_pos a3]
        exact ⟨fun h => absurd a3 h.2, fun _ => rfl⟩
      · rw [if_neg a3, ln 62 q hq, ob_some]
        by_cases a4 : m1 62 q ≤ 0
        · rw [if_pos a4]
          rw [le0'] at a4
          exact ⟨fun h => by have := h.1.1; omega, fun _ => rfl⟩
        · rw [if_neg a4, sp_costOf (by rw [oln55]; omega) (by rw [oln55]; omega), ob_some, sp_costOf (by rw [oln55]; omega) (by rw [oln55]; omega), ob_some, iI_add]
          rw [le0'] at a4
          by_cases a5 : 0 < keyO m1 55 c + keyO m1 55 q
          · rw [if_pos (by rw [lt0' _ (by omega) (by omega)]; exact a5)]
            exact ⟨fun h => by have := h.1.2.2.2; omega, fun _ => rfl⟩
          · rw [if_neg (by rw [lt0' _ (by omega) (by omega)]; exact a5)]
            exact ⟨fun _ => rfl, fun h => absurd ⟨⟨by omega, a2.symm, fun e => a1 e.symm, by omega⟩, a3⟩ h⟩
    · rw [if_neg a2]
      exact ⟨fun h => absurd h.1.2.1.symm a2, fun _ => rfl⟩
theorem el_self (m : gM) (c : Nat) : el m c c = false := by
  unfold el
  exact decide_eq_false (fun h => h.2.2.1 rfl)
theorem tI_33 {d N : Nat} {m1 m2 : gM} (h : tI d N m1 m2) (r : Nat → Int32) : tI d N m1 (g_up m2 33 r) := by
  have f : ∀ c, c ≠ 33 → (g_up m2 33 r) c = m2 c := fun c hc => g_up_ne _ _ hc
  unfold tI ofR ntR pcE at *
  rw [f 0 (by decide), f 1 (by decide), f 27 (by decide), f 28 (by decide), f 29 (by decide), f 30 (by decide), f 31 (by decide), f 32 (by decide), f 42 (by decide), f 45 (by decide), f 48 (by decide)]
  exact h
theorem trade_loop {d N c : Nat} {m0 : gM} {MO : List Nat} (hcN : c + 1 = N) (hM : Mer N (keyO m0 55) (m0 63) MO) (h55 : m0 55 8 = iI (N : Nat)) : ∀ (n i : Nat), i + n = N → ∀ (f1 f2 : Nat) (m1 m2 : gM) (B : Int), n < f1 → n < f2 → tI d N m1 m2 → tfC d m0 m1 → pB d B m1 → B + 20 * (n : Nat) ≤ 100000 → (∀ k, k ∈ MO.take i → m2 33 k = 1 ∨ el m1 c k = false) → (∀ k, k ∈ MO.drop i → m2 33 k = 0) → ∃ y m3 y2 m4, f_X9_tradeAll_L2 (iI (c : Nat)) f1 (iI (i : Nat)) m1 = some (y, m3) ∧ f_X10_offer_L215 (iI (c : Nat)) f2 (hdI ((MO.drop i).filter (el m1 c))) m2 = some (y2, m4) ∧ tI d N m3 m4 ∧ pB d (B + 20 * (n : Nat)) m3 ∧ tfC d m1 m3 ∧ tfM d m2 m4 := by
  have hnd : MO.Nodup := srt_nodup hM.2.1
  intro n
  induction n with
  | zero =>
    intro i hi f1 f2 m1 m2 B h1 h2 hT hf hB hB0 ht hdr
    obtain ⟨g1, e1⟩ : ∃ g, f1 = g + 1 := ⟨f1 - 1, by omega⟩
    obtain ⟨g2, e2⟩ : ∃ g, f2 = g + 1 := ⟨f2 - 1, by omega⟩
    subst e1
    subst e2
    have ed : MO.drop i = [] := List.drop_eq_nil_of_le (by rw [hM.1]; omega)
    have hN := hT.2.2.2.1.1
    unfold f_X9_tradeAll_L2 f_X10_offer_L215
    rw [hf 55 (by decide) (by omega) (by omega) (by omega), h55, iI_le (by omega) (by omega) (by omega) (by omega), if_pos (by omega), ed]
    refine ⟨_, _, _, _, rfl, if_pos rfl, hT, pB_up hB (by omega), fun c _ _ _ _ => rfl, ⟨fun c _ _ _ _ _ => rfl, fun i _ => rfl, fun i _ => rfl⟩⟩
  | succ n ih =>
    intro i hi f1 f2 m1 m2 B h1 h2 hT hf hB hB0 ht hdr
    obtain ⟨g1, e1⟩ : ∃ g, f1 = g + 1 := ⟨f1 - 1, by omega⟩
    obtain ⟨g2, e2⟩ : ∃ g, f2 = g + 1 := ⟨f2 - 1, by omega⟩
    subst e1
    subst e2
    obtain ⟨hd, h08, h00, hO, hn, hE⟩ := id hT
    have hN := hO.1
    have hiN : i < N := by omega
    have hcN2 : c < N := by omega
    have hlt := Mer_lt hM hiN
    have hil : i < MO.length := by rw [hM.1]; exact hiN
    have hdc : MO.drop i = MO.getD i 0 :: MO.drop (i + 1) := by
      rw [gD _ _ hil]
      exact List.drop_eq_getElem_cons hil
    have htk := take_getD MO 0 hil
    generalize hq : MO.getD i 0 = q at *
    have hqd : q ∉ MO.drop (i + 1) := by
      intro u
      have hnd2 := hnd
      rw [← List.take_append_drop i MO, hdc, List.nodup_append] at hnd2
      exact (List.nodup_cons.1 hnd2.2.1).1 u
    have hsplit : ∀ k, k < N → k ∈ MO.take i ∨ k = q ∨ k ∈ MO.drop (i + 1) := by
      intro k hk
      have hkM := (hM.2.2.1 k).2 hk
      rw [← List.take_append_drop i MO, hdc, List.mem_append, List.mem_cons] at hkM
      exact hkM
    have hdisj : ∀ k, k ∈ MO.drop (i + 1) → k ∉ MO.take i := by
      intro k hk u
      have hnd2 := hnd
      rw [← List.take_append_drop i MO, hdc, List.nodup_append] at hnd2
      exact hnd2.2.2 k u k (List.mem_cons_of_mem _ hk) rfl
    have hqt : q ∉ MO.take i := by
      intro u
      have hnd2 := hnd
      rw [← List.take_append_drop i MO, hdc, List.nodup_append] at hnd2
      exact hnd2.2.2 q u q List.mem_cons_self rfl
    have hdN : ∀ k, k ∈ MO.drop (i + 1) → k < N := fun k hk => (hM.2.2.1 k).1 (List.mem_of_mem_drop hk)
    have hcls : ∀ {α : Type} (G : gM → Option α), True := fun _ => trivial
    have key1 : keyO m1 55 = keyO m0 55 := by
      funext k
      unfold keyO
      rw [hf (55 + 4) (by decide) (by omega) (by omega) (by omega), hf (55 + 5) (by decide) (by omega) (by omega) (by omega)]
    have hsrt : ∀ (p : Nat → Bool), ((MO.drop (i + 1)).filter p).Pairwise (kl (keyO m1 55)) := fun p => by
      rw [key1]
      exact (hM.2.1.sublist (List.drop_sublist _ _)).filter _
    have l62 : a_ld 60 62 (iI (c : Nat)) m1 = some (m1 62 c) := by
      rw [a_ldI (by omega) (by omega) (by omega), Int.toNat_natCast]
    have n32 : a_ld 60 32 (iI (c : Nat)) m2 = some (m1 62 c) := by
      rw [a_ldI (by omega) (by omega) (by omega), Int.toNat_natCast, hO.2.1.2.2.2.2.2]
    have l63 : a_ld 60 63 (iI (i : Nat)) m1 = some (iI (q : Nat)) := by
      rw [a_ldI (by omega) (by omega) (by omega), Int.toNat_natCast, hf 63 (by decide) (by omega) (by omega) (by omega), hM.2.2.2 i hiN, hq]
    have hqn : ¬ iI (q : Nat) = -1 := by
      rw [iL_1, iI_neg, iI_eqP (by omega) (by omega) (by omega) (by omega)]
      omega
    unfold f_X9_tradeAll_L2
    rw [hf 55 (by decide) (by omega) (by omega) (by omega), h55, iI_le (by omega) (by omega) (by omega) (by omega), if_neg (by omega), l62, ob_some]
    by_cases cz : m1 62 c ≤ 0
    · rw [if_pos cz]
      have hend : ∃ y2 m4, f_X10_offer_L215 (iI (c : Nat)) (g2 + 1) (hdI ((MO.drop i).filter (el m1 c))) m2 = some (y2, m4) ∧ m4 = m2 := by
        unfold f_X10_offer_L215
        by_cases w : hdI ((MO.drop i).filter (el m1 c)) = -1
        · exact ⟨_, _, if_pos w, rfl⟩
        · rw [if_neg w, n32, ob_some, if_pos cz]
          exact ⟨_, _, rfl, rfl⟩
      obtain ⟨y2, m4, he, hm4⟩ := hend
      subst hm4
      exact ⟨_, _, _, _, rfl, he, hT, pB_up hB (by omega), fun c _ _ _ _ => rfl, ⟨fun c _ _ _ _ _ => rfl, fun i _ => rfl, fun i _ => rfl⟩⟩
    · rw [if_neg cz, l63, ob_some]
      by_cases hel : el m1 c q = true
      · have hflt : (MO.drop i).filter (el m1 c) = q :: (MO.drop (i + 1)).filter (el m1 c) := by
          rw [hdc, List.filter_cons_of_pos hel]
        have hh := of_decide_eq_true hel
        have hcq : c ≠ q := fun e => hh.2.2.1 (by rw [e])
        obtain ⟨m46, e46⟩ : ∃ m46, m46 = g_up m2 33 (upd (m2 33) q 1) := ⟨_, rfl⟩
        have hT46 : tI d N m1 m46 := by rw [e46]; exact tI_33 hT _
        have h33 : ∀ k, m46 33 k = if k = q then 1 else m2 33 k := fun k => by rw [e46, g_up_at, updA]
        have f46 : ∀ k, k ≠ 33 → m46 k = m2 k := fun k hk => by rw [e46, g_up_ne _ _ hk]
        have hM46 : tfM d m2 m46 := ⟨fun c _ h _ _ _ => f46 c h, fun i _ => by rw [f46 42 (by decide)], fun i _ => by rw [f46 45 (by decide)]⟩
        have hstep : f_X10_offer_L215 (iI (c : Nat)) (g2 + 1) (hdI (q :: (MO.drop (i + 1)).filter (el m1 c))) m2 = ob (f_X10_meets (iI (c : Nat)) (iI (q : Nat)) m46) fun m47 => ob (f_X10_restFor (iI (c : Nat)) m47) fun r48 => f_X10_offer_L215 (iI (c : Nat)) g2 r48 m47 := by
          show f_X10_offer_L215 (iI (c : Nat)) (g2 + 1) (iI (q : Nat)) m2 = _
          rw [f_X10_offer_L215, if_neg hqn, n32, ob_some, if_neg cz, a_stI (by omega) (by omega) (by omega), ob_some, Int.toNat_natCast, ← e46]
        by_cases hfm : m1 56 c = m1 56 q
        · rw [(sp_ofits hO hcN2 hlt).2 (fun h => h.2 hfm), ob_some, if_pos rfl, ob_some, iI_succ, hflt, hstep, sp_meets0 hT46 hcN2 hlt hfm, ob_some]
          rw [sp_restFor (E := (MO.drop (i + 1)).filter (el m1 c)) hT46.2.2.2.1 hcN2 (hsrt _) (fun k => by
            rw [List.mem_filter, h33]
            constructor
            · intro ⟨a, b⟩
              have hkN := hdN k a
              have hkc : k ≠ c := fun e => by rw [e, el_self] at b; cases b
              rw [if_neg (fun e => hqd (by rw [← e]; exact a))]
              exact ⟨by omega, hdr k (by rw [hdc]; exact List.mem_cons_of_mem _ a), b⟩
            · intro ⟨a, b, e⟩
              rcases hsplit k (by omega) with u | u | u
              · exfalso
                rw [if_neg (fun w => hqt (by rw [← w]; exact u))] at b
                rcases ht k u with v | v
                · rw [v] at b; exact absurd b (by decide)
                · rw [v] at e; cases e
              · rw [if_pos u] at b; exact absurd b (by decide)
              · exact ⟨u, e⟩), ob_some]
          obtain ⟨y, m3, y2, m4, r1, r2, r3, r4, r5, r6⟩ := ih (i + 1) (by omega) g1 g2 m1 m46 B (by omega) (by omega) hT46 hf hB (by omega) (fun k hk => by
            rw [htk, List.mem_append, List.mem_singleton] at hk
            rw [h33]
            rcases hk with u | u
            · rw [if_neg (fun w => hqt (by rw [← w]; exact u))]; exact ht k u
            · rw [if_pos u]; exact Or.inl rfl) (fun k hk => by
            rw [h33, if_neg (fun e => hqd (by rw [← e]; exact hk))]
            exact hdr k (by rw [hdc]; exact List.mem_cons_of_mem _ hk))
          exact ⟨y, m3, y2, m4, r1, r2, r3, pB_up r4 (by omega), r5, tfM_tr hM46 r6⟩
        · obtain ⟨m3, m4, s1, s2, s3, s4, s5, s6, s7, s8⟩ := sim_trade hT46 hB (by omega) hcN2 hlt hcq hfm hh.2.1.symm
          rw [(sp_ofits hO hcN2 hlt).1 ⟨hel, hfm⟩, ob_some, if_neg (by decide), s1, ob_some, ob_some, iI_succ, hflt, hstep, s2, ob_some]
          have hf3 : tfC d m0 m3 := tfC_tr hf s5
          have key3 : keyO m3 55 = keyO m1 55 := by
            funext k
            unfold keyO
            rw [s5 (55 + 4) (by decide) (by omega) (by omega) (by omega), s5 (55 + 5) (by decide) (by omega) (by omega) (by omega)]
          have hel3 : ∀ k, k ≠ q → el m3 c k = el m1 c k := by
            intro k hkq
            by_cases hkc : k = c
            · rw [hkc, el_self, el_self]
            · unfold el
              rw [key3, s8 k hkc hkq, s5 58 (by decide) (by omega) (by omega) (by omega), s5 59 (by decide) (by omega) (by omega) (by omega)]
          have h33b : ∀ k, m4 33 k = if k = q then 1 else m2 33 k := fun k => by rw [s7]; exact h33 k
          rw [sp_restFor (E := (MO.drop (i + 1)).filter (el m3 c)) s3.2.2.2.1 hcN2 (by rw [key3]; exact hsrt _) (fun k => by
            rw [List.mem_filter, h33b]
            constructor
            · intro ⟨a, b⟩
              have hkN := hdN k a
              have hkc : k ≠ c := fun e => by rw [e, el_self] at b; cases b
              rw [if_neg (fun e => hqd (by rw [← e]; exact a))]
              exact ⟨by omega, hdr k (by rw [hdc]; exact List.mem_cons_of_mem _ a), b⟩
            · intro ⟨a, b, e⟩
              rcases hsplit k (by omega) with u | u | u
              · exfalso
                have hkq : k ≠ q := fun w => hqt (by rw [← w]; exact u)
                rw [if_neg hkq] at b
                rw [hel3 k hkq] at e
                rcases ht k u with v | v
                · rw [v] at b; exact absurd b (by decide)
                · rw [v] at e; cases e
              · rw [if_pos u] at b; exact absurd b (by decide)
              · exact ⟨u, e⟩), ob_some]
          obtain ⟨y, m5, y2, m6, r1, r2, r3, r4, r5, r6⟩ := ih (i + 1) (by omega) g1 g2 m3 m4 (B + 20) (by omega) (by omega) s3 hf3 s4 (by omega) (fun k hk => by
            rw [htk, List.mem_append, List.mem_singleton] at hk
            rw [h33b]
            rcases hk with u | u
            · have hkq : k ≠ q := fun w => hqt (by rw [← w]; exact u)
              rw [if_neg hkq, hel3 k hkq]; exact ht k u
            · rw [if_pos u]; exact Or.inl rfl) (fun k hk => by
            rw [h33b, if_neg (fun e => hqd (by rw [← e]; exact hk))]
            exact hdr k (by rw [hdc]; exact List.mem_cons_of_mem _ hk))
          exact ⟨y, m5, y2, m6, r1, r2, r3, pB_up r4 (by omega), tfC_tr s5 r5, tfM_tr (tfM_tr hM46 s6) r6⟩
      · have hel2 : el m1 c q = false := by
          cases hx : el m1 c q with
          | true => exact absurd hx hel
          | false => rfl
        have hflt : (MO.drop i).filter (el m1 c) = (MO.drop (i + 1)).filter (el m1 c) := by
          rw [hdc, List.filter_cons_of_neg hel]
        rw [(sp_ofits hO hcN2 hlt).2 (fun h => hel h.1), ob_some, if_pos rfl, ob_some, iI_succ, hflt]
        obtain ⟨y, m3, y2, m4, r1, r2, r3, r4, r5, r6⟩ := ih (i + 1) (by omega) g1 (g2 + 1) m1 m2 B (by omega) (by omega) hT hf hB (by omega) (fun k hk => by
          rw [htk, List.mem_append, List.mem_singleton] at hk
          rcases hk with u | u
          · exact ht k u
          · rw [u]; exact Or.inr hel2) (fun k hk => hdr k (by rw [hdc]; exact List.mem_cons_of_mem _ hk))
        exact ⟨y, m3, y2, m4, r1, r2, r3, pB_up r4 (by omega), r5, r6⟩
