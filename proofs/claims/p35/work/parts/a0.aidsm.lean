theorem adC_of {j na : Nat} {MD : List Nat} {mc mm : gM} (hj : j < 10) (h : rAd j na MD mc mm) : adC mc (69 + 16 * j + 7) na MD := by
  obtain ⟨a1, a2, a3, a4, a5⟩ := h
  refine ⟨oln_aid j hj, a1, a3, a4, fun k hk => ?_⟩
  obtain ⟨⟨_, _, u3, _, _⟩, r1, r2, r3, r4⟩ := a5 k hk
  exact ⟨r1, r2, by rcases u3 with u | u; exact Or.inl u.1; exact Or.inr u.1, r3, r4⟩
theorem sp_zero40 {j : Nat} {m : gM} (hj : j < 10) : T (f_X10_helps_L37 (iI ((30 * j : Nat) : Int)) f_fuel (iI ((30 * j : Nat) : Int)) m) (fun t => ∃ row, t.2 = g_up m 40 row ∧ ∀ k, k < 30 → row (30 * j + k) = 0) := by
  refine T_run2 (f_X10_helps_L37 (iI ((30 * j : Nat) : Int))) (fun k x m2 => x = iI ((30 * j + k : Nat) : Int) ∧ ∃ row, m2 = g_up m 40 row ∧ ∀ i, i < k → row (30 * j + i) = 0) _ 30 0 _ _ ⟨rfl, m 40, by rw [g_upE _ _ _ rfl], fun i hi => absurd hi (by omega)⟩ (Nat.zero_le _) (by omega) ?_
  intro k x m2 f hI hk hcont
  obtain ⟨e, row, e2, h1⟩ := hI
  subst e
  subst e2
  unfold f_X10_helps_L37
  rw [iL_30, iI_add, iI_le (by omega) (by omega) (by omega) (by omega)]
  by_cases c : ((30 * j : Nat) : Int) + 30 ≤ ((30 * j + k : Nat) : Int)
  · rw [if_pos c]
    have e : k = 30 := by omega
    subst e
    exact T_some ⟨row, rfl, h1⟩
  · rw [if_neg c, a_stI (by omega) (by omega) (by omega), ob_some, Int.toNat_natCast, g_up_at, g_up2]
    refine hcont (by omega) _ _ ⟨iI_succ (30 * j + k), _, rfl, ?_⟩
    intro i hi
    rw [updA]
    by_cases q : 30 * j + i = 30 * j + k
    · rw [if_pos q]
    · rw [if_neg q]; exact h1 i (by omega)
theorem sp_helpsM {j na h need : Nat} {MD : List Nat} {mc mm : gM} {b z4 : Int32} (hj : j < 10) (hh : h < 4) (hR : rAd j na MD mc mm) (hz : (z4 = 1 ∧ b = 0) ∨ (z4 = 0 ∧ b = 1)) (hn1 : need ≤ 3000000) (h40 : ∀ k, k < 30 → mm 40 (30 * j + k) = 0) : T (f_X10_helps_L64 (iI (j : Nat)) (iI (h : Nat)) (iI ((30 * j : Nat) : Int)) z4 f_fuel (iI (need : Nat)) (-1) 0 mm) (fun t => t.1 = iI ((rs (dP mc (69 + 16 * j + 7)) (dU mc (69 + 16 * j + 7)) need (-1) (Lh mc (69 + 16 * j + 7) MD (iI (h : Nat)) b)).1 : Nat) ∧ t.2.1 = (rs (dP mc (69 + 16 * j + 7)) (dU mc (69 + 16 * j + 7)) need (-1) (Lh mc (69 + 16 * j + 7) MD (iI (h : Nat)) b)).2.1 ∧ ∃ row, t.2.2.2 = g_up mm 40 row ∧ ∀ k, k < na → row (30 * j + k) = if k ∈ Lh mc (69 + 16 * j + 7) MD (iI (h : Nat)) b then iI ((rs (dP mc (69 + 16 * j + 7)) (dU mc (69 + 16 * j + 7)) need (-1) (Lh mc (69 + 16 * j + 7) MD (iI (h : Nat)) b)).2.2.2 k : Nat) else 0) := by
  have hA := adC_of hj hR
  obtain ⟨_, r34, hn, hM, hk⟩ := id hR
  have hmem : ∀ k, k ∈ Lh mc (69 + 16 * j + 7) MD (iI (h : Nat)) b ↔ k < na ∧ mc (69 + 16 * j + 7 + 3) k = iI (h : Nat) ∧ mc (69 + 16 * j + 7 + 4) k = b := fun k => Lh_mem hA
  have hsrt : (Lh mc (69 + 16 * j + 7) MD (iI (h : Nat)) b).Pairwise (kl (keyO mc (69 + 16 * j + 7))) := hM.2.1.filter _
  generalize ho : 69 + 16 * j + 7 = o at *
  obtain ⟨c0, hc0⟩ : ∃ c0 : Int, (z4 = 1 ∧ b = 0 ∧ c0 = 0) ∨ (z4 = 0 ∧ b = 1 ∧ c0 = -300) := by
    rcases hz with u | u
    · exact ⟨0, Or.inl ⟨u.1, u.2, rfl⟩⟩
    · exact ⟨-300, Or.inr ⟨u.1, u.2, rfl⟩⟩
  generalize hLL : Lh mc o MD (iI (h : Nat)) b = L at *
  -- the level of an aid that may help
  have hkey : ∀ k, k ∈ L → keyO mc o k = (if z4 = 1 then (mc (o + 5) k).toInt else -(mc (o + 5) k).toInt) := by
    intro k hkL
    have h4 := ((hmem k).1 hkL).2.2
    unfold keyO
    rcases hc0 with ⟨u1, u2, _⟩ | ⟨u1, u2, _⟩
    · rw [if_pos (by rw [h4, u2]), if_pos u1]
    · rw [if_neg (by rw [h4, u2]; decide), if_neg (by rw [u1]; decide)]
  have hkr : ∀ k, k ∈ L → c0 ≤ keyO mc o k ∧ keyO mc o k ≤ 300 + c0 := by
    intro k hkL
    have h5 := (hk k ((hmem k).1 hkL).1).2.2.2.1
    unfold rg at h5
    rw [hkey k hkL]
    rcases hc0 with ⟨u1, u2, u3⟩ | ⟨u1, u2, u3⟩
    · rw [if_pos u1]; omega
    · rw [if_neg (by rw [u1]; decide)]; omega
  generalize hrs : rs (dP mc o) (dU mc o) need (-1) = S at *
  have S_le : ∀ A, (S A).1 ≤ need := fun A => by rw [← hrs]; exact rs_le _ _ _ _ A
  have S_app : ∀ A k, S (A ++ [k]) = rstep (dP mc o) (dU mc o) (S A) k := fun A k => by rw [← hrs]; exact rs_app _ _ _ _ A k
  have S_nil : S [] = (need, -1, 0, fun _ => 0) := by rw [← hrs]; rfl
  refine T_run4 (f_X10_helps_L64 (iI (j : Nat)) (iI (h : Nat)) (iI ((30 * j : Nat) : Int)) z4) (fun s x12 x13 x14 m15 => x12 = iI ((S (L.filter (pl (keyO mc o) ((s : Nat) + c0) 0))).1 : Nat) ∧ x13 = (S (L.filter (pl (keyO mc o) ((s : Nat) + c0) 0))).2.1 ∧ x14 = iI (s : Nat) ∧ ∃ row, m15 = g_up mm 40 row ∧ ∀ k, k < na → row (30 * j + k) = if k ∈ L.filter (pl (keyO mc o) ((s : Nat) + c0) 0) then iI ((S (L.filter (pl (keyO mc o) ((s : Nat) + c0) 0))).2.2.2 k : Nat) else 0) _ 301 0 _ _ _ _ ?_ (Nat.zero_le _) (by omega) ?_
  · have e0 : L.filter (pl (keyO mc o) (((0 : Nat) : Int) + c0) 0) = [] := pl_bot (fun x hx => by have := (hkr x hx).1; omega)
    rw [e0, S_nil]
    refine ⟨rfl, rfl, rfl, mm 40, by rw [g_upE _ _ _ rfl], fun k hk => ?_⟩
    rw [if_neg (by simp)]
    exact h40 k (by omega)
  · intro s x12 x13 x14 m15 f hI hs hcont
    obtain ⟨e1, e2, e3, row, e4, hrow⟩ := hI
    subst e1
    subst e2
    subst e3
    subst e4
    unfold f_X10_helps_L64
    have h300 : (300 < iI (s : Nat)) = ((300 : Int) < (s : Nat)) := by rw [iL_300, iI_ltP (by omega) (by omega) (by omega) (by omega)]
    by_cases c : (300 : Int) < (s : Nat)
    · rw [if_pos (by rw [h300]; exact c)]
      have e9 : L.filter (pl (keyO mc o) ((s : Nat) + c0) 0) = L := pl_top (fun x hx => by have := (hkr x hx).2; omega)
      rw [e9] at hrow ⊢
      exact T_some ⟨rfl, rfl, row, rfl, hrow⟩
    · rw [if_neg (by rw [h300]; exact c)]
      obtain ⟨its, eits, hits⟩ : ∃ its : Int, (∀ {α : Type} (G : Int32 → Option α), ob (if z4 = 1 then some (iI (s : Nat)) else some (300 - iI (s : Nat))) G = G (iI its)) ∧ ((z4 = 1 ∧ its = (s : Nat)) ∨ (z4 = 0 ∧ its = 300 - (s : Nat))) := by
        rcases hz with u | u
        · exact ⟨(s : Nat), fun G => by rw [if_pos u.1, ob_some], Or.inl ⟨u.1, rfl⟩⟩
        · refine ⟨300 - (s : Nat), fun G => ?_, Or.inr ⟨u.1, rfl⟩⟩
          rw [if_neg (by rw [u.1]; decide), ob_some, iL_300, iI_sub]
      rw [eits]
      have hlev : ∀ k, k ∈ L → (mc (o + 5) k = iI its ↔ keyO mc o k = (s : Nat) + c0) := by
        intro k hkL
        have h5 := (hk k ((hmem k).1 hkL).1).2.2.2.1
        unfold rg at h5
        rw [hkey k hkL]
        constructor
        · intro e
          rw [e, iI_toInt (by omega) (by omega)]
          rcases hc0 with ⟨u1, u2, u3⟩ | ⟨u1, u2, u3⟩
          · rw [if_pos u1]
            rcases hits with v | v
            · omega
            · rw [u1] at v; exact absurd v.1 (by decide)
          · rw [if_neg (by rw [u1]; decide)]
            rcases hits with v | v
            · rw [u1] at v; exact absurd v.1 (by decide)
            · omega
        · intro e
          rw [← iI_of (mc (o + 5) k)]
          rcases hc0 with ⟨u1, u2, u3⟩ | ⟨u1, u2, u3⟩
          · rw [if_pos u1] at e
            rcases hits with v | v
            · rw [show (mc (o + 5) k).toInt = its by omega]
            · rw [u1] at v; exact absurd v.1 (by decide)
          · rw [if_neg (by rw [u1]; decide)] at e
            rcases hits with v | v
            · rw [u1] at v; exact absurd v.1 (by decide)
            · rw [show (mc (o + 5) k).toInt = its by omega]
      refine T_ob (P := fun t => t.1 = iI ((S (L.filter (pl (keyO mc o) (((s + 1 : Nat) : Int) + c0) 0))).1 : Nat) ∧ t.2.1 = (S (L.filter (pl (keyO mc o) (((s + 1 : Nat) : Int) + c0) 0))).2.1 ∧ ∃ row, t.2.2.2 = g_up mm 40 row ∧ ∀ k, k < na → row (30 * j + k) = if k ∈ L.filter (pl (keyO mc o) (((s + 1 : Nat) : Int) + c0) 0) then iI ((S (L.filter (pl (keyO mc o) (((s + 1 : Nat) : Int) + c0) 0))).2.2.2 k : Nat) else 0) ?_ ?_
      · refine T_run4 (f_X10_helps_L95 (iI (j : Nat)) (iI (h : Nat)) (iI ((30 * j : Nat) : Int)) (iI its) z4) (fun i x23 x24 x25 m26 => x23 = iI ((S (L.filter (pl (keyO mc o) ((s : Nat) + c0) i))).1 : Nat) ∧ x24 = (S (L.filter (pl (keyO mc o) ((s : Nat) + c0) i))).2.1 ∧ x25 = iI ((30 * j + i : Nat) : Int) ∧ ∃ row, m26 = g_up mm 40 row ∧ ∀ k, k < na → row (30 * j + k) = if k ∈ L.filter (pl (keyO mc o) ((s : Nat) + c0) i) then iI ((S (L.filter (pl (keyO mc o) ((s : Nat) + c0) i))).2.2.2 k : Nat) else 0) _ na 0 _ _ _ _ ⟨rfl, rfl, rfl, row, rfl, hrow⟩ (Nat.zero_le _) (by omega) ?_
        intro i x23 x24 x25 m26 g hJ hi hcont9
        obtain ⟨d1, d2, d3, row9, d4, hrow9⟩ := hJ
        subst d1
        subst d3
        subst d4
        unfold f_X10_helps_L95
        rw [a_ldI (by omega) (by omega) (by omega), ob_some, Int.toNat_natCast, g_up_ne _ _ (show (34 : Nat) ≠ 40 by decide), r34, iI_add, iI_le (by omega) (by omega) (by omega) (by omega)]
        by_cases c9 : ((30 * j : Nat) : Int) + (na : Nat) ≤ ((30 * j + i : Nat) : Int)
        · rw [if_pos c9]
          have e : i = na := by omega
          have enx : L.filter (pl (keyO mc o) ((s : Nat) + c0) i) = L.filter (pl (keyO mc o) (((s + 1 : Nat) : Int) + c0) 0) := by
            rw [e, pl_next (fun x hx => ((hmem x).1 hx).1), show ((s : Nat) : Int) + c0 + 1 = ((s + 1 : Nat) : Int) + c0 by omega]
          rw [enx] at d2 hrow9 ⊢
          exact T_some ⟨rfl, d2, row9, rfl, hrow9⟩
        · rw [if_neg c9]
          have hin : i < na := by omega
          obtain ⟨⟨w35, w36, w37, w38, w39⟩, s1, s2, s3, s4⟩ := hk i hin
          obtain ⟨eU, hU1, hU2⟩ := dU_of s4
          have hle := S_le (L.filter (pl (keyO mc o) ((s : Nat) + c0) i))
          have hgo : ∀ (A2 : List Nat), L.filter (pl (keyO mc o) ((s : Nat) + c0) (i + 1)) = A2 → (S A2).1 = (S (L.filter (pl (keyO mc o) ((s : Nat) + c0) i))).1 → (S A2).2.1 = (S (L.filter (pl (keyO mc o) ((s : Nat) + c0) i))).2.1 → (∀ k, k < na → (if k ∈ A2 then iI ((S A2).2.2.2 k : Nat) else (0 : Int32)) = if k ∈ L.filter (pl (keyO mc o) ((s : Nat) + c0) i) then iI ((S (L.filter (pl (keyO mc o) ((s : Nat) + c0) i))).2.2.2 k : Nat) else 0) → T (ob (some (iI ((S (L.filter (pl (keyO mc o) ((s : Nat) + c0) i))).1 : Nat), x24, g_up mm 40 row9)) fun (t48 : Int32 × Int32 × gM) => ob (some t48.1) fun x34 => ob (some t48.2.1) fun x35 => ob (some t48.2.2) fun m36 => f_X10_helps_L95 (iI (j : Nat)) (iI (h : Nat)) (iI ((30 * j : Nat) : Int)) (iI its) z4 g x34 x35 (iI ((30 * j + i : Nat) : Int) + 1) m36) (fun t => t.1 = iI ((S (L.filter (pl (keyO mc o) (((s + 1 : Nat) : Int) + c0) 0))).1 : Nat) ∧ t.2.1 = (S (L.filter (pl (keyO mc o) (((s + 1 : Nat) : Int) + c0) 0))).2.1 ∧ ∃ row, t.2.2.2 = g_up mm 40 row ∧ ∀ k, k < na → row (30 * j + k) = if k ∈ L.filter (pl (keyO mc o) (((s + 1 : Nat) : Int) + c0) 0) then iI ((S (L.filter (pl (keyO mc o) (((s + 1 : Nat) : Int) + c0) 0))).2.2.2 k : Nat) else 0) := by
            intro A2 hA2 g1 g2 g3
            simp only [ob_sm]
            refine hcont9 hin _ _ _ _ ⟨by rw [hA2, g1], by rw [hA2, g2]; exact d2, iI_succ (30 * j + i), row9, rfl, fun k hkn => ?_⟩
            rw [hA2, g3 k hkn]
            exact hrow9 k hkn
          by_cases hinL : i ∈ L ∧ keyO mc o i = (s : Nat) + c0
          · have hst := pl_step hsrt hinL.1 hinL.2
            have hnm := pl_mem (L := L) hinL.2
            have hii := (hmem i).1 hinL.1
            have hpi := (hlev i hinL.1).2 hinL.2
            have happ := S_app (L.filter (pl (keyO mc o) ((s : Nat) + c0) i)) i
            rw [← hst] at happ
            by_cases w : (S (L.filter (pl (keyO mc o) ((s : Nat) + c0) i))).1 = 0
            · rw [if_pos (by rw [le0 (by omega) (by omega)]; omega)]
              refine hgo _ rfl ?_ ?_ ?_
              · rw [happ]
                show (S (L.filter (pl (keyO mc o) ((s : Nat) + c0) i))).1 - min (dU mc o i) (S (L.filter (pl (keyO mc o) ((s : Nat) + c0) i))).1 = _
                omega
              · rw [happ]
                show (if 0 < min (dU mc o i) (S (L.filter (pl (keyO mc o) ((s : Nat) + c0) i))).1 then dP mc o i else _) = _
                rw [if_neg (by omega)]
              · intro k hkn
                rw [happ, hst]
                show (if k ∈ L.filter (pl (keyO mc o) ((s : Nat) + c0) i) ++ [i] then iI ((if k = i then min (dU mc o i) (S (L.filter (pl (keyO mc o) ((s : Nat) + c0) i))).1 else (S (L.filter (pl (keyO mc o) ((s : Nat) + c0) i))).2.2.2 k : Nat) : Int) else (0 : Int32)) = _
                by_cases u : k = i
                · subst u
                  rw [if_pos (List.mem_append_right _ (List.mem_singleton.2 rfl)), if_pos rfl, w, if_neg hnm, Nat.min_zero]
                  rfl
                · rw [if_neg u]
                  by_cases v : k ∈ L.filter (pl (keyO mc o) ((s : Nat) + c0) i)
                  · rw [if_pos v, if_pos (List.mem_append_left _ v)]
                  · rw [if_neg v, if_neg (fun x => by rw [List.mem_append, List.mem_singleton] at x; exact x.elim v u)]
            · generalize hA1 : L.filter (pl (keyO mc o) ((s : Nat) + c0) i) = A at *
              generalize hA2 : L.filter (pl (keyO mc o) ((s : Nat) + c0) (i + 1)) = A2 at *
              have v1 : mm 36 (30 * j + i) = iI (h : Nat) := by rw [← w36]; exact hii.2.1
              have v2 : mm 37 (30 * j + i) = z4 := by
                have h4 := hii.2.2
                rcases w37 with ⟨u1, u2⟩ | ⟨u1, u2⟩
                · rw [u2]
                  rcases hz with x | x
                  · exact x.1.symm
                  · rw [u1, x.2] at h4; exact absurd h4 (by decide)
                · rw [u2]
                  rcases hz with x | x
                  · rw [u1, x.2] at h4; exact absurd h4 (by decide)
                  · exact x.1.symm
              have v3 : mm 38 (30 * j + i) = iI its := by rw [← w38]; exact hpi
              have v4 : mm 39 (30 * j + i) = iI (dU mc o i : Nat) := by rw [← w39]; exact eU
              have ln : ∀ (C : Nat), C ≠ 40 → a_ld 300 C (iI ((30 * j + i : Nat) : Int)) (g_up mm 40 row9) = some (mm C (30 * j + i)) := by
                intro C hC
                rw [a_ldI (by omega) (by omega) (by omega), Int.toNat_natCast, g_up_ne _ _ hC]
              have hles : f_X10_lesser (iI (dU mc o i : Nat)) (iI ((S A).1 : Nat)) = some (iI ((min (dU mc o i) (S A).1 : Nat) : Int)) := by
                unfold f_X10_lesser
                rw [iI_le (by omega) (by omega) (by omega) (by omega)]
                by_cases u : (((S A).1 : Nat) : Int) ≤ (dU mc o i : Nat)
                · rw [if_pos u, ob_some, Nat.min_eq_right (by omega)]
                · rw [if_neg u, ob_some, Nat.min_eq_left (by omega)]
              rw [if_neg (by rw [le0 (by omega) (by omega)]; omega), ln 36 (by decide), ob_some, if_pos v1, ln 37 (by decide), ob_some, if_pos v2, ln 38 (by decide), ob_some, if_pos v3, ln 39 (by decide), ob_some, v4, hles, ob_some, a_stI (by omega) (by omega) (by omega), ob_some, Int.toNat_natCast, g_up_at, g_up2, a_ldI (by omega) (by omega) (by omega), ob_some, Int.toNat_natCast, g_up_at, updA, if_pos rfl, iI_sub]
              simp only [ob_sm]
              refine hcont9 hin _ _ _ _ ⟨?_, ?_, iI_succ (30 * j + i), _, rfl, ?_⟩
              · rw [happ]
                show _ = iI (((S A).1 - min (dU mc o i) (S A).1 : Nat) : Int)
                congr 1
                omega
              · rw [happ]
                show iI its = if 0 < min (dU mc o i) (S A).1 then dP mc o i else (S A).2.1
                rw [if_pos (by omega)]
                exact hpi.symm
              · intro k hkn
                rw [happ, hst, updA]
                show _ = if k ∈ A ++ [i] then iI ((if k = i then min (dU mc o i) (S A).1 else (S A).2.2.2 k : Nat) : Int) else 0
                by_cases u : k = i
                · subst u
                  rw [if_pos rfl, if_pos (List.mem_append_right _ (List.mem_singleton.2 rfl)), if_pos rfl]
                · rw [if_neg (show ¬ 30 * j + k = 30 * j + i by omega), hrow9 k hkn, if_neg u]
                  by_cases v : k ∈ A
                  · rw [if_pos v, if_pos (List.mem_append_left _ v)]
                  · rw [if_neg v, if_neg (fun x => by rw [List.mem_append, List.mem_singleton] at x; exact x.elim v u)]
          · have hsk := pl_skip hinL
            have hg := hgo _ rfl (by rw [hsk]) (by rw [hsk]) (fun k _ => by rw [hsk])
            by_cases w : (S (L.filter (pl (keyO mc o) ((s : Nat) + c0) i))).1 = 0
            · rw [if_pos (by rw [le0 (by omega) (by omega)]; omega)]
              exact hg
            · have ln : ∀ (C : Nat), C ≠ 40 → a_ld 300 C (iI ((30 * j + i : Nat) : Int)) (g_up mm 40 row9) = some (mm C (30 * j + i)) := by
                intro C hC
                rw [a_ldI (by omega) (by omega) (by omega), Int.toNat_natCast, g_up_ne _ _ hC]
              rw [if_neg (by rw [le0 (by omega) (by omega)]; omega), ln 36 (by decide), ob_some]
              by_cases v1 : mm 36 (30 * j + i) = iI (h : Nat)
              · rw [if_pos v1, ln 37 (by decide), ob_some]
                by_cases v2 : mm 37 (30 * j + i) = z4
                · rw [if_pos v2, ln 38 (by decide), ob_some]
                  have v3 : ¬ mm 38 (30 * j + i) = iI its := by
                    intro v3
                    have hiL : i ∈ L := by
                      refine (hmem i).2 ⟨hin, by rw [w36]; exact v1, ?_⟩
                      rcases w37 with ⟨u1, u2⟩ | ⟨u1, u2⟩
                      · rcases hz with x | x
                        · rw [u1, x.2]
                        · rw [u2, x.1] at v2; exact absurd v2 (by decide)
                      · rcases hz with x | x
                        · rw [u2, x.1] at v2; exact absurd v2 (by decide)
                        · rw [u1, x.2]
                    exact hinL ⟨hiL, (hlev i hiL).1 (by rw [w38]; exact v3)⟩
                  rw [if_neg v3]
                  exact hg
                · rw [if_neg v2]
                  exact hg
              · rw [if_neg v1]
                exact hg
      · intro t ht
        obtain ⟨y1, y2, y3, m36⟩ := t
        obtain ⟨t1, t2, row9, t4, t5⟩ := ht
        have t4 : m36 = g_up mm 40 row9 := t4
        simp only [ob_sm]
        exact hcont (by omega) _ _ _ _ ⟨t1, t2, iI_succ s, row9, t4, t5⟩
