theorem sp_mext {C k9 : Nat} {m : gM} {l : List Int} {P : Int} {U : Nat} {b : Int32} (hC : (b = 1 ∧ C = 50) ∨ (b = 0 ∧ C = 49)) (hk9 : k9 < 40) (hP : m 9 k9 = iI P) (hUe : m 10 k9 = iI (U : Nat)) (hl : l.length + U ≤ 400) (hU : U ≤ 1000) (h : ∀ j, j ≤ l.length → m C j = iI (pf l j)) : T (f_X10_sums_L29 b (iI (k9 : Nat)) f_fuel (iI l.length) 0 m) (fun t => ∃ row, t = (iI ((l.length + U : Nat) : Int), iI (U : Nat), g_up m C row) ∧ ∀ j, j ≤ l.length + U → row j = iI (pf (l ++ List.replicate U P) j)) := by
  have hC1 : C ≠ 9 ∧ C ≠ 10 := by omega
  refine T_run3 (f_X10_sums_L29 b (iI (k9 : Nat))) (fun k x y m2 => ∃ row, x = iI ((l.length + k : Nat) : Int) ∧ y = iI (k : Nat) ∧ m2 = g_up m C row ∧ ∀ j, j ≤ l.length + k → row j = iI (pf (l ++ List.replicate U P) j)) _ U 0 (iI l.length) 0 m ?_ (Nat.zero_le _) (by omega) ?_
  · refine ⟨m C, rfl, rfl, by rw [g_upE _ _ _ rfl], fun j hj => ?_⟩
    rw [h j (by omega), pf_app _ _ (by omega)]
  · intro k s1 s2 s3 f hI hk hc
    obtain ⟨row, e, e2, e3, h1⟩ := hI
    subst e
    subst e2
    subst e3
    show T (f_X10_sums_L29 b (iI (k9 : Nat)) (f + 1) (iI ((l.length + k : Nat) : Int)) (iI (k : Nat)) (g_up m C row)) _
    unfold f_X10_sums_L29
    rw [a_ldI (by omega) (by omega) (by omega), ob_some, Int.toNat_natCast, g_up_ne _ _ (Ne.symm hC1.2), hUe, iI_le (by omega) (by omega) (by omega) (by omega)]
    refine T_ite (fun c => ?_) (fun c => ?_)
    · have e : k = U := by omega
      subst e
      exact T_some ⟨row, rfl, h1⟩
    · have hrow : ∀ j, j ≤ l.length + (k + 1) → upd row (l.length + k + 1) (iI (pf (l ++ List.replicate U P) (l.length + k)) + iI P) j = iI (pf (l ++ List.replicate U P) j) := by
        intro j hj
        rw [updA]
        by_cases q : j = l.length + k + 1
        · rw [if_pos q, iI_add, q]
          have hlen : l.length + k < (l ++ List.replicate U P).length := by rw [List.length_append, List.length_replicate]; omega
          rw [pf_succ _ hlen]
          congr 2
          rw [gD _ _ hlen, List.getElem_append_right (by omega)]
          simp
        · rw [if_neg q]
          exact h1 j (by omega)
      have en : ((l.length + k : Nat) : Int) + 1 - 1 = ((l.length + k : Nat) : Int) := by omega
      rw [iL_1, iI_add, iI_sub, en]
      rcases hC with ⟨hb, hC⟩ | ⟨hb, hC⟩
      · subst hC
        rw [if_pos (by rw [hb]; rfl), a_ldI (by omega) (by omega) (by omega), a_ldI (by omega) (by omega) (by omega), ob_some, ob_some, a_stI (by omega) (by omega) (by omega), ob_some, ob_some, g_up_at, g_up2, Int.toNat_natCast, Int.toNat_natCast, g_up_ne _ _ (by decide), hP, h1 _ (Nat.le_refl _), iI_add]
        exact hc (by omega) _ _ _ ⟨_, rfl, rfl, rfl, hrow⟩
      · subst hC
        rw [if_neg (by rw [hb]; decide), a_ldI (by omega) (by omega) (by omega), a_ldI (by omega) (by omega) (by omega), ob_some, ob_some, a_stI (by omega) (by omega) (by omega), ob_some, ob_some, g_up_at, g_up2, Int.toNat_natCast, Int.toNat_natCast, g_up_ne _ _ (by decide), hP, h1 _ (Nat.le_refl _), iI_add]
        exact hc (by omega) _ _ _ ⟨_, rfl, rfl, rfl, hrow⟩
theorem upsM_len {m : gM} {n : Nat} {M : List Nat} (hb : bidsM m n M) {z h b : Int32} (i : Nat) : (ups (pP m) (uU m) ((Lz m M z h b).take i)).length ≤ 400 := by
  have h1 : (ups (pP m) (uU m) ((Lz m M z h b).take i)).length ≤ 10 * ((Lz m M z h b).take i).length := by
    apply ups_len
    intro k hk
    have hk2 := (Lz_mem hb).1 (List.mem_of_mem_take hk)
    have hk3 := (hb.2.2.2 k hk2.1).2.2.2.2.2
    unfold uU
    unfold rg at hk3
    omega
  have h2 : (Lz m M z h b).length ≤ M.length := List.length_filter_le _ _
  rw [List.length_take] at h1
  have h3 := hb.2.2.1.1
  have h4 := hb.1
  omega
def sumP (m : gM) (L : List Nat) (C : Nat) (x : Int32) (y : Int32) (m2 : gM) (i : Nat) : Prop := x = iI ((ups (pP m) (uU m) (L.take i)).length : Nat) ∧ y = hdI (L.drop i) ∧ (∀ j, j ≤ (ups (pP m) (uU m) (L.take i)).length → m2 C j = iI (pf (ups (pP m) (uU m) (L.take i)) j)) ∧ (∀ c, c ≠ 12 → c ≠ C → m2 c = m c) ∧ (∀ k, k ∈ L.take i → m2 12 k = 1) ∧ (∀ k, k ∉ L.take i → m2 12 k = m 12 k)
theorem sp_sums {C n : Nat} {m : gM} {M : List Nat} (hb : bidsM m n M) {z h b : Int32} (hC : (b = 1 ∧ C = 50) ∨ (b = 0 ∧ C = 49)) (hu : ∀ k, k ∈ Lz m M z h b → m 12 k = 0) (h0 : m C 0 = iI 0) : T (f_X10_sums z h b m) (fun r => r.1 = iI ((cz m M z h b).length : Nat) ∧ (∀ j, j ≤ (cz m M z h b).length → r.2 C j = iI (pf (cz m M z h b) j)) ∧ (∀ c, c ≠ 12 → c ≠ C → r.2 c = m c) ∧ (∀ k, k ∉ Lz m M z h b → r.2 12 k = m 12 k)) := by
  have hbb : b = 0 ∨ b = 1 := by
    rcases hC with q | q
    · exact Or.inr q.1
    · exact Or.inl q.1
  have hCc : C = 50 ∨ C = 49 := by
    rcases hC with q | q
    · exact Or.inl q.2
    · exact Or.inr q.2
  unfold f_X10_sums
  generalize hLd : Lz m M z h b = L at *
  rw [sp_nextBid hb hbb (pre := []) (rest := L) (by rw [hLd]; rfl) (fun k hk => absurd hk List.not_mem_nil) hu, ob_some]
  have hcz : cz m M z h b = ups (pP m) (uU m) L := by unfold cz; rw [hLd]
  have hLn : ∀ k, k ∈ L → k < n := by
    intro k hk
    rw [← hLd] at hk
    exact ((Lz_mem hb).1 hk).1
  have hLL : L.length ≤ 40 := by
    have h2 : (Lz m M z h b).length ≤ M.length := List.length_filter_le _ _
    rw [hLd, hb.2.2.1.1] at h2
    have := hb.1
    omega
  have hnd : L.Nodup := by
    rw [← hLd]
    exact srt_nodup (Lz_srt hb z h b)
  refine T_ob (P := fun t => sumP m L C t.1 t.2.1 t.2.2 L.length) ?_ ?_
  · refine T_run3 (f_X10_sums_L12 z h b) (fun k x y m2 => sumP m L C x y m2 k) _ L.length 0 _ _ _ ?_ (Nat.zero_le _) (by omega) ?_
    · refine ⟨rfl, ?_, ?_, fun c _ _ => rfl, ?_, fun k _ => rfl⟩
      · cases L <;> rfl
      · intro j hj
        have e : j = 0 := by simpa [ups_nil] using hj
        subst e
        exact h0
      · intro k hk
        exact absurd hk (by simp)
    · intro k x2 x3 m4 f hI hk hcont
      obtain ⟨h1, h2, h3, h4, h5, h6⟩ := hI
      have h1 : x2 = iI ((ups (pP m) (uU m) (L.take k)).length : Nat) := h1
      subst h1
      show T (f_X10_sums_L12 z h b (f + 1) _ x3 m4) _
      unfold f_X10_sums_L12
      by_cases q : k = L.length
      · have e : x3 = -1 := by
          have := h2
          rw [q, List.drop_length] at this
          exact this
        rw [if_pos e]
        subst q
        exact T_some ⟨rfl, h2, h3, h4, h5, h6⟩
      · have hkL : k < L.length := by omega
        have hd : L.drop k = L[k] :: L.drop (k + 1) := List.drop_eq_getElem_cons hkL
        have e : x3 = iI (L[k] : Nat) := by
          have := h2
          rw [hd] at this
          exact this
        have hmem : L[k] ∈ L := List.getElem_mem hkL
        have hrn := hLn _ hmem
        have hrow := hb.2.2.2 _ hrn
        generalize hr : L[k] = r at *
        subst e
        have hn := hb.1
        rw [if_neg (by rw [iL_1, iI_neg, iI_eqP (by omega) (by omega) (by omega) (by omega)]; omega), a_stI (by omega) (by omega) (by omega), ob_some, Int.toNat_natCast]
        obtain ⟨P, eP, hP1, hP2⟩ := rg_ex hrow.2.2.2.2.1
        obtain ⟨U, eU, hU1, hU2⟩ := rg_ex hrow.2.2.2.2.2
        have ePP : pP m r = P := by unfold pP; rw [eP, iI_toInt (by omega) (by omega)]
        have eUU : uU m r = U.toNat := by unfold uU; rw [eU, iI_toInt (by omega) (by omega)]
        have eU2 : iI U = iI ((U.toNat : Nat) : Int) := by rw [Int.toNat_of_nonneg (by omega)]
        have htk : L.take (k + 1) = L.take k ++ [r] := by rw [List.take_succ_eq_append_getElem hkL, hr]
        have hlen := upsM_len hb (z := z) (h := h) (b := b) (k + 1)
        rw [hLd, htk, ups_app, List.length_append, List.length_replicate, eUU] at hlen
        refine T_ob (sp_mext (C := C) (l := ups (pP m) (uU m) (L.take k)) (P := P) (U := U.toNat) hC (by omega) ?_ ?_ hlen (by omega) ?_) ?_
        · rw [g_up_ne _ _ (by decide), h4 9 (by decide) (by omega)]; exact eP
        · rw [g_up_ne _ _ (by decide), h4 10 (by decide) (by omega), eU]; exact eU2
        · intro j hj
          rw [g_up_ne _ _ (by omega)]
          exact h3 j hj
        · intro t ht
          obtain ⟨row, e, hrw⟩ := ht
          subst e
          simp only [ob_some]
          generalize hm9 : g_up (g_up m4 12 (upd (m4 12) r 1)) C row = m9
          have f1 : ∀ c, c ≠ 12 → c ≠ C → m9 c = m c := by
            intro c c1 c2
            rw [← hm9, g_up_ne _ _ c2, g_up_ne _ _ c1]
            exact h4 c c1 c2
          have f2 : m9 12 = upd (m4 12) r 1 := by
            rw [← hm9, g_up_ne _ _ (by omega), g_up_at]
          have hb9 : bidsM m9 n M := bidsM_fr hb (by rw [f1 0 (by decide) (by omega)]) (fun c c1 c2 => f1 c (by omega) (by omega))
          have hL9 : Lz m9 M z h b = L.take (k + 1) ++ L.drop (k + 1) := by
            rw [List.take_append_drop, ← hLd]
            exact (cz_frM (fun c c1 c2 => f1 c (by omega) (by omega))).1
          have u1 : ∀ k9, k9 ∈ L.take (k + 1) → m9 12 k9 = 1 := by
            intro k9 hk9
            rw [f2, updA]
            by_cases w : k9 = r
            · rw [if_pos w]
            · rw [if_neg w]
              rw [htk, List.mem_append] at hk9
              rcases hk9 with v | v
              · exact h5 k9 v
              · exact absurd (List.mem_singleton.1 v) w
          have u2 : ∀ k9, k9 ∉ L.take (k + 1) → m9 12 k9 = m 12 k9 := by
            intro k9 hk9
            rw [htk, List.mem_append] at hk9
            have n1 : k9 ≠ r := fun w => hk9 (Or.inr (List.mem_singleton.2 w))
            rw [f2, updA, if_neg n1]
            exact h6 k9 (fun w => hk9 (Or.inl w))
          have u3 : ∀ k9, k9 ∈ L.drop (k + 1) → m9 12 k9 = 0 := by
            intro k9 hk9
            have n2 : k9 ∉ L.take (k + 1) := by
              intro w
              have hnd2 := hnd
              rw [← List.take_append_drop (k + 1) L, List.nodup_append] at hnd2
              exact hnd2.2.2 k9 w k9 hk9 rfl
            rw [u2 k9 n2]
            exact hu k9 (List.mem_of_mem_drop hk9)
          rw [sp_nextBid hb9 hbb hL9 u1 u3, ob_some]
          refine hcont hkL _ _ _ ⟨?_, rfl, ?_, f1, u1, u2⟩
          · rw [htk, ups_app, List.length_append, List.length_replicate, eUU]
          · intro j hj
            rw [htk, ups_app, List.length_append, List.length_replicate, eUU] at hj
            show m9 C j = _
            rw [htk, ups_app, ePP, eUU, ← hm9, g_up_at]
            exact hrw j hj
  · intro t ht
    obtain ⟨h1, h2, h3, h4, h5, h6⟩ := ht
    rw [List.take_length] at h1 h3 h5 h6
    simp only [ob_some]
    rw [hcz]
    exact T_some ⟨h1, h3, h4, h6⟩
def encN : Option Int → Int
  | none => -1000000000
  | some w => w
def Wm (m : gM) (zh : Nat) (ls lb : List Int) : Prop := ∀ k : Nat, k < 161 → m 51 (161 * zh + k) = iI (encN (cw ls lb ((k : Int) - 80))) ∧ (-(lb.length : Int) ≤ (k : Int) - 80 → (k : Int) - 80 ≤ ls.length → m 52 (161 * zh + k) = iI (cwd ls lb ((k : Int) - 80) : Nat))
theorem Wm_fr {m m2 : gM} {zh : Nat} {ls lb : List Int} (h : Wm m zh ls lb) (h1 : m2 51 = m 51) (h2 : m2 52 = m 52) : Wm m2 zh ls lb := by
  unfold Wm at *
  rw [h1, h2]
  exact h
theorem sp_wcol {m : gM} {ls lb : List Int} (hc : crvOk ls lb) (hs : m 0 58 = iI (ls.length : Nat)) (hbn : m 0 59 = iI (lb.length : Nat)) (h3 : ∀ j, j ≤ ls.length → m 49 j = iI (pf ls j)) (h4 : ∀ j, j ≤ lb.length → m 50 j = iI (pf lb j)) {at9 : Nat} (ha : at9 < 1932) {mk : Int} (hm1 : -80 ≤ mk) (hm2 : mk ≤ 80) (h51 : m 51 at9 = iI (-1000000000)) : T (f_X10_weighs_L81 (iI (at9 : Nat)) (iI mk) f_fuel (iI (max 0 (-mk))) m) (fun t => ∃ r1 r2, t.2 = g_up (g_up m 51 r1) 52 r2 ∧ (∀ k, k ≠ at9 → r1 k = m 51 k ∧ r2 k = m 52 k) ∧ r1 at9 = iI (encN (cw ls lb mk)) ∧ (-(lb.length : Int) ≤ mk → mk ≤ ls.length → r2 at9 = iI (cwd ls lb mk : Nat))) := by
  have l1 := hc.1
  have l2 := hc.2.1
  have hlo : ((-mk).toNat : Int) = max 0 (-mk) := by omega
  refine T_run2 (f_X10_weighs_L81 (iI (at9 : Nat)) (iI mk)) (fun k x m2 => ∃ r1 r2, x = iI (((-mk).toNat + k : Nat) : Int) ∧ m2 = g_up (g_up m 51 r1) 52 r2 ∧ (∀ j, j ≠ at9 → r1 j = m 51 j ∧ r2 j = m 52 j) ∧ (0 < k → (-mk).toNat + (k - 1) ≤ lb.length ∧ mk + ((-mk).toNat + (k - 1) : Nat) ≤ ls.length ∧ r1 at9 = iI (cwf ls lb mk (am (cwf ls lb mk) (-mk).toNat (k - 1))) ∧ r2 at9 = iI (am (cwf ls lb mk) (-mk).toNat (k - 1) : Nat)) ∧ (k = 0 → r1 at9 = iI (-1000000000))) _ 402 0 (iI (max 0 (-mk))) m ?_ (Nat.zero_le _) (by omega) ?_
  · exact ⟨m 51, m 52, by rw [← hlo]; rfl, by rw [g_upE m 51 _ rfl, g_upE m 52 _ rfl], fun j _ => ⟨rfl, rfl⟩, fun h => absurd h (by omega), fun _ => h51⟩
  · intro k s1 s2 f hI hk hcont
    obtain ⟨r1, r2, e, e9, h5, h6, h7⟩ := hI
    subst e
    subst e9
    show T (f_X10_weighs_L81 (iI (at9 : Nat)) (iI mk) (f + 1) (iI (((-mk).toNat + k : Nat) : Int)) (g_up (g_up m 51 r1) 52 r2)) _
    unfold f_X10_weighs_L81
    have e0 : (g_up (g_up m 51 r1) 52 r2) 0 = m 0 := by rw [g_up_ne _ _ (by decide), g_up_ne _ _ (by decide)]
    have e49 : (g_up (g_up m 51 r1) 52 r2) 49 = m 49 := by rw [g_up_ne _ _ (by decide), g_up_ne _ _ (by decide)]
    have e50 : (g_up (g_up m 51 r1) 52 r2) 50 = m 50 := by rw [g_up_ne _ _ (by decide), g_up_ne _ _ (by decide)]
    have e51 : (g_up (g_up m 51 r1) 52 r2) 51 = r1 := by rw [g_up_ne _ _ (by decide), g_up_at]
    by_cases hk0 : 402 ≤ k
    · have := h6 (by omega)
      omega
    · rw [e0, hs, hbn, iI_lt (by omega) (by omega) (by omega) (by omega), iI_add, iI_lt (by omega) (by omega) (by omega) (by omega)]
      have hex : (lb.length : Int) < ((-mk).toNat + k : Nat) ∨ (ls.length : Int) < mk + ((-mk).toNat + k : Nat) → r1 at9 = iI (encN (cw ls lb mk)) ∧ (-(lb.length : Int) ≤ mk → mk ≤ ls.length → r2 at9 = iI (cwd ls lb mk : Nat)) := by
        intro hh
        unfold cw
        by_cases q : -(lb.length : Int) ≤ mk ∧ mk ≤ ls.length
        · rw [if_pos q]
          by_cases q0 : k = 0
          · omega
          · have h8 := h6 (by omega)
            have en : cwd ls lb mk = am (cwf ls lb mk) (-mk).toNat (k - 1) := by
              unfold cwd
              rw [show cwn ls lb mk = k - 1 by unfold cwn; omega]
            rw [en]
            exact ⟨h8.2.2.1, fun _ _ => h8.2.2.2⟩
        · rw [if_neg q]
          by_cases q0 : k = 0
          · exact ⟨h7 q0, fun a b => absurd ⟨a, b⟩ q⟩
          · have h8 := h6 (by omega)
            omega
      by_cases c1 : (lb.length : Int) < ((-mk).toNat + k : Nat)
      · rw [if_pos c1]
        have := hex (Or.inl c1)
        exact T_some ⟨r1, r2, rfl, h5, this.1, this.2⟩
      · rw [if_neg c1]
        by_cases c2 : (ls.length : Int) < mk + ((-mk).toNat + k : Nat)
        · rw [if_pos c2]
          have := hex (Or.inr c2)
          exact T_some ⟨r1, r2, rfl, h5, this.1, this.2⟩
        · rw [if_neg c2, a_ldI (by omega) (by omega) (by omega), ob_some, a_ldI (by omega) (by omega) (by omega), ob_some, e49, e50, Int.toNat_natCast, h4 _ (by omega), h3 _ (by omega), iI_sub, ob_some, a_ldI (by omega) (by omega) (by omega), ob_some, e51, Int.toNat_natCast]
          have ef : pf lb ((-mk).toNat + k) - pf ls (mk + ((-mk).toNat + k : Nat)).toNat = cwf ls lb mk ((-mk).toNat + k) := rfl
          rw [ef]
          have rk := cwf_rng hc.2.2.1 hc.2.2.2.1 l1 l2 (mk := mk) (d := (-mk).toNat + k) (by omega) (by omega) (by omega)
          by_cases q0 : k = 0
          · subst q0
            rw [h7 rfl, iI_le (by omega) (by omega) (by omega) (by omega), if_neg (by omega), a_stI (by omega) (by omega) (by omega), ob_some, a_stI (by omega) (by omega) (by omega), ob_some, ob_some, iL_1, iI_add]
            refine hcont (by omega) _ _ ⟨upd r1 at9 (iI (cwf ls lb mk ((-mk).toNat + 0))), upd r2 at9 (iI (((-mk).toNat + 0 : Nat) : Int)), rfl, ?_, ?_, ?_, ?_⟩
            · simp only [Int.toNat_natCast]
              rw [e51]
              funext c
              simp only [g_upA, updA]
              by_cases w1 : c = 52
              · rw [if_pos w1, if_pos w1]
                subst w1
                rfl
              · rw [if_neg w1, if_neg w1, if_neg w1]
                by_cases w2 : c = 51
                · rw [if_pos w2, if_pos w2]
                · rw [if_neg w2, if_neg w2, if_neg w2]
            · intro j hj
              rw [updA, updA, if_neg hj, if_neg hj]
              exact h5 j hj
            · intro _
              rw [updA, updA, if_pos rfl, if_pos rfl]
              exact ⟨by omega, by omega, rfl, rfl⟩
            · intro h; omega
          · have h8 := h6 (by omega)
            have hg := am_spec (cwf ls lb mk) (-mk).toNat (k - 1)
            have rk2 := cwf_rng hc.2.2.1 hc.2.2.2.1 l1 l2 (mk := mk) (d := am (cwf ls lb mk) (-mk).toNat (k - 1)) (by omega) (by omega) (by omega)
            rw [h8.2.2.1, iI_le (by omega) (by omega) (by omega) (by omega)]
            have hstep : am (cwf ls lb mk) (-mk).toNat (k + 1 - 1) = if cwf ls lb mk (am (cwf ls lb mk) (-mk).toNat (k - 1)) < cwf ls lb mk ((-mk).toNat + k) then (-mk).toNat + k else am (cwf ls lb mk) (-mk).toNat (k - 1) := by
              rw [show k + 1 - 1 = (k - 1) + 1 by omega]
              show (if _ < cwf ls lb mk ((-mk).toNat + (k - 1) + 1) then (-mk).toNat + (k - 1) + 1 else _) = _
              rw [show (-mk).toNat + (k - 1) + 1 = (-mk).toNat + k by omega]
            by_cases d : cwf ls lb mk ((-mk).toNat + k) ≤ cwf ls lb mk (am (cwf ls lb mk) (-mk).toNat (k - 1))
            · rw [if_pos d, ob_some, iL_1, iI_add]
              refine hcont (by omega) _ _ ⟨r1, r2, rfl, rfl, h5, ?_, fun h => by omega⟩
              intro _
              rw [hstep, if_neg (by omega)]
              exact ⟨by omega, by omega, h8.2.2.1, h8.2.2.2⟩
            · rw [if_neg d, a_stI (by omega) (by omega) (by omega), ob_some, a_stI (by omega) (by omega) (by omega), ob_some, ob_some, iL_1, iI_add]
              refine hcont (by omega) _ _ ⟨upd r1 at9 (iI (cwf ls lb mk ((-mk).toNat + k))), upd r2 at9 (iI (((-mk).toNat + k : Nat) : Int)), rfl, ?_, ?_, ?_, ?_⟩
              · simp only [Int.toNat_natCast]
                rw [e51]
                funext c
                simp only [g_upA, updA]
                by_cases w1 : c = 52
                · rw [if_pos w1, if_pos w1]
                  subst w1
                  rfl
                · rw [if_neg w1, if_neg w1, if_neg w1]
                  by_cases w2 : c = 51
                  · rw [if_pos w2, if_pos w2]
                  · rw [if_neg w2, if_neg w2, if_neg w2]
              · intro j hj
                rw [updA, updA, if_neg hj, if_neg hj]
                exact h5 j hj
              · intro _
                rw [updA, updA, if_pos rfl, if_pos rfl, hstep, if_pos (by omega)]
                exact ⟨by omega, by omega, rfl, rfl⟩
              · intro h; omega
