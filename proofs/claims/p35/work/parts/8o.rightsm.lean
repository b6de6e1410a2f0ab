def aK (m : gM) (k : Nat) : Int := -(m 50 k).toInt
theorem keyO45 {m : gM} {na : Nat} {MA : List Nat} (h : akC m na MA) : MA.Pairwise (kl (aK m)) := by
  have h2 : Mer na (aK m) (m 53) MA := Mer_congr h.2.2.1 (fun k hk => by
    have := (h.2.2.2 k hk).2.2.2.1
    unfold keyO aK
    rw [show (45 + 4 : Nat) = 49 from rfl, this, if_neg (by decide)]) (fun i _ => rfl)
  exact h2.2.1
theorem rs_mono_w {P : Nat → Int32} {U : Nat → Nat} {q0 : Nat} {p0 : Int32} {L : List Nat} (hL : ∀ k, k ∈ L → U k ≤ 10) (hlen : L.length ≤ 20) (p : Nat → Bool) : (rs P U q0 p0 (L.filter p)).2.2.1 ≤ 200 := by
  have h1 := rs_wb (P := P) (U := U) (q0 := q0) (p0 := p0) (B := 10) (L.filter p) (fun k hk => hL k (List.mem_filter.1 hk).1)
  have h2 := List.length_filter_le p L
  omega
theorem sp_giveLM {m mm : gM} {na : Nat} {MA : List Nat} (hA : akC m na MA) (hM : akM m mm na) {a b : Int32} {lim : Nat} (hl : lim ≤ 1000) : T (f_X10_givesRights_L115 a b f_fuel (iI (lim : Nat)) 0 0 500 mm) (fun t => t.2.1 = iI ((rs (aP m) (aU m) lim 0 (La m MA a b)).2.2.1 : Nat) ∧ t.2.2.1 = (rs (aP m) (aU m) lim 0 (La m MA a b)).2.1 ∧ ∃ row, t.2.2.2.2 = g_up mm 26 row ∧ ∀ k, row k = if k ∈ La m MA a b then iI ((rs (aP m) (aU m) lim 0 (La m MA a b)).2.2.2 k : Nat) else mm 26 k) := by
  obtain ⟨hc, hn, hMer, hk⟩ := id hA
  obtain ⟨g26, w21, w22, w23, w24, w25⟩ := hM
  have hsrt : (La m MA a b).Pairwise (kl (aK m)) := (keyO45 hA).filter _
  have hmem : ∀ k, k ∈ La m MA a b ↔ k < na ∧ m 47 k = a ∧ m 54 k = b := fun k => La_mem hA
  have hnd : (La m MA a b).Nodup := srt_nodup hsrt
  have hlen : (La m MA a b).length ≤ 20 := by
    have h2 : (La m MA a b).length ≤ MA.length := List.length_filter_le _ _
    rw [hMer.1] at h2
    omega
  generalize hLL : La m MA a b = L at *
  have hwb : ∀ p : Nat → Bool, (rs (aP m) (aU m) lim 0 (L.filter p)).2.2.1 ≤ 200 := fun p => rs_mono_w (fun k hkL => (aU_of (hk k ((hmem k).1 hkL).1).2.2.2.2.2.1).2.2) hlen p
  have hkey : ∀ k, k ∈ L → -500 ≤ aK m k ∧ aK m k ≤ 0 := by
    intro k hkL
    have := (hk k ((hmem k).1 hkL).1).2.2.2.2.1
    unfold rg at this
    unfold aK
    omega
  refine T_run5 (f_X10_givesRights_L115 a b) (fun s x16 x17 x18 x19 m20 => x16 = iI ((rs (aP m) (aU m) lim 0 (L.filter (pl (aK m) ((s : Nat) - 500) 0))).1 : Nat) ∧ x17 = iI ((rs (aP m) (aU m) lim 0 (L.filter (pl (aK m) ((s : Nat) - 500) 0))).2.2.1 : Nat) ∧ x18 = (rs (aP m) (aU m) lim 0 (L.filter (pl (aK m) ((s : Nat) - 500) 0))).2.1 ∧ x19 = iI (500 - (s : Nat)) ∧ ∃ row, m20 = g_up mm 26 row ∧ ∀ k, row k = if k ∈ L.filter (pl (aK m) ((s : Nat) - 500) 0) then iI ((rs (aP m) (aU m) lim 0 (L.filter (pl (aK m) ((s : Nat) - 500) 0))).2.2.2 k : Nat) else mm 26 k) _ 501 0 _ _ _ _ _ ?_ (Nat.zero_le _) (by omega) ?_
  · have e0 : L.filter (pl (aK m) (((0 : Nat) : Int) - 500) 0) = [] := pl_bot (fun x hx => by have := (hkey x hx).1; omega)
    rw [e0]
    refine ⟨rfl, rfl, rfl, rfl, mm 26, by rw [g_upE _ _ _ rfl], fun k => ?_⟩
    rw [if_neg (by simp)]
  · intro s x16 x17 x18 x19 m20 f hI hs hcont
    obtain ⟨e1, e2, e3, e4, row, e5, hrow⟩ := hI
    subst e1
    subst e2
    subst e3
    subst e4
    subst e5
    unfold f_X10_givesRights_L115
    have hz : (iI (500 - (s : Nat)) < 0) = (500 - ((s : Nat) : Int) < 0) := by
      rw [iL_0, iI_ltP (by omega) (by omega) (by omega) (by omega)]
    by_cases c : 500 - ((s : Nat) : Int) < 0
    · rw [if_pos (by rw [hz]; exact c)]
      have e9 : L.filter (pl (aK m) ((s : Nat) - 500) 0) = L := pl_top (fun x hx => by have := (hkey x hx).2; omega)
      rw [e9] at hrow ⊢
      exact T_some ⟨rfl, rfl, row, rfl, hrow⟩
    · rw [if_neg (by rw [hz]; exact c)]
      refine T_ob (P := fun t => t.1 = iI ((rs (aP m) (aU m) lim 0 (L.filter (pl (aK m) (((s + 1 : Nat) : Int) - 500) 0))).1 : Nat) ∧ t.2.1 = iI ((rs (aP m) (aU m) lim 0 (L.filter (pl (aK m) (((s + 1 : Nat) : Int) - 500) 0))).2.2.1 : Nat) ∧ t.2.2.1 = (rs (aP m) (aU m) lim 0 (L.filter (pl (aK m) (((s + 1 : Nat) : Int) - 500) 0))).2.1 ∧ ∃ row, t.2.2.2.2 = g_up mm 26 row ∧ ∀ k, row k = if k ∈ L.filter (pl (aK m) (((s + 1 : Nat) : Int) - 500) 0) then iI ((rs (aP m) (aU m) lim 0 (L.filter (pl (aK m) (((s + 1 : Nat) : Int) - 500) 0))).2.2.2 k : Nat) else mm 26 k) ?_ ?_
      · refine T_run5 (f_X10_givesRights_L123 a b (iI (500 - (s : Nat)))) (fun j x27 x28 x29 x30 m31 => x27 = iI ((rs (aP m) (aU m) lim 0 (L.filter (pl (aK m) ((s : Nat) - 500) j))).1 : Nat) ∧ x28 = iI ((rs (aP m) (aU m) lim 0 (L.filter (pl (aK m) ((s : Nat) - 500) j))).2.2.1 : Nat) ∧ x29 = (rs (aP m) (aU m) lim 0 (L.filter (pl (aK m) ((s : Nat) - 500) j))).2.1 ∧ x30 = iI (j : Nat) ∧ ∃ row, m31 = g_up mm 26 row ∧ ∀ k, row k = if k ∈ L.filter (pl (aK m) ((s : Nat) - 500) j) then iI ((rs (aP m) (aU m) lim 0 (L.filter (pl (aK m) ((s : Nat) - 500) j))).2.2.2 k : Nat) else mm 26 k) _ na 0 _ _ _ _ _ ⟨rfl, rfl, rfl, rfl, row, rfl, hrow⟩ (Nat.zero_le _) (by omega) ?_
        intro j x27 x28 x29 x30 m31 g hJ hj hcont9
        obtain ⟨d1, d2, d3, d4, row9, d5, hrow9⟩ := hJ
        subst d1
        subst d4
        subst d5
        unfold f_X10_givesRights_L123
        rw [g_up_ne _ _ (show (0 : Nat) ≠ 26 by decide), g26, iI_le (by omega) (by omega) (by omega) (by omega)]
        by_cases c9 : (na : Int) ≤ j
        · rw [if_pos c9]
          have e : j = na := by omega
          subst e
          have enx : L.filter (pl (aK m) ((s : Nat) - 500) j) = L.filter (pl (aK m) (((s + 1 : Nat) : Int) - 500) 0) := by
            rw [pl_next (fun x hx => ((hmem x).1 hx).1), show ((s : Nat) : Int) - 500 + 1 = ((s + 1 : Nat) : Int) - 500 by omega]
          rw [enx] at d2 d3 hrow9 ⊢
          exact T_some ⟨rfl, d2, d3, row9, rfl, hrow9⟩
        · have hjn : j < na := by omega
          have hqk := hk j hjn
          obtain ⟨eU, hU1, hU2⟩ := aU_of hqk.2.2.2.2.2.1
          have l22 : a_ld 20 22 (iI (j : Nat)) (g_up mm 26 row9) = some (m 47 j) := by
            rw [a_ldI (by omega) (by omega) (by omega), Int.toNat_natCast, g_up_ne _ _ (by decide), w22]
          have l23 : a_ld 20 23 (iI (j : Nat)) (g_up mm 26 row9) = some (m 54 j) := by
            rw [a_ldI (by omega) (by omega) (by omega), Int.toNat_natCast, g_up_ne _ _ (by decide), w23]
          have l25 : a_ld 20 25 (iI (j : Nat)) (g_up mm 26 row9) = some (m 50 j) := by
            rw [a_ldI (by omega) (by omega) (by omega), Int.toNat_natCast, g_up_ne _ _ (by decide), w25]
          have l24 : ∀ r9, a_ld 20 24 (iI (j : Nat)) (g_up mm 26 r9) = some (iI (aU m j : Nat)) := by
            intro r9
            rw [a_ldI (by omega) (by omega) (by omega), Int.toNat_natCast, g_up_ne _ _ (by decide), w24]
            exact congrArg some eU
          rw [if_neg c9, l22, ob_some]
          by_cases hin : j ∈ L ∧ aK m j = (s : Nat) - 500
          · have hjL := (hmem j).1 hin.1
            have hst := pl_step hsrt hin.1 hin.2
            have hnm := pl_mem (L := L) hin.2
            have hw := hwb (pl (aK m) ((s : Nat) - 500) j)
            have hle := rs_le (aP m) (aU m) lim 0 (L.filter (pl (aK m) ((s : Nat) - 500) j))
            have happ := rs_app (aP m) (aU m) lim 0 (L.filter (pl (aK m) ((s : Nat) - 500) j)) j
            rw [← hst] at happ
            generalize hA1 : L.filter (pl (aK m) ((s : Nat) - 500) j) = A at *
            generalize hA2 : L.filter (pl (aK m) ((s : Nat) - 500) (j + 1)) = A2 at *
            generalize hS : rs (aP m) (aU m) lim 0 A = S at *
            have ep : m 50 j = iI (500 - (s : Nat)) := by
              have := hin.2
              unfold aK at this
              rw [← iI_of (m 50 j)]
              congr 1
              omega
            have ep2 : aP m j = iI (500 - (s : Nat)) := ep
            rw [if_pos hjL.2.1, l23, ob_some, if_pos hjL.2.2, l25, ob_some, if_pos ep, l24, ob_some, iI_le (by omega) (by omega) (by omega) (by omega)]
            have ez : ∀ {α : Type} (G : Int32 → Option α), ob (if ((S.1 : Nat) : Int) ≤ ((aU m j : Nat) : Int) then some (iI (S.1 : Nat)) else ob (some (iI (aU m j : Nat))) fun v51 => some v51) G = G (iI ((min (aU m j) S.1 : Nat) : Int)) := by
              intro α G
              by_cases u : ((S.1 : Nat) : Int) ≤ ((aU m j : Nat) : Int)
              · rw [if_pos u, ob_some, Nat.min_eq_right (by omega)]
              · rw [if_neg u, ob_some, ob_some, Nat.min_eq_left (by omega)]
            rw [ez, a_stI (by omega) (by omega) (by omega), ob_some, Int.toNat_natCast, g_up_at, g_up2, l24]
            have l26 : a_ld 20 26 (iI (j : Nat)) (g_up mm 26 (upd row9 j (iI ((min (aU m j) S.1 : Nat) : Int)))) = some (iI ((min (aU m j) S.1 : Nat) : Int)) := by
              rw [a_ldI (by omega) (by omega) (by omega), Int.toNat_natCast, g_up_at, updA, if_pos rfl]
            rw [l26]
            have e60 : ∀ {α : Type} (G : Int32 → Option α), ob (if iI ((min (aU m j) S.1 : Nat) : Int) ≤ 0 then some x29 else some (iI (500 - (s : Nat)))) G = G (rstep (aP m) (aU m) S j).2.1 := by
              intro α G
              show _ = G (if 0 < min (aU m j) S.1 then aP m j else S.2.1)
              by_cases u : 0 < min (aU m j) S.1
              · rw [if_neg (by rw [le0 (by omega) (by omega)]; omega), if_pos u, ob_some, ep2]
              · rw [if_pos (by rw [le0 (by omega) (by omega)]; omega), if_neg u, ob_some, d3]
            simp only [ob_sm]
            rw [e60]
            simp only [ob_sm]
            refine hcont9 hjn _ _ _ _ _ ⟨?_, ?_, ?_, iI_succ j, _, rfl, ?_⟩
            · rw [happ, iI_sub]
              show _ = iI ((S.1 - min (aU m j) S.1 : Nat) : Int)
              congr 1
              omega
            · rw [happ, d2, iI_sub, iI_add]
              show _ = iI ((S.2.2.1 + (aU m j - min (aU m j) S.1) : Nat) : Int)
              congr 1
              omega
            · rw [happ]
            · intro k
              rw [happ, hst, updA]
              show _ = if k ∈ A ++ [j] then iI ((if k = j then min (aU m j) S.1 else S.2.2.2 k : Nat) : Int) else mm 26 k
              by_cases w : k = j
              · subst w
                rw [if_pos rfl, if_pos (List.mem_append_right _ (List.mem_singleton.2 rfl)), if_pos rfl]
              · rw [if_neg w, hrow9 k, if_neg w]
                by_cases u : k ∈ A
                · rw [if_pos u, if_pos (List.mem_append_left _ u)]
                · rw [if_neg u, if_neg (fun v => by rw [List.mem_append, List.mem_singleton] at v; exact v.elim u w)]
          · have hsk := pl_skip hin
            have hgo : T (ob (some (iI ((rs (aP m) (aU m) lim 0 (L.filter (pl (aK m) ((s : Nat) - 500) j))).1 : Nat), x28, x29, g_up mm 26 row9)) fun (t61 : Int32 × Int32 × Int32 × gM) => ob (some t61.1) fun x40 => ob (some t61.2.1) fun x41 => ob (some t61.2.2.1) fun x42 => ob (some t61.2.2.2) fun m43 => f_X10_givesRights_L123 a b (iI (500 - (s : Nat))) g x40 x41 x42 (iI (j : Nat) + 1) m43) (fun t => t.1 = iI ((rs (aP m) (aU m) lim 0 (L.filter (pl (aK m) (((s + 1 : Nat) : Int) - 500) 0))).1 : Nat) ∧ t.2.1 = iI ((rs (aP m) (aU m) lim 0 (L.filter (pl (aK m) (((s + 1 : Nat) : Int) - 500) 0))).2.2.1 : Nat) ∧ t.2.2.1 = (rs (aP m) (aU m) lim 0 (L.filter (pl (aK m) (((s + 1 : Nat) : Int) - 500) 0))).2.1 ∧ ∃ row, t.2.2.2.2 = g_up mm 26 row ∧ ∀ k, row k = if k ∈ L.filter (pl (aK m) (((s + 1 : Nat) : Int) - 500) 0) then iI ((rs (aP m) (aU m) lim 0 (L.filter (pl (aK m) (((s + 1 : Nat) : Int) - 500) 0))).2.2.2 k : Nat) else mm 26 k) := by
              simp only [ob_sm]
              exact hcont9 hjn _ _ _ _ _ ⟨by rw [hsk], by rw [hsk]; exact d2, by rw [hsk]; exact d3, iI_succ j, row9, rfl, by rw [hsk]; exact hrow9⟩
            by_cases u1 : m 47 j = a
            · rw [if_pos u1, l23, ob_some]
              by_cases u2 : m 54 j = b
              · rw [if_pos u2, l25, ob_some]
                have u3 : ¬ m 50 j = iI (500 - (s : Nat)) := by
                  intro u3
                  refine hin ⟨(hmem j).2 ⟨hjn, u1, u2⟩, ?_⟩
                  unfold aK
                  rw [u3, iI_toInt (by omega) (by omega)]
                  omega
                rw [if_neg u3]
                exact hgo
              · rw [if_neg u2]
                exact hgo
            · rw [if_neg u1]
              exact hgo
      · intro t ht
        obtain ⟨y1, y2, y3, y4, m36⟩ := t
        obtain ⟨t1, t2, t3, row9, t4, t5⟩ := ht
        have t4 : m36 = g_up mm 26 row9 := t4
        simp only [ob_sm]
        refine hcont (by omega) _ _ _ _ _ ⟨t1, t2, t3, ?_, row9, t4, t5⟩
        rw [iL_1, iI_neg, iI_add, show (500 : Int) - (s : Nat) + -1 = 500 - ((s + 1 : Nat) : Int) by omega]
