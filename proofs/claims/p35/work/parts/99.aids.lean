def dP (m : gM) (o k : Nat) : Int32 := m (o + 5) k
def dU (m : gM) (o k : Nat) : Nat := (m (o + 6) k).toInt.toNat
def isH (m : gM) (o : Nat) (h b : Int32) (k : Nat) : Bool := decide (m (o + 3) k = h ∧ m (o + 4) k = b)
def Lh (m : gM) (o : Nat) (MD : List Nat) (h b : Int32) : List Nat := MD.filter (isH m o h b)
def sdB (gap : Int32) : Int32 := if gap ≤ 0 then 0 else 1
def adC (m : gM) (o na : Nat) (MD : List Nat) : Prop := f_oln o = 30 ∧ m o 8 = iI (na : Nat) ∧ na ≤ 30 ∧ Mer na (keyO m o) (m (o + 8)) MD ∧ ∀ k, k < na → rg (m (o + 1) k) 0 5 ∧ rg (m (o + 3) k) 0 3 ∧ (m (o + 4) k = 0 ∨ m (o + 4) k = 1) ∧ rg (m (o + 5) k) 0 300 ∧ rg (m (o + 6) k) 1 10
theorem dU_of {m : gM} {o k : Nat} (h : rg (m (o + 6) k) 1 10) : m (o + 6) k = iI (dU m o k : Nat) ∧ 1 ≤ dU m o k ∧ dU m o k ≤ 10 := by
  unfold dU
  obtain ⟨a, b⟩ := h
  refine ⟨?_, by omega, by omega⟩
  rw [Int.toNat_of_nonneg (by omega), iI_of]
theorem Lh_mem {m : gM} {o na : Nat} {MD : List Nat} (hA : adC m o na MD) {h b : Int32} {k : Nat} : k ∈ Lh m o MD h b ↔ k < na ∧ m (o + 3) k = h ∧ m (o + 4) k = b := by
  unfold Lh isH
  rw [List.mem_filter, decide_eq_true_iff, hA.2.2.2.1.2.2.1]
theorem sp_helpsC {o na k : Nat} {m : gM} {MD : List Nat} (hA : adC m (o + 7) na MD) (hk : k < na) {h : Int32} {gap : Int32} : f_X5_helps o (iI (k : Nat)) h gap m = some (if isH m (o + 7) h (sdB gap) k = true then 1 else 0) := by
  obtain ⟨hl, _, hn, _, _⟩ := hA
  unfold f_X5_helps isH sdB
  rw [hl, a_ldI (by omega) (by omega) (by omega), a_ldI (by omega) (by omega) (by omega), Int.toNat_natCast]
  simp only [ob_sm]
  by_cases c : m (o + 7 + 3) k = h
  · rw [if_pos c]
    by_cases q : gap ≤ 0
    · rw [if_pos q, if_pos q, ob_some]
      by_cases e : m (o + 7 + 4) k = 0
      · rw [if_pos e, if_pos (decide_eq_true (⟨c, e⟩ : m (o + 7 + 3) k = h ∧ m (o + 7 + 4) k = 0))]; rfl
      · rw [if_neg e, if_neg (fun u => e (of_decide_eq_true u).2)]; rfl
    · rw [if_neg q, if_neg q, ob_some]
      by_cases e : m (o + 7 + 4) k = 1
      · rw [if_pos e, if_pos (decide_eq_true (⟨c, e⟩ : m (o + 7 + 3) k = h ∧ m (o + 7 + 4) k = 1))]; rfl
      · rw [if_neg e, if_neg (fun u => e (of_decide_eq_true u).2)]; rfl
  · rw [if_neg c, if_neg (fun u => c (of_decide_eq_true u).1)]; rfl
theorem rs_out (P : Nat → Int32) (U : Nat → Nat) (q0 : Nat) (p0 : Int32) (A : List Nat) : ∀ B : List Nat, ∀ k, k ∉ B → (rs P U q0 p0 (A ++ B)).2.2.2 k = (rs P U q0 p0 A).2.2.2 k := by
  apply snoc_ind
  · intro k _
    rw [List.append_nil]
  · intro B j h k hk
    rw [List.mem_append, List.mem_singleton] at hk
    rw [← List.append_assoc, rs_app]
    show (if k = j then min (U j) (rs P U q0 p0 (A ++ B)).1 else (rs P U q0 p0 (A ++ B)).2.2.2 k) = _
    rw [if_neg (fun u => hk (Or.inr u))]
    exact h k (fun u => hk (Or.inl u))
theorem rs_at {P : Nat → Int32} {U : Nat → Nat} {q0 : Nat} {p0 : Int32} {A B : List Nat} {q : Nat} (hq : q ∉ B) : (rs P U q0 p0 ((A ++ [q]) ++ B)).2.2.2 q = min (U q) (rs P U q0 p0 A).1 := by
  rw [rs_out P U q0 p0 (A ++ [q]) B q hq, rs_app]
  show (if q = q then _ else _) = _
  rw [if_pos rfl]
theorem sp_priceL {o na h need : Nat} {m : gM} {MD : List Nat} {gap dflt : Int32} (hA : adC m (o + 7) na MD) (hn0 : 0 < need) (hn1 : need ≤ 3000000) : T (f_X5_priceOfGap_L21 o m (iI (h : Nat)) gap f_fuel (iI (need : Nat)) dflt 0) (fun t => t.2.1 = if (rs (dP m (o + 7)) (dU m (o + 7)) need (-1) (Lh m (o + 7) MD (iI (h : Nat)) (sdB gap))).1 = 0 then (rs (dP m (o + 7)) (dU m (o + 7)) need (-1) (Lh m (o + 7) MD (iI (h : Nat)) (sdB gap))).2.1 else dflt) := by
  obtain ⟨hl, hc, hn, hM, hk⟩ := id hA
  have hsplit : ∀ i, i ≤ na → Lh m (o + 7) MD (iI (h : Nat)) (sdB gap) = (MD.take i).filter (isH m (o + 7) (iI (h : Nat)) (sdB gap)) ++ (MD.drop i).filter (isH m (o + 7) (iI (h : Nat)) (sdB gap)) := by
    intro i _
    unfold Lh
    rw [← List.filter_append, List.take_append_drop]
  refine T_run3 (f_X5_priceOfGap_L21 o m (iI (h : Nat)) gap) (fun i x4 x5 x6 => x6 = iI (i : Nat) ∧ ((0 < (rs (dP m (o + 7)) (dU m (o + 7)) need (-1) ((MD.take i).filter (isH m (o + 7) (iI (h : Nat)) (sdB gap)))).1 ∧ x4 = iI ((rs (dP m (o + 7)) (dU m (o + 7)) need (-1) ((MD.take i).filter (isH m (o + 7) (iI (h : Nat)) (sdB gap)))).1 : Nat) ∧ x5 = dflt) ∨ ((∃ v : Int, -10 ≤ v ∧ v ≤ 0 ∧ x4 = iI v) ∧ (rs (dP m (o + 7)) (dU m (o + 7)) need (-1) (Lh m (o + 7) MD (iI (h : Nat)) (sdB gap))).1 = 0 ∧ x5 = (rs (dP m (o + 7)) (dU m (o + 7)) need (-1) (Lh m (o + 7) MD (iI (h : Nat)) (sdB gap))).2.1))) _ na 0 _ _ _ ⟨rfl, Or.inl ⟨hn0, rfl, rfl⟩⟩ (Nat.zero_le _) (by omega) ?_
  intro i x4 x5 x6 f hI hi hcont
  obtain ⟨e6, hx⟩ := hI
  subst e6
  unfold f_X5_priceOfGap_L21
  rw [hc, iI_le (by omega) (by omega) (by omega) (by omega)]
  have hfin2 : (rs (dP m (o + 7)) (dU m (o + 7)) need (-1) (Lh m (o + 7) MD (iI (h : Nat)) (sdB gap))).1 = 0 → x5 = (rs (dP m (o + 7)) (dU m (o + 7)) need (-1) (Lh m (o + 7) MD (iI (h : Nat)) (sdB gap))).2.1 → x5 = if (rs (dP m (o + 7)) (dU m (o + 7)) need (-1) (Lh m (o + 7) MD (iI (h : Nat)) (sdB gap))).1 = 0 then (rs (dP m (o + 7)) (dU m (o + 7)) need (-1) (Lh m (o + 7) MD (iI (h : Nat)) (sdB gap))).2.1 else dflt := fun a b => by rw [if_pos a]; exact b
  by_cases c : (na : Int) ≤ i
  · rw [if_pos c]
    refine T_some ?_
    show x5 = _
    rcases hx with ⟨h1, _, h3⟩ | ⟨_, h2, h3⟩
    · have e : MD.take i = MD := List.take_of_length_le (by rw [hM.1]; omega)
      rw [e] at h1
      rw [if_neg (by show ¬ (rs (dP m (o + 7)) (dU m (o + 7)) need (-1) (MD.filter (isH m (o + 7) (iI (h : Nat)) (sdB gap)))).1 = 0; omega), h3]
    · exact hfin2 h2 h3
  · rw [if_neg c]
    have hin : i < na := by omega
    rcases hx with ⟨h1, h2, h3⟩ | ⟨⟨v, v1, v2, v3⟩, h2, h3⟩
    · have hle := rs_le (dP m (o + 7)) (dU m (o + 7)) need (-1) ((MD.take i).filter (isH m (o + 7) (iI (h : Nat)) (sdB gap)))
      rw [h2, if_neg (by rw [le0 (by omega) (by omega)]; omega)]
      have hlt := Mer_lt hM hin
      have hft := filter_take hM.1 hin (isH m (o + 7) (iI (h : Nat)) (sdB gap))
      have hL1 := hsplit (i + 1) (by omega)
      rw [hl, a_ldI (by omega) (by omega) (by omega), ob_some, Int.toNat_natCast, hM.2.2.2 i hin, sp_helpsC hA hlt, ob_some]
      generalize hq : MD.getD i 0 = q at *
      obtain ⟨eU, hU1, hU2⟩ := dU_of (hk q hlt).2.2.2.2
      generalize hAA : (MD.take i).filter (isH m (o + 7) (iI (h : Nat)) (sdB gap)) = A at *
      by_cases d : isH m (o + 7) (iI (h : Nat)) (sdB gap) q = true
      · rw [if_pos d] at hft
        have happ := rs_app (dP m (o + 7)) (dU m (o + 7)) need (-1) A q
        rw [if_pos d, if_neg (by decide), a_ldI (by omega) (by omega) (by omega), ob_some, Int.toNat_natCast, eU, iI_sub, ob_some, a_ldI (by omega) (by omega) (by omega)]
        simp only [ob_sm]
        by_cases w : ((rs (dP m (o + 7)) (dU m (o + 7)) need (-1) A).1 : Int) - (dU m (o + 7) q : Nat) ≤ 0
        · rw [if_pos (by rw [le0 (by omega) (by omega)]; exact w), ob_some]
          have hz : (rs (dP m (o + 7)) (dU m (o + 7)) need (-1) (A ++ [q])).1 = 0 := by
            rw [happ]
            show (rs (dP m (o + 7)) (dU m (o + 7)) need (-1) A).1 - min (dU m (o + 7) q) (rs (dP m (o + 7)) (dU m (o + 7)) need (-1) A).1 = 0
            omega
          have hzz := rs_z hz ((MD.drop (i + 1)).filter (isH m (o + 7) (iI (h : Nat)) (sdB gap)))
          rw [← hft, ← hL1] at hzz
          refine hcont hin _ _ _ ⟨iI_succ i, Or.inr ⟨⟨_, by omega, w, rfl⟩, hzz.1, ?_⟩⟩
          rw [hzz.2.1, hft, happ]
          show _ = if 0 < min (dU m (o + 7) q) (rs (dP m (o + 7)) (dU m (o + 7)) need (-1) A).1 then dP m (o + 7) q else _
          rw [if_pos (by omega), Int.toNat_natCast]
          rfl
        · rw [if_neg (by rw [le0 (by omega) (by omega)]; exact w), ob_some]
          have hv : (rs (dP m (o + 7)) (dU m (o + 7)) need (-1) (A ++ [q])).1 = (rs (dP m (o + 7)) (dU m (o + 7)) need (-1) A).1 - dU m (o + 7) q := by
            rw [happ]
            show (rs (dP m (o + 7)) (dU m (o + 7)) need (-1) A).1 - min (dU m (o + 7) q) (rs (dP m (o + 7)) (dU m (o + 7)) need (-1) A).1 = _
            omega
          refine hcont hin _ _ _ ⟨iI_succ i, Or.inl ⟨by rw [hft, hv]; omega, ?_, h3⟩⟩
          have hUa : dU m (o + 7) q ≤ (rs (dP m (o + 7)) (dU m (o + 7)) need (-1) A).1 := by omega
          rw [hft, hv, Int.ofNat_sub hUa]
      · rw [if_neg d, List.append_nil] at hft
        rw [if_neg d, if_pos rfl]
        simp only [ob_sm]
        exact hcont hin _ _ _ ⟨iI_succ i, Or.inl ⟨by rw [hft]; exact h1, by rw [hft], h3⟩⟩
    · rw [v3, if_pos (by rw [le0 (by omega) (by omega)]; exact v2)]
      exact T_some (hfin2 h2 h3)
def usF (fr : Nat → Int32) (G : Nat → Nat) (p : Int32) (k : Nat) : Int := if fr k = p then (G k : Int) else 0
theorem sp_usedL {o na h need : Nat} {m : gM} {MD : List Nat} {gap p : Int32} (hA : adC m (o + 7) na MD) (hn1 : need ≤ 3000000) : T (f_X5_unitsUsed_L12 o m p (iI (h : Nat)) gap f_fuel (iI (need : Nat)) 0 0) (fun t => t.2.1 = iI ((Lh m (o + 7) MD (iI (h : Nat)) (sdB gap)).map (usF (m (o + 7 + 1)) (rs (dP m (o + 7)) (dU m (o + 7)) need (-1) (Lh m (o + 7) MD (iI (h : Nat)) (sdB gap))).2.2.2 p)).sum) := by
  obtain ⟨hl, hc, hn, hM, hk⟩ := id hA
  have hnd : MD.Nodup := srt_nodup hM.2.1
  have hsplit : ∀ i, i ≤ na → Lh m (o + 7) MD (iI (h : Nat)) (sdB gap) = (MD.take i).filter (isH m (o + 7) (iI (h : Nat)) (sdB gap)) ++ (MD.drop i).filter (isH m (o + 7) (iI (h : Nat)) (sdB gap)) := by
    intro i _
    unfold Lh
    rw [← List.filter_append, List.take_append_drop]
  generalize hG : (rs (dP m (o + 7)) (dU m (o + 7)) need (-1) (Lh m (o + 7) MD (iI (h : Nat)) (sdB gap))).2.2.2 = G
  refine T_run3 (f_X5_unitsUsed_L12 o m p (iI (h : Nat)) gap) (fun i x2 x3 x4 => x4 = iI (i : Nat) ∧ x2 = iI ((rs (dP m (o + 7)) (dU m (o + 7)) need (-1) ((MD.take i).filter (isH m (o + 7) (iI (h : Nat)) (sdB gap)))).1 : Nat) ∧ x3 = iI (((MD.take i).filter (isH m (o + 7) (iI (h : Nat)) (sdB gap))).map (usF (m (o + 7 + 1)) G p)).sum) _ na 0 _ _ _ ⟨rfl, rfl, rfl⟩ (Nat.zero_le _) (by omega) ?_
  intro i x2 x3 x4 f hI hi hcont
  obtain ⟨e4, e2, e3⟩ := hI
  subst e4
  subst e2
  subst e3
  unfold f_X5_unitsUsed_L12
  rw [hc, iI_le (by omega) (by omega) (by omega) (by omega)]
  have hle := rs_le (dP m (o + 7)) (dU m (o + 7)) need (-1) ((MD.take i).filter (isH m (o + 7) (iI (h : Nat)) (sdB gap)))
  by_cases c : (na : Int) ≤ i
  · rw [if_pos c]
    have e : MD.take i = MD := List.take_of_length_le (by rw [hM.1]; omega)
    rw [e]
    exact T_some rfl
  · rw [if_neg c]
    have hin : i < na := by omega
    by_cases w : (rs (dP m (o + 7)) (dU m (o + 7)) need (-1) ((MD.take i).filter (isH m (o + 7) (iI (h : Nat)) (sdB gap)))).1 = 0
    · rw [if_pos (by rw [le0 (by omega) (by omega)]; omega)]
      refine T_some ?_
      have hzz := rs_z w ((MD.drop i).filter (isH m (o + 7) (iI (h : Nat)) (sdB gap)))
      rw [← hsplit i (by omega), hG] at hzz
      show iI _ = iI _
      rw [hsplit i (by omega), List.map_append, List.sum_append_int]
      congr 1
      have hz0 : ∀ B : List Nat, (∀ k, k ∈ B → G k = 0) → (B.map (usF (m (o + 7 + 1)) G p)).sum = 0 := by
        intro B
        induction B with
        | nil => intro _; rfl
        | cons a B ih =>
          intro hB
          rw [List.map_cons, List.sum_cons, ih (fun k hk => hB k (List.mem_cons_of_mem _ hk))]
          unfold usF
          rw [hB a List.mem_cons_self]
          by_cases q : m (o + 7 + 1) a = p
          · rw [if_pos q]; rfl
          · rw [if_neg q]; rfl
      rw [hz0 _ hzz.2.2.2]
      omega
    · rw [if_neg (by rw [le0 (by omega) (by omega)]; omega)]
      have hlt := Mer_lt hM hin
      have htk := take_getD MD 0 (show i < MD.length by rw [hM.1]; exact hin)
      have hft := filter_take hM.1 hin (isH m (o + 7) (iI (h : Nat)) (sdB gap))
      have hL1 := hsplit (i + 1) (by omega)
      have hnd1 : MD.getD i 0 ∉ MD.drop (i + 1) := by
        intro u
        have hnd2 := hnd
        rw [← List.take_append_drop (i + 1) MD, htk, List.nodup_append] at hnd2
        exact hnd2.2.2 _ (List.mem_append_right _ (List.mem_singleton.2 rfl)) _ u rfl
      rw [hl, a_ldI (by omega) (by omega) (by omega), ob_some, Int.toNat_natCast, hM.2.2.2 i hin, sp_helpsC hA hlt, ob_some]
      generalize hq : MD.getD i 0 = q at *
      obtain ⟨eU, hU1, hU2⟩ := dU_of (hk q hlt).2.2.2.2
      generalize hAA : (MD.take i).filter (isH m (o + 7) (iI (h : Nat)) (sdB gap)) = A at *
      by_cases d : isH m (o + 7) (iI (h : Nat)) (sdB gap) q = true
      · rw [if_pos d] at hft
        have happ := rs_app (dP m (o + 7)) (dU m (o + 7)) need (-1) A q
        have hGq : G q = min (dU m (o + 7) q) (rs (dP m (o + 7)) (dU m (o + 7)) need (-1) A).1 := by
          rw [← hG, hL1, hft]
          exact rs_at (fun u => hnd1 (List.mem_filter.1 u).1)
        rw [if_pos d, if_neg (by decide), a_ldI (by omega) (by omega) (by omega), ob_some, Int.toNat_natCast, eU, a_minI (by omega) (by omega) (by omega) (by omega), ob_some, iI_sub, ob_some, a_ldI (by omega) (by omega) (by omega), ob_some, Int.toNat_natCast]
        have emin : min (((rs (dP m (o + 7)) (dU m (o + 7)) need (-1) A).1 : Nat) : Int) ((dU m (o + 7) q : Nat) : Int) = ((G q : Nat) : Int) := by rw [hGq]; omega
        rw [emin]
        have ez : ∀ {α : Type} (K : Int32 → Option α), ob (if m (o + 7 + 1) q = p then some (iI (G q : Nat)) else some 0) K = K (iI (usF (m (o + 7 + 1)) G p q)) := by
          intro α K
          unfold usF
          by_cases u : m (o + 7 + 1) q = p
          · rw [if_pos u, if_pos u, ob_some]
          · rw [if_neg u, if_neg u, ob_some]; rfl
        rw [ez]
        simp only [ob_sm]
        refine hcont hin _ _ _ ⟨iI_succ i, ?_, ?_⟩
        · rw [hft, happ]
          show _ = iI (((rs (dP m (o + 7)) (dU m (o + 7)) need (-1) A).1 - min (dU m (o + 7) q) (rs (dP m (o + 7)) (dU m (o + 7)) need (-1) A).1 : Nat) : Int)
          congr 1
          omega
        · rw [hft, iI_add, List.map_append, List.sum_append_int]
          congr 2
          show _ = List.sum [usF (m (o + 7 + 1)) G p q]
          rw [List.sum_cons, List.sum_nil]
          omega
      · rw [if_neg d, List.append_nil] at hft
        rw [if_neg d, if_pos rfl]
        simp only [ob_sm]
        exact hcont hin _ _ _ ⟨iI_succ i, by rw [hft], by rw [hft]⟩
