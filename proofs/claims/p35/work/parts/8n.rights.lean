def aP (m : gM) (k : Nat) : Int32 := m 50 k
def aU (m : gM) (k : Nat) : Nat := (m 51 k).toInt.toNat
def akC (m : gM) (na : Nat) (MA : List Nat) : Prop := m 45 8 = iI (na : Nat) ∧ na ≤ 20 ∧ Mer na (keyO m 45) (m 53) MA ∧ ∀ k, k < na → rg (m 46 k) 0 5 ∧ rg (m 47 k) 0 2 ∧ rg (m 54 k) 0 2 ∧ m 49 k = 1 ∧ rg (m 50 k) 0 500 ∧ rg (m 51 k) 1 10 ∧ m 47 k ≠ m 54 k
def akM (m : gM) (mm : gM) (na : Nat) : Prop := mm 0 26 = iI (na : Nat) ∧ mm 21 = m 46 ∧ mm 22 = m 47 ∧ mm 23 = m 54 ∧ mm 24 = m 51 ∧ mm 25 = m 50
def isB (m : gM) (a b : Int32) (k : Nat) : Bool := decide (m 47 k = a ∧ m 54 k = b)
def La (m : gM) (MA : List Nat) (a b : Int32) : List Nat := MA.filter (isB m a b)
theorem akC_fr {m m2 : gM} {na : Nat} {MA : List Nat} (h : akC m na MA) (hf : ∀ c, 45 ≤ c → c ≤ 54 → c ≠ 52 → m2 c = m c) : akC m2 na MA := by
  obtain ⟨h1, h2, h3, h4⟩ := h
  unfold akC
  rw [hf 45 (by decide) (by decide) (by decide), hf 53 (by decide) (by decide) (by decide), hf 46 (by decide) (by decide) (by decide), hf 47 (by decide) (by decide) (by decide), hf 54 (by decide) (by decide) (by decide), hf 49 (by decide) (by decide) (by decide), hf 50 (by decide) (by decide) (by decide), hf 51 (by decide) (by decide) (by decide)]
  refine ⟨h1, h2, Mer_congr h3 (fun k _ => ?_) (fun i _ => rfl), h4⟩
  unfold keyO
  rw [show (45 + 4 : Nat) = 49 from rfl, show (45 + 5 : Nat) = 50 from rfl, hf 49 (by decide) (by decide) (by decide), hf 50 (by decide) (by decide) (by decide)]
theorem La_fr {m m2 : gM} {MA : List Nat} {a b : Int32} (hf : ∀ c, 45 ≤ c → c ≤ 54 → c ≠ 52 → m2 c = m c) : La m2 MA a b = La m MA a b := by
  unfold La isB
  rw [hf 47 (by decide) (by decide) (by decide), hf 54 (by decide) (by decide) (by decide)]
theorem aU_of {m : gM} {k : Nat} (h : rg (m 51 k) 1 10) : m 51 k = iI (aU m k : Nat) ∧ 1 ≤ aU m k ∧ aU m k ≤ 10 := by
  unfold aU
  obtain ⟨a, b⟩ := h
  refine ⟨?_, by omega, by omega⟩
  rw [Int.toNat_of_nonneg (by omega), iI_of]
theorem La_mem {m : gM} {na : Nat} {MA : List Nat} (h : akC m na MA) {a b : Int32} {k : Nat} : k ∈ La m MA a b ↔ k < na ∧ m 47 k = a ∧ m 54 k = b := by
  unfold La isB
  rw [List.mem_filter, decide_eq_true_iff, h.2.2.1.2.2.1]
theorem sp_between {m : gM} {k : Nat} {p2 p3 : Int32} (hk : k < 20) : f_X1_isBetween (iI (k : Nat)) p2 p3 m = some (if isB m p2 p3 k = true then 1 else 0) := by
  unfold f_X1_isBetween isB
  rw [a_ldI (by omega) (by omega) (by omega), a_ldI (by omega) (by omega) (by omega), Int.toNat_natCast, ob_some]
  by_cases c : m 47 k = p2
  · by_cases d : m 54 k = p3
    · rw [if_pos c, ob_some, if_pos d, if_pos (decide_eq_true (⟨c, d⟩ : m 47 k = p2 ∧ m 54 k = p3))]; rfl
    · rw [if_pos c, ob_some, if_neg d, if_neg (fun e => d (of_decide_eq_true e).2)]; rfl
  · rw [if_neg c, if_neg (fun e => c (of_decide_eq_true e).1)]; rfl
theorem z01 {b : Prop} [Decidable b] : ((if b then (1 : Int32) else 0) = 0) ↔ ¬ b := by
  by_cases q : b
  · rw [if_pos q]; exact ⟨fun h => absurd h (by decide), fun h => absurd q h⟩
  · rw [if_neg q]; exact ⟨fun _ => q, fun _ => rfl⟩
theorem le0 {a : Int} (h1 : -2147483648 ≤ a) (h2 : a < 2147483648) : (iI a ≤ 0) = (a ≤ 0) := by
  rw [iL_0, iI_leP h1 h2 (by omega) (by omega)]
theorem eq0 {a : Int} (h1 : -2147483648 ≤ a) (h2 : a < 2147483648) : (iI a = 0) = (a = 0) := by
  rw [iL_0, iI_eqP h1 h2 (by omega) (by omega)]
theorem sp_giveL {m : gM} {na : Nat} {MA : List Nat} (hA : akC m na MA) {a b : Int32} {lim : Nat} (hl : lim ≤ 1000) (hr : ∀ k, k ∈ La m MA a b → m 52 k = m 51 k) : T (f_X1_giveOut_L12 a b f_fuel (iI (lim : Nat)) 0 1 0 m) (fun t => t.2.1 = (rs (aP m) (aU m) lim 0 (La m MA a b)).2.1 ∧ t.2.2.1 = (if (rs (aP m) (aU m) lim 0 (La m MA a b)).2.2.1 = 0 then 1 else 0) ∧ ∃ row, t.2.2.2.2 = g_up m 52 row ∧ ∀ k, row k = if k ∈ La m MA a b then m 51 k - iI ((rs (aP m) (aU m) lim 0 (La m MA a b)).2.2.2 k : Nat) else m 52 k) := by
  obtain ⟨hc, hn, hM, hk⟩ := id hA
  have hnd : MA.Nodup := srt_nodup hM.2.1
  refine T_run5 (f_X1_giveOut_L12 a b) (fun i x1 x2 x3 x4 m5 => x1 = iI ((rs (aP m) (aU m) lim 0 ((MA.take i).filter (isB m a b))).1 : Nat) ∧ x2 = (rs (aP m) (aU m) lim 0 ((MA.take i).filter (isB m a b))).2.1 ∧ x3 = (if (rs (aP m) (aU m) lim 0 ((MA.take i).filter (isB m a b))).2.2.1 = 0 then 1 else 0) ∧ x4 = iI (i : Nat) ∧ ∃ row, m5 = g_up m 52 row ∧ ∀ k, row k = if k ∈ (MA.take i).filter (isB m a b) then m 51 k - iI ((rs (aP m) (aU m) lim 0 ((MA.take i).filter (isB m a b))).2.2.2 k : Nat) else m 52 k) _ na 0 _ _ _ _ _ ?_ (Nat.zero_le _) (by omega) ?_
  · refine ⟨rfl, rfl, rfl, rfl, m 52, by rw [g_upE _ _ _ rfl], fun k => ?_⟩
    rw [if_neg (by simp)]
  · intro i x1 x2 x3 x4 m5 f hI hki hcont
    obtain ⟨e1, e2, e3, e4, row, e5, hrow⟩ := hI
    subst e1
    subst e4
    subst e5
    unfold f_X1_giveOut_L12
    rw [g_up_ne _ _ (show (45 : Nat) ≠ 52 by decide), hc, iI_le (by omega) (by omega) (by omega) (by omega)]
    by_cases c : (na : Int) ≤ i
    · rw [if_pos c]
      have e : MA.take i = MA := List.take_of_length_le (by rw [hM.1]; omega)
      rw [e] at e2 e3 hrow
      exact T_some ⟨e2, e3, row, rfl, hrow⟩
    · have hin : i < na := by omega
      have hlt := Mer_lt hM hin
      have htk := take_getD MA 0 (show i < MA.length by rw [hM.1]; exact hin)
      have hft := filter_take hM.1 hin (isB m a b)
      have hnm : MA.getD i 0 ∉ MA.take i := by
        have hnd2 := hnd
        rw [← List.take_append_drop (i + 1) MA, htk, List.nodup_append] at hnd2
        have := hnd2.1
        rw [List.nodup_append] at this
        intro u
        exact this.2.2 _ u _ (List.mem_singleton.2 rfl) rfl
      rw [if_neg c, a_ldI (by omega) (by omega) (by omega), ob_some, Int.toNat_natCast, g_up_ne _ _ (show (53 : Nat) ≠ 52 by decide), hM.2.2.2 i hin, sp_between (by omega), ob_some]
      generalize hq : MA.getD i 0 = q at *
      have hisb : isB (g_up m 52 row) a b q = isB m a b q := by
        unfold isB
        rw [g_up_ne _ _ (by decide), g_up_ne _ _ (by decide)]
      rw [hisb]
      have hqk := hk q hlt
      obtain ⟨eU, hU1, hU2⟩ := aU_of hqk.2.2.2.2.2.1
      generalize hAA : (MA.take i).filter (isB m a b) = A at *
      have hwb := rs_wb (P := aP m) (q0 := lim) (p0 := 0) (B := 10) A (fun k hkA => by
        rw [← hAA] at hkA
        have h2 := (hM.2.2.1 k).1 (List.mem_of_mem_take (List.mem_filter.1 hkA).1)
        exact (aU_of (hk k h2).2.2.2.2.2.1).2.2)
      have hAl : A.length ≤ 20 := by
        rw [← hAA]
        have h1 := List.length_filter_le (isB m a b) (MA.take i)
        have h2 : (MA.take i).length ≤ i := by rw [List.length_take]; omega
        omega
      by_cases d : isB m a b q = true
      · have hqA : q ∉ A := by
          rw [← hAA]
          intro u
          exact hnm (List.mem_filter.1 u).1
        have hqL : q ∈ La m MA a b := List.mem_filter.2 ⟨(hM.2.2.1 q).2 hlt, d⟩
        rw [if_pos d] at hft
        have hle := rs_le (aP m) (aU m) lim 0 A
        have happ := rs_app (aP m) (aU m) lim 0 A q
        generalize hS : rs (aP m) (aU m) lim 0 A = S at *
        have l51 : a_ld 20 51 (iI (q : Nat)) (g_up m 52 row) = some (iI (aU m q : Nat)) := by
          rw [a_ldI (by omega) (by omega) (by omega), Int.toNat_natCast, g_up_ne _ _ (by decide)]
          exact congrArg some eU
        have l52 : a_ld 20 52 (iI (q : Nat)) (g_up m 52 row) = some (iI (aU m q : Nat)) := by
          rw [a_ldI (by omega) (by omega) (by omega), Int.toNat_natCast, g_up_at, hrow q, if_neg hqA, hr q hqL]
          exact congrArg some eU
        have emin : a_min (iI (S.1 : Nat)) (iI (aU m q : Nat)) = iI ((min (aU m q) S.1 : Nat) : Int) := by
          rw [a_minI (by omega) (by omega) (by omega) (by omega)]
          congr 1
          omega
        rw [if_pos d, if_neg (by decide), l51, ob_some, emin, ob_some, l52, ob_some, iI_sub, a_stI (by omega) (by omega) (by omega), ob_some, Int.toNat_natCast, g_up_at, g_up2, iI_sub, ob_some]
        have l50 : ∀ r9, a_ld 20 50 (iI (q : Nat)) (g_up m 52 r9) = some (aP m q) := by
          intro r9
          rw [a_ldI (by omega) (by omega) (by omega), Int.toNat_natCast, g_up_ne _ _ (by decide)]
          rfl
        have l52b : a_ld 20 52 (iI (q : Nat)) (g_up m 52 (upd row q (iI ((aU m q : Nat) - (min (aU m q) S.1 : Nat))))) = some (iI ((aU m q : Nat) - (min (aU m q) S.1 : Nat))) := by
          rw [a_ldI (by omega) (by omega) (by omega), Int.toNat_natCast, g_up_at, updA, if_pos rfl]
        have e25 : ∀ {α : Type} (G : Int32 → Option α), ob (if iI ((min (aU m q) S.1 : Nat) : Int) ≤ 0 then some x2 else ob (a_ld 20 50 (iI (q : Nat)) (g_up m 52 (upd row q (iI ((aU m q : Nat) - (min (aU m q) S.1 : Nat)))))) fun v26 => some v26) G = G (rstep (aP m) (aU m) S q).2.1 := by
          intro α G
          show _ = G (if 0 < min (aU m q) S.1 then aP m q else S.2.1)
          by_cases u : 0 < min (aU m q) S.1
          · rw [if_neg (by rw [le0 (by omega) (by omega)]; omega), if_pos u, l50, ob_some, ob_some]
          · rw [if_pos (by rw [le0 (by omega) (by omega)]; omega), if_neg u, ob_some, e2]
        have e28 : ∀ {α : Type} (G : Int32 → Option α), ob (if x3 = 0 then some 0 else ob (a_ld 20 52 (iI (q : Nat)) (g_up m 52 (upd row q (iI ((aU m q : Nat) - (min (aU m q) S.1 : Nat)))))) fun v29 => if v29 = 0 then some 1 else some 0) G = G (if (rstep (aP m) (aU m) S q).2.2.1 = 0 then 1 else 0) := by
          intro α G
          show _ = G (if S.2.2.1 + (aU m q - min (aU m q) S.1) = 0 then 1 else 0)
          rw [e3]
          by_cases u : S.2.2.1 = 0
          · rw [if_pos u, if_neg (by decide), l52b, ob_some]
            by_cases v : ((aU m q : Nat) : Int) - (min (aU m q) S.1 : Nat) = 0
            · rw [if_pos (by rw [eq0 (by omega) (by omega)]; exact v), if_pos (by omega), ob_some]
            · rw [if_neg (by rw [eq0 (by omega) (by omega)]; exact v), if_neg (by omega), ob_some]
          · rw [if_neg u, if_pos rfl, if_neg (by omega), ob_some]
        rw [e25, e28]
        simp only [ob_sm]
        refine hcont hin _ _ _ _ _ ⟨?_, ?_, ?_, iI_succ i, _, rfl, ?_⟩
        · rw [hft, happ]
          show _ = iI ((S.1 - min (aU m q) S.1 : Nat) : Int)
          congr 1
          omega
        · rw [hft, happ]
        · rw [hft, happ]
        · intro k
          rw [hft, happ, updA]
          show _ = if k ∈ A ++ [q] then m 51 k - iI ((if k = q then min (aU m q) S.1 else S.2.2.2 k : Nat) : Int) else m 52 k
          by_cases w : k = q
          · subst w
            rw [if_pos rfl, if_pos (List.mem_append_right _ (List.mem_singleton.2 rfl)), if_pos rfl, eU, iI_sub]
          · rw [if_neg w, hrow k, if_neg w]
            by_cases u : k ∈ A
            · rw [if_pos u, if_pos (List.mem_append_left _ u)]
            · rw [if_neg u, if_neg (fun v => by rw [List.mem_append, List.mem_singleton] at v; exact v.elim u w)]
      · rw [if_neg d, List.append_nil] at hft
        rw [if_neg d, if_pos rfl]
        simp only [ob_sm]
        exact hcont hin _ _ _ _ _ ⟨by rw [hft], by rw [hft]; exact e2, by rw [hft]; exact e3, iI_succ i, row, rfl, by rw [hft]; exact hrow⟩
