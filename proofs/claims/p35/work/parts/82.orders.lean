def rg (x : Int32) (lo hi : Int) : Prop := lo ≤ x.toInt ∧ x.toInt ≤ hi
theorem rg_ex {x : Int32} {lo hi : Int} (h : rg x lo hi) : ∃ v : Int, x = iI v ∧ lo ≤ v ∧ v ≤ hi := ⟨x.toInt, (iI_of x).symm, h⟩
theorem rg_iI {v lo hi : Int} (h : lo ≤ v) (h2 : v ≤ hi) (hl : -2147483648 ≤ lo) (hh : hi < 2147483648) : rg (iI v) lo hi := by
  unfold rg
  rw [iI_toInt (by omega) (by omega)]
  exact ⟨h, h2⟩
theorem g_up2 (m : gM) (a : Nat) (f g : Nat → Int32) : g_up (g_up m a f) a g = g_up m a g := by
  funext c
  unfold g_up
  by_cases q : c = a
  · rw [if_pos q, if_pos q]
  · rw [if_neg q, if_neg q, if_neg q]
theorem g_upA (m : gM) (a c : Nat) (f : Nat → Int32) : g_up m a f c = if c = a then f else m c := rfl
theorem updA (f : Nat → Int32) (k j : Nat) (x : Int32) : upd f k x j = if j = k then x else f j := rfl
theorem g_upE (m : gM) (a : Nat) (f : Nat → Int32) (h : f = m a) : g_up m a f = m := by
  funext c
  unfold g_up
  by_cases q : c = a
  · rw [if_pos q, q, h]
  · rw [if_neg q]
def keyO (m : gM) (o k : Nat) : Int := if m (o + 4) k = 0 then (m (o + 5) k).toInt else -(m (o + 5) k).toInt
theorem keyO_rng {m : gM} {o k : Nat} {B : Int} (h : rg (m (o + 5) k) 0 B) : -B ≤ keyO m o k ∧ keyO m o k ≤ B := by
  unfold keyO
  obtain ⟨h1, h2⟩ := h
  by_cases c : m (o + 4) k = 0
  · rw [if_pos c]; omega
  · rw [if_neg c]; omega
theorem sp_costOf {o k : Nat} {m : gM} (hk : k < f_oln o) (hN : f_oln o ≤ 100) : f_X8_costOf o (iI k) m = some (iI (keyO m o k)) := by
  unfold f_X8_costOf keyO
  rw [a_ldI (by omega) (by omega) (by omega), a_ldI (by omega) (by omega) (by omega)]
  simp only [ob_some, Int.toNat_natCast]
  by_cases c : m (o + 4) k = 0
  · rw [if_pos c, if_pos c, iI_of]
    rfl
  · rw [if_neg c, if_neg c, ← iI_neg, iI_of]
    rfl
theorem sp_isIn {o k : Nat} {m : gM} {p2 p3 : Int32} (hk : k < f_oln o) (hN : f_oln o ≤ 100) : f_X8_isIn o (iI k) p2 p3 m = some (if m (o + 2) k = p2 ∧ m (o + 3) k = p3 then 1 else 0) := by
  unfold f_X8_isIn
  rw [a_ldI (by omega) (by omega) (by omega), a_ldI (by omega) (by omega) (by omega)]
  simp only [ob_some, Int.toNat_natCast]
  by_cases c : m (o + 2) k = p2
  · by_cases d : m (o + 3) k = p3
    · rw [if_pos c, if_pos d, if_pos ⟨c, d⟩]; rfl
    · rw [if_pos c, if_neg d, if_neg (fun e => d e.2)]; rfl
  · rw [if_neg c, if_neg (fun e => c e.1)]; rfl
theorem sp_used {o k : Nat} {m : gM} (hk : k < f_oln o) (hN : f_oln o ≤ 100) : f_X8_used o (iI k) m = some (m (o + 6) k - m (o + 7) k) := by
  unfold f_X8_used
  rw [a_ldI (by omega) (by omega) (by omega), a_ldI (by omega) (by omega) (by omega)]
  simp only [ob_some, Int.toNat_natCast]
theorem sp_hasRoom {o n : Nat} {m : gM} (hn : m o 8 = iI n) (h : n ≤ 100) (hN : f_oln o ≤ 100) : f_X8_hasRoom o m = some (if n < f_oln o then 1 else 0) := by
  unfold f_X8_hasRoom
  rw [hn, iI_nI, iI_le (by omega) (by omega) (by omega) (by omega)]
  by_cases c : n < f_oln o
  · rw [if_pos c, if_neg (by omega)]; rfl
  · rw [if_neg c, if_pos (by omega)]; rfl
theorem Mer_congr {n : Nat} {key key2 : Nat → Int} {mer mer2 : Nat → Int32} {M : List Nat} (h : Mer n key mer M) (hk : ∀ k, k < n → key k = key2 k) (hm : ∀ i, i < n → mer2 i = mer i) : Mer n key2 mer2 M := by
  refine ⟨h.1, ?_, h.2.2.1, fun i hi => by rw [hm i hi]; exact h.2.2.2 i hi⟩
  have h2 := List.Pairwise.and_mem.1 h.2.1
  refine h2.imp ?_
  intro a b q
  obtain ⟨ha, hb, hk2⟩ := q
  have e1 := hk a ((h.2.2.1 a).1 ha)
  have e2 := hk b ((h.2.2.1 b).1 hb)
  unfold kl at *
  omega
theorem ins_srt {key : Nat → Int} {M : List Nat} {n j : Nat} (hM : M.Pairwise (kl key)) (hmem : ∀ k, k ∈ M ↔ k < n) (hl : M.length = n) (hj : j ≤ n) (h1 : ∀ i, j ≤ i → i < n → key n < key (M.getD i 0)) (h2 : 0 < j → key (M.getD (j - 1) 0) ≤ key n) : (M.take j ++ n :: M.drop j).Pairwise (kl key) := by
  rw [List.pairwise_append]
  have hp := List.pairwise_iff_getElem.1 hM
  refine ⟨hM.sublist (List.take_sublist j M), ?_, ?_⟩
  · rw [List.pairwise_cons]
    refine ⟨?_, hM.sublist (List.drop_sublist j M)⟩
    intro b hb
    obtain ⟨i, hi, e⟩ := List.getElem_of_mem hb
    rw [List.getElem_drop] at e
    rw [List.length_drop] at hi
    have := h1 (j + i) (by omega) (by omega)
    rw [gD _ _ (by omega), e] at this
    exact Or.inl this
  · intro a ha b hb
    have han : a < n := (hmem a).1 (List.mem_of_mem_take ha)
    obtain ⟨i, hi, e⟩ := List.getElem_of_mem ha
    rw [List.getElem_take] at e
    rw [List.length_take] at hi
    have hkj : key a ≤ key n := by
      have h3 := h2 (by omega)
      rw [gD _ _ (by omega)] at h3
      by_cases q : i = j - 1
      · subst q; rw [e] at h3; exact h3
      · have := hp i (j - 1) (by omega) (by omega) (by omega)
        rw [e] at this
        unfold kl at this
        omega
    have hkn : kl key a n := by unfold kl; omega
    rcases List.mem_cons.1 hb with c | c
    · rw [c]; exact hkn
    · obtain ⟨i2, hi2, e2⟩ := List.getElem_of_mem c
      rw [List.getElem_drop] at e2
      rw [List.length_drop] at hi2
      have := h1 (j + i2) (by omega) (by omega)
      rw [gD _ _ (by omega), e2] at this
      exact kl_tr hkn (Or.inl this)
theorem sp_rank {o n : Nat} {m : gM} {M : List Nat} {B : Int} (hN : f_oln o ≤ 100) (hn : n < f_oln o) (hB : B ≤ 1000) (hr : ∀ k, k ≤ n → rg (m (o + 5) k) 0 B) (hM : Mer n (keyO m o) (m (o + 8)) M) : T (f_X8_rank o (iI n) m) (fun m2 => ∃ row M2, m2 = g_up m (o + 8) row ∧ Mer (n + 1) (keyO m o) row M2) := by
  unfold f_X8_rank
  refine T_ob (P := fun t => ∃ j row, t = (iI (j : Nat), g_up m (o + 8) row) ∧ j ≤ n ∧ (∀ i, i < j → row i = m (o + 8) i) ∧ (∀ i, j < i → i ≤ n → row i = m (o + 8) (i - 1)) ∧ (∀ i, j ≤ i → i < n → keyO m o n < keyO m o (M.getD i 0)) ∧ (0 < j → keyO m o (M.getD (j - 1) 0) ≤ keyO m o n)) ?_ ?_
  · refine T_run2 (f_X8_rank_L2 o (iI n)) (fun k x m2 => ∃ row, x = iI ((n - k : Nat) : Int) ∧ m2 = g_up m (o + 8) row ∧ (∀ i, i < n - k → row i = m (o + 8) i) ∧ (∀ i, n - k < i → i ≤ n → row i = m (o + 8) (i - 1)) ∧ (∀ i, n - k ≤ i → i < n → keyO m o n < keyO m o (M.getD i 0))) _ n 0 (iI n) m ?_ (Nat.zero_le _) (by omega) ?_
    · exact ⟨m (o + 8), rfl, by rw [g_upE _ _ _ rfl], fun i _ => rfl, fun i h1 h2 => absurd h1 (by omega), fun i h1 h2 => absurd h1 (by omega)⟩
    · intro k s1 s2 f hI hk hc
      obtain ⟨row, e, e2, h1, h2, h3⟩ := hI
      subst e
      subst e2
      show T (f_X8_rank_L2 o (iI n) (f + 1) (iI ((n - k : Nat) : Int)) (g_up m (o + 8) row)) _
      unfold f_X8_rank_L2
      rw [iL_0, iL_1, iI_le (by omega) (by omega) (by omega) (by omega), iI_sub, iI_neg, iI_add]
      refine T_ite (fun c => ?_) (fun c => ?_)
      · exact T_some ⟨n - k, row, rfl, by omega, h1, h2, h3, fun hh => absurd hh (by omega)⟩
      · have hk0 : n - k - 1 < n := by omega
        rw [a_ldI (by omega) (by omega) (by omega)]
        have e1 : ((n - k : Nat) - 1 : Int).toNat = n - k - 1 := by omega
        rw [e1, g_up_at, h1 _ (by omega), hM.2.2.2 _ hk0]
        have hlt := Mer_lt hM hk0
        simp only [ob_some]
        rw [sp_costOf (by omega) hN, sp_costOf hn hN]
        simp only [ob_some]
        have ek : ∀ k9, keyO (g_up m (o + 8) row) o k9 = keyO m o k9 := by
          intro k9
          unfold keyO
          rw [g_up_ne _ _ (by omega), g_up_ne _ _ (by omega)]
        rw [ek, ek]
        have r1 := keyO_rng (hr (M.getD (n - k - 1) 0) (by omega))
        have r2 := keyO_rng (hr n (Nat.le_refl _))
        rw [iI_le (by omega) (by omega) (by omega) (by omega)]
        refine T_ite (fun d => ?_) (fun d => ?_)
        · exact T_some ⟨n - k, row, rfl, by omega, h1, h2, h3, fun _ => d⟩
        · rw [a_stI (by omega) (by omega) (by omega)]
          simp only [ob_some]
          rw [g_up_at, g_up2]
          refine hc (by omega) _ _ ⟨upd row (n - k) (iI (M.getD (n - k - 1) 0 : Nat)), ?_, ?_, ?_, ?_, ?_⟩
          · rw [show ((n - k : Nat) : Int) + -1 = ((n - (k + 1) : Nat) : Int) by omega]
          · rw [Int.toNat_natCast]
          · intro i hi
            rw [updA, if_neg (by omega)]
            exact h1 i (by omega)
          · intro i hi1 hi2
            rw [updA]
            by_cases q : i = n - k
            · rw [if_pos (by omega), q, hM.2.2.2 _ hk0]
            · rw [if_neg (by omega)]
              exact h2 i (by omega) hi2
          · intro i hi1 hi2
            by_cases q : i = n - k - 1
            · rw [q]; omega
            · exact h3 i (by omega) hi2
  · intro t ht
    obtain ⟨j, row, e, hj, h1, h2, h3, h4⟩ := ht
    subst e
    simp only [ob_some]
    rw [a_stI (by omega) (by omega) (by omega), g_up_at, g_up2]
    simp only [ob_some]
    refine T_some ⟨_, M.take j ++ n :: M.drop j, rfl, ?_, ins_srt hM.2.1 hM.2.2.1 hM.1 hj h3 h4, ?_, ?_⟩
    · rw [List.length_append, List.length_take, List.length_cons, List.length_drop, hM.1]; omega
    · intro k
      rw [List.mem_append, List.mem_cons]
      constructor
      · intro q
        rcases q with q | q | q
        · have := (hM.2.2.1 k).1 (List.mem_of_mem_take q); omega
        · omega
        · have := (hM.2.2.1 k).1 (List.mem_of_mem_drop q); omega
      · intro q
        by_cases c : k = n
        · exact Or.inr (Or.inl c)
        · have hmem := (hM.2.2.1 k).2 (by omega)
          rw [← List.take_append_drop j M, List.mem_append] at hmem
          rcases hmem with d | d
          · exact Or.inl d
          · exact Or.inr (Or.inr d)
    · intro i hi
      rw [updA, Int.toNat_natCast]
      have hl : (M.take j).length = j := by rw [List.length_take, hM.1]; omega
      by_cases q : i = j
      · rw [if_pos q, q]
        rw [List.getD_eq_getElem?_getD, List.getElem?_append_right (by omega), hl, Nat.sub_self]
        rfl
      · rw [if_neg q]
        by_cases c : i < j
        · rw [h1 i c, hM.2.2.2 i (by omega), List.getD_eq_getElem?_getD, List.getD_eq_getElem?_getD, List.getElem?_append_left (by omega), List.getElem?_take, if_pos c]
        · rw [h2 i (by omega) (by omega), hM.2.2.2 (i - 1) (by omega), List.getD_eq_getElem?_getD, List.getD_eq_getElem?_getD, List.getElem?_append_right (by omega), hl]
          rw [show i - j = (i - 1 - j) + 1 by omega, List.getElem?_cons_succ, List.getElem?_drop, show j + (i - 1 - j) = i - 1 by omega]
theorem sp_add {o n : Nat} {m : gM} {M : List Nat} {B : Int} {p1 p2 p3 p4 p5 p6 : Int32} (hN : f_oln o ≤ 100) (hn : n < f_oln o) (hB : B ≤ 1000) (hc : m o 8 = iI n) (hr : ∀ k, k < n → rg (m (o + 5) k) 0 B) (hp5 : rg p5 0 B) (hp4 : p4 = 0 ∨ p4 = 1) (hM : Mer n (keyO m o) (m (o + 8)) M) : T (f_X8_add o p1 p2 p3 p4 p5 p6 m) (fun r => ∃ M2, r.1 = iI n ∧ (∀ c, c < o ∨ o + 8 < c → r.2 c = m c) ∧ r.2 o = upd (m o) 8 (iI ((n + 1 : Nat) : Int)) ∧ r.2 (o + 1) = upd (m (o + 1)) n p1 ∧ r.2 (o + 2) = upd (m (o + 2)) n p2 ∧ r.2 (o + 3) = upd (m (o + 3)) n p3 ∧ r.2 (o + 4) = upd (m (o + 4)) n p4 ∧ r.2 (o + 5) = upd (m (o + 5)) n p5 ∧ r.2 (o + 6) = upd (m (o + 6)) n p6 ∧ r.2 (o + 7) = upd (m (o + 7)) n p6 ∧ Mer (n + 1) (keyO r.2 o) (r.2 (o + 8)) M2) := by
  unfold f_X8_add
  rw [sp_hasRoom hc (by omega) hN, if_pos hn, ob_some, if_neg (by decide), ob_some, hc]
  simp (disch := omega) only [a_zst_st hp4, a_stI, ob_some, Int.toNat_natCast]
  refine T_ob (sp_rank (n := n) (B := B) (M := M) hN hn hB ?_ ?_) ?_
  · intro k hk
    simp (disch := omega) only [g_up_at, g_up_ne]
    rw [updA]
    by_cases q : k = n
    · rw [if_pos q]; exact hp5
    · rw [if_neg q]; exact hr k (by omega)
  · refine Mer_congr hM ?_ ?_
    · intro k hk
      unfold keyO
      simp (disch := omega) only [g_up_at, g_up_ne, updA, if_neg]
    · intro i hi
      simp (disch := omega) only [g_up_ne]
  · intro m2 hm2
    obtain ⟨row, M2, e, hM2⟩ := hm2
    subst e
    simp (disch := omega) only [ob_some, g_up_ne]
    refine T_some ⟨M2, rfl, ?_, ?_, ?_, ?_, ?_, ?_, ?_, ?_, ?_, ?_⟩
    · intro c hc
      simp (disch := omega) only [g_up_ne]
    · simp (disch := omega) only [g_up_at]
      rw [hc, iL_1, iI_add]
      rfl
    · simp (disch := omega) only [g_up_at, g_up_ne]
    · simp (disch := omega) only [g_up_at, g_up_ne]
    · simp (disch := omega) only [g_up_at, g_up_ne]
    · simp (disch := omega) only [g_up_at, g_up_ne]
    · simp (disch := omega) only [g_up_at, g_up_ne]
    · simp (disch := omega) only [g_up_at, g_up_ne]
    · simp (disch := omega) only [g_up_at, g_up_ne]
    · refine Mer_congr hM2 ?_ ?_
      · intro k hk
        unfold keyO
        simp (disch := omega) only [g_up_at, g_up_ne]
      · intro i hi
        simp (disch := omega) only [g_up_at, g_up_ne]
