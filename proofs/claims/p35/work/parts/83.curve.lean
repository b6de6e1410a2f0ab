def pP (m : gM) (k : Nat) : Int := (m 9 k).toInt
def uU (m : gM) (k : Nat) : Nat := (m 10 k).toInt.toNat
def isZ (m : gM) (z h b : Int32) (k : Nat) : Bool := decide (m 6 k = z ∧ m 7 k = h ∧ m 8 k = b)
def Lz (m : gM) (M : List Nat) (z h b : Int32) : List Nat := M.filter (isZ m z h b)
def cz (m : gM) (M : List Nat) (z h b : Int32) : List Int := ups (pP m) (uU m) (Lz m M z h b)
def enc : Option Int → Int
  | none => -1000000000
  | some w => w
def Cur (m : gM) (o : Nat) (ls lb : List Int) : Prop := m o 3 = iI ls.length ∧ m o 4 = iI lb.length ∧ (∀ j, j ≤ ls.length → m (o + 1) j = iI (pf ls j)) ∧ (∀ j, j ≤ lb.length → m (o + 2) j = iI (pf lb j))
theorem sp_extend {a : Nat} {m : gM} {l : List Int} {P : Int} {U : Nat} (hl : l.length + U ≤ 400) (hU : U ≤ 1000) (h : ∀ j, j ≤ l.length → m a j = iI (pf l j)) : T (f_X4_extend 401 a (iI l.length) (iI P) (iI U) m) (fun r => ∃ row, r = (iI ((l.length + U : Nat) : Int), g_up m a row) ∧ ∀ j, j ≤ l.length + U → row j = iI (pf (l ++ List.replicate U P) j)) := by
  unfold f_X4_extend
  refine T_ob (P := fun t => ∃ row, t = (iI ((l.length + U : Nat) : Int), iI U, g_up m a row) ∧ ∀ j, j ≤ l.length + U → row j = iI (pf (l ++ List.replicate U P) j)) ?_ ?_
  · refine T_run3 (f_X4_extend_L6 a 401 (iI P) (iI U)) (fun k x y m2 => ∃ row, x = iI ((l.length + k : Nat) : Int) ∧ y = iI (k : Nat) ∧ m2 = g_up m a row ∧ ∀ j, j ≤ l.length + k → row j = iI (pf (l ++ List.replicate U P) j)) _ U 0 (iI l.length) 0 m ?_ (Nat.zero_le _) (by omega) ?_
    · refine ⟨m a, rfl, rfl, by rw [g_upE _ _ _ rfl], fun j hj => ?_⟩
      rw [h j (by omega), pf_app _ _ (by omega)]
    · intro k s1 s2 s3 f hI hk hc
      obtain ⟨row, e, e2, e3, h1⟩ := hI
      subst e
      subst e2
      subst e3
      show T (f_X4_extend_L6 a 401 (iI P) (iI U) (f + 1) (iI ((l.length + k : Nat) : Int)) (iI (k : Nat)) (g_up m a row)) _
      unfold f_X4_extend_L6
      rw [iI_le (by omega) (by omega) (by omega) (by omega), iL_400, iI_le (by omega) (by omega) (by omega) (by omega)]
      refine T_ite (fun c => ?_) (fun c => ?_)
      · have e : k = U := by omega
        subst e
        exact T_some ⟨row, rfl, h1⟩
      · rw [if_neg (by omega), a_ldI (by omega) (by omega) (by omega), g_up_at, ob_some, iL_1, iI_add, a_stI (by omega) (by omega) (by omega), ob_some, g_up_at, g_up2]
        refine hc (by omega) _ _ _ ⟨_, rfl, by rw [iI_add]; rfl, rfl, ?_⟩
        intro j hj
        rw [updA]
        by_cases q : j = l.length + k + 1
        · rw [if_pos (by omega), Int.toNat_natCast, h1 _ (Nat.le_refl _), iI_add, q]
          have hlen : l.length + k < (l ++ List.replicate U P).length := by rw [List.length_append, List.length_replicate]; omega
          rw [pf_succ _ hlen]
          congr 2
          rw [gD _ _ hlen, List.getElem_append_right (by omega)]
          simp
        · rw [if_neg (by omega)]
          exact h1 j (by omega)
  · intro t ht
    obtain ⟨row, e, h1⟩ := ht
    subst e
    exact T_some ⟨row, rfl, h1⟩
def bidsOk (m : gM) (n : Nat) (M : List Nat) : Prop := n ≤ 40 ∧ m 4 8 = iI n ∧ Mer n (keyO m 4) (m 12) M ∧ ∀ k, k < n → rg (m 5 k) 0 5 ∧ rg (m 6 k) 0 2 ∧ rg (m 7 k) 0 3 ∧ (m 8 k = 0 ∨ m 8 k = 1) ∧ rg (m 9 k) 0 200 ∧ rg (m 10 k) 1 10
theorem bids_fr {m m2 : gM} {n : Nat} {M : List Nat} (h : bidsOk m n M) (hf : ∀ c, 4 ≤ c → c ≤ 12 → c ≠ 11 → m2 c = m c) : bidsOk m2 n M := by
  obtain ⟨h1, h2, h3, h4⟩ := h
  refine ⟨h1, by rw [hf 4 (by decide) (by decide) (by decide)]; exact h2, Mer_congr h3 ?_ ?_, ?_⟩
  · intro k _
    unfold keyO
    rw [hf 8 (by decide) (by decide) (by decide), hf 9 (by decide) (by decide) (by decide)]
  · intro i _
    rw [hf 12 (by decide) (by decide) (by decide)]
  · intro k hk
    have := h4 k hk
    rw [hf 5 (by decide) (by decide) (by decide), hf 6 (by decide) (by decide) (by decide), hf 7 (by decide) (by decide) (by decide), hf 8 (by decide) (by decide) (by decide), hf 9 (by decide) (by decide) (by decide), hf 10 (by decide) (by decide) (by decide)]
    exact this
theorem Lz_fr {m m2 : gM} {M : List Nat} {z h b : Int32} (hf : ∀ c, 4 ≤ c → c ≤ 12 → c ≠ 11 → m2 c = m c) : Lz m2 M z h b = Lz m M z h b := by
  unfold Lz isZ
  rw [hf 6 (by decide) (by decide) (by decide), hf 7 (by decide) (by decide) (by decide), hf 8 (by decide) (by decide) (by decide)]
theorem cz_fr {m m2 : gM} {M : List Nat} {z h b : Int32} (hf : ∀ c, 4 ≤ c → c ≤ 12 → c ≠ 11 → m2 c = m c) : cz m2 M z h b = cz m M z h b := by
  unfold cz
  rw [Lz_fr hf]
  have e1 : pP m2 = pP m := by unfold pP; rw [hf 9 (by decide) (by decide) (by decide)]
  have e2 : uU m2 = uU m := by unfold uU; rw [hf 10 (by decide) (by decide) (by decide)]
  rw [e1, e2]
theorem Lz_sub {m : gM} {M : List Nat} {z h b : Int32} {n : Nat} {key : Nat → Int} {mer : Nat → Int32} (hM : Mer n key mer M) {k : Nat} (hk : k ∈ Lz m M z h b) : k < n ∧ m 6 k = z ∧ m 7 k = h ∧ m 8 k = b := by
  unfold Lz at hk
  rw [List.mem_filter] at hk
  have := of_decide_eq_true hk.2
  exact ⟨(hM.2.2.1 k).1 hk.1, this⟩
theorem ups_take_len {m : gM} {n : Nat} {M : List Nat} (hb : bidsOk m n M) (p : Nat → Bool) (i : Nat) : (ups (pP m) (uU m) ((M.take i).filter p)).length ≤ 10 * i ∧ (ups (pP m) (uU m) ((M.take i).filter p)).length ≤ 400 := by
  have h1 : (ups (pP m) (uU m) ((M.take i).filter p)).length ≤ 10 * ((M.take i).filter p).length := by
    apply ups_len
    intro k hk
    have hk2 := List.mem_of_mem_take (List.mem_filter.1 hk).1
    have hk3 := (hb.2.2.2 k ((hb.2.2.1.2.2.1 k).1 hk2)).2.2.2.2.2
    unfold uU
    unfold rg at hk3
    omega
  have h2 : ((M.take i).filter p).length ≤ (M.take i).length := List.length_filter_le _ _
  rw [List.length_take] at h2
  have h3 := hb.2.2.1.1
  have h4 := hb.1
  omega
theorem cz_len {m : gM} {n : Nat} {M : List Nat} (hb : bidsOk m n M) (z h b : Int32) : (cz m M z h b).length ≤ 400 := by
  have := (ups_take_len hb (isZ m z h b) M.length).2
  rw [List.take_length] at this
  exact this
theorem cz_val {m : gM} {n : Nat} {M : List Nat} (hb : bidsOk m n M) {z h b : Int32} : ∀ x ∈ cz m M z h b, 0 ≤ x ∧ x ≤ 200 := by
  intro x hx
  obtain ⟨k, hk, e⟩ := ups_mem hx
  have hk2 := Lz_sub hb.2.2.1 hk
  have := (hb.2.2.2 k hk2.1).2.2.2.2.1
  rw [e]
  exact this
theorem filter_take {M : List Nat} {n i : Nat} (hl : M.length = n) (hi : i < n) (p : Nat → Bool) : (M.take (i + 1)).filter p = (M.take i).filter p ++ (if p (M.getD i 0) then [M.getD i 0] else []) := by
  rw [take_getD M 0 (by omega), List.filter_append, List.filter_cons, List.filter_nil]
theorem sp_draw {o n : Nat} {m : gM} {M : List Nat} {z h : Int32} (ho : 12 < o) (hb : bidsOk m n M) (h0 : m (o + 1) 0 = iI 0) (h1 : m (o + 2) 0 = iI 0) : T (f_X4_draw o 4 z h m) (fun m2 => Cur m2 o (cz m M z h 0) (cz m M z h 1) ∧ ∀ c, c ≠ o → c ≠ o + 1 → c ≠ o + 2 → m2 c = m c) := by
  unfold f_X4_draw
  simp only [ob_some, g_up_at, g_up2]
  have hM := hb.2.2.1
  refine T_ob (P := fun t => Cur t.2 o (cz m M z h 0) (cz m M z h 1) ∧ ∀ c, c ≠ o → c ≠ o + 1 → c ≠ o + 2 → t.2 c = m c) ?_ (fun t ht => T_some ht)
  refine T_run2 (f_X4_draw_L13 o 4 z h) (fun k x m2 => x = iI (k : Nat) ∧ Cur m2 o (ups (pP m) (uU m) ((M.take k).filter (isZ m z h 0))) (ups (pP m) (uU m) ((M.take k).filter (isZ m z h 1))) ∧ ∀ c, c ≠ o → c ≠ o + 1 → c ≠ o + 2 → m2 c = m c) _ n 0 0 _ ?_ (Nat.zero_le _) (by have := hb.1; omega) ?_
  · refine ⟨rfl, ⟨?_, ?_, ?_, ?_⟩, ?_⟩
    · simp only [g_up_at, updA, List.take_zero, List.filter_nil]; rfl
    · simp only [g_up_at, updA, List.take_zero, List.filter_nil]; rfl
    · intro j hj
      have e : j = 0 := by simpa [ups_nil] using hj
      subst e
      rw [g_up_ne _ _ (by omega)]
      exact h0
    · intro j hj
      have e : j = 0 := by simpa [ups_nil] using hj
      subst e
      rw [g_up_ne _ _ (by omega)]
      exact h1
    · intro c c1 c2 c3
      rw [g_up_ne _ _ c1]
  · intro k x m4 f hI hk hc
    obtain ⟨e, hcu, hfr⟩ := hI
    subst e
    show T (f_X4_draw_L13 o 4 z h (f + 1) (iI (k : Nat)) m4) _
    have hfr2 : ∀ c, 4 ≤ c → c ≤ 12 → m4 c = m c := fun c h1 h2 => hfr c (by omega) (by omega) (by omega)
    have hn := hb.1
    unfold f_X4_draw_L13
    rw [hfr2 4 (by decide) (by decide), hb.2.1, iI_le (by omega) (by omega) (by omega) (by omega)]
    refine T_ite (fun c => ?_) (fun c => ?_)
    · have e : k = n := by omega
      subst e
      refine T_some ⟨?_, hfr⟩
      have e2 : M.take k = M := by rw [← hM.1]; exact List.take_length
      rw [e2] at hcu
      exact hcu
    · have hkn : k < n := by omega
      have hlt := Mer_lt hM hkn
      have hrow := hb.2.2.2 _ hlt
      have hL : f_oln 4 = 40 := rfl
      rw [hL, a_ldI (by omega) (by omega) (by omega), ob_some, Int.toNat_natCast, show (4 + 8 : Nat) = 12 from rfl, hfr2 12 (by decide) (by decide), hM.2.2.2 k hkn, sp_isIn (by rw [hL]; omega) (by rw [hL]; omega), ob_some]
      generalize hq : M.getD k 0 = q at *
      rw [show (4 + 2 : Nat) = 6 from rfl, show (4 + 3 : Nat) = 7 from rfl, show (4 + 4 : Nat) = 8 from rfl, show (4 + 5 : Nat) = 9 from rfl, show (4 + 6 : Nat) = 10 from rfl, hfr2 6 (by decide) (by decide), hfr2 7 (by decide) (by decide)]
      have hf0 := filter_take hM.1 hkn (isZ m z h 0)
      have hf1 := filter_take hM.1 hkn (isZ m z h 1)
      rw [hq] at hf0 hf1
      by_cases d : m 6 q = z ∧ m 7 q = h
      · rw [if_pos d, if_neg (by decide), a_ldI (by omega) (by omega) (by omega), ob_some, Int.toNat_natCast, hfr2 8 (by decide) (by decide)]
        obtain ⟨P, eP, hP1, hP2⟩ := rg_ex hrow.2.2.2.2.1
        obtain ⟨U, eU, hU1, hU2⟩ := rg_ex hrow.2.2.2.2.2
        have ePP : pP m q = P := by unfold pP; rw [eP, iI_toInt (by omega) (by omega)]
        have eUU : uU m q = U.toNat := by unfold uU; rw [eU, iI_toInt (by omega) (by omega)]
        have eU2 : iI U = iI ((U.toNat : Nat) : Int) := by rw [Int.toNat_of_nonneg (by omega)]
        rw [a_ldI (by omega) (by omega) (by omega), a_ldI (by omega) (by omega) (by omega), ob_some, ob_some, Int.toNat_natCast, hfr2 9 (by decide) (by decide), hfr2 10 (by decide) (by decide), eP, eU, eU2]
        rcases hrow.2.2.2.1 with b0 | b1
        · rw [b0, if_pos rfl]
          simp only [ob_some]
          have hp0 : isZ m z h 0 q = true := decide_eq_true ⟨d.1, d.2, b0⟩
          have hp1 : isZ m z h 1 q = false := decide_eq_false (fun x => absurd (b0.symm.trans x.2.2) (by decide))
          rw [hp0, if_pos rfl] at hf0
          rw [hp1, if_neg (by decide), List.append_nil] at hf1
          have hlen := (ups_take_len hb (isZ m z h 0) k)
          obtain ⟨g1, g2, g3, g4⟩ := hcu
          rw [g1]
          have hlen2 := (ups_take_len hb (isZ m z h 0) (k + 1))
          rw [hf0, ups_app, List.length_append, List.length_replicate, eUU] at hlen2
          obtain ⟨_, er, row, rfl, hrw⟩ := sp_extend (a := o + 1) (m := m4) (l := ups (pP m) (uU m) ((M.take k).filter (isZ m z h 0))) (P := P) (U := U.toNat) (by omega) (by omega) g3
          rw [er]
          simp only [ob_some]
          rw [g_up_ne _ _ (show o ≠ o + 1 by omega)]
          refine hc hkn _ _ ⟨by rw [iL_1, iI_add]; rfl, ?_, ?_⟩
          · rw [hf0, hf1, ups_app, ePP, eUU]
            refine ⟨?_, ?_, ?_, ?_⟩
            · simp only [g_up_at, updA]
              rw [List.length_append, List.length_replicate]
              rfl
            · simp only [g_up_at, updA]
              exact g2
            · intro j hj
              rw [List.length_append, List.length_replicate] at hj
              show (g_up (g_up m4 (o + 1) row) o _) (o + 1) j = _
              rw [g_up_ne _ _ (by omega), g_up_at]
              exact hrw j hj
            · intro j hj
              show (g_up (g_up m4 (o + 1) row) o _) (o + 2) j = _
              rw [g_up_ne _ _ (by omega), g_up_ne _ _ (by omega)]
              exact g4 j hj
          · intro c c1 c2 c3
            show (g_up (g_up m4 (o + 1) row) o _) c = _
            rw [g_up_ne _ _ (by omega), g_up_ne _ _ (by omega)]
            exact hfr c c1 c2 c3
        · rw [b1, if_neg (by decide)]
          simp only [ob_some]
          have hp1 : isZ m z h 1 q = true := decide_eq_true ⟨d.1, d.2, b1⟩
          have hp0 : isZ m z h 0 q = false := decide_eq_false (fun x => absurd (b1.symm.trans x.2.2) (by decide))
          rw [hp1, if_pos rfl] at hf1
          rw [hp0, if_neg (by decide), List.append_nil] at hf0
          have hlen := (ups_take_len hb (isZ m z h 1) k)
          obtain ⟨g1, g2, g3, g4⟩ := hcu
          rw [g2]
          have hlen2 := (ups_take_len hb (isZ m z h 1) (k + 1))
          rw [hf1, ups_app, List.length_append, List.length_replicate, eUU] at hlen2
          obtain ⟨_, er, row, rfl, hrw⟩ := sp_extend (a := o + 2) (m := m4) (l := ups (pP m) (uU m) ((M.take k).filter (isZ m z h 1))) (P := P) (U := U.toNat) (by omega) (by omega) g4
          rw [er]
          simp only [ob_some]
          rw [g_up_ne _ _ (show o ≠ o + 2 by omega)]
          refine hc hkn _ _ ⟨by rw [iL_1, iI_add]; rfl, ?_, ?_⟩
          · rw [hf0, hf1, ups_app, ePP, eUU]
            refine ⟨?_, ?_, ?_, ?_⟩
            · simp only [g_up_at, updA]
              exact g1
            · simp only [g_up_at, updA]
              rw [List.length_append, List.length_replicate]
              rfl
            · intro j hj
              show (g_up (g_up m4 (o + 2) row) o _) (o + 1) j = _
              rw [g_up_ne _ _ (by omega), g_up_ne _ _ (by omega)]
              exact g3 j hj
            · intro j hj
              rw [List.length_append, List.length_replicate] at hj
              show (g_up (g_up m4 (o + 2) row) o _) (o + 2) j = _
              rw [g_up_ne _ _ (by omega), g_up_at]
              exact hrw j hj
          · intro c c1 c2 c3
            show (g_up (g_up m4 (o + 2) row) o _) c = _
            rw [g_up_ne _ _ (by omega), g_up_ne _ _ (by omega)]
            exact hfr c c1 c2 c3
      · rw [if_neg d, if_pos rfl, ob_some]
        have hp0 : isZ m z h 0 q = false := decide_eq_false (fun x => d ⟨x.1, x.2.1⟩)
        have hp1 : isZ m z h 1 q = false := decide_eq_false (fun x => d ⟨x.1, x.2.1⟩)
        rw [hp0, if_neg (by decide), List.append_nil] at hf0
        rw [hp1, if_neg (by decide), List.append_nil] at hf1
        refine hc hkn _ _ ⟨by rw [iL_1, iI_add]; rfl, ?_, hfr⟩
        rw [hf0, hf1]
        exact hcu
