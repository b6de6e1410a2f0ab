def crvOk (ls lb : List Int) : Prop := ls.length ≤ 400 ∧ lb.length ≤ 400 ∧ (∀ x ∈ ls, 0 ≤ x ∧ x ≤ 200) ∧ (∀ x ∈ lb, 0 ≤ x ∧ x ≤ 200) ∧ (∀ i j, i ≤ j → j < ls.length → ls.getD i 0 ≤ ls.getD j 0) ∧ (∀ i j, i ≤ j → j < lb.length → lb.getD j 0 ≤ lb.getD i 0)
theorem cwf_diff {ls lb : List Int} {mk : Int} {d : Nat} (h1 : d < lb.length) (h2 : 0 ≤ mk + d) (h3 : mk + d < ls.length) : cwf ls lb mk (d + 1) - cwf ls lb mk d = lb.getD d 0 - ls.getD (mk + d).toNat 0 := by
  unfold cwf
  rw [pf_succ lb h1, show (mk + ((d + 1 : Nat) : Int)).toNat = (mk + d).toNat + 1 by omega, pf_succ ls (by omega)]
  omega
theorem crv_conc {ls lb : List Int} (hc : crvOk ls lb) {mk : Int} {x : Nat} (h2 : 0 ≤ mk + x) (hx : x < lb.length) (hx2 : mk + x < ls.length) (h : cwf ls lb mk (x + 1) ≤ cwf ls lb mk x) {d : Nat} (hd : x ≤ d) (hd1 : d < lb.length) (hd2 : mk + d < ls.length) : cwf ls lb mk (d + 1) ≤ cwf ls lb mk d := by
  have e1 := cwf_diff (ls := ls) (lb := lb) (mk := mk) (d := x) hx h2 hx2
  have e2 := cwf_diff (ls := ls) (lb := lb) (mk := mk) (d := d) hd1 (by omega) hd2
  have a := hc.2.2.2.2.1 (mk + x).toNat (mk + d).toNat (by omega) (by omega)
  have b := hc.2.2.2.2.2 x d hd hd1
  omega
theorem sp_pair {o : Nat} {m : gM} {ls lb : List Int} (hC : Cur m o ls lb) (hc : crvOk ls lb) {mk : Int} {x : Nat} (h2 : 0 ≤ mk + x) (hx : x < lb.length) (hx2 : mk + x < ls.length) : f_X4_isPairWorth o (iI x) (iI (x + mk)) m = some (if cwf ls lb mk (x + 1) ≤ cwf ls lb mk x then 0 else 1) := by
  obtain ⟨g1, g2, g3, g4⟩ := hC
  have l1 := hc.1
  have l2 := hc.2.1
  unfold f_X4_isPairWorth
  have r1 := pf_rng hc.2.2.2.1 x (by omega)
  have r2 := pf_rng hc.2.2.2.1 (x + 1) (by omega)
  have r3 := pf_rng hc.2.2.1 (mk + x).toNat (by omega)
  have r4 := pf_rng hc.2.2.1 ((mk + x).toNat + 1) (by omega)
  rw [iL_1, iI_add, iI_add, a_ldI (by omega) (by omega) (by omega), a_ldI (by omega) (by omega) (by omega), a_ldI (by omega) (by omega) (by omega), a_ldI (by omega) (by omega) (by omega)]
  simp only [ob_some]
  rw [show ((x : Int) + 1).toNat = x + 1 by omega, Int.toNat_natCast, show ((x : Int) + mk + 1).toNat = (mk + x).toNat + 1 by omega, show ((x : Int) + mk).toNat = (mk + x).toNat by omega, g4 _ (by omega), g4 _ (by omega), g3 _ (by omega), g3 _ (by omega), iI_sub, iI_sub, iI_le (by omega) (by omega) (by omega) (by omega)]
  have e : (pf lb (x + 1) - pf lb x ≤ pf ls ((mk + x).toNat + 1) - pf ls (mk + x).toNat) ↔ (cwf ls lb mk (x + 1) ≤ cwf ls lb mk x) := by
    unfold cwf
    rw [show (mk + ((x + 1 : Nat) : Int)).toNat = (mk + x).toNat + 1 by omega]
    omega
  by_cases q : cwf ls lb mk (x + 1) ≤ cwf ls lb mk x
  · rw [if_pos q, if_pos (e.2 q)]; rfl
  · rw [if_neg q, if_neg (fun w => q (e.1 w))]; rfl
theorem sp_buysFor {o : Nat} {m : gM} {ls lb : List Int} (hC : Cur m o ls lb) (hc : crvOk ls lb) {mk : Int} (hm1 : -1000 ≤ mk) (hm2 : mk ≤ 1000) : f_X4_buysFor o (iI mk) m = some (iI (if -(lb.length : Int) ≤ mk ∧ mk ≤ ls.length then (cwd ls lb mk : Int) else -1)) := by
  have l1 := hc.1
  have l2 := hc.2.1
  obtain ⟨g1, g2, g3, g4⟩ := id hC
  unfold f_X4_buysFor
  rw [iI_neg, iL_0, a_maxI (by omega) (by omega) (by omega) (by omega), ob_some, g1, g2, iI_add, iI_lt (by omega) (by omega) (by omega) (by omega), iI_le (by omega) (by omega) (by omega) (by omega)]
  by_cases q : -(lb.length : Int) ≤ mk ∧ mk ≤ ls.length
  · rw [if_pos q, if_neg (by omega), if_pos (by omega)]
    apply T_eq
    refine T_ob (P := fun y => y = iI (cwd ls lb mk : Nat)) ?_ (fun a ha => T_some ha)
    have hlo : ((-mk).toNat : Int) = max 0 (-mk) := by omega
    refine T_run (f_X4_buysFor_L27 o m (iI mk)) (fun k x => x = iI (((-mk).toNat + k : Nat) : Int) ∧ (-mk).toNat + k ≤ lb.length ∧ mk + ((-mk).toNat + k : Nat) ≤ ls.length ∧ ∀ d, (-mk).toNat ≤ d → d < (-mk).toNat + k → cwf ls lb mk d < cwf ls lb mk (d + 1)) _ 400 0 (iI (max 0 (-mk))) ?_ (Nat.zero_le _) (by omega) ?_
    · exact ⟨by rw [← hlo]; rfl, by omega, by omega, fun d h1 h2 => absurd h1 (by omega)⟩
    · intro k x f hI hk hcont
      obtain ⟨e, h1, h2, h3⟩ := hI
      subst e
      show T (f_X4_buysFor_L27 o m (iI mk) (f + 1) (iI (((-mk).toNat + k : Nat) : Int))) _
      unfold f_X4_buysFor_L27
      rw [g1, g2, iI_le (by omega) (by omega) (by omega) (by omega), iI_add, iI_le (by omega) (by omega) (by omega) (by omega)]
      refine T_ite (fun c => ?_) (fun c => T_ite (fun c2 => ?_) (fun c2 => ?_))
      · refine T_some ?_
        rw [am_greedy (f := cwf ls lb mk) (lo := (-mk).toNat) (n := cwn ls lb mk) (x := (-mk).toNat + k) (by omega) (by unfold cwn; omega) h3 (fun d d1 d2 => absurd d2 (by unfold cwn; omega))]
        rfl
      · refine T_some ?_
        rw [am_greedy (f := cwf ls lb mk) (lo := (-mk).toNat) (n := cwn ls lb mk) (x := (-mk).toNat + k) (by omega) (by unfold cwn; omega) h3 (fun d d1 d2 => absurd d2 (by unfold cwn; omega))]
        rfl
      · rw [sp_pair hC hc (mk := mk) (x := (-mk).toNat + k) (by omega) (by omega) (by omega), ob_some]
        by_cases w : cwf ls lb mk ((-mk).toNat + k + 1) ≤ cwf ls lb mk ((-mk).toNat + k)
        · rw [if_pos w, if_pos rfl]
          refine T_some ?_
          rw [am_greedy (f := cwf ls lb mk) (lo := (-mk).toNat) (n := cwn ls lb mk) (x := (-mk).toNat + k) (by omega) (by unfold cwn; omega) h3 (fun d d1 d2 => crv_conc hc (by omega) (by omega) (by omega) w d1 (by unfold cwn at d2; omega) (by unfold cwn at d2; omega))]
          rfl
        · rw [if_neg w, if_neg (by decide)]
          refine hcont (by omega) _ ⟨by rw [iL_1, iI_add]; rfl, by omega, by omega, ?_⟩
          intro d d1 d2
          by_cases z : d = (-mk).toNat + k
          · rw [z]; omega
          · exact h3 d d1 (by omega)
  · rw [if_neg q]
    by_cases c : (lb.length : Int) < max 0 (-mk)
    · rw [if_pos c]; rfl
    · rw [if_neg c, if_neg (by omega)]; rfl
def CurW (m : gM) (o : Nat) (ls lb : List Int) : Prop := Cur m o ls lb ∧ ∀ mk : Int, -71 ≤ mk → mk ≤ 71 → -(lb.length : Int) ≤ mk → mk ≤ ls.length → m (o + 3) (mk + 71).toNat = iI (cwf ls lb mk (cwd ls lb mk))
theorem Cur_fr {m m2 : gM} {o : Nat} {ls lb : List Int} (h : Cur m o ls lb) (h0 : m2 o = m o) (h1 : m2 (o + 1) = m (o + 1)) (h2 : m2 (o + 2) = m (o + 2)) : Cur m2 o ls lb := by
  unfold Cur at *
  rw [h0, h1, h2]
  exact h
theorem CurW_fr {m m2 : gM} {o : Nat} {ls lb : List Int} (h : CurW m o ls lb) (h0 : m2 o = m o) (h1 : m2 (o + 1) = m (o + 1)) (h2 : m2 (o + 2) = m (o + 2)) (h3 : m2 (o + 3) = m (o + 3)) : CurW m2 o ls lb := by
  refine ⟨Cur_fr h.1 h0 h1 h2, ?_⟩
  rw [h3]
  exact h.2
theorem sp_weigh {o : Nat} {m : gM} {ls lb : List Int} (hC : Cur m o ls lb) (hc : crvOk ls lb) : T (f_X4_weigh o m) (fun m2 => CurW m2 o ls lb ∧ ∀ c, c ≠ o + 3 → m2 c = m c) := by
  have l1 := hc.1
  have l2 := hc.2.1
  obtain ⟨g1, g2, g3, g4⟩ := id hC
  unfold f_X4_weigh
  rw [g1, g2, iL_71, a_minI (by omega) (by omega) (by omega) (by omega), iI_neg, iI_neg, a_maxI (by omega) (by omega) (by omega) (by omega), ob_some, ob_some]
  refine T_ob (P := fun t => ∃ row, t.2 = g_up m (o + 3) row ∧ ∀ mk : Int, max (-71) (-(lb.length : Int)) ≤ mk → mk ≤ min 71 ls.length → row (mk + 71).toNat = iI (cwf ls lb mk (cwd ls lb mk))) ?_ ?_
  · refine T_run2 (f_X4_weigh_L21 o (iI (min 71 ls.length))) (fun k x m2 => ∃ row, x = iI (max (-71) (-(lb.length : Int)) + k) ∧ m2 = g_up m (o + 3) row ∧ ∀ mk : Int, max (-71) (-(lb.length : Int)) ≤ mk → mk < max (-71) (-(lb.length : Int)) + k → row (mk + 71).toNat = iI (cwf ls lb mk (cwd ls lb mk))) _ 143 0 (iI (max (-71) (-(lb.length : Int)))) m ?_ (Nat.zero_le _) (by omega) ?_
    · exact ⟨m (o + 3), by simp, by rw [g_upE _ _ _ rfl], fun mk h1 h2 => absurd h1 (by omega)⟩
    · intro k s1 s2 f hI hk hcont
      obtain ⟨row, e, e2, h1⟩ := hI
      subst e
      subst e2
      show T (f_X4_weigh_L21 o (iI (min 71 ls.length)) (f + 1) (iI (max (-71) (-(lb.length : Int)) + k)) (g_up m (o + 3) row)) _
      unfold f_X4_weigh_L21
      generalize hlo : max (-71) (-(lb.length : Int)) = lo at *
      rw [iI_lt (by omega) (by omega) (by omega) (by omega)]
      refine T_ite (fun c => ?_) (fun c => ?_)
      · exact T_some ⟨row, rfl, fun mk a b => h1 mk a (by omega)⟩
      · have hC2 : Cur (g_up m (o + 3) row) o ls lb := Cur_fr hC (g_up_ne _ _ (by omega)) (g_up_ne _ _ (by omega)) (g_up_ne _ _ (by omega))
        have hin : -(lb.length : Int) ≤ lo + k ∧ lo + k ≤ ls.length := by omega
        have hd := cwd_rng hin.1 hin.2
        rw [sp_buysFor hC2 hc (by omega) (by omega), ob_some, if_pos hin, iL_1, iI_neg, iI_eq (by omega) (by omega) (by omega) (by omega), if_neg (by omega)]
        rw [a_ldI (by omega) (by omega) (by omega), ob_some, iI_add, a_ldI (by omega) (by omega) (by omega), ob_some, Int.toNat_natCast, hC2.2.2.2 _ (by omega), hC2.2.2.1 _ (by omega), iI_sub, ob_some, iL_71, iI_add, a_stI (by omega) (by omega) (by omega), ob_some, g_up_at, g_up2]
        refine hcont (by omega) _ _ ⟨_, ?_, rfl, ?_⟩
        · rw [iI_add, show lo + (k : Int) + 1 = lo + ((k + 1 : Nat) : Int) by omega]
        · intro mk a b
          rw [updA]
          by_cases q : mk = lo + k
          · subst q
            rw [if_pos rfl]
            unfold cwf
            rw [show (cwd ls lb (lo + k) : Int) + (lo + k) = lo + k + cwd ls lb (lo + k) by omega]
          · rw [if_neg (by omega)]
            exact h1 mk a (by omega)
  · intro t ht
    obtain ⟨row, e, h1⟩ := ht
    obtain ⟨t1, t2⟩ := t
    have e2 : t2 = g_up m (o + 3) row := e
    subst e2
    simp only [ob_some]
    refine T_some ⟨⟨Cur_fr hC (g_up_ne _ _ (by omega)) (g_up_ne _ _ (by omega)) (g_up_ne _ _ (by omega)), ?_⟩, fun c hc2 => g_up_ne _ _ hc2⟩
    intro mk a b c d
    rw [g_up_at]
    exact h1 mk (by omega) (by omega)
theorem sp_worthOf {o : Nat} {m : gM} {ls lb : List Int} (hC : CurW m o ls lb) (hc : crvOk ls lb) {mk : Int} (hm1 : -71 ≤ mk) (hm2 : mk ≤ 71) : f_X4_worthOf o (iI mk) m = some (iI (enc (cw ls lb mk))) := by
  have l1 := hc.1
  have l2 := hc.2.1
  obtain ⟨⟨g1, g2, g3, g4⟩, g5⟩ := hC
  unfold f_X4_worthOf
  rw [g1, g2, iI_neg, iL_71, iI_neg, iI_lt (by omega) (by omega) (by omega) (by omega), iI_lt (by omega) (by omega) (by omega) (by omega), iI_lt (by omega) (by omega) (by omega) (by omega), iI_le (by omega) (by omega) (by omega) (by omega), iI_add]
  unfold cw
  by_cases q : -(lb.length : Int) ≤ mk ∧ mk ≤ ls.length
  · rw [if_pos q, if_neg (by omega), if_neg (by omega), if_neg (by omega), if_pos (by omega), a_ldI (by omega) (by omega) (by omega), ob_some, g5 mk hm1 hm2 q.1 q.2]
    rfl
  · rw [if_neg q]
    by_cases c : mk < -(lb.length : Int)
    · rw [if_pos c]; rfl
    · rw [if_neg c, if_pos (by omega)]; rfl
theorem crv_of {m : gM} {n : Nat} {M : List Nat} (hb : bidsOk m n M) (z h : Int32) : crvOk (cz m M z h 0) (cz m M z h 1) := by
  refine ⟨cz_len hb z h 0, cz_len hb z h 1, cz_val hb, cz_val hb, ?_, ?_⟩
  · intro i j hij hj
    refine ups_mono (key := keyO m 4) (hb.2.2.1.2.1.filter _) ?_ hij hj
    intro k hk
    have := (Lz_sub hb.2.2.1 hk).2.2.2
    unfold keyO
    rw [show (4 + 4 : Nat) = 8 from rfl, this, if_pos rfl]
    rfl
  · intro i j hij hj
    refine ups_anti (key := keyO m 4) (hb.2.2.1.2.1.filter _) ?_ hij hj
    intro k hk
    have := (Lz_sub hb.2.2.1 hk).2.2.2
    unfold keyO
    rw [show (4 + 4 : Nat) = 8 from rfl, this, if_neg (by decide)]
    rfl
