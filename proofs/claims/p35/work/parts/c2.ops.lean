theorem ex_deposit {m : gM} {v : Nat} {a : Int} (hv : v < 6) (ha : 1 ≤ a ∧ a ≤ 500) (h68 : m 68 v = 0 ∨ m 68 v = 1) (hd : 0 ≤ (m 67 v).toInt ∧ (m 67 v).toInt ≤ 1000000) : (m 68 v = 1 ∧ f_X9_deposit (iI (v : Nat)) (iI a) m = some (.inl 3)) ∨ (m 68 v = 0 ∧ f_X9_deposit (iI (v : Nat)) (iI a) m = some (.inr (m 66 v + iI a, g_up (g_up m 67 (upd (m 67) v (m 67 v + iI a))) 66 (upd (m 66) v (m 66 v + iI a))))) := by
  have x0 := ci_ok (ct := 6) (v := v) (n := 6) rfl hv (by omega)
  have x1 := cr_ok (v := a) (lo := 1) (hi := 100000) (a := 1) (b := 100000) rfl rfl (by omega) (by omega) (by omega) (by omega)
  have hc : ¬ (10000000 : Int32) < m 67 v + iI a := by
    have e : m 67 v = iI (m 67 v).toInt := (iI_of _).symm
    rw [e, iL_10000000, iI_add, iI_ltP (by omega) (by omega) (by omega) (by omega)]
    omega
  have l68 := ldN (n := 6) (c := 68) (m := m) hv (by omega)
  have l67 := ldN (n := 6) (c := 67) (m := m) hv (by omega)
  have s67 := stN (n := 6) (c := 67) (x := m 67 v + iI a) (m := m) hv (by omega)
  have l66 := ldN (n := 6) (c := 66) (m := g_up m 67 (upd (m 67) v (m 67 v + iI a))) hv (by omega)
  have s66 := stN (n := 6) (c := 66) (x := m 66 v + iI a) (m := g_up m 67 (upd (m 67) v (m 67 v + iI a))) hv (by omega)
  have l66b := ldN (n := 6) (c := 66) (m := g_up (g_up m 67 (upd (m 67) v (m 67 v + iI a))) 66 (upd (m 66) v (m 66 v + iI a))) hv (by omega)
  rw [g_up_ne _ _ (by decide)] at l66 s66
  rw [g_up_at, updA, if_pos rfl] at l66b
  rcases h68 with q | q
  · refine Or.inr ⟨q, ?_⟩
    unfold f_X9_deposit
    simp only [x0, x1, ox_r, ob_sm, l68, if_pos q, l67, if_neg hc, cs1, s67, l66, s66, l66b]
  · refine Or.inl ⟨q, ?_⟩
    have q0 : ¬ m 68 v = 0 := by rw [q]; decide
    unfold f_X9_deposit
    simp only [x0, x1, ox_r, ox_l, ob_sm, l68, if_neg q0, cs0]
theorem ex_setLimit {m : gM} {k L : Nat} (hk : k < 3) (hL : L ≤ 10) (h0 : m 0 9 = 0) : f_X9_setLimit (iI (k : Nat)) (iI (L : Nat)) m = some (.inr (m 3 k, g_up m 3 (upd (m 3) k (iI (L : Nat))))) := by
  have x0 := ci_ok (ct := 3) (v := k) (n := 3) rfl hk (by omega)
  have x1 := cr_ok (v := (L : Int)) (lo := 0) (hi := 10) (a := 0) (b := 10) rfl rfl (by omega) (by omega) (by omega) (by omega)
  have l3 := ldN (n := 3) (c := 3) (m := m) hk (by omega)
  have s3 := stN (n := 3) (c := 3) (x := iI (L : Nat)) (m := m) hk (by omega)
  unfold f_X9_setLimit
  simp only [x0, x1, ox_r, ob_sm, if_pos h0, cs1, l3, s3]
theorem ex_bid {m : gM} {n : Nat} {M : List Nat} (hb : bidsOk m n M) (h0 : m 0 9 = 0) {f z h : Nat} {p u : Int} {y : Int32} (hf : f < 6) (hz : z < 3) (hh : h < 4) (hp : 0 ≤ p ∧ p ≤ 200) (hu : 1 ≤ u ∧ u ≤ 10) (hy : y = 0 ∨ y = 1) (h68 : m 68 f = 0 ∨ m 68 f = 1) : (f_X9_bid (iI (f : Nat)) (iI (z : Nat)) (iI (h : Nat)) y (iI p) (iI u) m = some (.inl 3) ∧ (m 68 f = 1 ∨ n = 40)) ∨ ∃ m2, f_X9_bid (iI (f : Nat)) (iI (z : Nat)) (iI (h : Nat)) y (iI p) (iI u) m = some (.inr (iI (n : Nat), m2)) ∧ (∀ c, (c < 4 ∨ 12 < c) → m2 c = m c) ∧ m2 4 8 = iI ((n + 1 : Nat) : Int) := by
  have x0 := ci_ok (ct := 6) (v := f) (n := 6) rfl hf (by omega)
  have x1 := ci_ok (ct := 3) (v := z) (n := 3) rfl hz (by omega)
  have x2 := ci_ok (ct := 4) (v := h) (n := 4) rfl hh (by omega)
  have x3 := cr_ok (v := p) (lo := 0) (hi := 200) (a := 0) (b := 200) rfl rfl (by omega) (by omega) (by omega) (by omega)
  have x4 := cr_ok (v := u) (lo := 1) (hi := 10) (a := 1) (b := 10) rfl rfl (by omega) (by omega) (by omega) (by omega)
  have hn40 := hb.1
  have l68 := ldN (n := 6) (c := 68) (m := m) hf (by omega)
  have hrm := sp_hasRoom (o := 4) hb.2.1 (by omega) (by rw [oln4]; omega)
  rw [oln4] at hrm
  rcases h68 with q | q
  · by_cases hn : n < 40
    · right
      rw [if_pos hn] at hrm
      obtain ⟨rr, er, M2, g1, g2, g3, -⟩ := sp_add (o := 4) (p1 := iI (f : Nat)) (p2 := iI (z : Nat)) (p3 := iI (h : Nat)) (p4 := y) (p5 := iI p) (p6 := iI u) (B := 200) (M := M) (m := m) (by rw [oln4]; omega) (show n < f_oln 4 by rw [oln4]; exact hn) (by omega) hb.2.1 (fun k hk => (hb.2.2.2 k hk).2.2.2.2.1) (rg_iI hp.1 hp.2 (by omega) (by omega)) hy hb.2.2.1
      obtain ⟨r1, m2⟩ := rr
      have g1 : r1 = iI (n : Nat) := g1
      subst g1
      refine ⟨m2, ?_, g2, ?_⟩
      · unfold f_X9_bid
        simp only [x0, x1, x2, x3, x4, ox_r, ob_sm, l68, if_pos q, if_pos h0, hrm, i10, cs1, er]
      · have g3 : m2 4 = upd (m 4) 8 (iI ((n + 1 : Nat) : Int)) := g3
        rw [g3, updA, if_pos rfl]
    · left
      rw [if_neg hn] at hrm
      refine ⟨?_, Or.inr (by omega)⟩
      unfold f_X9_bid
      simp only [x0, x1, x2, x3, x4, ox_r, ox_l, ob_sm, l68, if_pos q, if_pos h0, hrm, i00, if_true, cs0]
  · left
    have q0 : ¬ m 68 f = 0 := by rw [q]; decide
    refine ⟨?_, Or.inl q⟩
    unfold f_X9_bid
    simp only [x0, x1, x2, x3, x4, ox_r, ox_l, ob_sm, l68, if_neg q0, cs0]
theorem ex_block {m : gM} {nb : Nat} (hb : m 13 8 = iI (nb : Nat)) (hn : nb < 3) (h0 : m 0 9 = 0) {f z : Nat} {h p u : Int} {y : Int32} (hf : f < 6) (hz : z < 3) (hh : 1 ≤ h ∧ h ≤ 15) (hp : 0 ≤ p ∧ p ≤ 200) (hu : 1 ≤ u ∧ u ≤ 10) (hy : y = 0 ∨ y = 1) (h68 : m 68 f = 0 ∨ m 68 f = 1) : (f_X9_block (iI (f : Nat)) (iI (z : Nat)) (iI h) y (iI p) (iI u) m = some (.inl 3) ∧ m 68 f = 1) ∨ ∃ m2, f_X9_block (iI (f : Nat)) (iI (z : Nat)) (iI h) y (iI p) (iI u) m = some (.inr (iI (nb : Nat), m2)) ∧ (∀ c, (c < 13 ∨ 21 < c) → m2 c = m c) ∧ m2 13 8 = iI ((nb + 1 : Nat) : Int) := by
  have x0 := ci_ok (ct := 6) (v := f) (n := 6) rfl hf (by omega)
  have x1 := ci_ok (ct := 3) (v := z) (n := 3) rfl hz (by omega)
  have x2 := cr_ok (v := h) (lo := 1) (hi := 15) (a := 1) (b := 15) rfl rfl (by omega) (by omega) (by omega) (by omega)
  have x3 := cr_ok (v := p) (lo := 0) (hi := 200) (a := 0) (b := 200) rfl rfl (by omega) (by omega) (by omega) (by omega)
  have x4 := cr_ok (v := u) (lo := 1) (hi := 10) (a := 1) (b := 10) rfl rfl (by omega) (by omega) (by omega) (by omega)
  have l68 := ldN (n := 6) (c := 68) (m := m) hf (by omega)
  have z8 : ¬ 5 ≤ m 13 8 := by rw [hb, iL_5, iI_leP (by omega) (by omega) (by omega) (by omega)]; omega
  have z9 : m 13 8 < 5 := by rw [hb, iL_5, iI_ltP (by omega) (by omega) (by omega) (by omega)]; omega
  rcases h68 with q | q
  · right
    unfold f_X9_block f_X2_add
    simp only [x0, x1, x2, x3, x4, ox_r, ox_l, ob_sm, l68, if_pos q, if_pos h0, if_neg z8, if_pos z9, cs1]
    simp (disch := omega) only [hb, a_zst_st hy, ob_sm, a_stI, g_up_ne, Int.toNat_natCast]
    refine ⟨_, congrArg some (congrArg Sum.inr (Prod.ext rfl rfl)), ?_, ?_⟩
    · intro c h1
      simp (disch := omega) only [g_up_ne]
    · simp (disch := omega) only [g_up_at, updA, if_true, iI_succ]
  · left
    have q0 : ¬ m 68 f = 0 := by rw [q]; decide
    refine ⟨?_, q⟩
    unfold f_X9_block
    simp only [x0, x1, x2, x3, x4, ox_r, ox_l, ob_sm, l68, if_neg q0, cs0]
theorem ex_link {m : gM} {nb b : Nat} {t g : Int} (hb : m 13 8 = iI (nb : Nat)) (hn : nb ≤ 5) (hbn : b < nb) (h0 : m 0 9 = 0) (ht : -1 ≤ t ∧ t ≤ (b : Int) - 1) (hg : -1 ≤ g ∧ g ≤ 2) : ∃ m2, f_X9_link (iI (b : Nat)) (iI t) (iI g) m = some (.inr m2) ∧ ∀ c, c ≠ 20 → c ≠ 21 → m2 c = m c := by
  have x0 := ci_ok (ct := m 13 8) (v := b) (n := nb) hb hbn (by omega)
  have x1 := cr_ok (v := t) (lo := -1) (hi := iI (b : Nat) - 1) (a := -1) (b := (b : Int) - 1) rfl (by rw [iL_1, iI_sub]) (by omega) (by omega) (by omega) (by omega)
  have x2 := cr_ok (v := g) (lo := -1) (hi := 2) (a := -1) (b := 2) rfl rfl (by omega) (by omega) (by omega) (by omega)
  unfold f_X9_link
  simp only [x0, x1, x2, ox_r, ob_sm, if_pos h0, cs1]
  rw [stN (by omega) (by omega), ob_some, stN (by omega) (by omega), ob_some]
  refine ⟨_, rfl, ?_⟩
  intro c h1 h2
  simp (disch := omega) only [g_up_ne]
theorem ex_ask {m : gM} {na : Nat} {MA : List Nat} (hb : akC m na MA) (h0 : m 0 9 = 0) {f z w : Nat} {p u : Int} (hf : f < 6) (hz : z < 3) (hw : w < 3) (hzw : z ≠ w) (hp : 0 ≤ p ∧ p ≤ 500) (hu : 1 ≤ u ∧ u ≤ 10) (h68 : m 68 f = 0 ∨ m 68 f = 1) : (f_X9_ask (iI (f : Nat)) (iI (z : Nat)) (iI (w : Nat)) (iI u) (iI p) m = some (.inl 3) ∧ (m 68 f = 1 ∨ na = 20)) ∨ ∃ m2, f_X9_ask (iI (f : Nat)) (iI (z : Nat)) (iI (w : Nat)) (iI u) (iI p) m = some (.inr (iI (na : Nat), m2)) ∧ (∀ c, (c < 45 ∨ 54 < c) → m2 c = m c) ∧ m2 45 8 = iI ((na + 1 : Nat) : Int) := by
  have x0 := ci_ok (ct := 6) (v := f) (n := 6) rfl hf (by omega)
  have x1 := ci_ok (ct := 3) (v := z) (n := 3) rfl hz (by omega)
  have x2 := ci_ok (ct := 3) (v := w) (n := 3) rfl hw (by omega)
  have q3 : ¬ iI (z : Nat) = iI (w : Nat) := by rw [iI_eqP (by omega) (by omega) (by omega) (by omega)]; omega
  have x4 := cr_ok (v := u) (lo := 1) (hi := 10) (a := 1) (b := 10) rfl rfl (by omega) (by omega) (by omega) (by omega)
  have x5 := cr_ok (v := p) (lo := 0) (hi := 500) (a := 0) (b := 500) rfl rfl (by omega) (by omega) (by omega) (by omega)
  have hn20 := hb.2.1
  have l68 := ldN (n := 6) (c := 68) (m := m) hf (by omega)
  have hrm := sp_hasRoom (o := 45) hb.1 (by omega) (by rw [oln45]; omega)
  rw [oln45] at hrm
  rcases h68 with q | q
  · by_cases hn : na < 20
    · right
      rw [if_pos hn] at hrm
      obtain ⟨rr, er, M2, g1, g2, g3, -⟩ := sp_add (o := 45) (p1 := iI (f : Nat)) (p2 := iI (z : Nat)) (p3 := 0) (p4 := 1) (p5 := iI p) (p6 := iI u) (B := 500) (M := MA) (m := m) (by rw [oln45]; omega) (show na < f_oln 45 by rw [oln45]; exact hn) (by omega) hb.1 (fun k hk => (hb.2.2.2 k hk).2.2.2.2.1) (rg_iI hp.1 hp.2 (by omega) (by omega)) (Or.inr rfl) hb.2.2.1
      obtain ⟨r1, m2⟩ := rr
      have g1 : r1 = iI (na : Nat) := g1
      subst g1
      have zn : ¬ iI (na : Nat) = (-1 : Int32) := by rw [show (-1 : Int32) = iI (-1) from rfl, iI_eqP (by omega) (by omega) (by omega) (by omega)]; omega
      have g3 : m2 45 = upd (m 45) 8 (iI ((na + 1 : Nat) : Int)) := g3
      refine ⟨g_up m2 54 (upd (m2 54) na (iI (w : Nat))), ?_, ?_, ?_⟩
      · unfold f_X9_ask f_X1_add
        simp only [x0, x1, x2, if_neg q3, x4, x5, ox_r, ox_l, ob_sm, l68, if_pos q, if_pos h0, hrm, i10, cs1, er, if_neg zn, stN hn (show (20 : Nat) ≤ 100000 by omega)]
      · intro c hc
        rw [g_up_ne _ _ (by omega)]
        exact g2 c (by omega)
      · rw [g_up_ne _ _ (by decide), g3, updA, if_pos rfl]
    · left
      rw [if_neg hn] at hrm
      refine ⟨?_, Or.inr (by omega)⟩
      unfold f_X9_ask
      simp only [x0, x1, x2, if_neg q3, x4, x5, ox_r, ox_l, ob_sm, l68, if_pos q, if_pos h0, hrm, i00, if_true, cs0]
  · left
    have q0 : ¬ m 68 f = 0 := by rw [q]; decide
    refine ⟨?_, Or.inl q⟩
    unfold f_X9_ask
    simp only [x0, x1, x2, if_neg q3, x4, x5, ox_r, ox_l, ob_sm, l68, if_neg q0, cs0]
theorem ex_aid {m : gM} {d na : Nat} {MD : List Nat} (hd : d ≤ 9) (h8 : m 0 8 = iI (d : Nat)) (hb : adC m (69 + 16 * d + 7) na MD) {f h : Nat} {p u : Int} {y : Int32} (hf : f < 6) (hh : h < 4) (hp : 0 ≤ p ∧ p ≤ 300) (hu : 1 ≤ u ∧ u ≤ 10) (hy : y = 0 ∨ y = 1) (h68 : m 68 f = 0 ∨ m 68 f = 1) : (f_X9_aid (iI (f : Nat)) (iI (h : Nat)) y (iI p) (iI u) m = some (.inl 3) ∧ (m 68 f = 1 ∨ na = 30)) ∨ ∃ m2, f_X9_aid (iI (f : Nat)) (iI (h : Nat)) y (iI p) (iI u) m = some (.inr (iI (na : Nat), m2)) ∧ (∀ c, (c < 69 + 16 * d + 7 ∨ 69 + 16 * d + 7 + 8 < c) → m2 c = m c) ∧ m2 (69 + 16 * d + 7) 8 = iI ((na + 1 : Nat) : Int) := by
  have x0 := ci_ok (ct := 6) (v := f) (n := 6) rfl hf (by omega)
  have x1 := ci_ok (ct := 4) (v := h) (n := 4) rfl hh (by omega)
  have x2 := cr_ok (v := p) (lo := 0) (hi := 300) (a := 0) (b := 300) rfl rfl (by omega) (by omega) (by omega) (by omega)
  have x3 := cr_ok (v := u) (lo := 1) (hi := 10) (a := 1) (b := 10) rfl rfl (by omega) (by omega) (by omega) (by omega)
  obtain ⟨hln, u1, hn30, u4, u5⟩ := hb
  have l68 := ldN (n := 6) (c := 68) (m := m) hf (by omega)
  have hrf : a_rf 10 69 16 (m 0 8) = some (69 + 16 * d) := by rw [h8]; exact rfN (by omega) (by omega)
  have hrm := sp_hasRoom (o := 69 + 16 * d + 7) u1 (by omega) (by rw [hln]; omega)
  rw [hln] at hrm
  rcases h68 with q | q
  · by_cases hn : na < 30
    · right
      rw [if_pos hn] at hrm
      have hz8 : (if y = 0 then (1 : Int32) else 0) = 0 ∨ (if y = 0 then (1 : Int32) else 0) = 1 := by
        rcases hy with w | w
        · rw [if_pos w]; exact Or.inr rfl
        · rw [if_neg (by rw [w]; decide)]; exact Or.inl rfl
      obtain ⟨rr, er, M2, g1, g2, g3, -⟩ := sp_add (o := 69 + 16 * d + 7) (p1 := iI (f : Nat)) (p2 := 0) (p3 := iI (h : Nat)) (p4 := if y = 0 then (1 : Int32) else 0) (p5 := iI p) (p6 := iI u) (B := 300) (M := MD) (m := m) (by rw [hln]; omega) (show na < f_oln (69 + 16 * d + 7) by rw [hln]; exact hn) (by omega) u1 (fun k hk => (u5 k hk).2.2.2.1) (rg_iI hp.1 hp.2 (by omega) (by omega)) hz8 u4
      obtain ⟨r1, m2⟩ := rr
      have g1 : r1 = iI (na : Nat) := g1
      subst g1
      have g3 : m2 (69 + 16 * d + 7) = upd (m (69 + 16 * d + 7)) 8 (iI ((na + 1 : Nat) : Int)) := g3
      refine ⟨m2, ?_, g2, ?_⟩
      · unfold f_X9_aid
        rcases hy with w | w
        · rw [if_pos w] at er
          simp only [x0, x1, x2, x3, ox_r, ob_sm, hrf, l68, if_pos q, hrm, i10, cs1, if_pos w, er]
        · have w0 : ¬ y = 0 := by rw [w]; decide
          rw [if_neg w0] at er
          simp only [x0, x1, x2, x3, ox_r, ob_sm, hrf, l68, if_pos q, hrm, i10, cs1, if_neg w0, er]
      · rw [g3, updA, if_pos rfl]
    · left
      rw [if_neg hn] at hrm
      refine ⟨?_, Or.inr (by omega)⟩
      unfold f_X9_aid
      simp only [x0, x1, x2, x3, ox_r, ox_l, ob_sm, hrf, l68, if_pos q, hrm, i00, if_true, cs0]
  · left
    have q0 : ¬ m 68 f = 0 := by rw [q]; decide
    refine ⟨?_, Or.inl q⟩
    unfold f_X9_aid
    simp only [x0, x1, x2, x3, ox_r, ox_l, ob_sm, hrf, l68, if_neg q0, cs0]
theorem ex_close {m : gM} {d : Nat} (hd : d < 9) (h8 : m 0 8 = iI (d : Nat)) (h9 : m 0 9 = 1) : ∃ m2, f_X9_close m = some (.inr (iI ((d + 1 : Nat) : Int), m2)) ∧ (∀ c, c ≠ 0 → c ≠ 4 → c ≠ 13 → c ≠ 45 → c ≠ 55 → m2 c = m c) ∧ m2 0 8 = iI ((d + 1 : Nat) : Int) ∧ m2 0 9 = 0 ∧ m2 4 8 = 0 ∧ m2 13 8 = 0 ∧ m2 45 8 = 0 ∧ m2 55 8 = 0 := by
  have z3 : ¬ 9 ≤ m 0 8 := by rw [h8, iL_9, iI_leP (by omega) (by omega) (by omega) (by omega)]; omega
  unfold f_X9_close
  simp only [ox_r, ob_sm, if_pos h9, if_neg z3, cs1]
  refine ⟨_, congrArg some (congrArg Sum.inr (Prod.ext ?_ rfl)), ?_, ?_, ?_, ?_, ?_, ?_, ?_⟩
  · simp (disch := omega) only [g_up_at, g_up_ne, updA, h8, if_true, if_neg, iI_succ]
  · intro c h1 h2 h3 h4 h5
    simp (disch := omega) only [g_up_ne]
  · simp (disch := omega) only [g_up_at, g_up_ne, updA, h8, if_true, if_neg, iI_succ]
  · simp (disch := omega) only [g_up_at, g_up_ne, updA, if_true, if_neg]
  · simp (disch := omega) only [g_up_at, g_up_ne, updA, if_true, if_neg]
  · simp (disch := omega) only [g_up_at, g_up_ne, updA, if_true, if_neg]
  · simp (disch := omega) only [g_up_at, g_up_ne, updA, if_true, if_neg]
  · simp (disch := omega) only [g_up_at, g_up_ne, updA, if_true, if_neg]
theorem ex_read {m : gM} {d j f z h : Nat} {p : Int} (hd : d ≤ 9) (h8 : m 0 8 = iI (d : Nat)) (hj : j < d) (hf : f < 6) (hz : z < 3) (hh : h < 4) (hp : -200 ≤ p ∧ p ≤ 200) : ∃ m2, f_X9_read (iI (j : Nat)) (iI (f : Nat)) (iI (z : Nat)) (iI (h : Nat)) (iI p) m = some (.inr (iI p - m (69 + 16 * j + 3) (12 * f + 4 * z + h), m2)) ∧ ∀ c, c ≠ 69 + 16 * j + 4 → m2 c = m c := by
  have x0 := ci_ok (ct := m 0 8) (v := j) (n := d) h8 hj (by omega)
  have x1 := ci_ok (ct := 6) (v := f) (n := 6) rfl hf (by omega)
  have x2 := ci_ok (ct := 3) (v := z) (n := 3) rfl hz (by omega)
  have x3 := ci_ok (ct := 4) (v := h) (n := 4) rfl hh (by omega)
  have x4 := cr_ok (v := p) (lo := -200) (hi := 200) (a := -200) (b := 200) rfl rfl (by omega) (by omega) (by omega) (by omega)
  refine ⟨g_up m (69 + 16 * j + 4) (upd (m (69 + 16 * j + 4)) (12 * f + 4 * z + h) (iI p - m (69 + 16 * j + 3) (12 * f + 4 * z + h))), ?_, fun c hc => g_up_ne _ _ hc⟩
  unfold f_X9_read
  simp only [x0, x1, x2, x3, x4, ox_r]
  rw [rfN (by omega) (by omega), ob_some, sp_place, ob_some, ldN (by omega) (by omega), ob_some, stN (by omega) (by omega), ob_some, ldN (by omega) (by omega), ob_some, g_up_at, updA, if_pos rfl]
theorem ex_plan {m : gM} {d j f z h : Nat} (hd : d ≤ 9) (h8 : m 0 8 = iI (d : Nat)) (hj : j ≤ d) (hf : f < 6) (hz : z < 3) (hh : h < 4) : f_X9_plan (iI (j : Nat)) (iI (f : Nat)) (iI (z : Nat)) (iI (h : Nat)) m = some (.inr (m (69 + 16 * j + 3) (12 * f + 4 * z + h))) := by
  have x0 := ci_ok (ct := m 0 8 + 1) (v := j) (n := d + 1) (by rw [h8]; exact iI_succ d) (by omega) (by omega)
  have x1 := ci_ok (ct := 6) (v := f) (n := 6) rfl hf (by omega)
  have x2 := ci_ok (ct := 3) (v := z) (n := 3) rfl hz (by omega)
  have x3 := ci_ok (ct := 4) (v := h) (n := 4) rfl hh (by omega)
  unfold f_X9_plan
  simp only [x0, x1, x2, x3, ox_r]
  rw [rfN (by omega) (by omega), ob_some, sp_place, ob_some, ldN (by omega) (by omega), ob_some]
theorem ex_price {m : gM} {d z h : Nat} (hd : d ≤ 9) (h8 : m 0 8 = iI (d : Nat)) (h9 : m 0 9 = 1) (hz : z < 3) (hh : h < 4) : f_X9_price (iI (z : Nat)) (iI (h : Nat)) m = some (.inr (m (69 + 16 * d + 1) (4 * z + h))) := by
  have x1 := ci_ok (ct := 3) (v := z) (n := 3) rfl hz (by omega)
  have x2 := ci_ok (ct := 4) (v := h) (n := 4) rfl hh (by omega)
  unfold f_X9_price
  simp only [x1, x2, ox_r, ob_sm, if_pos h9, cs1]
  rw [h8, rfN (by omega) (by omega), ob_some, sp_spot, ob_some, show ((z : Nat) : Int) * 4 + ((h : Nat) : Int) = ((4 * z + h : Nat) : Int) by omega, ldN (by omega) (by omega), ob_some]
theorem ex_net {m : gM} {d z h : Nat} (hd : d ≤ 9) (h8 : m 0 8 = iI (d : Nat)) (h9 : m 0 9 = 1) (hz : z < 3) (hh : h < 4) : f_X9_net (iI (z : Nat)) (iI (h : Nat)) m = some (.inr (m (69 + 16 * d + 2) (4 * z + h))) := by
  have x1 := ci_ok (ct := 3) (v := z) (n := 3) rfl hz (by omega)
  have x2 := ci_ok (ct := 4) (v := h) (n := 4) rfl hh (by omega)
  unfold f_X9_net
  simp only [x1, x2, ox_r, ob_sm, if_pos h9, cs1]
  rw [h8, rfN (by omega) (by omega), ob_some, sp_spot, ob_some, show ((z : Nat) : Int) * 4 + ((h : Nat) : Int) = ((4 * z + h : Nat) : Int) by omega, ldN (by omega) (by omega), ob_some]
theorem ex_flow {m : gM} {d k h : Nat} (hd : d ≤ 9) (h8 : m 0 8 = iI (d : Nat)) (h9 : m 0 9 = 1) (hk : k < 3) (hh : h < 4) : f_X9_flow (iI (k : Nat)) (iI (h : Nat)) m = some (.inr (m (69 + 16 * d + 2) (4 * lbF2 k + h) - m (69 + 16 * d + 2) (4 * leF2 k + h))) := by
  have x1 := ci_ok (ct := 3) (v := k) (n := 3) rfl hk (by omega)
  have x2 := ci_ok (ct := 4) (v := h) (n := 4) rfl hh (by omega)
  obtain ⟨t1, t2, t3, t4⟩ := tb_le k hk
  have t5 := t4.1
  unfold f_X9_flow
  simp only [x1, x2, ox_r, ob_sm, if_pos h9, cs1, t1, t2]
  rw [h8, rfN (by omega) (by omega), ob_some, sp_spot, ob_some, show ((lbF2 k : Nat) : Int) * 4 + ((h : Nat) : Int) = ((4 * lbF2 k + h : Nat) : Int) by omega, ldN (by omega) (by omega), ob_some, sp_spot, ob_some, show ((leF2 k : Nat) : Int) * 4 + ((h : Nat) : Int) = ((4 * leF2 k + h : Nat) : Int) by omega, ldN (by omega) (by omega), ob_some]
