def Bx (a b : Int) : Prop := -20 ≤ a ∧ a ≤ 20 ∧ -20 ≤ b ∧ b ≤ 20
def scB (F : Int → Int → Option Int) (a : Int) (r : Option (Int × Int × Int)) : Nat → Option (Int × Int × Int)
  | 0 => r
  | n + 1 => stepB F (scB F a r n) a (-20 + n)
def scA (F : Int → Int → Option Int) : Nat → Option (Int × Int × Int)
  | 0 => none
  | n + 1 => scB F (-20 + n) (scA F n) 41
theorem scB_ok {F : Int → Int → Option Int} {a : Int} (h1 : -20 ≤ a) (h2 : a ≤ 20) {r : Option (Int × Int × Int)} (h : BestOf F (Sx a (-20)) r) : ∀ n : Nat, n ≤ 41 → BestOf F (Sx a (-20 + n)) (scB F a r n)
  | 0, _ => by
    show BestOf F (Sx a (-20 + ((0 : Nat) : Int))) r
    rw [show (-20 : Int) + ((0 : Nat) : Int) = -20 by omega]
    exact h
  | n + 1, hn => by
    have ih := scB_ok h1 h2 h n (by omega)
    refine Best_step ih (fun a2 b2 hs => hs.2) (fun a2 b2 => ?_)
    unfold Sx
    omega
theorem scA_ok {F : Int → Int → Option Int} : ∀ n : Nat, n ≤ 41 → BestOf F (Sx (-20 + n) (-20)) (scA F n)
  | 0, _ => by
    intro a b hs
    unfold Sx at hs
    omega
  | n + 1, hn => by
    have ih := scA_ok (F := F) n (by omega)
    have := scB_ok (F := F) (a := -20 + n) (by omega) (by omega) ih 41 (by omega)
    refine Best_S this (fun a2 b2 w _ => ?_)
    unfold Sx
    omega
def bestF (F : Int → Int → Option Int) : Option (Int × Int × Int) := scA F 41
theorem bestF_ok (F : Int → Int → Option Int) : BestOf F Bx (bestF F) := by
  refine Best_S (scA_ok (F := F) 41 (by omega)) (fun a2 b2 w _ => ?_)
  unfold Sx Bx
  omega
def vO : Option (Int × Int × Int) → Option Int
  | none => none
  | some (w, _, _) => some w
theorem Best_Max {F : Int → Int → Option Int} {S : Int → Int → Prop} {r : Option (Int × Int × Int)} (h : BestOf F S r) : MaxOf F S (vO r) := by
  cases r with
  | none => exact h
  | some u =>
    obtain ⟨w, a, b⟩ := u
    refine ⟨⟨a, b, h.1, h.2.1⟩, fun a2 b2 w2 hs hf => ?_⟩
    have := h.2.2 a2 b2 w2 hs hf
    omega
def RS (l : Nat → Int) (ls lb : Nat → List Int) (base : Nat → Int) : Option (Int × Int × Int) := bestF (FL l (WZ ls lb base) (-1))
def MS (l : Nat → Int) (ls lb : Nat → List Int) (base : Nat → Int) (z : Nat) : Option Int := vO (bestF (FL l (WZ ls lb base) (z : Nat)))
def PR (l : Nat → Int) (ls lb : Nat → List Int) (base : Nat → Int) (z : Nat) : Int := prc (RS l ls lb base) (MS l ls lb base z)
theorem srB_RS {l : Nat → Int} {ls lb : Nat → List Int} {base : Nat → Int} {m2 : gM} (h : srB l (WZ ls lb base) (fun a b => -20 ≤ a ∧ a ≤ 20 ∧ -20 ≤ b ∧ b ≤ 20) m2) : srS m2 (RS l ls lb base) (MS l ls lb base) := by
  obtain ⟨res, mx, h1, h2, h3⟩ := h
  have e : res = RS l ls lb base := Best_uniq h1 (bestF_ok _)
  have e2 : ∀ z, z < 3 → mx z = MS l ls lb base z := fun z hz => Max_uniq (h2 z hz) (Best_Max (bestF_ok _))
  subst e
  exact ⟨h3.1, h3.2.1, fun z hz => by rw [← e2 z hz]; exact h3.2.2 z hz⟩
theorem RS_rng {l : Nat → Int} {ls lb : Nat → List Int} {base : Nat → Int} (hc : ∀ z, z < 3 → crvOk (ls z) (lb z)) : RS l ls lb base = none ∨ ∃ w a2 b2, RS l ls lb base = some (w, a2, b2) ∧ -240000 ≤ w ∧ w ≤ 240000 := by
  have hW : ∀ z, z < 3 → ∀ net, okW (WZ ls lb base z net) := fun z hz net w hw => cw_rng (hc z hz).2.2.1 (hc z hz).2.2.2.1 (hc z hz).1 (hc z hz).2.1 hw
  cases h : RS l ls lb base with
  | none => exact Or.inl rfl
  | some u =>
    obtain ⟨w, a, b⟩ := u
    have hb := bestF_ok (FL l (WZ ls lb base) (-1))
    have hb : BestOf _ Bx (RS l ls lb base) := hb
    rw [h] at hb
    have := Best_rng hW hb
    exact Or.inr ⟨w, a, b, rfl, this⟩
theorem MS_ok {l : Nat → Int} {ls lb : Nat → List Int} {base : Nat → Int} (hc : ∀ z, z < 3 → crvOk (ls z) (lb z)) (z : Nat) : okV (MS l ls lb base z) := by
  have hW : ∀ z, z < 3 → ∀ net, okW (WZ ls lb base z net) := fun z hz net w hw => cw_rng (hc z hz).2.2.1 (hc z hz).2.2.2.1 (hc z hz).1 (hc z hz).2.1 hw
  exact Max_ok hW (Best_Max (bestF_ok (FL l (WZ ls lb base) (z : Nat))))
def lsF (m : gM) (M : List Nat) (h z : Nat) : List Int := cz m M (iI (z : Nat)) (iI (h : Nat)) 0
def lbF (m : gM) (M : List Nat) (h z : Nat) : List Int := cz m M (iI (z : Nat)) (iI (h : Nat)) 1
theorem lsF_fr {m m2 : gM} (M : List Nat) (hf : ∀ c, 5 ≤ c → c ≤ 10 → m2 c = m c) (h : Nat) : lsF m2 M h = lsF m M h ∧ lbF m2 M h = lbF m M h := by
  constructor
  · funext z; exact (cz_frM hf).2
  · funext z; exact (cz_frM hf).2
theorem sp_drawAll {n : Nat} {m : gM} {M : List Nat} {h : Nat} (hb : bidsOk m n M) (h0 : ∀ z, z < 3 → m (28 + 4 * z) 0 = iI 0 ∧ m (29 + 4 * z) 0 = iI 0) : T (f_X7_draw 4 (iI (h : Nat)) m) (fun m2 => (∀ z, z < 3 → Cur m2 (27 + 4 * z) (lsF m M h z) (lbF m M h z)) ∧ ∀ c, c < 27 ∨ 38 < c ∨ c = 30 ∨ c = 34 ∨ c = 38 → m2 c = m c) := by
  unfold f_X7_draw
  refine T_ob (P := fun t => (∀ z, z < 3 → Cur t.2 (27 + 4 * z) (lsF m M h z) (lbF m M h z)) ∧ ∀ c, c < 27 ∨ 38 < c ∨ c = 30 ∨ c = 34 ∨ c = 38 → t.2 c = m c) ?_ (fun t ht => T_some ht)
  refine T_run2 (f_X7_draw_L2 4 (iI (h : Nat))) (fun k x m2 => x = iI (k : Nat) ∧ (∀ z, z < k → Cur m2 (27 + 4 * z) (lsF m M h z) (lbF m M h z)) ∧ (∀ c, 27 + 4 * k ≤ c → m2 c = m c) ∧ ∀ c, c < 27 ∨ 38 < c ∨ c = 30 ∨ c = 34 ∨ c = 38 → m2 c = m c) _ 3 0 _ _ ⟨rfl, fun z hz => absurd hz (by omega), fun c _ => rfl, fun c _ => rfl⟩ (Nat.zero_le _) (by omega) ?_
  intro k x m2 f hI hk hcont
  obtain ⟨e, h1, h2, h3⟩ := hI
  subst e
  unfold f_X7_draw_L2
  rw [iL_3, iI_le (by omega) (by omega) (by omega) (by omega)]
  by_cases c : (3 : Int) ≤ k
  · rw [if_pos c]
    have e : k = 3 := by omega
    subst e
    exact T_some ⟨h1, h3⟩
  · rw [if_neg c, a_rfI (by omega) (by omega) (by omega), ob_some, Int.toNat_natCast]
    have hb2 : bidsOk m2 n M := bids_fr hb (fun c c1 c2 _ => h3 c (by omega))
    have h0k := h0 k (by omega)
    refine T_ob (sp_draw (o := 27 + 4 * k) (z := iI (k : Nat)) (h := iI (h : Nat)) (by omega) hb2 ?_ ?_) ?_
    · rw [show 27 + 4 * k + 1 = 28 + 4 * k by omega, h2 _ (by omega)]; exact h0k.1
    · rw [show 27 + 4 * k + 2 = 29 + 4 * k by omega, h2 _ (by omega)]; exact h0k.2
    · intro m3 hm3
      have ez : ∀ b, cz m2 M (iI (k : Nat)) (iI (h : Nat)) b = cz m M (iI (k : Nat)) (iI (h : Nat)) b := fun b => cz_fr (fun c c1 c2 _ => h3 c (by omega))
      rw [ez, ez] at hm3
      refine hcont (by omega) _ _ ⟨by rw [iL_1, iI_add]; rfl, ?_, ?_, ?_⟩
      · intro z hz
        by_cases q : z = k
        · subst q; exact hm3.1
        · exact Cur_fr (h1 z (by omega)) (hm3.2 _ (by omega) (by omega) (by omega)) (hm3.2 _ (by omega) (by omega) (by omega)) (hm3.2 _ (by omega) (by omega) (by omega))
      · intro c hc
        rw [hm3.2 c (by omega) (by omega) (by omega)]
        exact h2 c (by omega)
      · intro c hc
        rw [hm3.2 c (by omega) (by omega) (by omega)]
        exact h3 c hc
theorem sp_weighAll {m : gM} {ls lb : Nat → List Int} (hC : ∀ z, z < 3 → Cur m (27 + 4 * z) (ls z) (lb z) ∧ crvOk (ls z) (lb z)) : T (f_X7_weighBids m) (fun m2 => (∀ z, z < 3 → CurW m2 (27 + 4 * z) (ls z) (lb z)) ∧ ∀ c, c ≠ 30 → c ≠ 34 → c ≠ 38 → m2 c = m c) := by
  unfold f_X7_weighBids
  refine T_ob (P := fun t => (∀ z, z < 3 → CurW t.2 (27 + 4 * z) (ls z) (lb z)) ∧ ∀ c, c ≠ 30 → c ≠ 34 → c ≠ 38 → t.2 c = m c) ?_ (fun t ht => T_some ht)
  refine T_run2 (f_X7_weighBids_L2) (fun k x m2 => x = iI (k : Nat) ∧ (∀ z, z < k → CurW m2 (27 + 4 * z) (ls z) (lb z)) ∧ ∀ c, c ≠ 30 → c ≠ 34 → c ≠ 38 → m2 c = m c) _ 3 0 _ _ ⟨rfl, fun z hz => absurd hz (by omega), fun c _ _ _ => rfl⟩ (Nat.zero_le _) (by omega) ?_
  intro k x m2 f hI hk hcont
  obtain ⟨e, h1, h3⟩ := hI
  subst e
  unfold f_X7_weighBids_L2
  rw [iL_3, iI_le (by omega) (by omega) (by omega) (by omega)]
  by_cases c : (3 : Int) ≤ k
  · rw [if_pos c]
    have e : k = 3 := by omega
    subst e
    exact T_some ⟨h1, h3⟩
  · rw [if_neg c, a_rfI (by omega) (by omega) (by omega), ob_some, Int.toNat_natCast]
    have hCk := hC k (by omega)
    refine T_ob (sp_weigh (o := 27 + 4 * k) (Cur_fr hCk.1 (h3 _ (by omega) (by omega) (by omega)) (h3 _ (by omega) (by omega) (by omega)) (h3 _ (by omega) (by omega) (by omega))) hCk.2) ?_
    intro m3 hm3
    refine hcont (by omega) _ _ ⟨by rw [iL_1, iI_add]; rfl, ?_, ?_⟩
    · intro z hz
      by_cases q : z = k
      · subst q; exact hm3.1
      · exact CurW_fr (h1 z (by omega)) (hm3.2 _ (by omega)) (hm3.2 _ (by omega)) (hm3.2 _ (by omega)) (hm3.2 _ (by omega))
    · intro c c1 c2 c3
      rw [hm3.2 c (by omega)]
      exact h3 c c1 c2 c3
def SL (m : gM) (slot : Nat) (res : Option (Int × Int × Int)) (p : Nat → Int) : Prop := m 40 slot = iI (cres res) ∧ (∀ w a b, res = some (w, a, b) → m 41 (3 * slot) = iI a ∧ m 41 (3 * slot + 1) = iI b ∧ m 41 (3 * slot + 2) = iI (-a - b)) ∧ ∀ z, z < 3 → m 42 (3 * slot + z) = iI (p z)
theorem sp_keep {m : gM} {l : Nat → Int} {ls lb : Nat → List Int} {base : Nat → Int} (hc : ∀ z, z < 3 → crvOk (ls z) (lb z)) (hs : srS m (RS l ls lb base) (MS l ls lb base)) {slot : Nat} (h128 : slot < 128) : T (f_X3_keep (iI (slot : Nat)) m) (fun m2 => SL m2 slot (RS l ls lb base) (PR l ls lb base) ∧ m2 39 = upd (m 39) slot 1 ∧ (∀ c, c ≠ 39 → c ≠ 40 → c ≠ 41 → c ≠ 42 → m2 c = m c) ∧ (∀ k, k ≠ slot → m2 40 k = m 40 k) ∧ ∀ k, (k < 3 * slot ∨ 3 * slot + 2 < k) → m2 41 k = m 41 k ∧ m2 42 k = m 42 k) := by
  unfold f_X3_keep
  rw [a_zst_st (Or.inr rfl), a_stI (by omega) (by omega) (by omega), ob_some, a_stI (by omega) (by omega) (by omega), ob_some, Int.toNat_natCast]
  generalize hm2 : g_up (g_up m 39 (upd (m 39) slot 1)) 40 (upd ((g_up m 39 (upd (m 39) slot 1)) 40) slot ((g_up m 39 (upd (m 39) slot 1)) 22 4)) = m2
  have f0 : ∀ c, c ≠ 39 → c ≠ 40 → m2 c = m c := fun c c1 c2 => by rw [← hm2, g_up_ne _ _ c2, g_up_ne _ _ c1]
  have f1 : m2 39 = upd (m 39) slot 1 := by rw [← hm2, g_up_ne _ _ (by decide), g_up_at]
  have f2 : m2 40 = upd (m 40) slot (iI (cres (RS l ls lb base))) := by
    rw [← hm2, g_up_at, g_up_ne _ _ (by decide), g_up_ne _ _ (by decide), hs.1]
  refine T_ob (P := fun t => (∀ z, z < 3 → t.2 41 (3 * slot + z) = m 25 z ∧ t.2 42 (3 * slot + z) = iI (PR l ls lb base z)) ∧ (∀ c, c ≠ 41 → c ≠ 42 → t.2 c = m2 c) ∧ ∀ k, (k < 3 * slot ∨ 3 * slot + 2 < k) → t.2 41 k = m 41 k ∧ t.2 42 k = m 42 k) ?_ ?_
  · refine T_run2 (f_X3_keep_L22 (iI (slot : Nat))) (fun k x m9 => x = iI (k : Nat) ∧ (∀ z, z < k → m9 41 (3 * slot + z) = m 25 z ∧ m9 42 (3 * slot + z) = iI (PR l ls lb base z)) ∧ (∀ c, c ≠ 41 → c ≠ 42 → m9 c = m2 c) ∧ ∀ k, (k < 3 * slot ∨ 3 * slot + 2 < k) → m9 41 k = m 41 k ∧ m9 42 k = m 42 k) _ 3 0 _ _ ⟨rfl, fun z hz => absurd hz (by omega), fun c _ _ => rfl, fun k _ => by rw [f0 41 (by decide) (by decide), f0 42 (by decide) (by decide)]; exact ⟨rfl, rfl⟩⟩ (Nat.zero_le _) (by omega) ?_
    intro k x m4 f hI hk hcont
    obtain ⟨e, h1, h2, h3⟩ := hI
    subst e
    unfold f_X3_keep_L22
    rw [iL_3, iI_le (by omega) (by omega) (by omega) (by omega)]
    by_cases c : (3 : Int) ≤ k
    · rw [if_pos c]
      have e : k = 3 := by omega
      subst e
      exact T_some ⟨h1, h2, h3⟩
    · have e3 : ((slot : Nat) : Int) * 3 + (k : Nat) = ((3 * slot + k : Nat) : Int) := by omega
      rw [if_neg c, a_ldI (by omega) (by omega) (by omega), ob_some, Int.toNat_natCast, iI_mul, iI_add, e3, a_stI (by omega) (by omega) (by omega), ob_some, Int.toNat_natCast]
      generalize hm5 : g_up m4 41 (upd (m4 41) (3 * slot + k) (m4 25 k)) = m5
      have k5 : ∀ c, c ≠ 41 → m5 c = m4 c := fun c hc => by rw [← hm5, g_up_ne _ _ hc]
      have k5b : m5 41 = upd (m4 41) (3 * slot + k) (m4 25 k) := by rw [← hm5, g_up_at]
      have hs5 : srS m5 (RS l ls lb base) (MS l ls lb base) := by
        refine ⟨?_, ?_, ?_⟩
        · rw [k5 22 (by decide), h2 22 (by decide) (by decide), f0 22 (by decide) (by decide)]; exact hs.1
        · have := hs.2.1
          cases hR : RS l ls lb base with
          | none => trivial
          | some u =>
            obtain ⟨w, a, b⟩ := u
            rw [hR] at this
            show m5 22 5 = _ ∧ m5 25 0 = _ ∧ m5 25 1 = _ ∧ m5 25 2 = _
            rw [k5 22 (by decide), h2 22 (by decide) (by decide), f0 22 (by decide) (by decide), k5 25 (by decide), h2 25 (by decide) (by decide), f0 25 (by decide) (by decide)]
            exact this
        · intro z hz
          rw [k5 26 (by decide), h2 26 (by decide) (by decide), f0 26 (by decide) (by decide)]
          exact hs.2.2 z hz
      rw [sp_priceOf hs5 (RS_rng hc) (fun z _ => MS_ok hc z) (by omega), ob_some, a_stI (by omega) (by omega) (by omega), ob_some, Int.toNat_natCast]
      refine hcont (by omega) _ _ ⟨by rw [iL_1, iI_add]; rfl, ?_, ?_, ?_⟩
      · intro z hz
        rw [g_up_at, g_up_ne _ _ (by decide), k5b, k5 42 (by decide), updA, updA]
        by_cases q : z = k
        · subst q
          rw [if_pos rfl, if_pos rfl, h2 25 (by decide) (by decide), f0 25 (by decide) (by decide)]
          exact ⟨rfl, rfl⟩
        · rw [if_neg (by omega), if_neg (by omega)]
          exact h1 z (by omega)
      · intro c c1 c2
        rw [g_up_ne _ _ c2, k5 c c1]
        exact h2 c c1 c2
      · intro j hj
        rw [g_up_at, g_up_ne _ _ (by decide), k5b, k5 42 (by decide), updA, updA, if_neg (by omega), if_neg (by omega)]
        exact h3 j hj
  · intro t ht
    obtain ⟨x, m6⟩ := t
    obtain ⟨h1, h2, h3⟩ := ht
    refine T_obe (a := x) rfl (T_obe (a := m6) rfl (T_some ?_))
    have h1 : ∀ z, z < 3 → m6 41 (3 * slot + z) = m 25 z ∧ m6 42 (3 * slot + z) = iI (PR l ls lb base z) := h1
    have h2 : ∀ c, c ≠ 41 → c ≠ 42 → m6 c = m2 c := h2
    refine ⟨⟨?_, ?_, fun z hz => (h1 z hz).2⟩, ?_, ?_, ?_, h3⟩
    · rw [h2 40 (by decide) (by decide), f2, updA, if_pos rfl]
    · intro w a b hR
      have := hs.2.1
      rw [hR] at this
      have q0 := (h1 0 (by decide)).1
      have q1 := (h1 1 (by decide)).1
      have q2 := (h1 2 (by decide)).1
      rw [Nat.add_zero] at q0
      rw [q0, q1, q2]
      exact ⟨this.2.1, this.2.2.1, this.2.2.2⟩
    · rw [h2 39 (by decide) (by decide), f1]
    · intro c c1 c2 c3 c4
      rw [h2 c c3 c4, f0 c c1 c2]
    · intro k hk
      rw [h2 40 (by decide) (by decide), f2, updA, if_neg hk]
