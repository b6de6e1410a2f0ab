theorem ob_ite {α β : Type} {c : Prop} [Decidable c] {x y : α} {k : α → Option β} : ob (if c then some x else some y) k = k (if c then x else y) := by
  by_cases q : c
  · rw [if_pos q, if_pos q]; rfl
  · rw [if_neg q, if_neg q]; rfl
theorem iI_ite {c : Prop} [Decidable c] {x y : Int} : (if c then iI x else iI y) = iI (if c then x else y) := by
  by_cases q : c
  · rw [if_pos q, if_pos q]
  · rw [if_neg q, if_neg q]
def add3 : Option Int → Option Int → Option Int → Option Int
  | some x, some y, some z => some (x + y + z)
  | _, _, _ => none
def FF (l : Nat → Int) (W0 W1 W2 : Int → Option Int) (a b : Int) : Option Int := if alw l a b (-a - b) then add3 (W0 a) (W1 b) (W2 (-a - b)) else none
def FL (l : Nat → Int) (W : Nat → Int → Option Int) (less : Int) : Int → Int → Option Int := FF l (fun a => W 0 (if less = 0 then a - 1 else a)) (fun b => W 1 (if less = 1 then b - 1 else b)) (fun c => W 2 (if less = 2 then c - 1 else c))
def okW (v : Option Int) : Prop := ∀ w, v = some w → -80000 ≤ w ∧ w ≤ 80000
theorem add3_rng {x y z : Option Int} (hx : okW x) (hy : okW y) (hz : okW z) {w : Int} (h : add3 x y z = some w) : -240000 ≤ w ∧ w ≤ 240000 := by
  cases x with
  | none => cases h
  | some x =>
    cases y with
    | none => cases h
    | some y =>
      cases z with
      | none => cases h
      | some z =>
        have e : x + y + z = w := Option.some.inj h
        have := hx x rfl
        have := hy y rfl
        have := hz z rfl
        omega
theorem encN_none {v : Option Int} (h : okW v) : encN v = -1000000000 ↔ v = none := by
  cases v with
  | none => exact ⟨fun _ => rfl, fun _ => rfl⟩
  | some w =>
    have := h w rfl
    constructor
    · intro e
      have e2 : w = -1000000000 := e
      omega
    · intro e; cases e
theorem sp_add3N {α : Type} {x y z : Option Int} (hx : okW x) (hy : okW y) (hz : okW z) (g : Int32 → Option α) : ob (if iI (encN x) = iI (-1000000000) then some (iI (-1000000000)) else if iI (encN y) = iI (-1000000000) then some (iI (-1000000000)) else if iI (encN z) = iI (-1000000000) then some (iI (-1000000000)) else some (iI (encN x) + iI (encN y) + iI (encN z))) g = g (iI (encN (add3 x y z))) := by
  have rx : -1000000000 ≤ encN x ∧ encN x ≤ 80000 := by
    cases x with
    | none => exact ⟨by decide, by decide⟩
    | some w => have := hx w rfl; exact ⟨by show -1000000000 ≤ w; omega, this.2⟩
  have ry : -1000000000 ≤ encN y ∧ encN y ≤ 80000 := by
    cases y with
    | none => exact ⟨by decide, by decide⟩
    | some w => have := hy w rfl; exact ⟨by show -1000000000 ≤ w; omega, this.2⟩
  have rz : -1000000000 ≤ encN z ∧ encN z ≤ 80000 := by
    cases z with
    | none => exact ⟨by decide, by decide⟩
    | some w => have := hz w rfl; exact ⟨by show -1000000000 ≤ w; omega, this.2⟩
  rw [iI_eq (by omega) (by omega) (by omega) (by omega), iI_eq (by omega) (by omega) (by omega) (by omega), iI_eq (by omega) (by omega) (by omega) (by omega)]
  cases x with
  | none => rw [if_pos (show encN none = -1000000000 from rfl)]; rfl
  | some x =>
    rw [if_neg (fun e => by have := (encN_none hx).1 e; cases this)]
    cases y with
    | none => rw [if_pos (show encN none = -1000000000 from rfl)]; rfl
    | some y =>
      rw [if_neg (fun e => by have := (encN_none hy).1 e; cases this)]
      cases z with
      | none => rw [if_pos (show encN none = -1000000000 from rfl)]; rfl
      | some z =>
        rw [if_neg (fun e => by have := (encN_none hz).1 e; cases this), iI_add, iI_add]
        rfl
def mres : Option (Int × Int × Int) → Int
  | none => -1000000000
  | some (w, _, _) => w
def mst (m : gM) : Option (Int × Int × Int) → Prop
  | none => True
  | some (_, a, b) => m 0 65 = iI a ∧ m 0 66 = iI b
def Sx (a b a2 b2 : Int) : Prop := (-20 ≤ a2 ∧ a2 ≤ 20 ∧ -20 ≤ b2 ∧ b2 ≤ 20) ∧ (a2 < a ∨ (a2 = a ∧ b2 < b))
theorem gs_rng {a b : Int} (h1 : -20 ≤ a) (h2 : a ≤ 20) (h3 : -20 ≤ b) (h4 : b ≤ 20) : 0 ≤ gs a b ∧ gs a b ≤ 1000 := by
  unfold gs
  have r0 := aI_rng (a := a - b) (B := 100) (by omega) (by omega)
  have r1 := aI_rng (a := b - (-a - b)) (B := 100) (by omega) (by omega)
  have r2 := aI_rng (a := a - (-a - b)) (B := 100) (by omega) (by omega)
  omega
theorem sp_goes {a b : Int} (h1 : -20 ≤ a) (h2 : a ≤ 20) (h3 : -20 ≤ b) (h4 : b ≤ 20) : f_X10_goes (iI a) (iI b) = some (iI (gs a b)) := by
  unfold f_X10_goes
  rw [iI_neg, iI_sub, ob_some, iI_sub, iI_sub, iI_sub, sp_away (by omega) (by omega), sp_away (by omega) (by omega), sp_away (by omega) (by omega)]
  simp only [ob_some]
  rw [iI_add, iI_add]
  rfl
def WZ (ls lb : Nat → List Int) (base : Nat → Int) (z : Nat) (net : Int) : Option Int := cw (ls z) (lb z) (net - base z)
def hourM (m : gM) (h : Nat) (l : Nat → Int) (ls lb : Nat → List Int) (base : Nat → Int) : Prop := limM m l ∧ ∀ z, z < 3 → crvOk (ls z) (lb z) ∧ Wm m (4 * z + h) (ls z) (lb z) ∧ m 53 (4 * z + h) = iI (base z) ∧ -50 ≤ base z ∧ base z ≤ 50
theorem hourM_fr {m m2 : gM} {h : Nat} {l : Nat → Int} {ls lb : Nat → List Int} {base : Nat → Int} (hh : hourM m h l ls lb base) (h1 : m2 1 = m 1) (h51 : m2 51 = m 51) (h52 : m2 52 = m 52) (h53 : m2 53 = m 53) : hourM m2 h l ls lb base := by
  refine ⟨?_, ?_⟩
  · unfold limM
    rw [h1]
    exact hh.1
  · intro z hz
    obtain ⟨a, b, c, d⟩ := hh.2 z hz
    exact ⟨a, Wm_fr b h51 h52, by rw [h53]; exact c, d⟩
theorem okWZ {m : gM} {h : Nat} {l : Nat → Int} {ls lb : Nat → List Int} {base : Nat → Int} (hh : hourM m h l ls lb base) {z : Nat} (hz : z < 3) (net : Int) : okW (WZ ls lb base z net) := by
  intro w hw
  obtain ⟨a, _⟩ := hh.2 z hz
  exact cw_rng a.2.2.1 a.2.2.2.1 a.1 a.2.1 hw
theorem sp_worthOfM {m : gM} {h : Nat} (h4 : h < 4) {l : Nat → Int} {ls lb : Nat → List Int} {base : Nat → Int} (hh : hourM m h l ls lb base) {z : Nat} (hz : z < 3) {net : Int} (h1 : -21 ≤ net) (h2 : net ≤ 21) : f_X10_worthOf (iI (z : Nat)) (iI (h : Nat)) (iI net) m = some (iI (encN (WZ ls lb base z net))) := by
  obtain ⟨_, b, c, d1, d2⟩ := hh.2 z hz
  unfold f_X10_worthOf
  rw [iL_4, iI_mul, iI_add, a_ldI (by omega) (by omega) (by omega), ob_some, show ((4 : Int) * (z : Nat) + (h : Nat)).toNat = 4 * z + h by omega, c, iL_161, iL_80, iI_mul, iI_add, iI_add, iI_sub, a_ldI (by omega) (by omega) (by omega), ob_some]
  have e : ((161 : Int) * (4 * (z : Nat) + (h : Nat)) + 80 + net - base z).toNat = 161 * (4 * z + h) + (80 + net - base z).toNat := by omega
  rw [e, (b (80 + net - base z).toNat (by omega)).1, show (((80 + net - base z).toNat : Nat) : Int) - 80 = net - base z by omega]
  rfl
theorem Best_rng {l : Nat → Int} {W : Nat → Int → Option Int} (hW : ∀ z, z < 3 → ∀ net, okW (W z net)) {less : Int} {S : Int → Int → Prop} {w a b : Int} (h : BestOf (FL l W less) S (some (w, a, b))) : -240000 ≤ w ∧ w ≤ 240000 := by
  have := h.2.1
  unfold FL FF at this
  by_cases c : alw l a b (-a - b)
  · rw [if_pos c] at this
    exact add3_rng (hW 0 (by decide) _) (hW 1 (by decide) _) (hW 2 (by decide) _) this
  · rw [if_neg c] at this
    cases this
theorem sp_most {m : gM} {h : Nat} (h4 : h < 4) {l : Nat → Int} {ls lb : Nat → List Int} {base : Nat → Int} (hh : hourM m h l ls lb base) {less : Int} (hl1 : -1 ≤ less) (hl2 : less ≤ 2) : T (f_X10_most (iI (h : Nat)) (iI less) m) (fun r => ∃ res, BestOf (FL l (WZ ls lb base) less) (fun a b => -20 ≤ a ∧ a ≤ 20 ∧ -20 ≤ b ∧ b ≤ 20) res ∧ r.1 = iI (mres res) ∧ mst r.2 res ∧ (∀ c, c ≠ 0 → r.2 c = m c) ∧ (∀ k, k ≠ 65 → k ≠ 66 → r.2 0 k = m 0 k)) := by
  unfold f_X10_most
  have hlr : ∀ k, k < 3 → 0 ≤ l k ∧ l k ≤ 10 := fun k hk => (hh.1 k hk).2
  have hWr : ∀ z, z < 3 → ∀ net, okW (WZ ls lb base z net) := fun z hz net => okWZ hh hz net
  refine T_ob (P := fun t => ∃ res, BestOf (FL l (WZ ls lb base) less) (Sx 21 (-20)) res ∧ t.1 = iI (mres res) ∧ mst t.2.2 res ∧ (∀ c, c ≠ 0 → t.2.2 c = m c) ∧ (∀ k, k ≠ 65 → k ≠ 66 → t.2.2 0 k = m 0 k)) ?_ ?_
  · refine T_run3 (f_X10_most_L7 (iI (h : Nat)) (iI less)) (fun k x y m2 => ∃ res, BestOf (FL l (WZ ls lb base) less) (Sx (-20 + k) (-20)) res ∧ x = iI (mres res) ∧ y = iI (-20 + k) ∧ mst m2 res ∧ (∀ c, c ≠ 0 → m2 c = m c) ∧ (∀ k, k ≠ 65 → k ≠ 66 → m2 0 k = m 0 k)) _ 41 0 _ _ _ ?_ (Nat.zero_le _) (by omega) ?_
    · refine ⟨none, ?_, rfl, rfl, trivial, fun c _ => rfl, fun k _ _ => rfl⟩
      intro a b hs
      unfold Sx at hs
      omega
    · intro k x1 x2 m3 f hI hk hcont
      obtain ⟨res, hB, e1, e2, hms, hf1, hf2⟩ := hI
      subst e1
      subst e2
      unfold f_X10_most_L7
      rw [iL_20, iI_lt (by omega) (by omega) (by omega) (by omega)]
      by_cases c : 20 < -20 + (k : Int)
      · rw [if_pos c]
        have e : k = 41 := by omega
        subst e
        exact T_some ⟨res, hB, rfl, hms, hf1, hf2⟩
      · rw [if_neg c, iI_neg]
        generalize ha : -20 + (k : Int) = a at *
        refine T_ob (P := fun t => ∃ res, BestOf (FL l (WZ ls lb base) less) (Sx a 21) res ∧ t.1 = iI (mres res) ∧ mst t.2.2 res ∧ (∀ c, c ≠ 0 → t.2.2 c = m c) ∧ (∀ k, k ≠ 65 → k ≠ 66 → t.2.2 0 k = m 0 k)) ?_ ?_
        · refine T_run3 (f_X10_most_L18 (iI (h : Nat)) (iI less) (iI a)) (fun k x y m2 => ∃ res, BestOf (FL l (WZ ls lb base) less) (Sx a (-20 + k)) res ∧ x = iI (mres res) ∧ y = iI (-20 + k) ∧ mst m2 res ∧ (∀ c, c ≠ 0 → m2 c = m c) ∧ (∀ k, k ≠ 65 → k ≠ 66 → m2 0 k = m 0 k)) _ 41 0 _ _ _ ?_ (Nat.zero_le _) (by omega) ?_
          · exact ⟨res, hB, rfl, rfl, hms, hf1, hf2⟩
          · intro k2 y1 y2 m4 f2 hI2 hk2 hcont2
            obtain ⟨res2, hB2, g1, g2, hms2, hg1, hg2⟩ := hI2
            subst g1
            subst g2
            unfold f_X10_most_L18
            rw [iL_20, iI_lt (by omega) (by omega) (by omega) (by omega)]
            by_cases c2 : 20 < -20 + (k2 : Int)
            · rw [if_pos c2]
              have e : k2 = 41 := by omega
              subst e
              exact T_some ⟨res2, hB2, rfl, hms2, hg1, hg2⟩
            · rw [if_neg c2]
              generalize hbe : -20 + (k2 : Int) = b at *
              have hb2 : -20 + ((k2 + 1 : Nat) : Int) = b + 1 := by omega
              rw [hb2] at hcont2
              have hh4 : hourM m4 h l ls lb base := hourM_fr hh (hg1 1 (by decide)) (hg1 51 (by decide)) (hg1 52 (by decide)) (hg1 53 (by decide))
              have hSt : ∀ {r : Option (Int × Int × Int)}, stepB (FL l (WZ ls lb base) less) res2 a b = r → BestOf (FL l (WZ ls lb base) less) (Sx a (b + 1)) r := by
                intro r er
                rw [← er]
                refine Best_step hB2 (fun a2 b2 hs => hs.2) (fun a2 b2 => ?_)
                unfold Sx
                omega
              rw [iI_neg, iI_sub, ob_some]
              have hfit := sp_fits hh4.1 (a := a) (b := b) (c := -a - b) (by omega) (by omega) (by omega) (by omega) (by omega) (by omega)
              by_cases hal : alw l a b (-a - b)
              · have hr := alw_rng hlr hal
                rw [hfit.1 hal, ob_some, if_neg (by decide)]
                rw [iL_0, iL_1, iL_2, iI_sub, iI_sub, iI_sub, iI_eq (by omega) (by omega) (by omega) (by omega), iI_eq (by omega) (by omega) (by omega) (by omega), iI_eq (by omega) (by omega) (by omega) (by omega), ob_ite, iI_ite]
                have w0 : -21 ≤ (if less = 0 then a - 1 else a) ∧ (if less = 0 then a - 1 else a) ≤ 21 := by split <;> omega
                have w1 : -21 ≤ (if less = 1 then b - 1 else b) ∧ (if less = 1 then b - 1 else b) ≤ 21 := by split <;> omega
                have w2 : -21 ≤ (if less = 2 then -a - b - 1 else -a - b) ∧ (if less = 2 then -a - b - 1 else -a - b) ≤ 21 := by split <;> omega
                have s0 := sp_worthOfM h4 hh4 (z := 0) (by decide) w0.1 w0.2
                have s1 := sp_worthOfM h4 hh4 (z := 1) (by decide) w1.1 w1.2
                have s2 := sp_worthOfM h4 hh4 (z := 2) (by decide) w2.1 w2.2
                have s0 : f_X10_worthOf (iI 0) (iI (h : Nat)) _ m4 = _ := s0
                have s1 : f_X10_worthOf (iI 1) (iI (h : Nat)) _ m4 = _ := s1
                have s2 : f_X10_worthOf (iI 2) (iI (h : Nat)) _ m4 = _ := s2
                rw [s0, ob_some, ob_ite, iI_ite, s1, ob_some, ob_ite, iI_ite, s2, ob_some, iL_1000000000, iI_neg, sp_add3N (hWr 0 (by decide) _) (hWr 1 (by decide) _) (hWr 2 (by decide) _)]
                generalize hv : add3 (WZ ls lb base 0 (if less = 0 then a - 1 else a)) (WZ ls lb base 1 (if less = 1 then b - 1 else b)) (WZ ls lb base 2 (if less = 2 then -a - b - 1 else -a - b)) = v
                have hF : FL l (WZ ls lb base) less a b = v := by
                  unfold FL FF
                  rw [if_pos hal]
                  exact hv
                have hres : -1000000000 ≤ mres res2 ∧ mres res2 ≤ 240000 := by
                  cases res2 with
                  | none => exact ⟨by decide, by decide⟩
                  | some u =>
                    obtain ⟨uw, ua, ub⟩ := u
                    have := Best_rng hWr hB2
                    exact ⟨by show -1000000000 ≤ uw; omega, this.2⟩
                cases v with
                | none =>
                  have e9 : stepB (FL l (WZ ls lb base) less) res2 a b = res2 := by unfold stepB; rw [hF]
                  rw [iI_le (by decide) (by decide) (by omega) (by omega), if_pos (by decide), ob_some, iI_lt (by omega) (by omega) (by decide) (by decide), if_neg (by show ¬ mres res2 < -1000000000; omega), if_pos rfl]
                  simp only [ob_some]
                  exact hcont2 (by omega) _ _ _ ⟨res2, hSt e9, rfl, by rw [iI_add], hms2, hg1, hg2⟩
                | some w =>
                  have rw9 := add3_rng (hWr 0 (by decide) _) (hWr 1 (by decide) _) (hWr 2 (by decide) _) hv
                  have een : encN (some w) = w := rfl
                  rw [een, iI_le (by omega) (by omega) (by omega) (by omega), if_neg (by omega), iI_eq (by omega) (by omega) (by omega) (by omega)]
                  have hset : ∀ c, c ≠ 0 → (g_up (g_up m4 0 (upd (m4 0) 65 (iI a))) 0 (upd ((g_up m4 0 (upd (m4 0) 65 (iI a))) 0) 66 (iI b))) c = m c := by
                    intro c c0
                    rw [g_up_ne _ _ c0, g_up_ne _ _ c0]
                    exact hg1 c c0
                  have hset2 : ∀ k, k ≠ 65 → k ≠ 66 → (g_up (g_up m4 0 (upd (m4 0) 65 (iI a))) 0 (upd ((g_up m4 0 (upd (m4 0) 65 (iI a))) 0) 66 (iI b))) 0 k = m 0 k := by
                    intro k k1 k2
                    rw [g_up_at, updA, if_neg k2, g_up_at, updA, if_neg k1]
                    exact hg2 k k1 k2
                  have hset3 : mst (g_up (g_up m4 0 (upd (m4 0) 65 (iI a))) 0 (upd ((g_up m4 0 (upd (m4 0) 65 (iI a))) 0) 66 (iI b))) (some (w, a, b)) := by
                    refine ⟨?_, ?_⟩
                    · rw [g_up_at, updA, if_neg (by decide), g_up_at, updA, if_pos rfl]
                    · rw [g_up_at, updA, if_pos rfl]
                  cases res2 with
                  | none =>
                    have e9 : stepB (FL l (WZ ls lb base) less) none a b = some (w, a, b) := by unfold stepB; rw [hF]
                    have em : mres none = -1000000000 := rfl
                    rw [em, if_neg (by omega), ob_some, iI_lt (by omega) (by omega) (by omega) (by omega), if_pos (by omega)]
                    simp only [ob_some]
                    exact hcont2 (by omega) _ _ _ ⟨some (w, a, b), hSt e9, rfl, by rw [iI_add], hset3, hset, hset2⟩
                  | some u =>
                    obtain ⟨uw, ua, ub⟩ := u
                    have em : mres (some (uw, ua, ub)) = uw := rfl
                    rw [em]
                    have hus := hB2.1.1
                    by_cases q1 : w = uw
                    · rw [if_pos q1, sp_goes hr.1 hr.2.1 hr.2.2.1 hr.2.2.2.1, hms2.1, hms2.2, sp_goes hus.1 hus.2.1 hus.2.2.1 hus.2.2.2]
                      simp only [ob_some]
                      have u1 := gs_rng hr.1 hr.2.1 hr.2.2.1 hr.2.2.2.1
                      have u2 := gs_rng hus.1 hus.2.1 hus.2.2.1 hus.2.2.2
                      rw [iI_le (by omega) (by omega) (by omega) (by omega)]
                      by_cases q2 : gs ua ub ≤ gs a b
                      · have e9 : stepB (FL l (WZ ls lb base) less) (some (uw, ua, ub)) a b = some (uw, ua, ub) := by
                          unfold stepB
                          rw [hF]
                          show (if uw < w ∨ (w = uw ∧ gs a b < gs ua ub) then some (w, a, b) else some (uw, ua, ub)) = _
                          rw [if_neg (by omega)]
                        rw [if_pos q2, ob_some, iI_lt (by omega) (by omega) (by omega) (by omega), if_neg (by omega), if_pos rfl]
                        simp only [ob_some]
                        exact hcont2 (by omega) _ _ _ ⟨some (uw, ua, ub), hSt e9, rfl, by rw [iI_add], hms2, hg1, hg2⟩
                      · have e9 : stepB (FL l (WZ ls lb base) less) (some (uw, ua, ub)) a b = some (w, a, b) := by
                          unfold stepB
                          rw [hF]
                          show (if uw < w ∨ (w = uw ∧ gs a b < gs ua ub) then some (w, a, b) else some (uw, ua, ub)) = _
                          rw [if_pos (by omega)]
                        rw [if_neg q2, ob_some, iI_lt (by omega) (by omega) (by omega) (by omega), if_neg (by omega), if_neg (by decide)]
                        simp only [ob_some]
                        exact hcont2 (by omega) _ _ _ ⟨some (w, a, b), hSt e9, rfl, by rw [iI_add], hset3, hset, hset2⟩
                    · rw [if_neg q1, ob_some, iI_lt (by omega) (by omega) (by omega) (by omega)]
                      by_cases q2 : uw < w
                      · have e9 : stepB (FL l (WZ ls lb base) less) (some (uw, ua, ub)) a b = some (w, a, b) := by
                          unfold stepB
                          rw [hF]
                          show (if uw < w ∨ (w = uw ∧ gs a b < gs ua ub) then some (w, a, b) else some (uw, ua, ub)) = _
                          rw [if_pos (by omega)]
                        rw [if_pos q2]
                        simp only [ob_some]
                        exact hcont2 (by omega) _ _ _ ⟨some (w, a, b), hSt e9, rfl, by rw [iI_add], hset3, hset, hset2⟩
                      · have e9 : stepB (FL l (WZ ls lb base) less) (some (uw, ua, ub)) a b = some (uw, ua, ub) := by
                          unfold stepB
                          rw [hF]
                          show (if uw < w ∨ (w = uw ∧ gs a b < gs ua ub) then some (w, a, b) else some (uw, ua, ub)) = _
                          rw [if_neg (by omega)]
                        rw [if_neg q2, if_pos rfl]
                        simp only [ob_some]
                        exact hcont2 (by omega) _ _ _ ⟨some (uw, ua, ub), hSt e9, rfl, by rw [iI_add], hms2, hg1, hg2⟩
              · rw [hfit.2 hal, ob_some, if_pos rfl]
                simp only [ob_some]
                have hF : FL l (WZ ls lb base) less a b = none := by
                  unfold FL FF
                  rw [if_neg hal]
                have e9 : stepB (FL l (WZ ls lb base) less) res2 a b = res2 := by unfold stepB; rw [hF]
                exact hcont2 (by omega) _ _ _ ⟨res2, hSt e9, rfl, by rw [iL_1, iI_add], hms2, hg1, hg2⟩
        · intro t ht
          obtain ⟨res2, hB2, g1, hms2, hg1, hg2⟩ := ht
          obtain ⟨t1, t2, t3⟩ := t
          have g1 : t1 = iI (mres res2) := g1
          subst g1
          simp only [ob_some]
          refine hcont (by omega) _ _ _ ⟨res2, ?_, rfl, ?_, hms2, hg1, hg2⟩
          · refine Best_S hB2 (fun a2 b2 w _ => ?_)
            unfold Sx
            omega
          · rw [iL_1, iI_add]
            congr 1
            omega
  · intro t ht
    obtain ⟨res, hB, e1, hms, hf1, hf2⟩ := ht
    obtain ⟨t1, t2, t3⟩ := t
    simp only [ob_some]
    refine T_some ⟨res, ?_, e1, hms, hf1, hf2⟩
    refine Best_S hB (fun a2 b2 w _ => ?_)
    unfold Sx
    omega
