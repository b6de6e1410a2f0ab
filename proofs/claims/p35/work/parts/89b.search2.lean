theorem iI_MIN : (-1000000000 : Int32) = iI (-1000000000) := by rw [iL_1000000000, iI_neg]
theorem add3_some {x y z : Option Int} {w : Int} (h : add3 x y z = some w) : (∃ a, x = some a) ∧ (∃ b, y = some b) ∧ ∃ c, z = some c := by
  cases x with
  | none => cases h
  | some x =>
    cases y with
    | none => cases h
    | some y =>
      cases z with
      | none => cases h
      | some z => exact ⟨⟨x, rfl⟩, ⟨y, rfl⟩, ⟨z, rfl⟩⟩
theorem cw_some {ls lb : List Int} {mk w : Int} (h : cw ls lb mk = some w) : -(lb.length : Int) ≤ mk ∧ mk ≤ ls.length := by
  unfold cw at h
  by_cases c : -(lb.length : Int) ≤ mk ∧ mk ≤ ls.length
  · exact c
  · rw [if_neg c] at h; cases h
def loN (lb : Nat → List Int) (base : Nat → Int) (z : Nat) : Int := max (-20) (base z - (lb z).length)
def hiN (ls : Nat → List Int) (base : Nat → Int) (z : Nat) : Int := min 20 (base z + (ls z).length + 1)
theorem FL_win {l : Nat → Int} (hlr : ∀ k, k < 3 → 0 ≤ l k ∧ l k ≤ 10) {ls lb : Nat → List Int} {base : Nat → Int} {less a b w : Int} (h : FL l (WZ ls lb base) less a b = some w) : alw l a b (-a - b) ∧ loN lb base 0 ≤ a ∧ a ≤ hiN ls base 0 ∧ loN lb base 1 ≤ b ∧ b ≤ hiN ls base 1 := by
  unfold FL FF at h
  by_cases c : alw l a b (-a - b)
  · rw [if_pos c] at h
    have hr := alw_rng hlr c
    obtain ⟨⟨w0, h0⟩, ⟨w1, h1⟩, _⟩ := add3_some h
    have g0 := cw_some h0
    have g1 := cw_some h1
    refine ⟨c, ?_⟩
    unfold loN hiN
    by_cases q0 : less = 0
    · rw [if_pos q0] at g0
      rw [if_neg (by omega)] at g1
      omega
    · rw [if_neg q0] at g0
      by_cases q1 : less = 1
      · rw [if_pos q1] at g1
        omega
      · rw [if_neg q1] at g1
        omega
  · rw [if_neg c] at h
    cases h
theorem FL_out {l : Nat → Int} {W : Nat → Int → Option Int} {less a b : Int} (h : ¬ alw l a b (-a - b)) : FL l W less a b = none := by
  unfold FL FF
  rw [if_neg h]
theorem sp_mostNet {m : gM} {l : Nat → Int} {ls lb : Nat → List Int} {base : Nat → Int} (hh : hourC m l ls lb base) {z : Nat} (hz : z < 3) : f_X7_mostNet (iI (z : Nat)) m = some (iI (hiN ls base z)) := by
  obtain ⟨a, b, c, d1, d2⟩ := hh.2 z hz
  have l1 := a.1
  unfold f_X7_mostNet hiN
  rw [a_ldI (by omega) (by omega) (by omega), ob_some, Int.toNat_natCast, a_rfI (by omega) (by omega) (by omega), ob_some, Int.toNat_natCast, c, b.1.1, iI_add, iL_1, iI_add, iL_20, a_minI (by omega) (by omega) (by omega) (by omega)]
theorem sp_leastNet {m : gM} {l : Nat → Int} {ls lb : Nat → List Int} {base : Nat → Int} (hh : hourC m l ls lb base) {z : Nat} (hz : z < 3) : f_X7_leastNet (iI (z : Nat)) m = some (iI (loN lb base z)) := by
  obtain ⟨a, b, c, d1, d2⟩ := hh.2 z hz
  have l1 := a.2.1
  unfold f_X7_leastNet loN
  rw [a_ldI (by omega) (by omega) (by omega), ob_some, Int.toNat_natCast, a_rfI (by omega) (by omega) (by omega), ob_some, Int.toNat_natCast, c, b.1.2.1, iI_sub, iL_20, iI_neg, a_maxI (by omega) (by omega) (by omega) (by omega)]
def Sw (lo0 hi0 lo1 hi1 a b a2 b2 : Int) : Prop := lo0 ≤ a2 ∧ a2 ≤ hi0 ∧ lo1 ≤ b2 ∧ b2 ≤ hi1 ∧ (a2 < a ∨ (a2 = a ∧ b2 < b))
def srB (l : Nat → Int) (W : Nat → Int → Option Int) (S : Int → Int → Prop) (m2 : gM) : Prop := ∃ res mx, BestOf (FL l W (-1)) S res ∧ (∀ z, z < 3 → MaxOf (FL l W (z : Nat)) S (mx z)) ∧ srS m2 res mx
theorem srB_S {l : Nat → Int} {W : Nat → Int → Option Int} {S S2 : Int → Int → Prop} {m2 : gM} (h : srB l W S m2) (hS : ∀ less a b w, FL l W less a b = some w → (S a b ↔ S2 a b)) : srB l W S2 m2 := by
  obtain ⟨res, mx, h1, h2, h3⟩ := h
  exact ⟨res, mx, Best_S h1 (fun a b w hw => hS _ a b w hw), fun z hz => Max_S (h2 z hz) (fun a b w hw => hS _ a b w hw), h3⟩
theorem iN_0 : iI ((0 : Nat) : Int) = 0 := rfl
theorem iN_1 : iI ((1 : Nat) : Int) = 1 := rfl
theorem iN_2 : iI ((2 : Nat) : Int) = 2 := rfl
theorem srS_0 {m : gM} (h : m 22 4 = iI (-1000000000)) (h2 : ∀ z, z < 3 → m 26 z = iI (-1000000000)) : srS m none (fun _ => none) := ⟨h, trivial, h2⟩
theorem sp_searchI {m : gM} {base : Nat → Int} {part : Int32} (hu : ∀ z, z < 3 → ∀ m2 : gM, (∀ c, c ≠ 22 → c ≠ 24 → c ≠ 25 → c ≠ 26 → m2 c = m c) → f_X2_unitsOf part (iI (z : Nat)) m2 = some (iI (base z))) : T (f_X7_search_L9 part f_fuel 0 (g_up m 22 (upd (m 22) 4 (-1000000000)))) (fun t => (∀ c, c ≠ 22 → c ≠ 24 → c ≠ 25 → c ≠ 26 → t.2 c = m c) ∧ t.2 22 4 = iI (-1000000000) ∧ ∀ z, z < 3 → t.2 24 z = iI (base z) ∧ t.2 26 z = iI (-1000000000)) := by
  refine T_run2 (f_X7_search_L9 part) (fun k x m2 => x = iI (k : Nat) ∧ (∀ c, c ≠ 22 → c ≠ 24 → c ≠ 25 → c ≠ 26 → m2 c = m c) ∧ m2 22 4 = iI (-1000000000) ∧ ∀ z, z < k → m2 24 z = iI (base z) ∧ m2 26 z = iI (-1000000000)) _ 3 0 _ _ ?_ (Nat.zero_le _) (by omega) ?_
  · refine ⟨rfl, fun c c1 _ _ _ => g_up_ne _ _ c1, ?_, fun z h => absurd h (by omega)⟩
    rw [g_up_at, updA, if_pos rfl, iI_MIN]
  · intro k x m3 f hI hk hcont
    obtain ⟨e, h1, h2, h3⟩ := hI
    subst e
    unfold f_X7_search_L9
    rw [iL_3, iI_le (by omega) (by omega) (by omega) (by omega)]
    refine T_ite (fun c => ?_) (fun c => ?_)
    · have e : k = 3 := by omega
      subst e
      exact T_some ⟨h1, h2, h3⟩
    · rw [hu k (by omega) m3 h1, ob_some, a_stI (by omega) (by omega) (by omega), ob_some, a_stI (by omega) (by omega) (by omega), ob_some, a_stI (by omega) (by omega) (by omega), ob_some, Int.toNat_natCast]
      generalize hm : g_up (g_up (g_up m3 24 (upd (m3 24) k (iI (base k)))) 25 (upd ((g_up m3 24 (upd (m3 24) k (iI (base k)))) 25) k 0)) 26 (upd ((g_up (g_up m3 24 (upd (m3 24) k (iI (base k)))) 25 (upd ((g_up m3 24 (upd (m3 24) k (iI (base k)))) 25) k 0)) 26) k (-1000000000)) = m4
      have f1 : ∀ c, c ≠ 24 → c ≠ 25 → c ≠ 26 → m4 c = m3 c := by
        intro c c1 c2 c3
        rw [← hm, g_up_ne _ _ c3, g_up_ne _ _ c2, g_up_ne _ _ c1]
      have f2 : m4 24 = upd (m3 24) k (iI (base k)) := by rw [← hm, g_up_ne _ _ (by decide), g_up_ne _ _ (by decide), g_up_at]
      have f3 : m4 26 = upd (m3 26) k (iI (-1000000000)) := by rw [← hm, g_up_at, g_up_ne _ _ (by decide), g_up_ne _ _ (by decide), iI_MIN]
      refine hcont (by omega) _ _ ⟨by rw [iL_1, iI_add]; rfl, ?_, ?_, ?_⟩
      · intro c c1 c2 c3 c4
        rw [f1 c c2 c3 c4]
        exact h1 c c1 c2 c3 c4
      · rw [f1 22 (by decide) (by decide) (by decide)]; exact h2
      · intro z hz
        rw [f2, f3, updA, updA]
        by_cases q : z = k
        · rw [if_pos q, if_pos q, q]; exact ⟨rfl, rfl⟩
        · rw [if_neg q, if_neg q]; exact h3 z (by omega)
theorem sp_searchB {m5 m15 : gM} {l : Nat → Int} {ls lb : Nat → List Int} {base : Nat → Int} (hh : hourC m5 l ls lb base) {lo0 hi0 lo1 hi1 a : Int} (w0 : -20 ≤ lo0) (w1 : hi0 ≤ 20) (w2 : -20 ≤ lo1 ∧ lo1 ≤ 50) (w3 : hi1 ≤ 20 ∧ -50 ≤ hi1) (hwin : ∀ less a b w, FL l (WZ ls lb base) less a b = some w → lo0 ≤ a ∧ a ≤ hi0 ∧ lo1 ≤ b ∧ b ≤ hi1) (ha0 : lo0 ≤ a) (ha1 : a ≤ hi0) (hB : srB l (WZ ls lb base) (Sw lo0 hi0 lo1 hi1 a lo1) m15) (hf : ∀ c, c ≠ 22 → c ≠ 25 → c ≠ 26 → m15 c = m5 c) : T (f_X7_search_L87 (iI hi1) (iI a) f_fuel (iI lo1) m15) (fun t => srB l (WZ ls lb base) (Sw lo0 hi0 lo1 hi1 a 100) t.2 ∧ ∀ c, c ≠ 22 → c ≠ 25 → c ≠ 26 → t.2 c = m5 c) := by
  have hW : ∀ z, z < 3 → ∀ net, okW (WZ ls lb base z net) := fun z hz net => okWZC hh hz net
  refine T_run2 (f_X7_search_L87 (iI hi1) (iI a)) (fun k x m2 => x = iI (lo1 + k) ∧ srB l (WZ ls lb base) (Sw lo0 hi0 lo1 hi1 a (lo1 + k)) m2 ∧ ∀ c, c ≠ 22 → c ≠ 25 → c ≠ 26 → m2 c = m5 c) _ (hi1 - lo1 + 1).toNat 0 _ _ ?_ (Nat.zero_le _) (by omega) ?_
  · refine ⟨by rw [show lo1 + ((0 : Nat) : Int) = lo1 by omega], ?_, hf⟩
    rw [show lo1 + ((0 : Nat) : Int) = lo1 by omega]
    exact hB
  · intro k2 y m21 f2 hI2 hk2 hcont2
    obtain ⟨e2, hB2, hf2⟩ := hI2
    subst e2
    unfold f_X7_search_L87
    rw [iI_lt (by omega) (by omega) (by omega) (by omega)]
    refine T_ite (fun c2 => ?_) (fun c2 => ?_)
    · refine T_some ⟨srB_S hB2 (fun less a2 b2 w hw => ?_), hf2⟩
      have := hwin less a2 b2 w hw
      unfold Sw
      omega
    · generalize hb : lo1 + (k2 : Int) = b at *
      have hb2 : lo1 + ((k2 + 1 : Nat) : Int) = b + 1 := by omega
      rw [hb2] at hcont2
      have hh21 : hourC m21 l ls lb base := hourC_fr hh hf2
      have hal := sp_allows hh21.1 (a := a) (b := b) (c := -a - b) (by omega) (by omega) (by omega) (by omega) (by omega) (by omega)
      obtain ⟨res, mx, q1, q2, q3⟩ := hB2
      have hSt : ∀ {r : Option (Int × Int × Int)} {mr : Nat → Option Int} {m9 : gM}, stepB (FL l (WZ ls lb base) (-1)) res a b = r → (∀ z : Nat, z < 3 → stepM (FL l (WZ ls lb base) (z : Nat)) (mx z) a b = mr z) → srS m9 r mr → srB l (WZ ls lb base) (Sw lo0 hi0 lo1 hi1 a (b + 1)) m9 := by
        intro r mr m9 er em hs
        refine ⟨r, mr, ?_, ?_, hs⟩
        · rw [← er]
          refine Best_step q1 (fun a2 b2 hs => hs.2.2.2.2) (fun a2 b2 => ?_)
          unfold Sw
          omega
        · intro z hz3
          rw [← em z hz3]
          refine Max_step (q2 z hz3) (fun a2 b2 => ?_)
          unfold Sw
          omega
      rw [iI_neg, iI_sub]
      by_cases hA : alw l a b (-a - b)
      · rw [hal.1 hA, ob_some, if_neg (by decide)]
        have hres : res = none ∨ ∃ w a2 b2, res = some (w, a2, b2) ∧ -240000 ≤ w ∧ w ≤ 240000 ∧ -20 ≤ a2 ∧ a2 ≤ 20 ∧ -20 ≤ b2 ∧ b2 ≤ 20 := by
          cases res with
          | none => exact Or.inl rfl
          | some u =>
            obtain ⟨uw, ua, ub⟩ := u
            have := Best_rng hW q1
            have hs := q1.1
            unfold Sw at hs
            exact Or.inr ⟨uw, ua, ub, rfl, this.1, this.2, by omega, by omega, by omega, by omega⟩
        refine T_ob (P := fun m27 => srS m27 (stepB (FL l (WZ ls lb base) (-1)) res a b) (fun z => stepM (FL l (WZ ls lb base) (z : Nat)) (mx z) a b) ∧ ∀ c, c ≠ 22 → c ≠ 25 → c ≠ 26 → m27 c = m21 c) (T_ob (sp_consider hh21 hA q3 hres (fun z hz => Max_ok hW (q2 z hz))) (fun m28 h28 => T_some h28)) ?_
        intro m27 h27
        refine hcont2 (by omega) _ _ ⟨by rw [iL_1, iI_add], hSt rfl (fun _ _ => rfl) h27.1, ?_⟩
        intro c c1 c2 c3
        rw [h27.2 c c1 c2 c3]
        exact hf2 c c1 c2 c3
      · rw [hal.2 hA, ob_some, if_pos rfl, ob_some]
        refine hcont2 (by omega) _ _ ⟨by rw [iL_1, iI_add], hSt (r := res) (mr := mx) ?_ ?_ q3, hf2⟩
        · unfold stepB
          rw [FL_out hA]
        · intro z _
          unfold stepM
          rw [FL_out hA]
theorem sp_search {m : gM} {l : Nat → Int} {ls lb : Nat → List Int} {base : Nat → Int} {part : Int32} (hl : limC m l) (hz : ∀ z, z < 3 → crvOk (ls z) (lb z) ∧ CurW m (27 + 4 * z) (ls z) (lb z) ∧ -50 ≤ base z ∧ base z ≤ 50) (hu : ∀ z, z < 3 → ∀ m2 : gM, (∀ c, c ≠ 22 → c ≠ 24 → c ≠ 25 → c ≠ 26 → m2 c = m c) → f_X2_unitsOf part (iI (z : Nat)) m2 = some (iI (base z))) : T (f_X7_search part m) (fun m2 => srB l (WZ ls lb base) (fun a b => -20 ≤ a ∧ a ≤ 20 ∧ -20 ≤ b ∧ b ≤ 20) m2 ∧ ∀ c, c ≠ 22 → c ≠ 24 → c ≠ 25 → c ≠ 26 → m2 c = m c) := by
  unfold f_X7_search
  rw [ob_some]
  refine T_ob (sp_searchI hu) ?_
  · intro t ht
    obtain ⟨x, m5⟩ := t
    obtain ⟨h1, h2, h3⟩ := ht
    have h1 : ∀ c, c ≠ 22 → c ≠ 24 → c ≠ 25 → c ≠ 26 → m5 c = m c := h1
    refine T_obe (a := x) rfl (T_obe (a := m5) rfl ?_)
    have hh : hourC m5 l ls lb base := by
      refine ⟨?_, ?_⟩
      · unfold limC
        rw [h1 3 (by decide) (by decide) (by decide) (by decide)]
        exact hl
      · intro z hz3
        obtain ⟨a, b, c⟩ := hz z hz3
        exact ⟨a, CurW_fr b (h1 _ (by omega) (by omega) (by omega) (by omega)) (h1 _ (by omega) (by omega) (by omega) (by omega)) (h1 _ (by omega) (by omega) (by omega) (by omega)) (h1 _ (by omega) (by omega) (by omega) (by omega)), (h3 z hz3).1, c⟩
    have hlr : ∀ k, k < 3 → 0 ≤ l k ∧ l k ≤ 10 := fun k hk => (hl k hk).2
    have hW : ∀ z, z < 3 → ∀ net, okW (WZ ls lb base z net) := fun z hz net => okWZC hh hz net
    have n0 := sp_mostNet hh (z := 0) (by decide)
    have n1 := sp_mostNet hh (z := 1) (by decide)
    have n2 := sp_leastNet hh (z := 0) (by decide)
    rw [iN_0] at n0 n2
    rw [iN_1] at n1
    rw [n0, ob_some, n1, ob_some, n2, ob_some]
    have w0 : -20 ≤ loN lb base 0 ∧ loN lb base 0 ≤ 50 := by have := (hz 0 (by decide)).2.2; unfold loN; omega
    have w1 : hiN ls base 0 ≤ 20 ∧ -50 ≤ hiN ls base 0 := by have := (hz 0 (by decide)).2.2; unfold hiN; omega
    have w2 : -20 ≤ loN lb base 1 ∧ loN lb base 1 ≤ 50 := by have := (hz 1 (by decide)).2.2; unfold loN; omega
    have w3 : hiN ls base 1 ≤ 20 ∧ -50 ≤ hiN ls base 1 := by have := (hz 1 (by decide)).2.2; unfold hiN; omega
    have hwin : ∀ less a b w, FL l (WZ ls lb base) less a b = some w → loN lb base 0 ≤ a ∧ a ≤ hiN ls base 0 ∧ loN lb base 1 ≤ b ∧ b ≤ hiN ls base 1 := fun less a b w h => (FL_win hlr h).2
    generalize hlo0 : loN lb base 0 = lo0 at *
    generalize hhi0 : hiN ls base 0 = hi0 at *
    generalize hlo1 : loN lb base 1 = lo1 at *
    generalize hhi1 : hiN ls base 1 = hi1 at *
    refine T_ob (P := fun t => srB l (WZ ls lb base) (Sw lo0 hi0 lo1 hi1 100 lo1) t.2 ∧ ∀ c, c ≠ 22 → c ≠ 25 → c ≠ 26 → t.2 c = m5 c) ?_ ?_
    · refine T_run2 (f_X7_search_L73 (iI hi0) (iI hi1)) (fun k x m2 => x = iI (lo0 + k) ∧ srB l (WZ ls lb base) (Sw lo0 hi0 lo1 hi1 (lo0 + k) lo1) m2 ∧ ∀ c, c ≠ 22 → c ≠ 25 → c ≠ 26 → m2 c = m5 c) _ (hi0 - lo0 + 1).toNat 0 _ _ ?_ (Nat.zero_le _) (by omega) ?_
      · refine ⟨by rw [show lo0 + ((0 : Nat) : Int) = lo0 by omega], ⟨none, fun _ => none, ?_, ?_, srS_0 h2 (fun z hz => (h3 z hz).2)⟩, fun c _ _ _ => rfl⟩
        · intro a b hs
          unfold Sw at hs
          omega
        · intro z _ a b hs
          unfold Sw at hs
          omega
      · intro k x m15 f hI hk hcont
        obtain ⟨e, hB, hf⟩ := hI
        subst e
        unfold f_X7_search_L73
        rw [iI_lt (by omega) (by omega) (by omega) (by omega)]
        refine T_ite (fun c => ?_) (fun c => ?_)
        · refine T_some ⟨srB_S hB (fun less a b w hw => ?_), hf⟩
          have := hwin less a b w hw
          unfold Sw
          omega
        · generalize ha : lo0 + (k : Int) = a at *
          have hh15 : hourC m15 l ls lb base := hourC_fr hh hf
          have n3 := sp_leastNet hh15 (z := 1) (by decide)
          rw [iN_1] at n3
          rw [n3, ob_some, hlo1]
          refine T_ob (sp_searchB hh w0.1 w1.1 w2 w3 hwin (by omega) (by omega) hB hf) ?_
          · intro t ht
            obtain ⟨x2, m23⟩ := t
            obtain ⟨hB2, hf2⟩ := ht
            simp only [ob_some]
            refine hcont (by omega) _ _ ⟨?_, srB_S hB2 (fun less a2 b2 w hw => ?_), hf2⟩
            · rw [iL_1, iI_add, show a + 1 = lo0 + ((k + 1 : Nat) : Int) by omega]
            · have := hwin less a2 b2 w hw
              unfold Sw
              omega
    · intro t ht
      obtain ⟨x2, m17⟩ := t
      obtain ⟨hB2, hf2⟩ := ht
      simp only [ob_some]
      refine T_some ⟨srB_S hB2 (fun less a2 b2 w hw => ?_), ?_⟩
      · have := hwin less a2 b2 w hw
        unfold Sw
        omega
      · intro c c1 c2 c3 c4
        have hf2 : ∀ c, c ≠ 22 → c ≠ 25 → c ≠ 26 → m17 c = m5 c := hf2
        rw [hf2 c c1 c3 c4]
        exact h1 c c1 c2 c3 c4
def prc (res : Option (Int × Int × Int)) (mx : Option Int) : Int := match res with
  | none => 0
  | some (w, _, _) => match mx with
    | none => 0
    | some v => if v < w then 0 else v - w
theorem sp_priceOf {m : gM} {res : Option (Int × Int × Int)} {mx : Nat → Option Int} (hs : srS m res mx) (hres : res = none ∨ ∃ w a2 b2, res = some (w, a2, b2) ∧ -240000 ≤ w ∧ w ≤ 240000) (hmx : ∀ z, z < 3 → okV (mx z)) {z : Nat} (hz : z < 3) : f_X7_priceOf (iI (z : Nat)) m = some (iI (prc res (mx z))) := by
  obtain ⟨s1, s2, s3⟩ := hs
  have hr := encV_rng (hmx z hz)
  unfold f_X7_priceOf
  rw [s1, iL_1000000000, iI_neg]
  rcases hres with q | ⟨w, a2, b2, q, q1, q2⟩
  · rw [q]
    rw [if_pos (show iI (cres none) = iI (-1000000000) from rfl)]
    rfl
  · rw [q]
    have ec : cres (some (w, a2, b2)) = w := rfl
    rw [ec, iI_eq (by omega) (by omega) (by omega) (by omega), if_neg (by omega), a_ldI (by omega) (by omega) (by omega), ob_some, Int.toNat_natCast, s3 z hz, ob_some, iI_le (by omega) (by omega) (by omega) (by omega), iI_sub]
    have hk := hmx z hz
    cases hm : mx z with
    | none =>
      rw [if_neg (show ¬ w ≤ enc none by show ¬ w ≤ -1000000000; omega)]
      rfl
    | some v =>
      have ev : enc (some v) = v := rfl
      rw [ev]
      show _ = some (iI (if v < w then 0 else v - w))
      by_cases c : v < w
      · rw [if_neg (by omega), if_pos c]; rfl
      · rw [if_pos (by omega), if_neg c]; rfl
