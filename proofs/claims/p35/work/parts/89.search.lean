def limC (m : gM) (l : Nat → Int) : Prop := ∀ k, k < 3 → m 3 k = iI (l k) ∧ 0 ≤ l k ∧ l k ≤ 10
theorem sp_allows {m : gM} {l : Nat → Int} (hl : limC m l) {a b c : Int} (ha : -1000 ≤ a) (ha2 : a ≤ 1000) (hb : -1000 ≤ b) (hb2 : b ≤ 1000) (hc : -2000 ≤ c) (hc2 : c ≤ 2000) : (alw l a b c → f_X6_allows (iI a) (iI b) (iI c) m = some 1) ∧ (¬ alw l a b c → f_X6_allows (iI a) (iI b) (iI c) m = some 0) := by
  have h0 := hl 0 (by decide)
  have h1 := hl 1 (by decide)
  have h2 := hl 2 (by decide)
  have r0 := aI_rng (a := a - b) (B := 5000) (by omega) (by omega)
  have r1 := aI_rng (a := b - c) (B := 5000) (by omega) (by omega)
  have r2 := aI_rng (a := a - c) (B := 5000) (by omega) (by omega)
  have e : f_X6_allows (iI a) (iI b) (iI c) m = ob (if 3 * l 0 < aI (a - b) then some (0 : Int32) else if 3 * l 1 < aI (b - c) then some 0 else if 3 * l 2 < aI (a - c) then some 0 else some 1) fun z4 => ob (a_zc z4) fun b11 => some b11 := by
    unfold f_X6_allows
    rw [iI_sub, iI_sub, iI_sub, a_absI (by omega) (by omega), a_absI (by omega) (by omega), a_absI (by omega) (by omega), iL_0, iL_1, iL_2, a_ldI (by omega) (by omega) (by omega), a_ldI (by omega) (by omega) (by omega), a_ldI (by omega) (by omega) (by omega)]
    simp only [ob_some]
    rw [show (0 : Int).toNat = 0 from rfl, show (1 : Int).toNat = 1 from rfl, show (2 : Int).toNat = 2 from rfl, h0.1, h1.1, h2.1, iL_3, iI_mul, iI_mul, iI_mul, iI_lt (by omega) (by omega) (by omega) (by omega), iI_lt (by omega) (by omega) (by omega) (by omega), iI_lt (by omega) (by omega) (by omega) (by omega)]
  rw [e]
  unfold alw
  by_cases q0 : 3 * l 0 < aI (a - b)
  · rw [if_pos q0]
    exact ⟨fun q => absurd q.1 (by omega), fun _ => rfl⟩
  · rw [if_neg q0]
    by_cases q1 : 3 * l 1 < aI (b - c)
    · rw [if_pos q1]
      exact ⟨fun q => absurd q.2.1 (by omega), fun _ => rfl⟩
    · rw [if_neg q1]
      by_cases q2 : 3 * l 2 < aI (a - c)
      · rw [if_pos q2]
        exact ⟨fun q => absurd q.2.2 (by omega), fun _ => rfl⟩
      · rw [if_neg q2]
        exact ⟨fun _ => rfl, fun q => absurd ⟨by omega, by omega, by omega⟩ q⟩
theorem enc_none {v : Option Int} (h : okW v) : enc v = -1000000000 ↔ v = none := by
  cases v with
  | none => exact ⟨fun _ => rfl, fun _ => rfl⟩
  | some w =>
    have := h w rfl
    constructor
    · intro e
      have e2 : w = -1000000000 := e
      omega
    · intro e; cases e
theorem enc_rng {v : Option Int} (h : okW v) : -1000000000 ≤ enc v ∧ enc v ≤ 80000 := by
  cases v with
  | none => exact ⟨by decide, by decide⟩
  | some w => have := h w rfl; exact ⟨by show -1000000000 ≤ w; omega, this.2⟩
theorem sp_together {x y z : Option Int} (hx : okW x) (hy : okW y) (hz : okW z) : f_X7_together (iI (enc x)) (iI (enc y)) (iI (enc z)) = some (iI (enc (add3 x y z))) := by
  have rx := enc_rng hx
  have ry := enc_rng hy
  have rz := enc_rng hz
  unfold f_X7_together
  rw [iL_1000000000, iI_neg, iI_eq (by omega) (by omega) (by omega) (by omega), iI_eq (by omega) (by omega) (by omega) (by omega), iI_eq (by omega) (by omega) (by omega) (by omega)]
  cases x with
  | none => rw [if_pos (show enc none = -1000000000 from rfl)]; rfl
  | some x =>
    rw [if_neg (fun e => by have := (enc_none hx).1 e; cases this)]
    cases y with
    | none => rw [if_pos (show enc none = -1000000000 from rfl)]; rfl
    | some y =>
      rw [if_neg (fun e => by have := (enc_none hy).1 e; cases this)]
      cases z with
      | none => rw [if_pos (show enc none = -1000000000 from rfl)]; rfl
      | some z =>
        rw [if_neg (fun e => by have := (enc_none hz).1 e; cases this), iI_add, iI_add]
        rfl
def okV (v : Option Int) : Prop := ∀ w, v = some w → -240000 ≤ w ∧ w ≤ 240000
theorem encV_rng {v : Option Int} (h : okV v) : -1000000000 ≤ enc v ∧ enc v ≤ 240000 := by
  cases v with
  | none => exact ⟨by decide, by decide⟩
  | some w => have := h w rfl; exact ⟨by show -1000000000 ≤ w; omega, this.2⟩
def mx2 : Option Int → Option Int → Option Int
  | r, none => r
  | none, some w => some w
  | some w0, some w => if w0 < w then some w else some w0
theorem stepM_mx2 (F : Int → Int → Option Int) (r : Option Int) (a b : Int) : stepM F r a b = mx2 r (F a b) := by
  unfold stepM
  cases F a b with
  | none => cases r <;> rfl
  | some w => cases r <;> rfl
theorem sp_mx2 {x y : Option Int} (hx : okV x) (hy : okV y) : a_max (iI (enc x)) (iI (enc y)) = iI (enc (mx2 x y)) := by
  have rx := encV_rng hx
  have ry := encV_rng hy
  rw [a_maxI (by omega) (by omega) (by omega) (by omega)]
  cases x with
  | none =>
    cases y with
    | none => rfl
    | some w =>
      have := hy w rfl
      show iI (max (-1000000000) w) = iI w
      rw [Int.max_eq_right (by omega)]
  | some w0 =>
    have h0 := hx w0 rfl
    cases y with
    | none =>
      show iI (max w0 (-1000000000)) = iI w0
      rw [Int.max_eq_left (by omega)]
    | some w =>
      have := hy w rfl
      show iI (max w0 w) = iI (enc (if w0 < w then some w else some w0))
      by_cases c : w0 < w
      · rw [if_pos c, Int.max_eq_right (by omega)]; rfl
      · rw [if_neg c, Int.max_eq_left (by omega)]; rfl
theorem FL_ok {l : Nat → Int} {W : Nat → Int → Option Int} (hW : ∀ z, z < 3 → ∀ net, okW (W z net)) (less a b : Int) : okV (FL l W less a b) := by
  intro w hw
  unfold FL FF at hw
  by_cases c : alw l a b (-a - b)
  · rw [if_pos c] at hw
    exact add3_rng (hW 0 (by decide) _) (hW 1 (by decide) _) (hW 2 (by decide) _) hw
  · rw [if_neg c] at hw
    cases hw
theorem Max_ok {l : Nat → Int} {W : Nat → Int → Option Int} (hW : ∀ z, z < 3 → ∀ net, okW (W z net)) {less : Int} {S : Int → Int → Prop} {r : Option Int} (h : MaxOf (FL l W less) S r) : okV r := by
  intro w hw
  subst hw
  obtain ⟨⟨a, b, _, hf⟩, _⟩ := h
  exact FL_ok hW less a b w hf
def hourC (m : gM) (l : Nat → Int) (ls lb : Nat → List Int) (base : Nat → Int) : Prop := limC m l ∧ ∀ z, z < 3 → crvOk (ls z) (lb z) ∧ CurW m (27 + 4 * z) (ls z) (lb z) ∧ m 24 z = iI (base z) ∧ -50 ≤ base z ∧ base z ≤ 50
theorem hourC_fr {m m2 : gM} {l : Nat → Int} {ls lb : Nat → List Int} {base : Nat → Int} (hh : hourC m l ls lb base) (hf : ∀ c, c ≠ 22 → c ≠ 25 → c ≠ 26 → m2 c = m c) : hourC m2 l ls lb base := by
  refine ⟨?_, ?_⟩
  · unfold limC
    rw [hf 3 (by decide) (by decide) (by decide)]
    exact hh.1
  · intro z hz
    obtain ⟨a, b, c, d⟩ := hh.2 z hz
    refine ⟨a, CurW_fr b (hf _ (by omega) (by omega) (by omega)) (hf _ (by omega) (by omega) (by omega)) (hf _ (by omega) (by omega) (by omega)) (hf _ (by omega) (by omega) (by omega)), ?_, d⟩
    rw [hf 24 (by decide) (by decide) (by decide)]
    exact c
theorem okWZC {m : gM} {l : Nat → Int} {ls lb : Nat → List Int} {base : Nat → Int} (hh : hourC m l ls lb base) {z : Nat} (hz : z < 3) (net : Int) : okW (WZ ls lb base z net) := by
  intro w hw
  obtain ⟨a, _⟩ := hh.2 z hz
  exact cw_rng a.2.2.1 a.2.2.2.1 a.1 a.2.1 hw
def cres : Option (Int × Int × Int) → Int
  | none => -1000000000
  | some (w, _, _) => w
def cst (m : gM) : Option (Int × Int × Int) → Prop
  | none => True
  | some (_, a, b) => m 22 5 = iI (gs a b) ∧ m 25 0 = iI a ∧ m 25 1 = iI b ∧ m 25 2 = iI (-a - b)
def srS (m : gM) (res : Option (Int × Int × Int)) (mx : Nat → Option Int) : Prop := m 22 4 = iI (cres res) ∧ cst m res ∧ ∀ z, z < 3 → m 26 z = iI (enc (mx z))
theorem sp_wC {m : gM} {l : Nat → Int} {ls lb : Nat → List Int} {base : Nat → Int} (hh : hourC m l ls lb base) {z : Nat} (hz : z < 3) {net : Int} (h1 : -21 ≤ net) (h2 : net ≤ 21) {o : Nat} (ho : o = 27 + 4 * z) : f_X4_worthOf o (iI (net - base z)) m = some (iI (enc (WZ ls lb base z net))) := by
  obtain ⟨a, b, c, d1, d2⟩ := hh.2 z hz
  subst ho
  exact sp_worthOf b a (by omega) (by omega)
theorem sp_consider {m : gM} {l : Nat → Int} {ls lb : Nat → List Int} {base : Nat → Int} (hh : hourC m l ls lb base) {a b : Int} (hal : alw l a b (-a - b)) {res : Option (Int × Int × Int)} {mx : Nat → Option Int} (hs : srS m res mx) (hres : res = none ∨ ∃ w a2 b2, res = some (w, a2, b2) ∧ -240000 ≤ w ∧ w ≤ 240000 ∧ -20 ≤ a2 ∧ a2 ≤ 20 ∧ -20 ≤ b2 ∧ b2 ≤ 20) (hmx : ∀ z, z < 3 → okV (mx z)) : T (f_X7_consider (iI a) (iI b) (iI (-a - b)) m) (fun m2 => srS m2 (stepB (FL l (WZ ls lb base) (-1)) res a b) (fun z => stepM (FL l (WZ ls lb base) (z : Nat)) (mx z) a b) ∧ ∀ c, c ≠ 22 → c ≠ 25 → c ≠ 26 → m2 c = m c) := by
  have hlr : ∀ k, k < 3 → 0 ≤ l k ∧ l k ≤ 10 := fun k hk => (hh.1 k hk).2
  have hr := alw_rng hlr hal
  have hW : ∀ z, z < 3 → ∀ net, okW (WZ ls lb base z net) := fun z hz net => okWZC hh hz net
  have b0 := (hh.2 0 (by decide)).2.2
  have b1 := (hh.2 1 (by decide)).2.2
  have b2 := (hh.2 2 (by decide)).2.2
  obtain ⟨s1, s2, s3⟩ := hs
  have e_1 : FL l (WZ ls lb base) (-1) a b = add3 (WZ ls lb base 0 a) (WZ ls lb base 1 b) (WZ ls lb base 2 (-a - b)) := by
    unfold FL FF; rw [if_pos hal]; rfl
  have e_0 : FL l (WZ ls lb base) ((0 : Nat) : Int) a b = add3 (WZ ls lb base 0 (a - 1)) (WZ ls lb base 1 b) (WZ ls lb base 2 (-a - b)) := by
    unfold FL FF; rw [if_pos hal]; rfl
  have e_1p : FL l (WZ ls lb base) ((1 : Nat) : Int) a b = add3 (WZ ls lb base 0 a) (WZ ls lb base 1 (b - 1)) (WZ ls lb base 2 (-a - b)) := by
    unfold FL FF; rw [if_pos hal]; rfl
  have e_2 : FL l (WZ ls lb base) ((2 : Nat) : Int) a b = add3 (WZ ls lb base 0 a) (WZ ls lb base 1 b) (WZ ls lb base 2 (-a - b - 1)) := by
    unfold FL FF; rw [if_pos hal]; rfl
  unfold f_X7_consider
  have c0 : ∀ {m9 : gM}, hourC m9 l ls lb base → f_X4_worthOf 27 (iI (a - base 0)) m9 = some (iI (enc (WZ ls lb base 0 a))) := fun h9 => sp_wC h9 (z := 0) (by decide) (by omega) (by omega) rfl
  have c1 : ∀ {m9 : gM}, hourC m9 l ls lb base → f_X4_worthOf 31 (iI (b - base 1)) m9 = some (iI (enc (WZ ls lb base 1 b))) := fun h9 => sp_wC h9 (z := 1) (by decide) (by omega) (by omega) rfl
  have c2 : ∀ {m9 : gM}, hourC m9 l ls lb base → f_X4_worthOf 35 (iI (-a - b - base 2)) m9 = some (iI (enc (WZ ls lb base 2 (-a - b)))) := fun h9 => sp_wC h9 (z := 2) (by decide) (by omega) (by omega) rfl
  have d0 : ∀ {m9 : gM}, hourC m9 l ls lb base → f_X4_worthOf 27 (iI (a - base 0 - 1)) m9 = some (iI (enc (WZ ls lb base 0 (a - 1)))) := fun h9 => by
    rw [show a - base 0 - 1 = a - 1 - base 0 by omega]
    exact sp_wC h9 (z := 0) (by decide) (by omega) (by omega) rfl
  have d1 : ∀ {m9 : gM}, hourC m9 l ls lb base → f_X4_worthOf 31 (iI (b - base 1 - 1)) m9 = some (iI (enc (WZ ls lb base 1 (b - 1)))) := fun h9 => by
    rw [show b - base 1 - 1 = b - 1 - base 1 by omega]
    exact sp_wC h9 (z := 1) (by decide) (by omega) (by omega) rfl
  have d2 : ∀ {m9 : gM}, hourC m9 l ls lb base → f_X4_worthOf 35 (iI (-a - b - base 2 - 1)) m9 = some (iI (enc (WZ ls lb base 2 (-a - b - 1)))) := fun h9 => by
    rw [show -a - b - base 2 - 1 = -a - b - 1 - base 2 by omega]
    exact sp_wC h9 (z := 2) (by decide) (by omega) (by omega) rfl
  have h24 : a_ld 3 24 (iI 0) m = some (iI (base 0)) := by rw [a_ldI (by omega) (by omega) (by omega)]; exact congrArg some b0.1
  have h24a : a_ld 3 24 (iI 1) m = some (iI (base 1)) := by rw [a_ldI (by omega) (by omega) (by omega)]; exact congrArg some b1.1
  have h24b : a_ld 3 24 (iI 2) m = some (iI (base 2)) := by rw [a_ldI (by omega) (by omega) (by omega)]; exact congrArg some b2.1
  have r0 : a_rf 3 27 4 (iI 0) = some 27 := rfl
  have r1 : a_rf 3 27 4 (iI 1) = some 31 := rfl
  have r2 : a_rf 3 27 4 (iI 2) = some 35 := rfl
  have t26 : a_ld 3 26 (iI 0) m = some (iI (enc (mx 0))) := by rw [a_ldI (by omega) (by omega) (by omega)]; exact congrArg some (s3 0 (by decide))
  have g0 := sp_together (hW 0 (by decide) (a - 1)) (hW 1 (by decide) b) (hW 2 (by decide) (-a - b))
  have g1 := sp_together (hW 0 (by decide) a) (hW 1 (by decide) (b - 1)) (hW 2 (by decide) (-a - b))
  have g2 := sp_together (hW 0 (by decide) a) (hW 1 (by decide) b) (hW 2 (by decide) (-a - b - 1))
  have g3 := sp_together (hW 0 (by decide) a) (hW 1 (by decide) b) (hW 2 (by decide) (-a - b))
  rw [← e_0] at g0
  rw [← e_1p] at g1
  rw [← e_2] at g2
  rw [← e_1] at g3
  have x0 := sp_mx2 (hmx 0 (by decide)) (FL_ok (l := l) hW ((0 : Nat) : Int) a b)
  have x1 := sp_mx2 (hmx 1 (by decide)) (FL_ok (l := l) hW ((1 : Nat) : Int) a b)
  have x2 := sp_mx2 (hmx 2 (by decide)) (FL_ok (l := l) hW ((2 : Nat) : Int) a b)
  rw [← stepM_mx2] at x0 x1 x2
  simp only [iL_0, iL_1, iL_2, h24, h24a, h24b, r0, r1, r2, ob_some, iI_sub, c0 hh, c1 hh, c2 hh, d0 hh, t26, g0, x0]
  rw [a_stI (by omega) (by omega) (by omega), ob_some, show (0 : Int).toNat = 0 from rfl]
  generalize hm17 : g_up m 26 (upd (m 26) 0 (iI (enc (stepM (FL l (WZ ls lb base) ((0 : Nat) : Int)) (mx 0) a b)))) = m17
  have k17 : ∀ c, c ≠ 26 → m17 c = m c := fun c hc => by rw [← hm17, g_up_ne _ _ hc]
  have k17b : m17 26 = upd (m 26) 0 (iI (enc (stepM (FL l (WZ ls lb base) ((0 : Nat) : Int)) (mx 0) a b))) := by rw [← hm17, g_up_at]
  have hh17 : hourC m17 l ls lb base := hourC_fr hh (fun c _ _ q => k17 c q)
  have t26b : a_ld 3 26 (iI 1) m17 = some (iI (enc (mx 1))) := by
    rw [a_ldI (by omega) (by omega) (by omega), k17b, updA, if_neg (by decide)]; exact congrArg some (s3 1 (by decide))
  simp only [t26b, ob_some, d1 hh17, g1, x1]
  rw [a_stI (by omega) (by omega) (by omega), ob_some, show (1 : Int).toNat = 1 from rfl]
  generalize hm22 : g_up m17 26 (upd (m17 26) 1 (iI (enc (stepM (FL l (WZ ls lb base) ((1 : Nat) : Int)) (mx 1) a b)))) = m22
  have k22 : ∀ c, c ≠ 26 → m22 c = m17 c := fun c hc => by rw [← hm22, g_up_ne _ _ hc]
  have k22b : m22 26 = upd (m17 26) 1 (iI (enc (stepM (FL l (WZ ls lb base) ((1 : Nat) : Int)) (mx 1) a b))) := by rw [← hm22, g_up_at]
  have hh22 : hourC m22 l ls lb base := hourC_fr hh17 (fun c _ _ q => k22 c q)
  have t26c : a_ld 3 26 (iI 2) m22 = some (iI (enc (mx 2))) := by
    rw [a_ldI (by omega) (by omega) (by omega), k22b, updA, if_neg (by decide), k17b, updA, if_neg (by decide)]; exact congrArg some (s3 2 (by decide))
  simp only [t26c, ob_some, d2 hh22, g2, x2]
  rw [a_stI (by omega) (by omega) (by omega), ob_some, show (2 : Int).toNat = 2 from rfl]
  generalize hm27 : g_up m22 26 (upd (m22 26) 2 (iI (enc (stepM (FL l (WZ ls lb base) ((2 : Nat) : Int)) (mx 2) a b)))) = m27
  have k27 : ∀ c, c ≠ 26 → m27 c = m c := fun c hc => by rw [← hm27, g_up_ne _ _ hc, k22 c hc, k17 c hc]
  have k27b : ∀ z, z < 3 → m27 26 z = iI (enc (stepM (FL l (WZ ls lb base) (z : Nat)) (mx z) a b)) := by
    intro z hz
    rw [← hm27, g_up_at, updA, k22b, updA, k17b, updA]
    by_cases q2 : z = 2
    · rw [if_pos q2, q2]
    · rw [if_neg q2]
      by_cases q1 : z = 1
      · rw [if_pos q1, q1]
      · rw [if_neg q1, if_pos (by omega), show z = 0 by omega]
  simp only [g3, ob_some]
  rw [a_absI (by omega) (by omega), a_absI (by omega) (by omega), a_absI (by omega) (by omega), iI_add, iI_add]
  rw [show aI (a - b) + aI (b - (-a - b)) + aI (a - (-a - b)) = gs a b from rfl]
  have hgs := gs_rng hr.1 hr.2.1 hr.2.2.1 hr.2.2.2.1
  generalize hv : FL l (WZ ls lb base) (-1) a b = v at *
  have hvok : okV v := by rw [← hv]; exact FL_ok hW (-1) a b
  have hvr := encV_rng hvok
  have hcr : -1000000000 ≤ cres res ∧ cres res ≤ 240000 := by
    rcases hres with q | ⟨w, a2, b2, q, q1, q2, _⟩
    · rw [q]; exact ⟨by decide, by decide⟩
    · rw [q]; exact ⟨by show -1000000000 ≤ w; omega, q2⟩
  have hset : ∀ (X : gM), X = g_up (g_up (g_up (g_up (g_up m27 22 (upd (m27 22) 4 (iI (enc v)))) 22 (upd ((g_up m27 22 (upd (m27 22) 4 (iI (enc v)))) 22) 5 (iI (gs a b)))) 25 (upd ((g_up (g_up m27 22 (upd (m27 22) 4 (iI (enc v)))) 22 (upd ((g_up m27 22 (upd (m27 22) 4 (iI (enc v)))) 22) 5 (iI (gs a b)))) 25) 0 (iI a))) 25 (upd ((g_up (g_up (g_up m27 22 (upd (m27 22) 4 (iI (enc v)))) 22 (upd ((g_up m27 22 (upd (m27 22) 4 (iI (enc v)))) 22) 5 (iI (gs a b)))) 25 (upd ((g_up (g_up m27 22 (upd (m27 22) 4 (iI (enc v)))) 22 (upd ((g_up m27 22 (upd (m27 22) 4 (iI (enc v)))) 22) 5 (iI (gs a b)))) 25) 0 (iI a))) 25) 1 (iI b))) 25 (upd ((g_up (g_up (g_up (g_up m27 22 (upd (m27 22) 4 (iI (enc v)))) 22 (upd ((g_up m27 22 (upd (m27 22) 4 (iI (enc v)))) 22) 5 (iI (gs a b)))) 25 (upd ((g_up (g_up m27 22 (upd (m27 22) 4 (iI (enc v)))) 22 (upd ((g_up m27 22 (upd (m27 22) 4 (iI (enc v)))) 22) 5 (iI (gs a b)))) 25) 0 (iI a))) 25 (upd ((g_up (g_up (g_up m27 22 (upd (m27 22) 4 (iI (enc v)))) 22 (upd ((g_up m27 22 (upd (m27 22) 4 (iI (enc v)))) 22) 5 (iI (gs a b)))) 25 (upd ((g_up (g_up m27 22 (upd (m27 22) 4 (iI (enc v)))) 22 (upd ((g_up m27 22 (upd (m27 22) 4 (iI (enc v)))) 22) 5 (iI (gs a b)))) 25) 0 (iI a))) 25) 1 (iI b))) 25) 2 (iI (-a - b))) → ∀ w, v = some w → srS X (some (w, a, b)) (fun z => stepM (FL l (WZ ls lb base) (z : Nat)) (mx z) a b) ∧ ∀ c, c ≠ 22 → c ≠ 25 → c ≠ 26 → X c = m c := by
    intro X eX w ew
    refine ⟨⟨?_, ⟨?_, ?_, ?_, ?_⟩, ?_⟩, ?_⟩
    · rw [eX, ew]; rfl
    · rw [eX]; rfl
    · rw [eX]; rfl
    · rw [eX]; rfl
    · rw [eX]; rfl
    · intro z hz
      rw [← k27b z hz, eX]; rfl
    · intro c c1 c2 c3
      rw [eX, g_up_ne _ _ c2, g_up_ne _ _ c2, g_up_ne _ _ c2, g_up_ne _ _ c1, g_up_ne _ _ c1]
      exact k27 c c3
  have hkeep : stepB (FL l (WZ ls lb base) (-1)) res a b = res → srS m27 (stepB (FL l (WZ ls lb base) (-1)) res a b) (fun z => stepM (FL l (WZ ls lb base) (z : Nat)) (mx z) a b) ∧ ∀ c, c ≠ 22 → c ≠ 25 → c ≠ 26 → m27 c = m c := by
    intro e
    rw [e]
    refine ⟨⟨?_, ?_, k27b⟩, fun c _ _ c3 => k27 c c3⟩
    · rw [k27 22 (by decide)]; exact s1
    · cases res with
      | none => trivial
      | some u =>
        obtain ⟨uw, ua, ub⟩ := u
        show m27 22 5 = _ ∧ m27 25 0 = _ ∧ m27 25 1 = _ ∧ m27 25 2 = _
        rw [k27 22 (by decide), k27 25 (by decide)]
        exact s2
  have e22 : m27 22 4 = iI (cres res) := by rw [k27 22 (by decide)]; exact s1
  rw [e22, iL_1000000000, iI_neg, iI_eq (by omega) (by omega) (by omega) (by omega)]
  cases v with
  | none =>
    rw [if_pos (show enc none = -1000000000 from rfl), ob_some]
    exact T_some (hkeep (by unfold stepB; rw [hv]))
  | some w =>
    have hw := hvok w rfl
    have een : enc (some w) = w := rfl
    rw [if_neg (by rw [een]; omega), iI_lt (by omega) (by omega) (by omega) (by omega), iI_eq (by omega) (by omega) (by omega) (by omega)]
    rw [een] at hvr ⊢
    have hfin : stepB (FL l (WZ ls lb base) (-1)) res a b = some (w, a, b) → T (ob (ob (some (g_up m27 22 (upd (m27 22) 4 (iI w)))) fun m33 => ob (some (g_up m33 22 (upd (m33 22) 5 (iI (gs a b))))) fun m34 => ob (a_st 3 25 (iI 0) (iI a) m34) fun m35 => ob (a_st 3 25 (iI 1) (iI b) m35) fun m36 => ob (a_st 3 25 (iI 2) (iI (-a - b)) m36) fun m37 => some m37) fun m31 => some m31) (fun m2 => srS m2 (stepB (FL l (WZ ls lb base) (-1)) res a b) (fun z => stepM (FL l (WZ ls lb base) (z : Nat)) (mx z) a b) ∧ ∀ c, c ≠ 22 → c ≠ 25 → c ≠ 26 → m2 c = m c) := by
      intro e
      rw [e]
      simp only [ob_some]
      rw [a_stI (by omega) (by omega) (by omega), ob_some, a_stI (by omega) (by omega) (by omega), ob_some, a_stI (by omega) (by omega) (by omega), ob_some, ob_some]
      exact T_some (hset _ rfl w rfl)
    cases res with
    | none =>
      have em : cres none = -1000000000 := rfl
      rw [em, if_pos (by omega)]
      exact hfin (by unfold stepB; rw [hv])
    | some u =>
      obtain ⟨uw, ua, ub⟩ := u
      have em : cres (some (uw, ua, ub)) = uw := rfl
      rw [em]
      have hus : -20 ≤ ua ∧ ua ≤ 20 ∧ -20 ≤ ub ∧ ub ≤ 20 := by
        rcases hres with q | ⟨w, a2, b2, q, _, _, q3⟩
        · cases q
        · cases q; exact q3
      have hstep : stepB (FL l (WZ ls lb base) (-1)) (some (uw, ua, ub)) a b = if uw < w ∨ (w = uw ∧ gs a b < gs ua ub) then some (w, a, b) else some (uw, ua, ub) := by
        unfold stepB
        rw [hv]
      by_cases q1 : uw < w
      · rw [if_pos q1]
        exact hfin (by rw [hstep, if_pos (Or.inl q1)])
      · rw [if_neg q1]
        by_cases q2 : w = uw
        · rw [if_pos q2]
          have e5 : m27 22 5 = iI (gs ua ub) := by rw [k27 22 (by decide)]; exact s2.1
          have u2 := gs_rng hus.1 hus.2.1 hus.2.2.1 hus.2.2.2
          rw [e5, iI_le (by omega) (by omega) (by omega) (by omega)]
          by_cases q3 : gs ua ub ≤ gs a b
          · rw [if_pos q3, ob_some]
            exact T_some (hkeep (by rw [hstep, if_neg (by omega)]))
          · rw [if_neg q3]
            exact hfin (by rw [hstep, if_pos (by omega)])
        · rw [if_neg q2, ob_some]
          exact T_some (hkeep (by rw [hstep, if_neg (by omega)]))
