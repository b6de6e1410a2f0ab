theorem ob_sm {α β : Type} (a : α) (k : α → Option β) : ob (some a) k = k a := by
  have h := ob_some a k
  exact h
def T2 {ρ π : Type} (x : Option ρ) (y : Option π) (Q : ρ → π → Prop) : Prop := ∃ a b, x = some a ∧ y = some b ∧ Q a b
theorem T2_loop {ρ π : Type} (F : Nat → Int32 → gM → Option ρ) (G : Nat → Int32 → gM → Option π) (I : Nat → gM → gM → Prop) (Q : ρ → π → Prop) (N : Nat) (h : ∀ k m1 m2 n, I k m1 m2 → k ≤ N → (k < N → ∀ m3 m4, I (k + 1) m3 m4 → T2 (F n (iI ((k + 1 : Nat) : Int)) m3) (G n (iI ((k + 1 : Nat) : Int)) m4) Q) → T2 (F (n + 1) (iI (k : Nat)) m1) (G (n + 1) (iI (k : Nat)) m2) Q) : ∀ n k m1 m2, I k m1 m2 → k ≤ N → N < k + n → T2 (F n (iI (k : Nat)) m1) (G n (iI (k : Nat)) m2) Q := by
  intro n
  induction n with
  | zero => intro k m1 m2 _ h1 h2; exact absurd h2 (by omega)
  | succ n ih => intro k m1 m2 hI h1 h2; exact h k m1 m2 n hI h1 (fun hk m3 m4 hI' => ih (k + 1) m3 m4 hI' (by omega) (by omega))
theorem T2_cnt {ρ π : Type} (F : Nat → Int32 → gM → Option ρ) (G : Nat → Int32 → gM → Option π) (I : Nat → gM → gM → Prop) (Q : ρ → π → Prop) (N : Nat) (hN : N < 100000) {m1 m2 : gM} (h0 : I 0 m1 m2) (h : ∀ k m1 m2 n, I k m1 m2 → k ≤ N → (k < N → ∀ m3 m4, I (k + 1) m3 m4 → T2 (F n (iI ((k + 1 : Nat) : Int)) m3) (G n (iI ((k + 1 : Nat) : Int)) m4) Q) → T2 (F (n + 1) (iI (k : Nat)) m1) (G (n + 1) (iI (k : Nat)) m2) Q) : T2 (F f_fuel 0 m1) (G f_fuel 0 m2) Q :=
  T2_loop F G I Q N h f_fuel 0 m1 m2 h0 (Nat.zero_le _) (by show N < 0 + 100000; omega)
theorem iI_succ (k : Nat) : iI (k : Int) + 1 = iI ((k + 1 : Nat) : Int) := by rw [iL_1, iI_add]; rfl
theorem rgN {x : Int32} {B : Int} (h : rg x 0 B) : ∃ v : Nat, x = iI (v : Nat) ∧ (v : Int) ≤ B := by
  obtain ⟨a, b⟩ := h
  refine ⟨x.toInt.toNat, ?_, by omega⟩
  rw [Int.toNat_of_nonneg a, iI_of]
theorem oln4 : f_oln 4 = 40 := rfl
theorem oln45 : f_oln 45 = 20 := rfl
theorem oln55 : f_oln 55 = 60 := rfl
def fC (d : Nat) (m m2 : gM) : Prop := ∀ c, c ≠ 69 + 16 * d + 3 → c ≠ 69 + 16 * d + 5 → m2 c = m c
def fM (d : Nat) (m m2 : gM) : Prop := (∀ c, c ≠ 42 → c ≠ 45 → m2 c = m c) ∧ (∀ i, (i < 72 * d ∨ 72 * d + 72 ≤ i) → m2 42 i = m 42 i) ∧ ∀ i, (i < 6 * d ∨ 6 * d + 6 ≤ i) → m2 45 i = m 45 i
def pcE (d : Nat) (mc mm : gM) : Prop := (∀ i, i < 72 → mc (69 + 16 * d + 3) i = mm 42 (72 * d + i)) ∧ ∀ i, i < 6 → mc (69 + 16 * d + 5) i = mm 45 (6 * d + i)
def pB (d : Nat) (B : Int) (mc : gM) : Prop := ∀ i, i < 72 → rg (mc (69 + 16 * d + 3) i) (-B) B
theorem fC_rf (d : Nat) (m : gM) : fC d m m := fun c _ _ => rfl
theorem fM_rf (d : Nat) (m : gM) : fM d m m := ⟨fun c _ _ => rfl, fun i _ => rfl, fun i _ => rfl⟩
theorem fC_tr {d : Nat} {m m2 m3 : gM} (h : fC d m m2) (h2 : fC d m2 m3) : fC d m m3 := fun c a b => by rw [h2 c a b, h c a b]
theorem fM_tr {d : Nat} {m m2 m3 : gM} (h : fM d m m2) (h2 : fM d m2 m3) : fM d m m3 := ⟨fun c a b => by rw [h2.1 c a b, h.1 c a b], fun i a => by rw [h2.2.1 i a, h.2.1 i a], fun i a => by rw [h2.2.2 i a, h.2.2 i a]⟩
theorem pB_up {d : Nat} {B B2 : Int} {mc : gM} (h : pB d B mc) (h2 : B ≤ B2) : pB d B2 mc := fun i hi => by
  have := h i hi
  unfold rg at *
  omega
theorem sp_book {d f z h : Nat} {mc : gM} {u p : Int32} (hf : f < 6) (hz : z < 3) (hh : h < 4) : f_X5_book (69 + 16 * d) (iI (f : Nat)) (iI ((z : Nat) * 4 + (h : Nat))) u p mc = some (g_up (g_up mc (69 + 16 * d + 3) (upd (mc (69 + 16 * d + 3)) (12 * f + 4 * z + h) (mc (69 + 16 * d + 3) (12 * f + 4 * z + h) + u))) (69 + 16 * d + 5) (upd (mc (69 + 16 * d + 5)) f (mc (69 + 16 * d + 5) f + u * p))) := by
  have e1 : ((f : Nat) : Int) * 3 * 4 + ((z : Nat) * 4 + (h : Nat)) = ((12 * f + 4 * z + h : Nat) : Int) := by omega
  unfold f_X5_book
  rw [iL_3, iL_4, iI_mul, iI_mul, iI_add, e1, a_ldI (by omega) (by omega) (by omega), ob_some, a_stI (by omega) (by omega) (by omega), ob_some, a_ldI (by omega) (by omega) (by omega), ob_some, a_stI (by omega) (by omega) (by omega), ob_some, Int.toNat_natCast, Int.toNat_natCast, g_up_ne _ _ (show 69 + 16 * d + 5 ≠ 69 + 16 * d + 3 by omega)]
theorem sp_trades {d f z h : Nat} {mm : gM} {u p : Int32} (hd : d < 10) (h00 : mm 0 0 = iI (d : Nat)) (hf : f < 6) (hz : z < 3) (hh : h < 4) : f_X10_trades (iI (f : Nat)) (iI (z : Nat)) (iI (h : Nat)) u p mm = some (g_up (g_up mm 42 (upd (mm 42) (72 * d + (12 * f + 4 * z + h)) (mm 42 (72 * d + (12 * f + 4 * z + h)) + u))) 45 (upd (mm 45) (6 * d + f) (mm 45 (6 * d + f) + u * p))) := by
  have e1 : (72 : Int) * (d : Nat) + 12 * (f : Nat) + 4 * (z : Nat) + (h : Nat) = ((72 * d + (12 * f + 4 * z + h) : Nat) : Int) := by omega
  have e2 : (6 : Int) * (d : Nat) + (f : Nat) = ((6 * d + f : Nat) : Int) := by omega
  unfold f_X10_trades
  rw [h00, iL_72, iL_12, iL_4, iI_mul, iI_mul, iI_mul, iI_add, iI_add, iI_add, e1, a_ldI (by omega) (by omega) (by omega), ob_some, a_stI (by omega) (by omega) (by omega), ob_some, g_up_ne _ _ (show (0 : Nat) ≠ 42 by decide), h00, iL_6, iI_mul, iI_add, e2, a_ldI (by omega) (by omega) (by omega), ob_some, a_stI (by omega) (by omega) (by omega), ob_some, Int.toNat_natCast, Int.toNat_natCast, g_up_ne _ _ (show (45 : Nat) ≠ 42 by decide)]
theorem sp_trades0 {d f z h : Nat} {mm : gM} {u p : Int32} (hd : d < 10) (h00 : mm 0 0 = iI (d : Nat)) (hf : f < 6) (hz : z < 3) (hh : h < 4) (hu : u = 0) : f_X10_trades (iI (f : Nat)) (iI (z : Nat)) (iI (h : Nat)) u p mm = some mm := by
  subst hu
  rw [sp_trades hd h00 hf hz hh]
  have e : ∀ (r : Nat → Int32) (k : Nat) (x : Int32), x = r k → upd r k x = r := by
    intro r k x hx
    funext j
    rw [updA]
    by_cases q : j = k
    · rw [if_pos q, q, hx]
    · rw [if_neg q]
  rw [e (mm 42) _ _ (Int32.add_zero _), e (mm 45) _ _ (by rw [Int32.zero_mul, Int32.add_zero]), g_upE mm 42 _ rfl, g_upE mm 45 _ rfl]
theorem rg_add {x u : Int32} {B b : Int} (h : rg x (-B) B) (h2 : rg u (-b) b) (hB : B + b ≤ 2000000) : rg (x + u) (-(B + b)) (B + b) := by
  obtain ⟨a, ea, a1, a2⟩ := rg_ex h
  obtain ⟨c, ec, c1, c2⟩ := rg_ex h2
  subst ea
  subst ec
  rw [iI_add]
  exact rg_iI (by omega) (by omega) (by omega) (by omega)
theorem bk_sim {d f z h : Nat} {B : Int} {mc mm : gM} {u p : Int32} (hd : d < 10) (h00 : mm 0 0 = iI (d : Nat)) (hf : f < 6) (hz : z < 3) (hh : h < 4) (hE : pcE d mc mm) (hB : pB d B mc) (hB0 : B ≤ 1000000) (hu : rg u (-10) 10) : ∃ mc2 mm2, f_X5_book (69 + 16 * d) (iI (f : Nat)) (iI ((z : Nat) * 4 + (h : Nat))) u p mc = some mc2 ∧ f_X10_trades (iI (f : Nat)) (iI (z : Nat)) (iI (h : Nat)) u p mm = some mm2 ∧ pcE d mc2 mm2 ∧ pB d (B + 10) mc2 ∧ fC d mc mc2 ∧ fM d mm mm2 := by
  refine ⟨_, _, sp_book hf hz hh, sp_trades hd h00 hf hz hh, ⟨?_, ?_⟩, ?_, ?_, ?_, ?_, ?_⟩
  · intro i hi
    rw [g_up_ne _ _ (show 69 + 16 * d + 3 ≠ 69 + 16 * d + 5 by omega), g_up_at, g_up_ne _ _ (show (42 : Nat) ≠ 45 by decide), g_up_at, updA, updA]
    by_cases q : i = 12 * f + 4 * z + h
    · rw [if_pos q, if_pos (by omega), hE.1 _ (by omega)]
    · rw [if_neg q, if_neg (by omega), hE.1 _ hi]
  · intro i hi
    rw [g_up_at, g_up_at, updA, updA]
    by_cases q : i = f
    · rw [if_pos q, if_pos (by omega), hE.2 _ (by omega)]
    · rw [if_neg q, if_neg (by omega), hE.2 _ hi]
  · intro i hi
    rw [g_up_ne _ _ (show 69 + 16 * d + 3 ≠ 69 + 16 * d + 5 by omega), g_up_at, updA]
    by_cases q : i = 12 * f + 4 * z + h
    · rw [if_pos q]
      exact rg_add (hB _ (by omega)) hu (by omega)
    · rw [if_neg q]
      exact (pB_up hB (by omega)) i hi
  · intro c c1 c2
    rw [g_up_ne _ _ c2, g_up_ne _ _ c1]
  · intro c c1 c2
    rw [g_up_ne _ _ c2, g_up_ne _ _ c1]
  · intro i hi
    rw [g_up_ne _ _ (show (42 : Nat) ≠ 45 by decide), g_up_at, updA, if_neg (by omega)]
  · intro i hi
    rw [g_up_at, updA, if_neg (by omega)]
theorem sp_spot (z h : Nat) : f_X9_spotOf (iI (z : Nat)) (iI (h : Nat)) = some (iI ((z : Nat) * 4 + (h : Nat))) := by
  unfold f_X9_spotOf
  rw [iL_4, iI_mul, iI_add]
def prE (d : Nat) (mc mm : gM) : Prop := ∀ i, i < 12 → mc (69 + 16 * d + 1) i = mm 41 (12 * d + i)
def bkH (d n : Nat) (mc mm : gM) : Prop := mc 4 8 = iI (n : Nat) ∧ mm 0 7 = iI (n : Nat) ∧ n ≤ 40 ∧ (∀ c, 5 ≤ c → c ≤ 8 → mm c = mc c) ∧ ∀ k, k < n → rg (mc 5 k) 0 5 ∧ rg (mc 6 k) 0 2 ∧ rg (mc 7 k) 0 3 ∧ (mc 8 k = 0 ∨ mc 8 k = 1) ∧ mc 10 k - mc 11 k = mm 11 k ∧ rg (mm 11 k) 0 10
theorem rg_neg {u : Int32} {B : Int} (h : rg u 0 B) (hB : B ≤ 1000000) : rg (-u) (-B) B ∧ rg u (-B) B := by
  obtain ⟨a, ea, a1, a2⟩ := rg_ex h
  subst ea
  rw [iI_neg]
  exact ⟨rg_iI (by omega) (by omega) (by omega) (by omega), rg_iI (by omega) (by omega) (by omega) (by omega)⟩
theorem sim_takeBids {d n : Nat} {mc mm : gM} {B : Int} (hd : d < 10) (h00 : mm 0 0 = iI (d : Nat)) (hH : bkH d n mc mm) (hP : prE d mc mm) (hE : pcE d mc mm) (hB : pB d B mc) (hB0 : 0 ≤ B ∧ B ≤ 100000) : T2 (f_X9_takeBids_L2 (69 + 16 * d) f_fuel 0 mc) (f_X10_clear_L183 f_fuel 0 mm) (fun t t2 => pcE d t.2 t2.2 ∧ pB d (B + 400) t.2 ∧ fC d mc t.2 ∧ fM d mm t2.2) := by
  obtain ⟨hn1, hn2, hn, hrow, hk⟩ := hH
  refine T2_cnt (f_X9_takeBids_L2 (69 + 16 * d)) (f_X10_clear_L183) (fun k m1 m2 => pcE d m1 m2 ∧ pB d (B + 10 * (k : Nat)) m1 ∧ fC d mc m1 ∧ fM d mm m2) _ n (by omega) ⟨hE, pB_up hB (by omega), fC_rf _ _, fM_rf _ _⟩ ?_
  intro k m1 m2 f hI hkn hcont
  obtain ⟨i1, i2, i3, i4⟩ := hI
  unfold f_X9_takeBids_L2 f_X10_clear_L183
  rw [i3 4 (by omega) (by omega), hn1, i4.1 0 (by decide) (by decide), hn2, iI_le (by omega) (by omega) (by omega) (by omega), iI_le (by omega) (by omega) (by omega) (by omega)]
  by_cases c : (n : Int) ≤ k
  · rw [if_pos c, if_pos c]
    exact ⟨_, _, rfl, rfl, i1, pB_up i2 (by omega), i3, i4⟩
  · rw [if_neg c, if_neg c]
    obtain ⟨r5, r6, r7, r8, r11, r11b⟩ := hk k (by omega)
    obtain ⟨v5, e5, l5⟩ := rgN r5
    obtain ⟨v6, e6, l6⟩ := rgN r6
    obtain ⟨v7, e7, l7⟩ := rgN r7
    have hus : f_X8_used 4 (iI (k : Nat)) m1 = some (mm 11 k) := by
      rw [sp_used (by rw [oln4]; omega) (by rw [oln4]; omega), show (4 + 6 : Nat) = 10 from rfl, show (4 + 7 : Nat) = 11 from rfl, i3 10 (by omega) (by omega), i3 11 (by omega) (by omega), r11]
    have l8 : a_ld 40 8 (iI (k : Nat)) m1 = some (mc 8 k) := by
      rw [a_ldI (by omega) (by omega) (by omega), Int.toNat_natCast, i3 8 (by omega) (by omega)]
    have l6 : a_ld 40 6 (iI (k : Nat)) m1 = some (iI (v6 : Nat)) := by
      rw [a_ldI (by omega) (by omega) (by omega), Int.toNat_natCast, i3 6 (by omega) (by omega), e6]
    have l7 : a_ld 40 7 (iI (k : Nat)) m1 = some (iI (v7 : Nat)) := by
      rw [a_ldI (by omega) (by omega) (by omega), Int.toNat_natCast, i3 7 (by omega) (by omega), e7]
    have l5 : a_ld 40 5 (iI (k : Nat)) m1 = some (iI (v5 : Nat)) := by
      rw [a_ldI (by omega) (by omega) (by omega), Int.toNat_natCast, i3 5 (by omega) (by omega), e5]
    have n8 : a_ld 40 8 (iI (k : Nat)) m2 = some (mc 8 k) := by
      rw [a_ldI (by omega) (by omega) (by omega), Int.toNat_natCast, i4.1 8 (by decide) (by decide), hrow 8 (by decide) (by decide)]
    have n6 : a_ld 40 6 (iI (k : Nat)) m2 = some (iI (v6 : Nat)) := by
      rw [a_ldI (by omega) (by omega) (by omega), Int.toNat_natCast, i4.1 6 (by decide) (by decide), hrow 6 (by decide) (by decide), e6]
    have n7 : a_ld 40 7 (iI (k : Nat)) m2 = some (iI (v7 : Nat)) := by
      rw [a_ldI (by omega) (by omega) (by omega), Int.toNat_natCast, i4.1 7 (by decide) (by decide), hrow 7 (by decide) (by decide), e7]
    have n5 : a_ld 40 5 (iI (k : Nat)) m2 = some (iI (v5 : Nat)) := by
      rw [a_ldI (by omega) (by omega) (by omega), Int.toNat_natCast, i4.1 5 (by decide) (by decide), hrow 5 (by decide) (by decide), e5]
    have n11 : a_ld 40 11 (iI (k : Nat)) m2 = some (mm 11 k) := by
      rw [a_ldI (by omega) (by omega) (by omega), Int.toNat_natCast, i4.1 11 (by decide) (by decide)]
    have l1 : a_ld 12 (69 + 16 * d + 1) (iI ((v6 : Nat) * 4 + (v7 : Nat))) m1 = some (mm 41 (12 * d + (4 * v6 + v7))) := by
      rw [a_ldI (by omega) (by omega) (by omega), i3 _ (by omega) (by omega), show (((v6 : Nat) : Int) * 4 + (v7 : Nat)).toNat = 4 * v6 + v7 by omega, hP _ (by omega)]
    have n41 : a_ld 120 41 (12 * (mm 0 0) + 4 * (iI (v6 : Nat)) + (iI (v7 : Nat))) m2 = some (mm 41 (12 * d + (4 * v6 + v7))) := by
      rw [h00, iL_12, iL_4, iI_mul, iI_mul, iI_add, iI_add, a_ldI (by omega) (by omega) (by omega), i4.1 41 (by decide) (by decide), show ((12 : Int) * (d : Nat) + 4 * (v6 : Nat) + (v7 : Nat)).toNat = 12 * d + (4 * v6 + v7) by omega]
    have hm0 : m2 0 0 = iI (d : Nat) := by rw [i4.1 0 (by decide) (by decide)]; exact h00
    rw [l8, ob_some, n8, ob_some, hus, n11, l6, l7, l5, n5, n6, n7]
    have key : ∀ u : Int32, rg u (-10) 10 → T2 (ob (some (iI (v6 : Nat))) fun v11 => ob (some (iI (v7 : Nat))) fun v12 => ob (f_X9_spotOf v11 v12) fun r13 => ob (some (iI (v5 : Nat))) fun v14 => ob (a_ld 12 (69 + 16 * d + 1) r13 m1) fun v15 => ob (f_X5_book (69 + 16 * d) v14 r13 u v15 m1) fun m16 => f_X9_takeBids_L2 (69 + 16 * d) f (iI (k : Nat) + 1) m16) (ob (some (iI (v5 : Nat))) fun v70 => ob (some (iI (v6 : Nat))) fun v71 => ob (some (iI (v7 : Nat))) fun v72 => ob (some (iI (v6 : Nat))) fun v73 => ob (some (iI (v7 : Nat))) fun v74 => ob (a_ld 120 41 (((12 * (mm 0 0)) + (4 * v73)) + v74) m2) fun v75 => ob (f_X10_trades v70 v71 v72 u v75 m2) fun m76 => f_X10_clear_L183 f (iI (k : Nat) + 1) m76) (fun t t2 => pcE d t.2 t2.2 ∧ pB d (B + 400) t.2 ∧ fC d mc t.2 ∧ fM d mm t2.2) := by
      intro u hu
      simp only [ob_sm, sp_spot, l1, n41]
      obtain ⟨mc2, mm2, b1, b2, b3, b4, b5, b6⟩ := bk_sim (f := v5) (z := v6) (h := v7) (p := mm 41 (12 * d + (4 * v6 + v7))) hd hm0 (by omega) (by omega) (by omega) i1 i2 (by omega) hu
      rw [b1, b2, ob_some, ob_some, iI_succ]
      exact hcont (by omega) mc2 mm2 ⟨b3, pB_up b4 (by omega), fC_tr i3 b5, fM_tr i4 b6⟩
    have hn := rg_neg r11b (by omega)
    have e1 : ∀ {α : Type} (G : Int32 → Option α), ob (if mc 8 k = 0 then ob (some (mm 11 k)) (fun r9 => some r9) else ob (some (mm 11 k)) (fun r10 => some (-r10))) G = G (if mc 8 k = 0 then mm 11 k else -(mm 11 k)) := by
      intro α G
      by_cases u : mc 8 k = 0
      · rw [if_pos u, if_pos u, ob_some, ob_some]
      · rw [if_neg u, if_neg u, ob_some, ob_some]
    have e2 : ∀ {α : Type} (G : Int32 → Option α), ob (if mc 8 k = 1 then ob (some (mm 11 k)) (fun v69 => some (-v69)) else ob (some (mm 11 k)) (fun v68 => some v68)) G = G (if mc 8 k = 0 then mm 11 k else -(mm 11 k)) := by
      intro α G
      rcases r8 with b0 | b1
      · rw [b0, if_neg (by decide), if_pos rfl, ob_some, ob_some]
      · rw [b1, if_pos rfl, if_neg (by decide), ob_some, ob_some]
    rw [e1, e2]
    refine key _ ?_
    rcases r8 with b0 | b1
    · rw [if_pos b0]; exact hn.2
    · rw [if_neg (by rw [b1]; decide)]; exact hn.1
