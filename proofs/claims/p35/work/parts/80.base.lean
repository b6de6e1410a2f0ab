def iI (x : Int) : Int32 := Int32.ofInt x
theorem iI_nI (n : Nat) : nI n = iI (n : Int) := (Int32.ofInt_eq_ofNat (n := n)).symm
theorem iI_add (a b : Int) : iI a + iI b = iI (a + b) := (Int32.ofInt_add a b).symm
theorem iI_sub (a b : Int) : iI a - iI b = iI (a - b) := (Int32.ofInt_sub a b).symm
theorem iI_mul (a b : Int) : iI a * iI b = iI (a * b) := (Int32.ofInt_mul a b).symm
theorem iI_neg (a : Int) : -iI a = iI (-a) := (Int32.ofInt_neg a).symm
theorem iI_of (x : Int32) : iI x.toInt = x := Int32.ofInt_toInt x
theorem iI_toInt {x : Int} (h : -2147483648 ≤ x) (h2 : x < 2147483648) : (iI x).toInt = x := Int32.toInt_ofInt_of_le h h2
theorem iI_leP {a b : Int} (ha : -2147483648 ≤ a) (ha2 : a < 2147483648) (hb : -2147483648 ≤ b) (hb2 : b < 2147483648) : (iI a ≤ iI b) = (a ≤ b) := by
  rw [Int32.le_iff_toInt_le, iI_toInt ha ha2, iI_toInt hb hb2]
theorem iI_ltP {a b : Int} (ha : -2147483648 ≤ a) (ha2 : a < 2147483648) (hb : -2147483648 ≤ b) (hb2 : b < 2147483648) : (iI a < iI b) = (a < b) := by
  rw [Int32.lt_iff_toInt_lt, iI_toInt ha ha2, iI_toInt hb hb2]
theorem iI_eqP {a b : Int} (ha : -2147483648 ≤ a) (ha2 : a < 2147483648) (hb : -2147483648 ≤ b) (hb2 : b < 2147483648) : (iI a = iI b) = (a = b) := by
  rw [← Int32.toInt_inj, iI_toInt ha ha2, iI_toInt hb hb2]
theorem iI_le {α : Type} {x y : α} {a b : Int} (ha : -2147483648 ≤ a) (ha2 : a < 2147483648) (hb : -2147483648 ≤ b) (hb2 : b < 2147483648) : (if iI a ≤ iI b then x else y) = (if a ≤ b then x else y) := by
  by_cases c : a ≤ b
  · rw [if_pos c, if_pos (by rw [iI_leP ha ha2 hb hb2]; exact c)]
  · rw [if_neg c, if_neg (by rw [iI_leP ha ha2 hb hb2]; exact c)]
theorem iI_lt {α : Type} {x y : α} {a b : Int} (ha : -2147483648 ≤ a) (ha2 : a < 2147483648) (hb : -2147483648 ≤ b) (hb2 : b < 2147483648) : (if iI a < iI b then x else y) = (if a < b then x else y) := by
  by_cases c : a < b
  · rw [if_pos c, if_pos (by rw [iI_ltP ha ha2 hb hb2]; exact c)]
  · rw [if_neg c, if_neg (by rw [iI_ltP ha ha2 hb hb2]; exact c)]
theorem iI_eq {α : Type} {x y : α} {a b : Int} (ha : -2147483648 ≤ a) (ha2 : a < 2147483648) (hb : -2147483648 ≤ b) (hb2 : b < 2147483648) : (if iI a = iI b then x else y) = (if a = b then x else y) := by
  by_cases c : a = b
  · rw [if_pos c, if_pos (by rw [iI_eqP ha ha2 hb hb2]; exact c)]
  · rw [if_neg c, if_neg (by rw [iI_eqP ha ha2 hb hb2]; exact c)]
theorem iI_clamp {a : Int} (ha : 0 ≤ a) (ha2 : a < 2147483648) : (iI a).toNatClampNeg = a.toNat := by
  show (iI a).toInt.toNat = a.toNat
  rw [iI_toInt (by omega) ha2]
theorem iI_ltR (x : Int32) : -2147483648 ≤ x.toInt ∧ x.toInt < 2147483648 := ⟨Int32.le_toInt x, Int32.toInt_lt x⟩
theorem iI_ex (x : Int32) : ∃ a : Int, x = iI a ∧ -2147483648 ≤ a ∧ a < 2147483648 := ⟨x.toInt, (iI_of x).symm, iI_ltR x⟩
theorem iL_400 : (400 : Int32) = iI 400 := by rfl
theorem iL_0 : (0 : Int32) = iI 0 := by rfl
theorem iL_1 : (1 : Int32) = iI 1 := by rfl
theorem iL_2 : (2 : Int32) = iI 2 := by rfl
theorem iL_3 : (3 : Int32) = iI 3 := by rfl
theorem iL_4 : (4 : Int32) = iI 4 := by rfl
theorem iL_5 : (5 : Int32) = iI 5 := by rfl
theorem iL_6 : (6 : Int32) = iI 6 := by rfl
theorem iL_7 : (7 : Int32) = iI 7 := by rfl
theorem iL_8 : (8 : Int32) = iI 8 := by rfl
theorem iL_9 : (9 : Int32) = iI 9 := by rfl
theorem iL_10 : (10 : Int32) = iI 10 := by rfl
theorem iL_12 : (12 : Int32) = iI 12 := by rfl
theorem iL_15 : (15 : Int32) = iI 15 := by rfl
theorem iL_16 : (16 : Int32) = iI 16 := by rfl
theorem iL_20 : (20 : Int32) = iI 20 := by rfl
theorem iL_21 : (21 : Int32) = iI 21 := by rfl
theorem iL_29 : (29 : Int32) = iI 29 := by rfl
theorem iL_30 : (30 : Int32) = iI 30 := by rfl
theorem iL_31 : (31 : Int32) = iI 31 := by rfl
theorem iL_32 : (32 : Int32) = iI 32 := by rfl
theorem iL_39 : (39 : Int32) = iI 39 := by rfl
theorem iL_40 : (40 : Int32) = iI 40 := by rfl
theorem iL_59 : (59 : Int32) = iI 59 := by rfl
theorem iL_60 : (60 : Int32) = iI 60 := by rfl
theorem iL_70 : (70 : Int32) = iI 70 := by rfl
theorem iL_71 : (71 : Int32) = iI 71 := by rfl
theorem iL_72 : (72 : Int32) = iI 72 := by rfl
theorem iL_80 : (80 : Int32) = iI 80 := by rfl
theorem iL_161 : (161 : Int32) = iI 161 := by rfl
theorem iL_200 : (200 : Int32) = iI 200 := by rfl
theorem iL_300 : (300 : Int32) = iI 300 := by rfl
theorem iL_401 : (401 : Int32) = iI 401 := by rfl
theorem iL_500 : (500 : Int32) = iI 500 := by rfl
theorem iL_1000000000 : (1000000000 : Int32) = iI 1000000000 := by rfl
theorem iL_100000 : (100000 : Int32) = iI 100000 := by rfl
theorem iL_10000000 : (10000000 : Int32) = iI 10000000 := by rfl
theorem iL_2147483648 : (2147483648 : Int32) = iI 2147483648 := by rfl
theorem a_ldI {n c : Nat} {i : Int} {m : gM} (h0 : 0 ≤ i) (h : i < n) (hn : n ≤ 100000) : a_ld n c (iI i) m = some (m c i.toNat) := by
  unfold a_ld
  have e : (iI i).toNatClampNeg = i.toNat := iI_clamp h0 (by omega)
  rw [e, if_neg]
  intro q
  rcases q with q | q
  · rw [show (0 : Int32) = iI 0 from rfl, iI_ltP (by omega) (by omega) (by omega) (by omega)] at q
    omega
  · omega
theorem a_stI {n c : Nat} {i : Int} {v : Int32} {m : gM} (h0 : 0 ≤ i) (h : i < n) (hn : n ≤ 100000) : a_st n c (iI i) v m = some (g_up m c (upd (m c) i.toNat v)) := by
  unfold a_st
  have e : (iI i).toNatClampNeg = i.toNat := iI_clamp h0 (by omega)
  rw [e, if_neg]
  intro q
  rcases q with q | q
  · rw [show (0 : Int32) = iI 0 from rfl, iI_ltP (by omega) (by omega) (by omega) (by omega)] at q
    omega
  · omega
theorem a_zst_st {n c : Nat} {i v : Int32} {m : gM} (h : v = 0 ∨ v = 1) : a_zst n c i v m = a_st n c i v m := by
  unfold a_zst a_st
  by_cases q : i < 0 ∨ n ≤ i.toNatClampNeg
  · rw [if_pos q, if_pos q]
  · rw [if_neg q, if_neg q, if_pos h]
theorem a_zst0 {n c : Nat} {i : Int32} {m : gM} : a_zst n c i (iI 0) m = a_st n c i (iI 0) m := a_zst_st (Or.inl rfl)
theorem a_zst1 {n c : Nat} {i : Int32} {m : gM} : a_zst n c i (iI 1) m = a_st n c i (iI 1) m := a_zst_st (Or.inr rfl)
theorem a_zc0 : a_zc 0 = some 0 := rfl
theorem a_zc1 : a_zc 1 = some 1 := rfl
theorem a_zcI0 : a_zc (iI 0) = some (iI 0) := rfl
theorem a_zcI1 : a_zc (iI 1) = some (iI 1) := rfl
theorem a_zcz {v : Int32} (h : v = 0 ∨ v = 1) : a_zc v = some v := if_pos h
theorem a_rfI {n b w : Nat} {i : Int} (h0 : 0 ≤ i) (h : i < n) (hn : n ≤ 100000) : a_rf n b w (iI i) = some (b + w * i.toNat) := by
  unfold a_rf
  have e : (iI i).toNatClampNeg = i.toNat := iI_clamp h0 (by omega)
  rw [e, if_neg]
  intro q
  rcases q with q | q
  · rw [show (0 : Int32) = iI 0 from rfl, iI_ltP (by omega) (by omega) (by omega) (by omega)] at q
    omega
  · omega
theorem a_maxI {a b : Int} (ha : -2147483648 ≤ a) (ha2 : a < 2147483648) (hb : -2147483648 ≤ b) (hb2 : b < 2147483648) : a_max (iI a) (iI b) = iI (max a b) := by
  unfold a_max
  rw [iI_lt ha ha2 hb hb2]
  by_cases c : a < b
  · rw [if_pos c, Int.max_eq_right (by omega)]
  · rw [if_neg c, Int.max_eq_left (by omega)]
theorem a_minI {a b : Int} (ha : -2147483648 ≤ a) (ha2 : a < 2147483648) (hb : -2147483648 ≤ b) (hb2 : b < 2147483648) : a_min (iI a) (iI b) = iI (min a b) := by
  unfold a_min
  rw [iI_lt hb hb2 ha ha2]
  by_cases c : b < a
  · rw [if_pos c, Int.min_eq_right (by omega)]
  · rw [if_neg c, Int.min_eq_left (by omega)]
def aI (a : Int) : Int := if 0 ≤ a then a else -a
theorem a_absI {a : Int} (ha : -2147483648 ≤ a) (ha2 : a < 2147483648) : a_abs (iI a) = iI (aI a) := by
  unfold a_abs aI
  rw [show (0 : Int32) = iI 0 from rfl, iI_le (by omega) (by omega) ha ha2]
  by_cases c : 0 ≤ a
  · rw [if_pos c, if_pos c]
  · rw [if_neg c, if_neg c, iI_sub, Int.zero_sub]
def T {α : Type} (x : Option α) (Q : α → Prop) : Prop := ∃ a, x = some a ∧ Q a
theorem T_some {α : Type} {a : α} {Q : α → Prop} (h : Q a) : T (some a) Q := ⟨a, rfl, h⟩
theorem T_ob {α β : Type} {x : Option α} {k : α → Option β} {P : α → Prop} {Q : β → Prop} (h : T x P) (h2 : ∀ a, P a → T (k a) Q) : T (ob x k) Q := by
  obtain ⟨a, e, p⟩ := h
  subst e
  exact h2 a p
theorem T_obe {α β : Type} {x : Option α} {k : α → Option β} {a : α} {Q : β → Prop} (h : x = some a) (h2 : T (k a) Q) : T (ob x k) Q := by
  subst h
  exact h2
theorem T_mono {α : Type} {x : Option α} {P Q : α → Prop} (h : T x P) (h2 : ∀ a, P a → Q a) : T x Q := by
  obtain ⟨a, e, p⟩ := h
  exact ⟨a, e, h2 a p⟩
theorem T_ite {α : Type} {c : Prop} [Decidable c] {x y : Option α} {Q : α → Prop} (h1 : c → T x Q) (h2 : ¬ c → T y Q) : T (if c then x else y) Q := by
  by_cases q : c
  · rw [if_pos q]; exact h1 q
  · rw [if_neg q]; exact h2 q
theorem T_eq {α : Type} {x : Option α} {a : α} (h : T x (fun b => b = a)) : x = some a := by
  obtain ⟨b, e, p⟩ := h
  rw [e, p]
theorem T_of {α : Type} {x : Option α} {a : α} {Q : α → Prop} (h : x = some a) (q : Q a) : T x Q := ⟨a, h, q⟩
theorem T_loop {σ ρ : Type} (F : Nat → σ → Option ρ) (I : Nat → σ → Prop) (Q : ρ → Prop) (N : Nat) (h : ∀ k s n, I k s → k ≤ N → (k < N → ∀ s', I (k + 1) s' → T (F n s') Q) → T (F (n + 1) s) Q) : ∀ n k s, I k s → k ≤ N → N < k + n → T (F n s) Q := by
  intro n
  induction n with
  | zero => intro k s _ h1 h2; exact absurd h2 (by omega)
  | succ n ih => intro k s hI h1 h2; exact h k s n hI h1 (fun hk s' hI' => ih (k + 1) s' hI' (by omega) (by omega))
theorem T_run {σ ρ : Type} (F : Nat → σ → Option ρ) (I : Nat → σ → Prop) (Q : ρ → Prop) (N k : Nat) (s : σ) (hI : I k s) (hk : k ≤ N) (hN : N < 100000) (h : ∀ k s n, I k s → k ≤ N → (k < N → ∀ s', I (k + 1) s' → T (F n s') Q) → T (F (n + 1) s) Q) : T (F f_fuel s) Q :=
  T_loop F I Q N h f_fuel k s hI hk (by show N < k + 100000; omega)
theorem T_run2 {α β ρ : Type} (F : Nat → α → β → Option ρ) (I : Nat → α → β → Prop) (Q : ρ → Prop) (N k : Nat) (a : α) (b : β) (hI : I k a b) (hk : k ≤ N) (hN : N < 100000) (h : ∀ k a b n, I k a b → k ≤ N → (k < N → ∀ a2 b2, I (k + 1) a2 b2 → T (F n a2 b2) Q) → T (F (n + 1) a b) Q) : T (F f_fuel a b) Q :=
  T_run (fun n (s : α × β) => F n s.1 s.2) (fun k s => I k s.1 s.2) Q N k (a, b) hI hk hN (fun k s n hI hk hc => h k s.1 s.2 n hI hk (fun hk2 a2 b2 hI2 => hc hk2 (a2, b2) hI2))
theorem T_run3 {α β γ ρ : Type} (F : Nat → α → β → γ → Option ρ) (I : Nat → α → β → γ → Prop) (Q : ρ → Prop) (N k : Nat) (a : α) (b : β) (c : γ) (hI : I k a b c) (hk : k ≤ N) (hN : N < 100000) (h : ∀ k a b c n, I k a b c → k ≤ N → (k < N → ∀ a2 b2 c2, I (k + 1) a2 b2 c2 → T (F n a2 b2 c2) Q) → T (F (n + 1) a b c) Q) : T (F f_fuel a b c) Q :=
  T_run (fun n (s : α × β × γ) => F n s.1 s.2.1 s.2.2) (fun k s => I k s.1 s.2.1 s.2.2) Q N k (a, b, c) hI hk hN (fun k s n hI hk hc => h k s.1 s.2.1 s.2.2 n hI hk (fun hk2 a2 b2 c2 hI2 => hc hk2 (a2, b2, c2) hI2))
theorem T_run4 {α β γ δ ρ : Type} (F : Nat → α → β → γ → δ → Option ρ) (I : Nat → α → β → γ → δ → Prop) (Q : ρ → Prop) (N k : Nat) (a : α) (b : β) (c : γ) (d : δ) (hI : I k a b c d) (hk : k ≤ N) (hN : N < 100000) (h : ∀ k a b c d n, I k a b c d → k ≤ N → (k < N → ∀ a2 b2 c2 d2, I (k + 1) a2 b2 c2 d2 → T (F n a2 b2 c2 d2) Q) → T (F (n + 1) a b c d) Q) : T (F f_fuel a b c d) Q :=
  T_run (fun n (s : α × β × γ × δ) => F n s.1 s.2.1 s.2.2.1 s.2.2.2) (fun k s => I k s.1 s.2.1 s.2.2.1 s.2.2.2) Q N k (a, b, c, d) hI hk hN (fun k s n hI hk hc => h k s.1 s.2.1 s.2.2.1 s.2.2.2 n hI hk (fun hk2 a2 b2 c2 d2 hI2 => hc hk2 (a2, b2, c2, d2) hI2))
def wr (m : gM) (c k : Nat) (v : Int32) : gM := g_up m c (upd (m c) k v)
theorem wr_eq (m : gM) (c k : Nat) (v : Int32) : wr m c k v c k = v := by
  simp [wr, g_up, upd]
theorem wr_ne (m : gM) {c k c2 k2 : Nat} (v : Int32) (h : c2 ≠ c ∨ k2 ≠ k) : wr m c k v c2 k2 = m c2 k2 := by
  unfold wr g_up
  by_cases q : c2 = c
  · subst q
    rw [if_pos rfl]
    unfold upd
    rw [if_neg (by omega)]
  · rw [if_neg q]
theorem wr_c (m : gM) {c k c2 : Nat} (v : Int32) (h : c2 ≠ c) : wr m c k v c2 = m c2 := by
  funext k2
  exact wr_ne m v (Or.inl h)
theorem wr_fold (m : gM) (c k : Nat) (v : Int32) : g_up m c (upd (m c) k v) = wr m c k v := rfl
theorem wr_at (m : gM) (c k : Nat) (v : Int32) (c2 k2 : Nat) : wr m c k v c2 k2 = if c2 = c ∧ k2 = k then v else m c2 k2 := by
  by_cases q : c2 = c ∧ k2 = k
  · rw [if_pos q, q.1, q.2, wr_eq]
  · rw [if_neg q, wr_ne m v (by omega)]
theorem iI_z {b : Prop} [Decidable b] : (if b then iI 1 else iI 0) = 0 ∨ (if b then iI 1 else iI 0) = (1 : Int32) := by
  by_cases q : b
  · rw [if_pos q]; exact Or.inr rfl
  · rw [if_neg q]; exact Or.inl rfl
