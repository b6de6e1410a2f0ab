def RelC (mc : gM) : Prop := ∃ mm, RelG mc mm
theorem RelC_fr {mc mc2 : gM} (h : RelC mc) (hc : ∀ c, c ≠ 229 → mc2 c = mc c) : RelC mc2 := by
  obtain ⟨mm, h⟩ := h
  exact ⟨mm, RelG_fr h hc (fun _ _ _ => rfl) (fun _ _ => rfl)⟩
theorem br_w {X : Option (Nat ⊕ (Int32 × gM))} {hx : Nat → Option (Int32 × gM)} {k : Int32} {mc2 mm2 : gM} (h : os X hx (fun w1 => ob (some w1.1) fun r3 => ob (some w1.2) fun m2 => ob (a_lst 1 229 0 ((r3).toInt64) m2) fun m4 => some (0, m4)) = some (k, mc2)) (hR : RelG mc2 mm2) : ∃ v, X = some v ∧ ∀ r m2, v = .inr (r, m2) → RelC m2 := by
  obtain ⟨v, hv, h1, h2⟩ := os_inv h
  refine ⟨v, hv, fun r m2 e => ?_⟩
  have h3 := h2 (r, m2) e
  simp only [ob_sm, a_lst0] at h3
  have h4 : g_up m2 229 (upd (m2 229) 0 r) = mc2 := congrArg Prod.snd (Option.some.inj h3)
  subst h4
  exact RelC_fr ⟨mm2, hR⟩ (fun c hc => (g_up_ne _ _ hc).symm)
theorem br_v {X : Option (Nat ⊕ gM)} {hx : Nat → Option (Int32 × gM)} {k : Int32} {mc2 mm2 : gM} (h : os X hx (fun w1 => ob (some w1) fun m2 => some (0, m2)) = some (k, mc2)) (hR : RelG mc2 mm2) : ∃ v, X = some v ∧ ∀ m2, v = .inr m2 → RelC m2 := by
  obtain ⟨v, hv, h1, h2⟩ := os_inv h
  refine ⟨v, hv, fun m2 e => ?_⟩
  have h3 := h2 m2 e
  try simp only [ob_sm] at h3
  have h4 : m2 = mc2 := congrArg Prod.snd (Option.some.inj h3)
  subst h4
  exact ⟨mm2, hR⟩
theorem br_deposit {mc : gM} (h : RelC mc) {a1 a2 : Int32} : ∃ v, f_X9_deposit a1 a2 mc = some v ∧ ∀ r m2, v = .inr (r, m2) → RelC m2 := by
  obtain ⟨mm, hR⟩ := h
  obtain ⟨k, mc2, r, mm2, h1, -, -, -, h5⟩ := op_deposit mc mm a1 a2  hR
  unfold f_Q_deposit at h1
  exact br_w h1 h5
theorem br_setLimit {mc : gM} (h : RelC mc) {a1 a2 : Int32} : ∃ v, f_X9_setLimit a1 a2 mc = some v ∧ ∀ r m2, v = .inr (r, m2) → RelC m2 := by
  obtain ⟨mm, hR⟩ := h
  obtain ⟨k, mc2, r, mm2, h1, -, -, -, h5⟩ := op_setLimit mc mm a1 a2  hR
  unfold f_Q_setLimit at h1
  exact br_w h1 h5
theorem br_bid {mc : gM} (h : RelC mc) {a1 a2 a3 a4 a5 a6 : Int32} (hb : a4 = 0 ∨ a4 = 1) : ∃ v, f_X9_bid a1 a2 a3 a4 a5 a6 mc = some v ∧ ∀ r m2, v = .inr (r, m2) → RelC m2 := by
  obtain ⟨mm, hR⟩ := h
  obtain ⟨k, mc2, r, mm2, h1, -, -, -, h5⟩ := op_bid mc mm a1 a2 a3 a4 a5 a6 hb hR
  unfold f_Q_bid at h1
  exact br_w h1 h5
theorem br_block {mc : gM} (h : RelC mc) {a1 a2 a3 a4 a5 a6 : Int32} (hb : a4 = 0 ∨ a4 = 1) : ∃ v, f_X9_block a1 a2 a3 a4 a5 a6 mc = some v ∧ ∀ r m2, v = .inr (r, m2) → RelC m2 := by
  obtain ⟨mm, hR⟩ := h
  obtain ⟨k, mc2, r, mm2, h1, -, -, -, h5⟩ := op_block mc mm a1 a2 a3 a4 a5 a6 hb hR
  unfold f_Q_block at h1
  exact br_w h1 h5
theorem br_ask {mc : gM} (h : RelC mc) {a1 a2 a3 a4 a5 : Int32} : ∃ v, f_X9_ask a1 a2 a3 a4 a5 mc = some v ∧ ∀ r m2, v = .inr (r, m2) → RelC m2 := by
  obtain ⟨mm, hR⟩ := h
  obtain ⟨k, mc2, r, mm2, h1, -, -, -, h5⟩ := op_ask mc mm a1 a2 a3 a4 a5  hR
  unfold f_Q_ask at h1
  exact br_w h1 h5
theorem br_clear {mc : gM} (h : RelC mc) : ∃ v, f_X9_clear  mc = some v ∧ ∀ r m2, v = .inr (r, m2) → RelC m2 := by
  obtain ⟨mm, hR⟩ := h
  obtain ⟨k, mc2, r, mm2, h1, -, -, -, h5⟩ := op_clear mc mm   hR
  unfold f_Q_clear at h1
  exact br_w h1 h5
theorem br_offer {mc : gM} (h : RelC mc) {a1 a2 a3 a4 a5 a6 : Int32} (hb : a4 = 0 ∨ a4 = 1) : ∃ v, f_X9_offer a1 a2 a3 a4 a5 a6 mc = some v ∧ ∀ r m2, v = .inr (r, m2) → RelC m2 := by
  obtain ⟨mm, hR⟩ := h
  obtain ⟨k, mc2, r, mm2, h1, -, -, -, h5⟩ := op_offer mc mm a1 a2 a3 a4 a5 a6 hb hR
  unfold f_Q_offer at h1
  exact br_w h1 h5
theorem br_aid {mc : gM} (h : RelC mc) {a1 a2 a3 a4 a5 : Int32} (hb : a3 = 0 ∨ a3 = 1) : ∃ v, f_X9_aid a1 a2 a3 a4 a5 mc = some v ∧ ∀ r m2, v = .inr (r, m2) → RelC m2 := by
  obtain ⟨mm, hR⟩ := h
  obtain ⟨k, mc2, r, mm2, h1, -, -, -, h5⟩ := op_aid mc mm a1 a2 a3 a4 a5 hb hR
  unfold f_Q_aid at h1
  exact br_w h1 h5
theorem br_close {mc : gM} (h : RelC mc) : ∃ v, f_X9_close  mc = some v ∧ ∀ r m2, v = .inr (r, m2) → RelC m2 := by
  obtain ⟨mm, hR⟩ := h
  obtain ⟨k, mc2, r, mm2, h1, -, -, -, h5⟩ := op_close mc mm   hR
  unfold f_Q_close at h1
  exact br_w h1 h5
theorem br_read {mc : gM} (h : RelC mc) {a1 a2 a3 a4 a5 : Int32} : ∃ v, f_X9_read a1 a2 a3 a4 a5 mc = some v ∧ ∀ r m2, v = .inr (r, m2) → RelC m2 := by
  obtain ⟨mm, hR⟩ := h
  obtain ⟨k, mc2, r, mm2, h1, -, -, -, h5⟩ := op_read mc mm a1 a2 a3 a4 a5  hR
  unfold f_Q_read at h1
  exact br_w h1 h5
theorem br_run {mc : gM} (h : RelC mc) {a1 : Int32} : ∃ v, f_X9_run a1 mc = some v ∧ ∀ r m2, v = .inr (r, m2) → RelC m2 := by
  obtain ⟨mm, hR⟩ := h
  obtain ⟨k, mc2, r, mm2, h1, -, -, -, h5⟩ := op_run mc mm a1  hR
  unfold f_Q_run at h1
  exact br_w h1 h5
theorem br_link {mc : gM} (h : RelC mc) {a1 a2 a3 : Int32} : ∃ v, f_X9_link a1 a2 a3 mc = some v ∧ ∀ m2, v = .inr m2 → RelC m2 := by
  obtain ⟨mm, hR⟩ := h
  obtain ⟨k, mc2, mm2, h1, -, -, h5⟩ := op_link mc mm a1 a2 a3 hR
  unfold f_Q_link at h1
  exact br_v h1 h5
theorem ci_ok {v n : Nat} {ct : Int32} (hct : ct = iI (n : Nat)) (h : v < n) (hn : n ≤ 100000) : f_X9_checkIndex (iI (v : Nat)) ct = some (.inr ()) := by
  unfold f_X9_checkIndex
  rw [hct, iL_0, iI_lt (by omega) (by omega) (by omega) (by omega), iI_lt (by omega) (by omega) (by omega) (by omega), if_neg (by omega), if_pos (by omega)]
theorem cr_ok {v a b : Int} {lo hi : Int32} (hlo : lo = iI a) (hhi : hi = iI b) (h1 : a ≤ v) (h2 : v ≤ b) (ha : -1000000000 ≤ a) (hb : b ≤ 1000000000) : f_X9_checkRange (iI v) lo hi = some (.inr ()) := by
  unfold f_X9_checkRange
  rw [hlo, hhi, iI_lt (by omega) (by omega) (by omega) (by omega), iI_le (by omega) (by omega) (by omega) (by omega), if_neg (by omega), if_pos (by omega)]
theorem cs1 : f_X9_checkState 1 = some (.inr ()) := if_neg (by decide)
theorem cs0 : f_X9_checkState 0 = some (.inl 3) := if_pos rfl
theorem ldN {n c v : Nat} {m : gM} (h : v < n) (hn : n ≤ 100000) : a_ld n c (iI (v : Nat)) m = some (m c v) := by
  rw [a_ldI (by omega) (by omega) hn, Int.toNat_natCast]
theorem stN {n c v : Nat} {x : Int32} {m : gM} (h : v < n) (hn : n ≤ 100000) : a_st n c (iI (v : Nat)) x m = some (g_up m c (upd (m c) v x)) := by
  rw [a_stI (by omega) (by omega) hn, Int.toNat_natCast]
theorem rfN {n b w v : Nat} (h : v < n) (hn : n ≤ 100000) : a_rf n b w (iI (v : Nat)) = some (b + w * v) := by
  rw [a_rfI (by omega) (by omega) hn, Int.toNat_natCast]
theorem and_nn (x : Int32) : 0 ≤ (x &&& 2147483647).toInt := by
  have h1 : (x &&& 2147483647).toBitVec.toNat = x.toBitVec.toNat &&& 2147483647 := by
    rw [Int32.toBitVec_and, BitVec.toNat_and]
    rfl
  have h2 : x.toBitVec.toNat &&& 2147483647 ≤ 2147483647 := Nat.and_le_right
  have h3 : (x &&& 2147483647).toBitVec.toInt = ((x.toBitVec.toNat &&& 2147483647 : Nat) : Int) := by
    rw [← h1]
    exact BitVec.toInt_eq_toNat_of_lt (by rw [h1]; omega)
  show 0 ≤ (x &&& 2147483647).toBitVec.toInt
  rw [h3]
  omega
theorem low_ok (x : Int32) {n : Nat} {y : Int32} (hy : y = iI (n : Nat)) (h1 : 1 ≤ n) (h2 : n ≤ 1000) : ∃ r : Nat, r < n ∧ f_L_low x y = some (iI (r : Nat)) := by
  subst hy
  have h0 := and_nn x
  unfold f_L_low a_rm
  generalize x &&& 2147483647 = z at h0 ⊢
  obtain ⟨a, rfl, ha1, ha2⟩ := iI_ex z
  rw [iI_toInt ha1 ha2] at h0
  have hne : ¬ iI (n : Nat) = (0 : Int32) := by rw [iL_0, iI_eqP (by omega) (by omega) (by omega) (by omega)]; omega
  have hdv : iI a / iI ((n : Nat) : Int) = iI (a / n) := by
    rw [← Int32.toInt_inj, Int32.toInt_div, iI_toInt ha1 ha2, iI_toInt (by omega) (by omega)]
    have q0 : 0 ≤ a / (n : Int) := Int.ediv_nonneg h0 (by omega)
    have q1 : a / (n : Int) ≤ a := Int.ediv_le_self _ h0
    have e1 : a.tdiv n = a / n := Int.tdiv_eq_ediv_of_nonneg h0
    rw [e1, iI_toInt (by omega) (by omega), Int.bmod_eq_of_le (by omega) (by omega)]
  refine ⟨(a % n).toNat, ?_, ?_⟩
  · have := Int.emod_lt_of_pos a (show (0 : Int) < n by omega)
    have := Int.emod_nonneg a (show (n : Int) ≠ 0 by omega)
    omega
  · rw [if_neg hne, ob_some, hdv, iI_mul, iI_sub]
    have := Int.emod_nonneg a (show (n : Int) ≠ 0 by omega)
    rw [Int.toNat_of_nonneg this]
    congr 1
    congr 1
    have := Int.emod_def a n
    rw [this, Int.mul_comm]
