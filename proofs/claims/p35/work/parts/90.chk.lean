def opOK (fL fM : Option (Int32 × gM)) : Prop := ∃ (k : Int32) (mc2 : gM) (r : Int32) (mm2 : gM), fL = some (k, mc2) ∧ fM = some (r, mm2) ∧ f_X10_thrown mm2 = some k ∧ (k = 0 → mc2 229 0 = r) ∧ RelG mc2 mm2
def thM (mm : gM) (z : Int32) : gM := g_up mm 0 (upd (mm 0) 67 z)
theorem thM_0 (mm : gM) (z : Int32) : thM mm z 0 67 = z := by
  unfold thM
  rw [g_up_at, updA, if_pos rfl]
theorem thM_k (mm : gM) (z : Int32) {k : Nat} (h : k ≠ 67) : thM mm z 0 k = mm 0 k := by
  unfold thM
  rw [g_up_at, updA, if_neg h]
theorem thM_c (mm : gM) (z : Int32) {c : Nat} (h : c ≠ 0) : thM mm z c = mm c := by
  unfold thM
  rw [g_up_ne _ _ h]
theorem thM_R {mc mm : gM} (h : RelG mc mm) (z : Int32) : RelG mc (thM mm z) := RelG_fr h (fun c _ => rfl) (fun c hc _ => thM_c mm z hc) (fun k hk => thM_k mm z hk)
theorem ox_l {α β : Type} (c : Nat) (k : α → Option (Nat ⊕ β)) : ox (some (.inl c)) k = some (.inl c) := by
  unfold ox
  rfl
theorem ox_r {α β : Type} (a : α) (k : α → Option (Nat ⊕ β)) : ox (some (.inr a)) k = k a := by
  unfold ox
  rfl
theorem os_l2 {α ρ β : Type} (a : α) (k : α → Option β) (h : ρ → Option β) : os (some (.inl a)) k h = k a := by
  unfold os
  rfl
theorem os_r2 {α ρ β : Type} (a : ρ) (k : α → Option β) (h : ρ → Option β) : os (some (.inr a)) k h = h a := by
  unfold os
  rfl
theorem a_lst0 (r : Int32) (m : gM) : a_lst 1 229 0 r.toInt64 m = some (g_up m 229 (upd (m 229) 0 r)) := by
  unfold a_lst
  rw [Int32.toInt32_toInt64, if_pos rfl, iL_0, a_stI (by omega) (by omega) (by omega)]
  rfl
theorem fin_thr {mc mm : gM} {fL fM : Option (Int32 × gM)} {z : Int32} (hR : RelG mc mm) (hz : z ≠ 0) (h1 : fL = some (z, mc)) (h2 : ∃ r, fM = some (r, thM mm z)) : opOK fL fM := by
  obtain ⟨r, h2⟩ := h2
  refine ⟨z, mc, r, thM mm z, h1, h2, ?_, fun h => absurd h hz, thM_R hR z⟩
  show some (thM mm z 0 67) = some z
  rw [thM_0]
theorem fin_ret {mc2 mm2 : gM} {fL fM : Option (Int32 × gM)} {r : Int32} (hR : RelG mc2 mm2) (h1 : fL = some (0, g_up mc2 229 (upd (mc2 229) 0 r))) (h2 : fM = some (r, mm2)) (h3 : mm2 0 67 = 0) : opOK fL fM := by
  refine ⟨0, _, r, mm2, h1, h2, ?_, fun _ => ?_, RelG_fr hR (fun c hc => g_up_ne _ _ hc) (fun c _ _ => rfl) (fun k _ => rfl)⟩
  · show some (mm2 0 67) = some 0
    rw [h3]
  · rw [g_up_at, updA, if_pos rfl]
theorem in_yes {p lo hi : Int32} {v a b : Int} (hp : p = iI v) (hlo : lo = iI a) (hhi : hi = iI b) (h1 : -2147483648 ≤ v ∧ v < 2147483648) (h2 : -2147483648 ≤ a ∧ a < 2147483648) (h3 : -2147483648 ≤ b ∧ b < 2147483648) : f_X10_in p lo hi = some (if a ≤ v ∧ v ≤ b then 1 else 0) := by
  subst hp
  subst hlo
  subst hhi
  unfold f_X10_in
  rw [iI_lt h1.1 h1.2 h2.1 h2.2, iI_lt h3.1 h3.2 h1.1 h1.2]
  by_cases c1 : v < a
  · rw [if_pos c1, if_neg (show ¬ (a ≤ v ∧ v ≤ b) by omega)]; rfl
  · rw [if_neg c1]
    by_cases c2 : b < v
    · rw [if_pos c2, if_neg (show ¬ (a ≤ v ∧ v ≤ b) by omega)]; rfl
    · rw [if_neg c2, if_pos (show a ≤ v ∧ v ≤ b by omega)]; rfl
theorem chk_rng (p : Int32) {lo hi : Int32} (a b : Int) (hlo : lo = iI a) (hhi : hi = iI b) (h2 : -2147483648 ≤ a ∧ a < 2147483648) (h3 : -2147483648 ≤ b ∧ b < 2147483648) : (f_X9_checkRange p lo hi = some (.inr ()) ∧ f_X10_in p lo hi = some 1 ∧ rg p a b) ∨ (f_X9_checkRange p lo hi = some (.inl 2) ∧ f_X10_in p lo hi = some 0) := by
  obtain ⟨v, hp, h1⟩ := iI_ex p
  have hin := in_yes hp hlo hhi h1 h2 h3
  have hck : f_X9_checkRange p lo hi = if a ≤ v ∧ v ≤ b then some (.inr ()) else some (.inl 2) := by
    rw [hp, hlo, hhi]
    unfold f_X9_checkRange
    rw [iI_lt h1.1 h1.2 h2.1 h2.2, iI_le h1.1 h1.2 h3.1 h3.2]
    by_cases c1 : v < a
    · rw [if_pos c1, if_neg (show ¬ (a ≤ v ∧ v ≤ b) by omega)]
    · rw [if_neg c1]
      by_cases c2 : v ≤ b
      · rw [if_pos c2, if_pos (show a ≤ v ∧ v ≤ b by omega)]
      · rw [if_neg c2, if_neg (show ¬ (a ≤ v ∧ v ≤ b) by omega)]
  by_cases c : a ≤ v ∧ v ≤ b
  · rw [if_pos c] at hin hck
    exact Or.inl ⟨hck, hin, by rw [hp]; exact rg_iI c.1 c.2 (by omega) (by omega)⟩
  · rw [if_neg c] at hin hck
    exact Or.inr ⟨hck, hin⟩
theorem chk_idx (p : Int32) {ct hi : Int32} (n : Nat) (hct : ct = iI (n : Nat)) (hhi : hi = iI ((n : Nat) - 1)) (hn : n ≤ 100000) : (∃ v : Nat, v < n ∧ p = iI (v : Nat) ∧ f_X9_checkIndex p ct = some (.inr ()) ∧ f_X10_in p 0 hi = some 1) ∨ (f_X9_checkIndex p ct = some (.inl 1) ∧ f_X10_in p 0 hi = some 0) := by
  obtain ⟨v, hp, h1⟩ := iI_ex p
  have hin := in_yes (lo := 0) (a := 0) hp rfl hhi h1 (by omega) (by omega)
  have hck : f_X9_checkIndex p ct = if 0 ≤ v ∧ v < n then some (.inr ()) else some (.inl 1) := by
    rw [hp, hct]
    unfold f_X9_checkIndex
    rw [iL_0, iI_lt h1.1 h1.2 (by omega) (by omega), iI_lt h1.1 h1.2 (by omega) (by omega)]
    by_cases c1 : v < 0
    · rw [if_pos c1, if_neg (by omega)]
    · rw [if_neg c1]
      by_cases c2 : v < n
      · rw [if_pos c2, if_pos (by omega)]
      · rw [if_neg c2, if_neg (by omega)]
  by_cases c : 0 ≤ v ∧ v < n
  · rw [if_pos c] at hck
    rw [if_pos (by omega)] at hin
    refine Or.inl ⟨v.toNat, by omega, ?_, hck, hin⟩
    rw [hp, Int.toNat_of_nonneg c.1]
  · rw [if_neg c] at hck
    rw [if_neg (by omega)] at hin
    exact Or.inr ⟨hck, hin⟩
theorem chk_firm (p : Int32) : (∃ v : Nat, v < 6 ∧ p = iI (v : Nat) ∧ f_X9_checkIndex p 6 = some (.inr ()) ∧ f_X10_isFirm p = some 1) ∨ (f_X9_checkIndex p 6 = some (.inl 1) ∧ f_X10_isFirm p = some 0) := by
  unfold f_X10_isFirm
  rcases chk_idx p (ct := 6) (hi := 5) 6 rfl rfl (by omega) with ⟨v, a, b, c, e⟩ | ⟨c, e⟩
  · exact Or.inl ⟨v, a, b, c, by rw [e]; rfl⟩
  · exact Or.inr ⟨c, by rw [e]; rfl⟩
theorem chk_zone (p : Int32) : (∃ v : Nat, v < 3 ∧ p = iI (v : Nat) ∧ f_X9_checkIndex p 3 = some (.inr ()) ∧ f_X10_isZone p = some 1) ∨ (f_X9_checkIndex p 3 = some (.inl 1) ∧ f_X10_isZone p = some 0) := by
  unfold f_X10_isZone
  rcases chk_idx p (ct := 3) (hi := 2) 3 rfl rfl (by omega) with ⟨v, a, b, c, e⟩ | ⟨c, e⟩
  · exact Or.inl ⟨v, a, b, c, by rw [e]; rfl⟩
  · exact Or.inr ⟨c, by rw [e]; rfl⟩
theorem chk_hour (p : Int32) : (∃ v : Nat, v < 4 ∧ p = iI (v : Nat) ∧ f_X9_checkIndex p 4 = some (.inr ()) ∧ f_X10_isHour p = some 1) ∨ (f_X9_checkIndex p 4 = some (.inl 1) ∧ f_X10_isHour p = some 0) := by
  unfold f_X10_isHour
  rcases chk_idx p (ct := 4) (hi := 3) 4 rfl rfl (by omega) with ⟨v, a, b, c, e⟩ | ⟨c, e⟩
  · exact Or.inl ⟨v, a, b, c, by rw [e]; rfl⟩
  · exact Or.inr ⟨c, by rw [e]; rfl⟩
theorem chk_line (p : Int32) : (∃ v : Nat, v < 3 ∧ p = iI (v : Nat) ∧ f_X9_checkIndex p 3 = some (.inr ()) ∧ f_X10_in p 0 2 = some 1) ∨ (f_X9_checkIndex p 3 = some (.inl 1) ∧ f_X10_in p 0 2 = some 0) := chk_idx p (ct := 3) (hi := 2) 3 rfl rfl (by omega)
theorem chk_cnt (p : Int32) {x y : Int32} {n : Nat} (hx : x = iI (n : Nat)) (hy : y = iI (n : Nat)) (hn : n ≤ 1000) : (∃ v : Nat, v < n ∧ p = iI (v : Nat) ∧ f_X9_checkIndex p x = some (.inr ()) ∧ f_X10_in p 0 (y - 1) = some 1) ∨ (f_X9_checkIndex p x = some (.inl 1) ∧ f_X10_in p 0 (y - 1) = some 0) := chk_idx p n hx (by rw [hy, iL_1, iI_sub]) (by omega)
theorem chk_closed (p : Int32) {mc mm : gM} {d : Nat} (hx : mc 0 8 = iI (d : Nat)) (hy : mm 0 0 = iI (d : Nat)) (hn : d ≤ 1000) : (∃ v : Nat, v < d ∧ p = iI (v : Nat) ∧ f_X9_checkIndex p (mc 0 8) = some (.inr ()) ∧ f_X10_isClosed p mm = some 1) ∨ (f_X9_checkIndex p (mc 0 8) = some (.inl 1) ∧ f_X10_isClosed p mm = some 0) := by
  unfold f_X10_isClosed
  rcases chk_cnt p hx hy hn with ⟨v, a, b, c, e⟩ | ⟨c, e⟩
  · exact Or.inl ⟨v, a, b, c, by rw [e]; rfl⟩
  · exact Or.inr ⟨c, by rw [e]; rfl⟩
theorem thr_M {Z : Option Int32} {z : Int32} {me : gM} {A : gM → Option (Int32 × gM)} (hz : Z = some z) (h0 : ¬ z ≤ 0) : ∃ r, (ob Z fun (z3 : Int32) => ob (some (g_up me 0 (upd (me 0) 67 z3))) fun m10 => if (m10 0 67) ≤ 0 then A m10 else some (0, m10)) = some (r, thM me z) := by
  refine ⟨0, ?_⟩
  have h := thM_0 me z
  unfold thM at h
  rw [hz, ob_some, ob_some, h, if_neg h0]
  rfl
theorem go_M {Z : Option Int32} {me : gM} {A : gM → Option (Int32 × gM)} (hz : Z = some 0) : (ob Z fun (z3 : Int32) => ob (some (g_up me 0 (upd (me 0) 67 z3))) fun m10 => if (m10 0 67) ≤ 0 then A m10 else some (0, m10)) = A (thM me 0) := by
  have h := thM_0 me 0
  unfold thM at h
  rw [hz, ob_some, ob_some, h, if_pos (by decide)]
  rfl
theorem thr_M2 {Z : Option Int32} {z : Int32} {me : gM} {Y : gM → Option gM} {A : gM → Option (Int32 × gM)} (hz : Z = some z) (h0 : ¬ z ≤ 0) (h1 : z ≠ 0) : ∃ r, (ob Z fun (z3 : Int32) => ob (some (g_up me 0 (upd (me 0) 67 z3))) fun m12 => ob (if (m12 0 67) = 0 then Y m12 else some m12) fun (m14 : gM) => if (m14 0 67) ≤ 0 then A m14 else some (0, m14)) = some (r, thM me z) := by
  refine ⟨0, ?_⟩
  have h := thM_0 me z
  unfold thM at h
  rw [hz, ob_some, ob_some, h, if_neg h1, ob_some, h, if_neg h0]
  rfl
theorem thM_2 (me : gM) (y z : Int32) : g_up (thM me y) 0 (upd (thM me y 0) 67 z) = thM me z := by
  unfold thM
  rw [g_up2]
  congr 1
  funext k
  rw [updA, updA, g_up_at, updA]
  by_cases q : k = 67
  · rw [if_pos q, if_pos q]
  · rw [if_neg q, if_neg q, if_neg q]
theorem go_M2 {Z : Option Int32} {w z : Int32} {me : gM} {W : gM → Option Int32} {V : gM → Int32 → Option Int32} {A : gM → Option (Int32 × gM)} (hz : Z = some 0) (hW : W (thM me 0) = some w) (hV : V (thM me 0) w = some z) : (ob Z fun (z3 : Int32) => ob (some (g_up me 0 (upd (me 0) 67 z3))) fun m12 => ob (if (m12 0 67) = 0 then (ob (W m12) fun v15 => ob (V m12 v15) fun (z17 : Int32) => ob (some (g_up m12 0 (upd (m12 0) 67 z17))) fun m20 => some m20) else some m12) fun (m14 : gM) => if (m14 0 67) ≤ 0 then A m14 else some (0, m14)) = if z ≤ 0 then A (thM me z) else some (0, thM me z) := by
  have h := thM_0 me 0
  have e : g_up me 0 (upd (me 0) 67 0) = thM me 0 := rfl
  rw [hz, ob_some, ob_some, e, h, if_pos rfl, hW, ob_some, hV, ob_some, ob_some, ob_some, thM_2, thM_0]
