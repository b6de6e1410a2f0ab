def zsF (r g : Int32) : Int32 := if 0 ≤ r then (if r ≤ 0 then 0 else if g ≤ 0 then 0 else 1) else (if 0 ≤ g then 0 else 1)
def b3 (r pr : Int32) (g p : Nat → Int32) : Nat → Int32
  | 0 => 0
  | z + 1 => b3 r pr g p z + g z * (if zsF r (g z) = 0 then p z else pr)
theorem b3_0 (pr pr2 : Int32) (g p : Nat → Int32) : ∀ n, b3 0 pr g p n = b3 0 pr2 g p n
  | 0 => rfl
  | n + 1 => by
    show b3 0 pr g p n + _ = b3 0 pr2 g p n + _
    have h : ∀ x, zsF 0 x = 0 := fun x => by
      unfold zsF
      rw [if_pos (by decide), if_pos (by decide)]
    rw [b3_0 pr pr2 g p n, h, if_pos rfl, if_pos rfl]
theorem sp_L28 {j f h : Nat} {m : gM} {r pr : Int32} {g p : Nat → Int32} (hf : f < 6) (hh : h < 4) (hg : ∀ z, z < 3 → m (69 + 16 * j + 4) (12 * f + 4 * z + h) = g z) (hp : ∀ z, z < 3 → m (69 + 16 * j + 1) (4 * z + h) = p z) : T (f_X5_balanceOf_L28 (69 + 16 * j) m (iI (f : Nat)) (iI (h : Nat)) r pr f_fuel 0 0) (fun t => t.1 = b3 r pr g p 3) := by
  refine T_run2 (f_X5_balanceOf_L28 (69 + 16 * j) m (iI (f : Nat)) (iI (h : Nat)) r pr) (fun z y w => y = b3 r pr g p z ∧ w = iI (z : Nat)) _ 3 0 _ _ ⟨rfl, rfl⟩ (Nat.zero_le _) (by omega) ?_
  intro z y w n hI hz hcont
  obtain ⟨e1, e2⟩ := hI
  subst e1
  subst e2
  unfold f_X5_balanceOf_L28
  have h3 : (3 ≤ iI (z : Nat)) = ((3 : Int) ≤ (z : Nat)) := by rw [iL_3, iI_leP (by omega) (by omega) (by omega) (by omega)]
  by_cases c : (3 : Int) ≤ z
  · rw [if_pos (by rw [h3]; exact c)]
    have e : z = 3 := by omega
    subst e
    exact T_some rfl
  · rw [if_neg (by rw [h3]; exact c), sp_place, ob_some, a_ldI (by omega) (by omega) (by omega), ob_some, Int.toNat_natCast, hg z (by omega), sp_spot]
    have ez : ∀ {α : Type} (K : Int32 → Option α), ob (if 0 ≤ r then (if r ≤ 0 then some 0 else if g z ≤ 0 then some 0 else some 1) else (if g z < 0 then some 1 else if r ≤ 0 then some 0 else if g z ≤ 0 then some 0 else some 1)) K = K (zsF r (g z)) := by
      intro α K
      unfold zsF
      by_cases q : 0 ≤ r
      · rw [if_pos q, if_pos q]
        by_cases q2 : r ≤ 0
        · rw [if_pos q2, if_pos q2, ob_some]
        · rw [if_neg q2, if_neg q2]
          by_cases q3 : g z ≤ 0
          · rw [if_pos q3, if_pos q3, ob_some]
          · rw [if_neg q3, if_neg q3, ob_some]
      · rw [if_neg q, if_neg q]
        have q2 : r ≤ 0 := by
          rw [le0']
          have : ¬ (0 : Int32).toInt ≤ r.toInt := fun h => q (Int32.le_iff_toInt_le.2 h)
          have e : (0 : Int32).toInt = 0 := rfl
          omega
        by_cases q3 : g z < 0
        · rw [if_pos q3, if_neg (fun h => i32_not_le.2 q3 h), ob_some]
        · have q4 : 0 ≤ g z := by
            by_cases u : 0 ≤ g z
            · exact u
            · exact absurd (i32_not_le.1 u) q3
          rw [if_neg q3, if_pos q2, if_pos q4, ob_some]
    rw [ez]
    by_cases q : zsF r (g z) = 0
    · rw [if_pos q]
      simp only [ob_sm]
      rw [a_ldI (by omega) (by omega) (by omega), show (((z : Nat) : Int) * 4 + (h : Nat)).toNat = 4 * z + h by omega, hp z (by omega), ob_some, ob_some]
      exact hcont (by omega) _ _ ⟨by show _ = b3 r pr g p z + g z * _; rw [if_pos q], iI_succ z⟩
    · rw [if_neg q]
      simp only [ob_sm]
      exact hcont (by omega) _ _ ⟨by show _ = b3 r pr g p z + g z * _; rw [if_neg q], iI_succ z⟩
theorem sp_L22 {j f h : Nat} {m : gM} {r pr : Int32} {g p : Nat → Int32} (hj : j < 10) (hf : f < 6) (hh : h < 4) (hg : ∀ z, z < 3 → gpM m (72 * j + (12 * f + 4 * z + h)) = g z) (hp : ∀ z, z < 3 → m 41 (12 * j + (4 * z + h)) = p z) : T (f_X10_balances_L22 m (iI (j : Nat)) (iI (f : Nat)) (iI (h : Nat)) pr r f_fuel 0 0) (fun t => t.1 = b3 r pr g p 3) := by
  refine T_run2 (f_X10_balances_L22 m (iI (j : Nat)) (iI (f : Nat)) (iI (h : Nat)) pr r) (fun z y w => y = b3 r pr g p z ∧ w = iI (z : Nat)) _ 3 0 _ _ ⟨rfl, rfl⟩ (Nat.zero_le _) (by omega) ?_
  intro z y w n hI hz hcont
  obtain ⟨e1, e2⟩ := hI
  subst e1
  subst e2
  unfold f_X10_balances_L22
  have h3 : (3 ≤ iI (z : Nat)) = ((3 : Int) ≤ (z : Nat)) := by rw [iL_3, iI_leP (by omega) (by omega) (by omega) (by omega)]
  by_cases c : (3 : Int) ≤ z
  · rw [if_pos (by rw [h3]; exact c)]
    have e : z = 3 := by omega
    subst e
    exact T_some rfl
  · have e41 : (12 : Int32) * iI (j : Nat) + 4 * iI (z : Nat) + iI (h : Nat) = iI ((12 * j + (4 * z + h) : Nat) : Int) := by
      rw [iL_12, iL_4, iI_mul, iI_mul, iI_add, iI_add]
      congr 1
      omega
    rw [if_neg (by rw [h3]; exact c), sp_gapOfM hj hf (show z < 3 by omega) hh, ob_some, hg z (by omega), e41, a_ldI (by omega) (by omega) (by omega), Int.toNat_natCast, hp z (by omega)]
    have ez : ∀ {α : Type} (K : Int32 → Option α), ob (if 0 ≤ r then (if r ≤ 0 then some 0 else if g z ≤ 0 then some 0 else some 1) else (if 0 ≤ g z then some 0 else some 1)) K = K (zsF r (g z)) := by
      intro α K
      unfold zsF
      by_cases q : 0 ≤ r
      · rw [if_pos q, if_pos q]
        by_cases q2 : r ≤ 0
        · rw [if_pos q2, if_pos q2, ob_some]
        · rw [if_neg q2, if_neg q2]
          by_cases q3 : g z ≤ 0
          · rw [if_pos q3, if_pos q3, ob_some]
          · rw [if_neg q3, if_neg q3, ob_some]
      · rw [if_neg q, if_neg q]
        by_cases q3 : 0 ≤ g z
        · rw [if_pos q3, if_pos q3, ob_some]
        · rw [if_neg q3, if_neg q3, ob_some]
    rw [ez]
    by_cases q : zsF r (g z) = 0
    · rw [if_pos q]
      simp only [ob_sm]
      exact hcont (by omega) _ _ ⟨by show _ = b3 r pr g p z + g z * _; rw [if_pos q], iI_succ z⟩
    · rw [if_neg q]
      simp only [ob_sm]
      exact hcont (by omega) _ _ ⟨by show _ = b3 r pr g p z + g z * _; rw [if_neg q], iI_succ z⟩
theorem i32_dist (a b : Int) (c : Int32) : iI a * c + iI b * c = iI (a + b) * c := by
  obtain ⟨x, ex, _⟩ := iI_ex c
  subst ex
  rw [iI_mul, iI_mul, iI_mul, iI_add, Int.add_mul]
theorem sp_L120 {j na : Nat} {m : gM} {p r pr y : Int32} {u : Nat → Int} (hj : j < 10) (hn : na ≤ 30) (h34 : m 34 j = iI (na : Nat)) (hu : ∀ k, k < na → (if m 35 (30 * j + k) = p then m 40 (30 * j + k) else 0) = iI (u k)) : T (f_X10_balances_L120 m (iI (j : Nat)) p pr r f_fuel y (iI ((30 * j : Nat) : Int))) (fun t => t.1 = y + iI (if 0 ≤ r then -(isum na u) else isum na u) * pr) := by
  refine T_run2 (f_X10_balances_L120 m (iI (j : Nat)) p pr r) (fun k x w => x = y + iI (if 0 ≤ r then -(isum k u) else isum k u) * pr ∧ w = iI ((30 * j + k : Nat) : Int)) _ na 0 _ _ ⟨?_, rfl⟩ (Nat.zero_le _) (by omega) ?_
  · have e : (if 0 ≤ r then -(isum 0 u) else isum 0 u) = 0 := by
      by_cases q : 0 ≤ r
      · rw [if_pos q]; rfl
      · rw [if_neg q]; rfl
    rw [e, ← iL_0, Int32.zero_mul, Int32.add_zero]
  · intro k x w n hI hk hcont
    obtain ⟨e1, e2⟩ := hI
    subst e1
    subst e2
    unfold f_X10_balances_L120
    rw [a_ldI (by omega) (by omega) (by omega), ob_some, Int.toNat_natCast, h34, iL_30, iI_mul, iI_add, iI_le (by omega) (by omega) (by omega) (by omega)]
    by_cases c : (30 : Int) * (j : Nat) + (na : Nat) ≤ ((30 * j + k : Nat) : Int)
    · rw [if_pos c]
      have e : k = na := by omega
      subst e
      exact T_some rfl
    · rw [if_neg c, a_ldI (by omega) (by omega) (by omega), a_ldI (by omega) (by omega) (by omega), Int.toNat_natCast, ob_some]
      have ez : ∀ {α : Type} (K : Int32 → Option α), ob (if m 35 (30 * j + k) = p then ob (some (m 40 (30 * j + k))) (fun v30 => some v30) else some 0) K = K (iI (u k)) := by
        intro α K
        rw [← hu k (by omega)]
        by_cases q : m 35 (30 * j + k) = p
        · rw [if_pos q, if_pos q, ob_some, ob_some]
        · rw [if_neg q, if_neg q, ob_some]
      rw [ez]
      by_cases q : 0 ≤ r
      · rw [if_pos q, if_pos q, ob_some, ob_some, Int32.add_assoc, iI_neg, i32_dist]
        refine hcont (by omega) _ _ ⟨?_, iI_succ (30 * j + k)⟩
        rw [if_pos q]
        congr 3
        show -(isum k u) + -(u k) = -(isum k u + u k)
        omega
      · rw [if_neg q, if_neg q, ob_some, ob_some, Int32.add_assoc, i32_dist]
        exact hcont (by omega) _ _ ⟨by rw [if_neg q]; rfl, iI_succ (30 * j + k)⟩
theorem sim_balance {j na f h : Nat} {MD : List Nat} {mc mm : gM} (hB : bH j na MD mc mm) (hf : f < 6) (hh : h < 4) : ∃ (v : Int32) (row : Nat → Int32), f_X5_balanceOf (69 + 16 * j) (iI (f : Nat)) (iI (h : Nat)) mc = some v ∧ f_X10_balances (iI (j : Nat)) (iI (f : Nat)) (iI (h : Nat)) mm = some (v, g_up mm 40 row) := by
  obtain ⟨hj, hR, hP, hg, hgr⟩ := id hB
  obtain ⟨v, row, ug, s1, s2, s3, s4, s5⟩ := sim_price hB hh (gap := gA (fun i => gpM mm (72 * j + i)) h 6) rfl
  have hgc := sp_gapC (o := 69 + 16 * j) (m := mc) (g := fun i => gpM mm (72 * j + i)) hg hh
  generalize hgap : gA (fun i => gpM mm (72 * j + i)) h 6 = gap at *
  have hgm : gpM (g_up mm 40 row) = gpM mm := by
    funext i
    unfold gpM
    rw [g_up_ne _ _ (by decide), g_up_ne _ _ (by decide), g_up_ne _ _ (by decide)]
  have hin : f_X10_gapIn (iI (j : Nat)) (iI (h : Nat)) (g_up mm 40 row) = some gap := by
    rw [← hgap]
    exact sp_gapMM hj (fun i _ => by rw [hgm]) hh
  have hna := hR.2.2.1
  obtain ⟨t27, g27, w1⟩ := sp_L28 (j := j) (f := f) (h := h) (m := mc) (r := gap) (pr := if gap = 0 then 0 else v) (g := fun z => gpM mm (72 * j + (12 * f + 4 * z + h))) (p := fun z => mm 41 (12 * j + (4 * z + h))) hf hh (fun z hz => hg _ (by omega)) (fun z hz => hP _ (by omega))
  obtain ⟨y7, y8⟩ := t27
  have w1 : y7 = _ := w1
  obtain ⟨t35, g35, w2⟩ := sp_L22 (j := j) (f := f) (h := h) (m := g_up mm 40 row) (r := gap) (pr := if gap = 0 then -1 else v) (g := fun z => gpM mm (72 * j + (12 * f + 4 * z + h))) (p := fun z => mm 41 (12 * j + (4 * z + h))) hj hf hh (fun z hz => by rw [hgm]) (fun z hz => by rw [g_up_ne _ _ (by decide)])
  obtain ⟨z7, z8⟩ := t35
  have w2 : z7 = _ := w2
  obtain ⟨t34, g34, w3⟩ := sp_L120 (j := j) (na := na) (m := g_up mm 40 row) (p := iI (f : Nat)) (r := gap) (pr := if gap = 0 then -1 else v) (y := z7) (u := usF (mc (69 + 16 * j + 7 + 1)) ug (iI (f : Nat))) hj hna (by rw [g_up_ne _ _ (by decide)]; exact hR.2.1) (fun k hk => by
    rw [g_up_ne _ _ (by decide), g_up_at, s3 k hk, ← (hR.2.2.2.2 k hk).1.1]
    unfold usF
    by_cases q : mc (69 + 16 * j + 7 + 1) k = iI (f : Nat)
    · rw [if_pos q, if_pos q]
    · rw [if_neg q, if_neg q]; rfl)
  obtain ⟨y23, y24⟩ := t34
  have w3 : y23 = _ := w3
  have e7 : z7 = y7 := by
    rw [w1, w2]
    by_cases q : gap = 0
    · rw [q]; exact b3_0 _ _ _ _ 3
    · rw [if_neg q, if_neg q]
  have e30 : (30 : Int32) * iI (j : Nat) = iI ((30 * j : Nat) : Int) := by rw [iL_30, iI_mul]; rfl
  refine ⟨y23, row, ?_, ?_⟩
  · unfold f_X5_balanceOf
    have ez : ∀ {α : Type} (K : Int32 → Option α), ob (if gap = 0 then some 0 else ob (f_X5_priceOfGap (69 + 16 * j) (iI (h : Nat)) gap mc) fun r4 => some r4) K = K (if gap = 0 then 0 else v) := by
      intro α K
      by_cases q : gap = 0
      · rw [if_pos q, if_pos q, ob_some]
      · rw [if_neg q, if_neg q, s2 q, ob_some, ob_some]
    rw [hgc, ob_some, ez, g27, ob_some, ob_some, ob_some, s5, ob_some]
    have ew : ∀ {α : Type} (K : Int32 → Option α), ob (if 0 ≤ gap then some (-(iI (isum na (usF (mc (69 + 16 * j + 7 + 1)) ug (iI (f : Nat)))))) else some (iI (isum na (usF (mc (69 + 16 * j + 7 + 1)) ug (iI (f : Nat)))))) K = K (iI (if 0 ≤ gap then -(isum na (usF (mc (69 + 16 * j + 7 + 1)) ug (iI (f : Nat)))) else isum na (usF (mc (69 + 16 * j + 7 + 1)) ug (iI (f : Nat))))) := by
      intro α K
      by_cases q : 0 ≤ gap
      · rw [if_pos q, if_pos q, ob_some, iI_neg]
      · rw [if_neg q, if_neg q, ob_some]
    rw [ew, w3, e7]
    by_cases q : gap = 0
    · have hu0 : isum na (usF (mc (69 + 16 * j + 7 + 1)) ug (iI (f : Nat))) = 0 := by
        rw [isum_congr na (t2 := fun _ => 0) (fun k _ => by
          unfold usF
          rw [s4 q k]
          by_cases q2 : mc (69 + 16 * j + 7 + 1) k = iI (f : Nat)
          · rw [if_pos q2]; rfl
          · rw [if_neg q2]), isum_zero]
      rw [hu0, if_pos q, if_pos q]
      have e0 : (if 0 ≤ gap then -(0 : Int) else 0) = 0 := by
        by_cases q2 : 0 ≤ gap
        · rw [if_pos q2]; rfl
        · rw [if_neg q2]
      rw [e0, ← iL_0, Int32.zero_mul, Int32.zero_mul]
    · rw [if_neg q, if_neg q]
  · unfold f_X10_balances
    rw [s1, ob_some]
    simp only [ob_sm]
    rw [hin, ob_some, g35, ob_some]
    dsimp only
    rw [e30, g34, ob_some]
theorem sim_bill {j na f : Nat} {MD : List Nat} {mc mm : gM} (hB : bH j na MD mc mm) (hC : csE j mc mm) (hf : f < 6) : ∃ (v : Int32) (row : Nat → Int32), f_X5_billOf (69 + 16 * j) (iI (f : Nat)) mc = some v ∧ f_X10_billOf (iI (j : Nat)) (iI (f : Nat)) mm = some (v, g_up mm 40 row) := by
  have hj := hB.1
  have key : T2 (f_X5_billOf_L9 (69 + 16 * j) mc (iI (f : Nat)) f_fuel (mc (69 + 16 * j + 5) f) 0) (f_X10_billOf_L15 (iI (j : Nat)) (iI (f : Nat)) f_fuel (mc (69 + 16 * j + 5) f) 0 mm) (fun t t2 => t.1 = t2.1 ∧ ∃ row, t2.2.2 = g_up mm 40 row) := by
    have hl : ∀ (n k : Nat) (x : Int32) (row : Nat → Int32), k ≤ 4 → 4 < k + n → T2 (f_X5_billOf_L9 (69 + 16 * j) mc (iI (f : Nat)) n x (iI (k : Nat))) (f_X10_billOf_L15 (iI (j : Nat)) (iI (f : Nat)) n x (iI (k : Nat)) (g_up mm 40 row)) (fun t t2 => t.1 = t2.1 ∧ ∃ row, t2.2.2 = g_up mm 40 row) := by
      intro n
      induction n with
      | zero => intro k x row h1 h2; exact absurd h2 (by omega)
      | succ n ih =>
        intro k x row h1 h2
        unfold f_X5_billOf_L9 f_X10_billOf_L15
        have h4 : (4 ≤ iI (k : Nat)) = ((4 : Int) ≤ (k : Nat)) := by rw [iL_4, iI_leP (by omega) (by omega) (by omega) (by omega)]
        by_cases c : (4 : Int) ≤ k
        · rw [if_pos (by rw [h4]; exact c), if_pos (by rw [h4]; exact c)]
          exact ⟨_, _, rfl, rfl, rfl, row, rfl⟩
        · rw [if_neg (by rw [h4]; exact c), if_neg (by rw [h4]; exact c)]
          have hB2 : bH j na MD mc (g_up mm 40 row) := bH_fr hB (fun c _ _ _ _ => rfl) (fun c _ _ h40 => g_up_ne _ _ h40)
          obtain ⟨v, row2, s1, s2⟩ := sim_balance hB2 hf (show k < 4 by omega)
          rw [s1, s2, g_up2]
          simp only [ob_sm]
          rw [iI_succ]
          exact ih (k + 1) (x + v) row2 (by omega) (by omega)
    have h := hl f_fuel 0 (mc (69 + 16 * j + 5) f) (mm 40) (by omega) (by show 4 < 0 + 100000; omega)
    rw [g_upE mm 40 _ rfl] at h
    exact h
  obtain ⟨t, t2, f1, f2, f3, row, f4⟩ := key
  refine ⟨t.1, row, ?_, ?_⟩
  · unfold f_X5_billOf
    rw [a_ldI (by omega) (by omega) (by omega), ob_some, Int.toNat_natCast, f1, ob_some, ob_some, ob_some]
  · unfold f_X10_billOf
    have e6 : (6 : Int32) * iI (j : Nat) + iI (f : Nat) = iI ((6 * j + f : Nat) : Int) := by rw [iL_6, iI_mul, iI_add]; rfl
    rw [e6, a_ldI (by omega) (by omega) (by omega), ob_some, Int.toNat_natCast, ← hC f hf, f2, ob_some, ob_some, ob_some, ob_some, f3, f4]
