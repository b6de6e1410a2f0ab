theorem sp_zero11 {m : gM} : T (f_X10_clear_L130 f_fuel 0 m) (fun t => ∃ row, t.2 = g_up m 11 row ∧ ∀ k, k < 40 → row k = iI 0) := by
  refine T_run2 (f_X10_clear_L130) (fun k x m2 => x = iI (k : Nat) ∧ ∃ row, m2 = g_up m 11 row ∧ ∀ i, i < k → row i = iI 0) _ 40 0 _ _ ⟨rfl, m 11, by rw [g_upE _ _ _ rfl], fun i hi => absurd hi (by omega)⟩ (Nat.zero_le _) (by omega) ?_
  intro k x m2 f hI hk hcont
  obtain ⟨e, row, e2, h1⟩ := hI
  subst e
  subst e2
  unfold f_X10_clear_L130
  rw [iL_40, iI_le (by omega) (by omega) (by omega) (by omega)]
  by_cases c : (40 : Int) ≤ k
  · rw [if_pos c]
    have e : k = 40 := by omega
    subst e
    exact T_some ⟨row, rfl, h1⟩
  · rw [if_neg c, a_stI (by omega) (by omega) (by omega), ob_some, Int.toNat_natCast, g_up_at, g_up2]
    refine hcont (by omega) _ _ ⟨iI_succ k, _, rfl, ?_⟩
    intro i hi
    rw [updA]
    by_cases q : i = k
    · rw [if_pos q]; rfl
    · rw [if_neg q]; exact h1 i (by omega)
theorem zh_of {l : Nat → Int} {m0 m : gM} {n : Nat} {M : List Nat} {nb c d : Nat} (hD : tlD l m0 m n M nb c d) {k : Nat} (hk : k < n) : m0 6 k = iI (znF m0 k : Nat) ∧ m0 7 k = iI (hnF m0 k : Nat) ∧ znF m0 k < 3 ∧ hnF m0 k < 4 := by
  obtain ⟨hd, h00, hb, he, hzh⟩ := hD
  have hr := hb.2.2.2 k hk
  rw [he 6 (by decide) (by decide), he 7 (by decide) (by decide)] at hr
  obtain ⟨ez, lz⟩ := zN_of hr.2.1
  have h7 := hr.2.2.1
  unfold rg at h7
  refine ⟨ez, ?_, lz, ?_⟩
  · unfold hnF
    rw [Int.toNat_of_nonneg (by omega), iI_of]
  · unfold hnF
    omega
theorem sp_takeAllM {l : Nat → Int} {m0 m : gM} {n : Nat} {M : List Nat} {nb c d : Nat} (hD : tlD l m0 m n M nb c d) (h0 : ∀ k, k < n → m 11 k = iI 0) : T (f_X10_clear_L151 f_fuel 0 m) (fun t => (∀ k, k < n → t.2 11 k = iI (tkA l m0 M nb c k : Nat)) ∧ (∀ z, z < 3 → ∀ h, h < 4 → t.2 48 (4 * z + h) = iI (nzF (cR l m0 M nb c h) z) ∧ t.2 41 (12 * d + (4 * z + h)) = iI (cP l m0 M nb c h z)) ∧ (∀ i, (i < 12 * d ∨ 12 * d + 12 ≤ i) → t.2 41 i = m 41 i) ∧ ∀ c, c ≠ 11 → c ≠ 12 → c ≠ 41 → c ≠ 48 → t.2 c = m c) := by
  have hmain : ∀ z : Nat, z ≤ 3 → ∀ m1 : gM, ((∀ k, k < n → m1 11 k = if znF m0 k < z then iI (tkA l m0 M nb c k : Nat) else iI 0) ∧ (∀ z2, z2 < z → ∀ h, h < 4 → m1 48 (4 * z2 + h) = iI (nzF (cR l m0 M nb c h) z2) ∧ m1 41 (12 * d + (4 * z2 + h)) = iI (cP l m0 M nb c h z2)) ∧ (∀ i, (i < 12 * d ∨ 12 * d + 12 ≤ i) → m1 41 i = m 41 i) ∧ ∀ c, c ≠ 11 → c ≠ 12 → c ≠ 41 → c ≠ 48 → m1 c = m c) → z < 3 → T (f_X10_clear_L158 (iI (z : Nat)) f_fuel 0 m1) (fun t => (∀ k, k < n → t.2 11 k = if znF m0 k < z + 1 then iI (tkA l m0 M nb c k : Nat) else iI 0) ∧ (∀ z2, z2 < z + 1 → ∀ h, h < 4 → t.2 48 (4 * z2 + h) = iI (nzF (cR l m0 M nb c h) z2) ∧ t.2 41 (12 * d + (4 * z2 + h)) = iI (cP l m0 M nb c h z2)) ∧ (∀ i, (i < 12 * d ∨ 12 * d + 12 ≤ i) → t.2 41 i = m 41 i) ∧ ∀ c, c ≠ 11 → c ≠ 12 → c ≠ 41 → c ≠ 48 → t.2 c = m c) := by
    intro z hz3 m1 hm1 hz
    obtain ⟨i1, i2, i3, i4⟩ := hm1
    refine T_run2 (f_X10_clear_L158 (iI (z : Nat))) (fun h x m2 => x = iI (h : Nat) ∧ (∀ k, k < n → m2 11 k = if znF m0 k < z ∨ (znF m0 k = z ∧ hnF m0 k < h) then iI (tkA l m0 M nb c k : Nat) else iI 0) ∧ (∀ z2, z2 < 3 → ∀ h2, h2 < 4 → (z2 < z ∨ (z2 = z ∧ h2 < h)) → m2 48 (4 * z2 + h2) = iI (nzF (cR l m0 M nb c h2) z2) ∧ m2 41 (12 * d + (4 * z2 + h2)) = iI (cP l m0 M nb c h2 z2)) ∧ (∀ i, (i < 12 * d ∨ 12 * d + 12 ≤ i) → m2 41 i = m 41 i) ∧ ∀ c, c ≠ 11 → c ≠ 12 → c ≠ 41 → c ≠ 48 → m2 c = m c) _ 4 0 _ _ ⟨rfl, ?_, ?_, i3, i4⟩ (Nat.zero_le _) (by omega) ?_
    · intro k hk
      rw [i1 k hk]
      by_cases u : znF m0 k < z
      · rw [if_pos u, if_pos (Or.inl u)]
      · rw [if_neg u, if_neg (by omega)]
    · intro z2 hz2 h2 hh2 hc
      exact i2 z2 (by omega) h2 hh2
    · intro h x m2 f hI hh hcont
      obtain ⟨e, j1, j2, j3, j4⟩ := hI
      subst e
      unfold f_X10_clear_L158
      rw [iL_4, iI_le (by omega) (by omega) (by omega) (by omega)]
      by_cases cc : (4 : Int) ≤ h
      · rw [if_pos cc]
        have e : h = 4 := by omega
        subst e
        refine T_some ⟨?_, ?_, j3, j4⟩
        · intro k hk
          have hzh := zh_of hD hk
          show m2 11 k = _
          rw [j1 k hk]
          by_cases u : znF m0 k < z + 1
          · rw [if_pos u, if_pos (by omega)]
          · rw [if_neg u, if_neg (by omega)]
        · intro z2 hz2 h2 hh2
          exact j2 z2 (by omega) h2 hh2 (by omega)
      · rw [if_neg cc]
        have hD2 : tlD l m0 m2 n M nb c d := tlD_fr hD j4
        refine T_ob (sp_takesHour hD2 (z := z) (h := h) hz (by omega) ?_) ?_
        · intro k hk k6 k7
          have hzh := zh_of hD hk
          rw [hzh.1, iI_eqP (by omega) (by omega) (by omega) (by omega)] at k6
          rw [hzh.2.1, iI_eqP (by omega) (by omega) (by omega) (by omega)] at k7
          rw [j1 k hk, if_neg (by omega)]
        · intro m3 hm3
          obtain ⟨s1, s2, s3, s4⟩ := hm3
          refine hcont (by omega) _ _ ⟨iI_succ h, ?_, ?_, ?_, ?_⟩
          · intro k hk
            have hzh := zh_of hD hk
            rw [s1 k hk]
            by_cases u : m0 6 k = iI (z : Nat) ∧ m0 7 k = iI (h : Nat)
            · have u6 := u.1
              have u7 := u.2
              rw [hzh.1, iI_eqP (by omega) (by omega) (by omega) (by omega)] at u6
              rw [hzh.2.1, iI_eqP (by omega) (by omega) (by omega) (by omega)] at u7
              have e6 : znF m0 k = z := by omega
              have e7 : hnF m0 k = h := by omega
              rw [if_pos u, if_pos (by omega)]
              unfold tkA tkB
              rw [e6, e7, u.1, u.2]
            · have u2 : ¬ (znF m0 k = z ∧ hnF m0 k = h) := fun v => u ⟨by rw [hzh.1, v.1], by rw [hzh.2.1, v.2]⟩
              rw [if_neg u, j1 k hk]
              by_cases w : znF m0 k < z ∨ (znF m0 k = z ∧ hnF m0 k < h)
              · rw [if_pos w, if_pos (by omega)]
              · rw [if_neg w, if_neg (by omega)]
          · intro z2 hz2 h2 hh2 hc
            rw [s2, s3, updA, updA]
            by_cases w : z2 = z ∧ h2 = h
            · rw [if_pos (by omega), if_pos (by omega), w.1, w.2]
              exact ⟨rfl, rfl⟩
            · rw [if_neg (by omega), if_neg (by omega)]
              exact j2 z2 hz2 h2 hh2 (by omega)
          · intro i hi
            rw [s3, updA, if_neg (by omega)]
            exact j3 i hi
          · intro c c1 c2 c3 c4
            rw [s4 c c1 c2 c3 c4]
            exact j4 c c1 c2 c3 c4
  refine T_run2 (f_X10_clear_L151) (fun z x m1 => x = iI (z : Nat) ∧ (∀ k, k < n → m1 11 k = if znF m0 k < z then iI (tkA l m0 M nb c k : Nat) else iI 0) ∧ (∀ z2, z2 < z → ∀ h, h < 4 → m1 48 (4 * z2 + h) = iI (nzF (cR l m0 M nb c h) z2) ∧ m1 41 (12 * d + (4 * z2 + h)) = iI (cP l m0 M nb c h z2)) ∧ (∀ i, (i < 12 * d ∨ 12 * d + 12 ≤ i) → m1 41 i = m 41 i) ∧ ∀ c, c ≠ 11 → c ≠ 12 → c ≠ 41 → c ≠ 48 → m1 c = m c) _ 3 0 _ _ ⟨rfl, fun k hk => by rw [h0 k hk, if_neg (by omega)], fun z2 hz2 => absurd hz2 (by omega), fun i _ => rfl, fun c _ _ _ _ => rfl⟩ (Nat.zero_le _) (by omega) ?_
  intro z x m1 f hI hz hcont
  obtain ⟨e, i1, i2, i3, i4⟩ := hI
  subst e
  unfold f_X10_clear_L151
  rw [iL_3, iI_le (by omega) (by omega) (by omega) (by omega)]
  by_cases cc : (3 : Int) ≤ z
  · rw [if_pos cc]
    have e : z = 3 := by omega
    subst e
    refine T_some ⟨?_, i2, i3, i4⟩
    intro k hk
    have hzh := zh_of hD hk
    show m1 11 k = _
    rw [i1 k hk, if_pos hzh.2.2.1]
  · rw [if_neg cc]
    refine T_ob (hmain z hz m1 ⟨i1, i2, i3, i4⟩ (by omega)) ?_
    intro t ht
    obtain ⟨x9, m9⟩ := t
    simp only [ob_sm]
    exact hcont (by omega) _ _ ⟨iI_succ z, ht⟩
