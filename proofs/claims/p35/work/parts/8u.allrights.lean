def pdn (mc : gM) (a b k : Nat) : Prop := (mc 47 k).toInt.toNat < a ∨ ((mc 47 k).toInt.toNat = a ∧ (mc 54 k).toInt.toNat < b)
def rtF (d : Nat) (mc mm m1 m2 : gM) : Prop := csE d m1 m2 ∧ (∀ c, c ≠ 52 → c ≠ 69 + 16 * d + 5 → m1 c = mc c) ∧ (∀ c, c ≠ 26 → c ≠ 45 → m2 c = mm c) ∧ ∀ i, (i < 6 * d ∨ 6 * d + 6 ≤ i) → m2 45 i = mm 45 i
def rtI (d na a b : Nat) (mc mm m1 m2 : gM) : Prop := rtF d mc mm m1 m2 ∧ (∀ k, k < na → pdn mc a b k → mc 51 k - m1 52 k = m2 26 k) ∧ ∀ k, k < na → ¬ pdn mc a b k → m1 52 k = mc 51 k
theorem sim_giveRights {d na : Nat} {MA : List Nat} {mc mm : gM} (hd : d < 10) (h00 : mm 0 0 = iI (d : Nat)) (hA : akC mc na MA) (hM : akM mc mm na) (hl : liE mc mm) (hP : prE d mc mm) (hE : csE d mc mm) (hr : ∀ k, k < na → mc 52 k = mc 51 k) : T2 (f_X9_giveRights_L2 (69 + 16 * d) f_fuel 0 mc) (f_X10_clear_L418 f_fuel 0 mm) (fun t t2 => rtF d mc mm t.2 t2.2 ∧ ∀ k, k < na → mc 51 k - t.2 52 k = t2.2 26 k) := by
  have hrng : ∀ k, k < na → ∃ a b : Nat, a < 3 ∧ b < 3 ∧ a ≠ b ∧ mc 47 k = iI (a : Nat) ∧ mc 54 k = iI (b : Nat) ∧ (mc 47 k).toInt.toNat = a ∧ (mc 54 k).toInt.toNat = b := by
    intro k hk
    obtain ⟨_, r2, r3, _, _, _, r7⟩ := hA.2.2.2 k hk
    obtain ⟨a, ea, la⟩ := rgN r2
    obtain ⟨b, eb, lb⟩ := rgN r3
    refine ⟨a, b, by omega, by omega, fun e => r7 (by rw [ea, eb, e]), ea, eb, ?_, ?_⟩
    · rw [ea, iI_toInt (by omega) (by omega), Int.toNat_natCast]
    · rw [eb, iI_toInt (by omega) (by omega), Int.toNat_natCast]
  have hin : ∀ a : Nat, a < 3 → ∀ m1 m2, rtI d na a 0 mc mm m1 m2 → T2 (f_X9_giveRights_L9 (69 + 16 * d) (iI (a : Nat)) f_fuel 0 m1) (f_X10_clear_L425 (iI (a : Nat)) f_fuel 0 m2) (fun t t2 => rtI d na (a + 1) 0 mc mm t.2 t2.2) := by
    intro a ha m1 m2 hI0
    refine T2_cnt (f_X9_giveRights_L9 (69 + 16 * d) (iI (a : Nat))) (f_X10_clear_L425 (iI (a : Nat))) (fun b m1 m2 => rtI d na a b mc mm m1 m2) _ 3 (by omega) hI0 ?_
    intro b m3 m4 f hI hb hcont
    obtain ⟨⟨i1, i2, i3, i4⟩, i5, i6⟩ := id hI
    unfold f_X9_giveRights_L9 f_X10_clear_L425
    rw [iL_3, iI_le (by omega) (by omega) (by omega) (by omega), iI_le (by omega) (by omega) (by omega) (by omega)]
    by_cases c : (3 : Int) ≤ b
    · rw [if_pos c, if_pos c]
      refine ⟨_, _, rfl, rfl, ⟨i1, i2, i3, i4⟩, ?_, ?_⟩
      · intro k hk hp
        obtain ⟨x, y, hx, hy, hxy, _, _, ex, ey⟩ := hrng k hk
        refine i5 k hk ?_
        unfold pdn at *
        omega
      · intro k hk hp
        obtain ⟨x, y, hx, hy, hxy, _, _, ex, ey⟩ := hrng k hk
        refine i6 k hk ?_
        unfold pdn at *
        omega
    · rw [if_neg c, if_neg c]
      by_cases hab : a = b
      · have eab : iI (a : Nat) = iI (b : Nat) := by rw [hab]
        rw [if_pos eab, if_pos eab, ob_some, ob_some, iI_succ]
        refine hcont (by omega) m3 m4 ⟨⟨i1, i2, i3, i4⟩, ?_, ?_⟩
        · intro k hk hp
          obtain ⟨x, y, hx, hy, hxy, _, _, ex, ey⟩ := hrng k hk
          refine i5 k hk ?_
          unfold pdn at *
          omega
        · intro k hk hp
          obtain ⟨x, y, hx, hy, hxy, _, _, ex, ey⟩ := hrng k hk
          refine i6 k hk ?_
          unfold pdn at *
          omega
      · have eab : ¬ iI (a : Nat) = iI (b : Nat) := by
          rw [iI_eqP (by omega) (by omega) (by omega) (by omega)]
          omega
        rw [if_neg eab, if_neg eab]
        have hA3 : akC m3 na MA := akC_fr hA (fun c c1 c2 c3 => i2 c c3 (by omega))
        have hM3 : akM m3 m4 na := by
          unfold akM at *
          rw [i3 0 (by decide) (by decide), i3 21 (by decide) (by decide), i3 22 (by decide) (by decide), i3 23 (by decide) (by decide), i3 24 (by decide) (by decide), i3 25 (by decide) (by decide), i2 46 (by decide) (by omega), i2 47 (by decide) (by omega), i2 54 (by decide) (by omega), i2 51 (by decide) (by omega), i2 50 (by decide) (by omega)]
          exact hM
        have hl3 : liE m3 m4 := by
          intro k hk
          rw [i2 3 (by decide) (by omega), i3 1 (by decide) (by decide)]
          exact hl k hk
        have hP3 : prE d m3 m4 := by
          intro i hi
          rw [i2 _ (by omega) (by omega), i3 41 (by decide) (by decide)]
          exact hP i hi
        have hLm : ∀ k, k ∈ La m3 MA (iI (a : Nat)) (iI (b : Nat)) ↔ k < na ∧ mc 47 k = iI (a : Nat) ∧ mc 54 k = iI (b : Nat) := by
          intro k
          rw [La_mem hA3, i2 47 (by decide) (by omega), i2 54 (by decide) (by omega)]
        have hLm2 : ∀ k, k < na → (k ∈ La m3 MA (iI (a : Nat)) (iI (b : Nat)) ↔ (mc 47 k).toInt.toNat = a ∧ (mc 54 k).toInt.toNat = b) := by
          intro k hk
          obtain ⟨x, y, hx, hy, hxy, e47, e54, ex, ey⟩ := hrng k hk
          rw [hLm, ex, ey, e47, e54, iI_eqP (by omega) (by omega) (by omega) (by omega), iI_eqP (by omega) (by omega) (by omega) (by omega)]
          omega
        obtain ⟨m5, m6, q1, q2, q3, q4, q5, q6, q7, q8⟩ := sim_right (mc := m3) (mm := m4) hd (by rw [i3 0 (by decide) (by decide)]; exact h00) ha (show b < 3 by omega) hab hA3 hM3 hl3 hP3 i1 (fun k hk => by
          have h2 := (hLm k).1 hk
          have h3 := (hLm2 k h2.1).1 hk
          rw [i6 k h2.1 (by unfold pdn; omega), i2 51 (by decide) (by omega)])
        rw [q1, q2, ob_some, ob_some, iI_succ]
        refine hcont (by omega) m5 m6 ⟨⟨q3, fun c c1 c2 => by rw [q6 c c1 c2]; exact i2 c c1 c2, fun c c1 c2 => by rw [q7 c c1 c2]; exact i3 c c1 c2, fun i hi => by rw [q8 i hi]; exact i4 i hi⟩, ?_, ?_⟩
        · intro k hk hp
          by_cases u : k ∈ La m3 MA (iI (a : Nat)) (iI (b : Nat))
          · have := q4 k u
            rw [i2 51 (by decide) (by omega)] at this
            exact this
          · have h5 := q5 k u
            rw [h5.1, h5.2]
            refine i5 k hk ?_
            rw [hLm2 k hk] at u
            unfold pdn at *
            omega
        · intro k hk hp
          have u : k ∉ La m3 MA (iI (a : Nat)) (iI (b : Nat)) := by
            rw [hLm2 k hk]
            unfold pdn at hp
            omega
          rw [(q5 k u).1]
          refine i6 k hk ?_
          unfold pdn at *
          omega
  have hfin : T2 (f_X9_giveRights_L2 (69 + 16 * d) f_fuel 0 mc) (f_X10_clear_L418 f_fuel 0 mm) (fun t t2 => rtI d na 3 0 mc mm t.2 t2.2) := by
    refine T2_cnt (f_X9_giveRights_L2 (69 + 16 * d)) (f_X10_clear_L418) (fun a m1 m2 => rtI d na a 0 mc mm m1 m2) _ 3 (by omega) ⟨⟨hE, fun c _ _ => rfl, fun c _ _ => rfl, fun i _ => rfl⟩, fun k _ hp => absurd hp (by unfold pdn; omega), fun k hk _ => hr k hk⟩ ?_
    intro a m1 m2 f hI ha hcont
    unfold f_X9_giveRights_L2 f_X10_clear_L418
    rw [iL_3, iI_le (by omega) (by omega) (by omega) (by omega), iI_le (by omega) (by omega) (by omega) (by omega)]
    by_cases c : (3 : Int) ≤ a
    · rw [if_pos c, if_pos c]
      have e : a = 3 := by omega
      subst e
      exact ⟨_, _, rfl, rfl, hI⟩
    · rw [if_neg c, if_neg c]
      obtain ⟨t, t2, f1, f2, f3⟩ := hin a (by omega) m1 m2 hI
      rw [f1, f2]
      simp only [ob_sm]
      rw [iI_succ]
      exact hcont (by omega) t.2 t2.2 f3
  obtain ⟨t, t2, f1, f2, f3⟩ := hfin
  refine ⟨t, t2, f1, f2, f3.1, fun k hk => f3.2.1 k hk ?_⟩
  obtain ⟨x, y, hx, hy, hxy, _, _, ex, ey⟩ := hrng k hk
  unfold pdn
  omega
