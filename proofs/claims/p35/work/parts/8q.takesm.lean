def tkB (l : Nat → Int) (m0 : gM) (M : List Nat) (nb c z h k : Nat) : Nat := tkv m0 M (iI (z : Nat)) (iI (h : Nat)) (qbF l m0 M nb c h z) (qsF l m0 M nb c h z) k
def tlD (l : Nat → Int) (m0 m : gM) (n : Nat) (M : List Nat) (nb c d : Nat) : Prop := d < 10 ∧ m 0 0 = iI (d : Nat) ∧ bidsM m n M ∧ (∀ k, 5 ≤ k → k ≤ 10 → m k = m0 k) ∧ ∀ z, z < 3 → ∀ h, h < 4 → Wm m (4 * z + h) (lsF m0 M h z) (lbF m0 M h z) ∧ m 53 (4 * z + h) = iI (BP m0 nb (pt (m0 16) c h nb) z) ∧ m 54 (4 * z + h) = iI (nzF (cR l m0 M nb c h) z) ∧ m 55 (4 * z + h) = iI (cP l m0 M nb c h z) ∧ -20 ≤ nzF (cR l m0 M nb c h) z ∧ nzF (cR l m0 M nb c h) z ≤ 20 ∧ -50 ≤ BP m0 nb (pt (m0 16) c h nb) z ∧ BP m0 nb (pt (m0 16) c h nb) z ≤ 50 ∧ -((lbF m0 M h z).length : Int) ≤ mkF l m0 M nb c h z ∧ mkF l m0 M nb c h z ≤ (lsF m0 M h z).length ∧ (lbF m0 M h z).length ≤ 400 ∧ (lsF m0 M h z).length ≤ 400
theorem tlD_fr {l : Nat → Int} {m0 m m2 : gM} {n : Nat} {M : List Nat} {nb c d : Nat} (h : tlD l m0 m n M nb c d) (hf : ∀ c, c ≠ 11 → c ≠ 12 → c ≠ 41 → c ≠ 48 → m2 c = m c) : tlD l m0 m2 n M nb c d := by
  obtain ⟨h1, h2, h3, h4, h5⟩ := h
  refine ⟨h1, by rw [hf 0 (by decide) (by decide) (by decide) (by decide)]; exact h2, bidsM_fr h3 (by rw [hf 0 (by decide) (by decide) (by decide) (by decide)]) (fun c c1 c2 => hf c (by omega) (by omega) (by omega) (by omega)), fun k k1 k2 => by rw [hf k (by omega) (by omega) (by omega) (by omega)]; exact h4 k k1 k2, fun z hz h hh => ?_⟩
  obtain ⟨a1, a2, a3, a4, a5⟩ := h5 z hz h hh
  refine ⟨Wm_fr a1 (hf 51 (by decide) (by decide) (by decide) (by decide)) (hf 52 (by decide) (by decide) (by decide) (by decide)), ?_, ?_, ?_, a5⟩
  · rw [hf 53 (by decide) (by decide) (by decide) (by decide)]; exact a2
  · rw [hf 54 (by decide) (by decide) (by decide) (by decide)]; exact a3
  · rw [hf 55 (by decide) (by decide) (by decide) (by decide)]; exact a4
theorem sp_takesHour {l : Nat → Int} {m0 m : gM} {n : Nat} {M : List Nat} {nb c d z h : Nat} (hD : tlD l m0 m n M nb c d) (hz : z < 3) (hh : h < 4) (h0 : ∀ k, k < n → m0 6 k = iI (z : Nat) → m0 7 k = iI (h : Nat) → m 11 k = iI 0) : T (f_X10_takesHour (iI (z : Nat)) (iI (h : Nat)) m) (fun m2 => (∀ k, k < n → m2 11 k = if m0 6 k = iI (z : Nat) ∧ m0 7 k = iI (h : Nat) then iI (tkB l m0 M nb c z h k : Nat) else m 11 k) ∧ m2 48 = upd (m 48) (4 * z + h) (iI (nzF (cR l m0 M nb c h) z)) ∧ m2 41 = upd (m 41) (12 * d + (4 * z + h)) (iI (cP l m0 M nb c h z)) ∧ ∀ c, c ≠ 11 → c ≠ 12 → c ≠ 41 → c ≠ 48 → m2 c = m c) := by
  obtain ⟨hd, h00, hb, he, hzh⟩ := id hD
  obtain ⟨a1, a2, a3, a4, a5, a6, a7, a8, a9, a10, a11, a12⟩ := hzh z hz h hh
  have e1 : (4 : Int) * (z : Nat) + (h : Nat) = ((4 * z + h : Nat) : Int) := by omega
  have hcd := cwd_rng (ls := lsF m0 M h z) (lb := lbF m0 M h z) a9 a10
  have eqb : cwd (lsF m0 M h z) (lbF m0 M h z) (mkF l m0 M nb c h z) = qbF l m0 M nb c h z := rfl
  rw [eqb] at hcd
  have eqs : ((qsF l m0 M nb c h z : Nat) : Int) = mkF l m0 M nb c h z + qbF l m0 M nb c h z := by unfold qsF; omega
  have emk : nzF (cR l m0 M nb c h) z - BP m0 nb (pt (m0 16) c h nb) z = mkF l m0 M nb c h z := rfl
  have hmk : -70 ≤ mkF l m0 M nb c h z ∧ mkF l m0 M nb c h z ≤ 70 := by rw [← emk]; omega
  unfold f_X10_takesHour
  rw [iL_4, iI_mul, iI_add, e1, ob_some]
  generalize hat : 4 * z + h = at9 at *
  have hat12 : at9 < 12 := by omega
  rw [a_ldI (by omega) (by omega) (by omega), ob_some, Int.toNat_natCast, a3, a_stI (by omega) (by omega) (by omega), ob_some, Int.toNat_natCast, a_ldI (by omega) (by omega) (by omega), ob_some, Int.toNat_natCast, g_up_ne _ _ (show (55 : Nat) ≠ 48 by decide), a4, g_up_ne _ _ (show (0 : Nat) ≠ 48 by decide), h00, iL_12, iI_mul, iI_add, show (12 : Int) * (d : Nat) + (at9 : Nat) = ((12 * d + at9 : Nat) : Int) by omega, a_stI (by omega) (by omega) (by omega), ob_some, Int.toNat_natCast, g_up_ne _ _ (show (41 : Nat) ≠ 48 by decide)]
  generalize hm5 : g_up (g_up m 48 (upd (m 48) at9 (iI (nzF (cR l m0 M nb c h) z)))) 41 (upd (m 41) (12 * d + at9) (iI (cP l m0 M nb c h z))) = m5
  have f5 : ∀ c, c ≠ 41 → c ≠ 48 → m5 c = m c := fun c c1 c2 => by rw [← hm5, g_up_ne _ _ c1, g_up_ne _ _ c2]
  have e48 : m5 48 = upd (m 48) at9 (iI (nzF (cR l m0 M nb c h) z)) := by rw [← hm5, g_up_ne _ _ (by decide), g_up_at]
  have e41 : m5 41 = upd (m 41) (12 * d + at9) (iI (cP l m0 M nb c h z)) := by rw [← hm5, g_up_at]
  have hk161 : (80 + mkF l m0 M nb c h z).toNat < 161 := by omega
  have ebo := (a1 (80 + mkF l m0 M nb c h z).toNat hk161).2
  rw [show (((80 + mkF l m0 M nb c h z).toNat : Nat) : Int) - 80 = mkF l m0 M nb c h z by omega, eqb] at ebo
  have ebo := ebo a9 a10
  rw [a_ldI (by omega) (by omega) (by omega), ob_some, Int.toNat_natCast, f5 54 (by decide) (by decide), a3, a_ldI (by omega) (by omega) (by omega), ob_some, Int.toNat_natCast, f5 53 (by decide) (by decide), a2, iI_sub, emk, ob_some, iL_161, iL_80, iI_mul, iI_add, iI_add, a_ldI (by omega) (by omega) (by omega), show ((161 : Int) * (at9 : Nat) + 80 + mkF l m0 M nb c h z).toNat = 161 * at9 + (80 + mkF l m0 M nb c h z).toNat by omega, f5 52 (by decide) (by decide), ebo, ob_some]
  have hb5 : bidsM m5 n M := bidsM_fr hb (by rw [f5 0 (by decide) (by decide)]) (fun c c1 c2 => f5 c (by omega) (by omega))
  have he5 : ∀ c, 5 ≤ c → c ≤ 10 → m5 c = m0 c := fun c c1 c2 => by rw [f5 c (by omega) (by omega)]; exact he c c1 c2
  have eL : ∀ (m9 : gM) (b : Int32), (∀ c, 5 ≤ c → c ≤ 10 → m9 c = m0 c) → Lz m9 M (iI (z : Nat)) (iI (h : Nat)) b = Lz m0 M (iI (z : Nat)) (iI (h : Nat)) b := fun m9 b h9 => (cz_frM h9).1
  have eU : ∀ (m9 : gM), (∀ c, 5 ≤ c → c ≤ 10 → m9 c = m0 c) → uU m9 = uU m0 := fun m9 h9 => by unfold uU; rw [h9 10 (by decide) (by decide)]
  have lnb : (lbF m0 M h z).length = sU (uU m0) (Lz m0 M (iI (z : Nat)) (iI (h : Nat)) 1) := ups_lenS _ _ _
  have lns : (lsF m0 M h z).length = sU (uU m0) (Lz m0 M (iI (z : Nat)) (iI (h : Nat)) 0) := ups_lenS _ _ _
  have mL : ∀ (b : Int32) (k : Nat), k ∈ Lz m0 M (iI (z : Nat)) (iI (h : Nat)) b ↔ k < n ∧ m0 6 k = iI (z : Nat) ∧ m0 7 k = iI (h : Nat) ∧ m0 8 k = b := by
    intro b k
    rw [← eL m5 b he5, Lz_mem hb5, he5 6 (by decide) (by decide), he5 7 (by decide) (by decide), he5 8 (by decide) (by decide)]
  obtain ⟨m10, f10, r11, r12, e10, hr11⟩ := sp_takesM hb5 (z := iI (z : Nat)) (h := iI (h : Nat)) (b := 1) (Or.inr rfl) (q := qbF l m0 M nb c h z) (by rw [eL m5 1 he5, eU m5 he5, ← lnb]; omega) (by omega) (fun k hk => by
    rw [eL m5 1 he5] at hk
    have h2 := (mL 1 k).1 hk
    rw [f5 11 (by decide) (by decide)]
    exact h0 k h2.1 h2.2.1 h2.2.2.1)
  rw [f10, ob_some]
  have f10c : ∀ c, c ≠ 11 → c ≠ 12 → m10 c = m5 c := fun c c1 c2 => by rw [e10, g_up_ne _ _ c2, g_up_ne _ _ c1]
  have e1011 : m10 11 = r11 := by rw [e10, g_up_ne _ _ (by decide), g_up_at]
  have hb10 : bidsM m10 n M := bidsM_fr hb5 (by rw [f10c 0 (by decide) (by decide)]) (fun c c1 c2 => f10c c (by omega) (by omega))
  have he10 : ∀ c, 5 ≤ c → c ≤ 10 → m10 c = m0 c := fun c c1 c2 => by rw [f10c c (by omega) (by omega)]; exact he5 c c1 c2
  rw [iI_add, ← eqs]
  obtain ⟨m11, f11, s11, s12, e11, hs11⟩ := sp_takesM hb10 (z := iI (z : Nat)) (h := iI (h : Nat)) (b := 0) (Or.inl rfl) (q := qsF l m0 M nb c h z) (by rw [eL m10 0 he10, eU m10 he10, ← lns]; omega) (by omega) (fun k hk => by
    rw [eL m10 0 he10] at hk
    have h2 := (mL 0 k).1 hk
    rw [e1011, hr11 k, if_neg, f5 11 (by decide) (by decide)]
    · exact h0 k h2.1 h2.2.1 h2.2.2.1
    · intro u
      rw [eL m5 1 he5] at u
      have h3 := (mL 1 k).1 u
      rw [h2.2.2.2] at h3
      exact absurd h3.2.2.2 (by decide))
  rw [f11, ob_some]
  have f11c : ∀ c, c ≠ 11 → c ≠ 12 → m11 c = m10 c := fun c c1 c2 => by rw [e11, g_up_ne _ _ c2, g_up_ne _ _ c1]
  have e1111 : m11 11 = s11 := by rw [e11, g_up_ne _ _ (by decide), g_up_at]
  refine T_some ⟨?_, ?_, ?_, ?_⟩
  · intro k hk
    rw [e1111, hs11 k, eL m10 0 he10, eU m10 he10, e1011, hr11 k, eL m5 1 he5, eU m5 he5, f5 11 (by decide) (by decide)]
    have h8 := (hb.2.2.2 k hk).2.2.2.1
    rw [he 8 (by decide) (by decide)] at h8
    unfold tkB tkv
    by_cases u : m0 6 k = iI (z : Nat) ∧ m0 7 k = iI (h : Nat)
    · rw [if_pos u]
      rcases h8 with b0 | b1
      · rw [if_pos ((mL 0 k).2 ⟨hk, u.1, u.2, b0⟩), if_pos b0]
      · rw [if_neg (fun v => by have := ((mL 0 k).1 v).2.2.2; rw [b1] at this; exact absurd this (by decide)), if_pos ((mL 1 k).2 ⟨hk, u.1, u.2, b1⟩), if_neg (by rw [b1]; decide)]
    · rw [if_neg u, if_neg (fun v => u ⟨((mL 0 k).1 v).2.1, ((mL 0 k).1 v).2.2.1⟩), if_neg (fun v => u ⟨((mL 1 k).1 v).2.1, ((mL 1 k).1 v).2.2.1⟩)]
  · rw [f11c 48 (by decide) (by decide), f10c 48 (by decide) (by decide), e48]
  · rw [f11c 41 (by decide) (by decide), f10c 41 (by decide) (by decide), e41]
  · intro c c1 c2 c3 c4
    rw [f11c c c1 c2, f10c c c1 c2, f5 c c3 c4]
