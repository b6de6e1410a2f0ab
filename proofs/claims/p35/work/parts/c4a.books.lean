theorem plA_upd (g : Nat → Int32) {f0 i0 i : Nat} (u : Int32) (hi0 : i0 < 12) (hi : i < 12) : ∀ n, plA (upd g (12 * f0 + i0) (g (12 * f0 + i0) + u)) i n = plA g i n + (if i = i0 ∧ f0 < n then u else 0)
  | 0 => by
    rw [if_neg (by omega)]
    exact (Int32.add_zero _).symm
  | n + 1 => by
    show plA (upd g (12 * f0 + i0) (g (12 * f0 + i0) + u)) i n + upd g (12 * f0 + i0) (g (12 * f0 + i0) + u) (12 * n + i) = (plA g i n + g (12 * n + i)) + _
    rw [plA_upd g u hi0 hi n, updA]
    by_cases c : 12 * n + i = 12 * f0 + i0
    · have e1 : n = f0 := by omega
      have e2 : i = i0 := by omega
      subst e1
      subst e2
      rw [if_pos rfl, if_neg (by omega), if_pos (by omega), Int32.add_zero, Int32.add_assoc]
    · rw [if_neg c]
      by_cases c2 : i = i0 ∧ f0 < n
      · rw [if_pos c2, if_pos (by omega), Int32.add_assoc, Int32.add_comm u, Int32.add_assoc]
      · rw [if_neg c2, if_neg (by omega), Int32.add_zero, Int32.add_zero]
def sgB (m : gM) (t : Nat → Nat) (k : Nat) : Int := if m 8 k = 0 then (t k : Int) else -(t k : Int)
def bT (m : gM) (t : Nat → Nat) (i k : Nat) : Int := if 4 * znF m k + hnF m k = i then sgB m t k else 0
theorem zh_m {m : gM} {n : Nat} {M : List Nat} (hb : bidsOk m n M) {k : Nat} (hk : k < n) : m 6 k = iI (znF m k : Nat) ∧ m 7 k = iI (hnF m k : Nat) ∧ znF m k < 3 ∧ hnF m k < 4 := by
  have hr := hb.2.2.2 k hk
  obtain ⟨ez, lz⟩ := zN_of hr.2.1
  have h7 := hr.2.2.1
  unfold rg at h7
  refine ⟨ez, ?_, lz, ?_⟩
  · unfold hnF
    rw [Int.toNat_of_nonneg (by omega), iI_of]
  · unfold hnF
    omega
theorem takeBids_pl {m : gM} {d n : Nat} {M : List Nat} {t : Nat → Nat} (hd : d < 10) (hb : bidsOk m n M) (ht : ∀ k, k < n → m 10 k - m 11 k = iI (t k : Nat)) : T (f_X9_takeBids (69 + 16 * d) m) (fun m2 => (∀ i, i < 12 → plA (m2 (69 + 16 * d + 3)) i 6 = plA (m (69 + 16 * d + 3)) i 6 + iI (isum n (bT m t i))) ∧ fC d m m2) := by
  have hn := hb.1
  have key : T (f_X9_takeBids_L2 (69 + 16 * d) f_fuel 0 m) (fun r => (∀ i, i < 12 → plA (r.2 (69 + 16 * d + 3)) i 6 = plA (m (69 + 16 * d + 3)) i 6 + iI (isum n (bT m t i))) ∧ fC d m r.2) := by
    refine T_run2 (f_X9_takeBids_L2 (69 + 16 * d)) (fun k x m2 => x = iI (k : Nat) ∧ (∀ i, i < 12 → plA (m2 (69 + 16 * d + 3)) i 6 = plA (m (69 + 16 * d + 3)) i 6 + iI (isum k (bT m t i))) ∧ fC d m m2) _ n 0 _ _ ⟨rfl, fun i _ => by show _ = _ + (0 : Int32); rw [Int32.add_zero], fC_rf _ _⟩ (Nat.zero_le _) (by omega) ?_
    intro k x m1 f hI hkn hcont
    obtain ⟨e, h1, i3⟩ := hI
    subst e
    unfold f_X9_takeBids_L2
    rw [i3 4 (by omega) (by omega), hb.2.1, iI_le (by omega) (by omega) (by omega) (by omega)]
    by_cases c : (n : Int) ≤ k
    · rw [if_pos c]
      have e : k = n := by omega
      subst e
      exact T_some ⟨h1, i3⟩
    · rw [if_neg c]
      have hk : k < n := by omega
      obtain ⟨e6, e7, l6, l7⟩ := zh_m hb hk
      have hr := hb.2.2.2 k hk
      obtain ⟨v5, e5, l5⟩ := rgN hr.1
      have hus : f_X8_used 4 (iI (k : Nat)) m1 = some (iI (t k : Nat)) := by
        rw [sp_used (by rw [oln4]; omega) (by rw [oln4]; omega), show (4 + 6 : Nat) = 10 from rfl, show (4 + 7 : Nat) = 11 from rfl, i3 10 (by omega) (by omega), i3 11 (by omega) (by omega), ht k hk]
      have q8 : a_ld 40 8 (iI (k : Nat)) m1 = some (m 8 k) := by rw [ldN (by omega) (by omega), i3 8 (by omega) (by omega)]
      have q6 : a_ld 40 6 (iI (k : Nat)) m1 = some (iI (znF m k : Nat)) := by rw [ldN (by omega) (by omega), i3 6 (by omega) (by omega), e6]
      have q7 : a_ld 40 7 (iI (k : Nat)) m1 = some (iI (hnF m k : Nat)) := by rw [ldN (by omega) (by omega), i3 7 (by omega) (by omega), e7]
      have q5 : a_ld 40 5 (iI (k : Nat)) m1 = some (iI (v5 : Nat)) := by rw [ldN (by omega) (by omega), i3 5 (by omega) (by omega), e5]
      have q1 : a_ld 12 (69 + 16 * d + 1) (iI ((znF m k : Nat) * 4 + (hnF m k : Nat))) m1 = some (m1 (69 + 16 * d + 1) (4 * znF m k + hnF m k)) := by
        rw [show ((znF m k : Nat) : Int) * 4 + ((hnF m k : Nat) : Int) = ((4 * znF m k + hnF m k : Nat) : Int) by omega, ldN (by omega) (by omega)]
      have ez : ∀ {α : Type} (G : Int32 → Option α), ob (if m 8 k = 0 then ob (some (iI (t k : Nat))) fun r9 => some r9 else ob (some (iI (t k : Nat))) fun r10 => some (-r10)) G = G (iI (sgB m t k)) := by
        intro α G
        unfold sgB
        by_cases w : m 8 k = 0
        · rw [if_pos w, if_pos w, ob_some, ob_some]
        · rw [if_neg w, if_neg w, ob_some, ob_some, iI_neg]
      rw [q8, ob_some, hus, ez, q6, ob_some, q7, ob_some, sp_spot, ob_some, q5, ob_some, q1, ob_some, sp_book (by omega) l6 l7, ob_some]
      refine hcont (by omega) _ _ ⟨iI_succ k, ?_, ?_⟩
      · intro i hi
        rw [g_up_ne _ _ (show 69 + 16 * d + 3 ≠ 69 + 16 * d + 5 by omega), g_up_at, show 12 * v5 + 4 * znF m k + hnF m k = 12 * v5 + (4 * znF m k + hnF m k) by omega, plA_upd _ _ (by omega) hi, h1 i hi]
        show _ = _ + iI (isum k (bT m t i) + bT m t i k)
        rw [← iI_add, Int32.add_assoc]
        congr 1
        congr 1
        unfold bT
        by_cases w : i = 4 * znF m k + hnF m k
        · rw [if_pos ⟨w, by omega⟩, if_pos w.symm]
        · rw [if_neg (fun q => w q.1), if_neg (fun q => w q.symm)]
          rfl
      · intro c c1 c2
        rw [g_up_ne _ _ c2, g_up_ne _ _ c1]
        exact i3 c c1 c2
  obtain ⟨r, er, h1, h2⟩ := key
  refine ⟨r.2, ?_, h1, h2⟩
  unfold f_X9_takeBids
  rw [er]
  try simp only [ob_sm]
theorem takeBlocks_pl {m : gM} {d nb ch : Nat} {TO GR : Nat → Int} (hd : d < 10) (hb : blkC m nb TO GR) (hc : m 13 9 = iI (ch : Nat)) (hc32 : ch < 32) : T (f_X9_takeBlocks (69 + 16 * d) m) (fun m2 => (∀ z, z < 3 → ∀ h, h < 4 → plA (m2 (69 + 16 * d + 3)) (4 * z + h) 6 = plA (m (69 + 16 * d + 3)) (4 * z + h) 6 + iI (bs (m 15) (m 16) (m 17) (m 19) nb ch h z)) ∧ fC d m m2) := by
  have hn5 := hb.2.1.1
  have key : T (f_X9_takeBlocks_L2 (69 + 16 * d) f_fuel 0 m) (fun r => (∀ z, z < 3 → ∀ h, h < 4 → plA (r.2 (69 + 16 * d + 3)) (4 * z + h) 6 = plA (m (69 + 16 * d + 3)) (4 * z + h) 6 + iI (bs (m 15) (m 16) (m 17) (m 19) nb ch h z)) ∧ fC d m r.2) := by
    refine T_run2 (f_X9_takeBlocks_L2 (69 + 16 * d)) (fun k x m2 => x = iI (k : Nat) ∧ (∀ z, z < 3 → ∀ h, h < 4 → plA (m2 (69 + 16 * d + 3)) (4 * z + h) 6 = plA (m (69 + 16 * d + 3)) (4 * z + h) 6 + iI (isum k (bsT (m 15) (m 16) (m 17) (m 19) ch h z))) ∧ fC d m m2) _ nb 0 _ _ ⟨rfl, fun z _ h _ => by show _ = _ + (0 : Int32); rw [Int32.add_zero], fC_rf _ _⟩ (Nat.zero_le _) (by omega) ?_
    intro k x m1 f hI hkn hcont
    obtain ⟨e, h1, i3⟩ := hI
    subst e
    unfold f_X9_takeBlocks_L2
    rw [i3 13 (by omega) (by omega), hb.1, hc, iI_le (by omega) (by omega) (by omega) (by omega)]
    by_cases c : (nb : Int) ≤ k
    · rw [if_pos c]
      have e : k = nb := by omega
      subst e
      exact T_some ⟨h1, i3⟩
    · rw [if_neg c]
      have hk : k < nb := by omega
      obtain ⟨r15, r16, r17, r18, r19⟩ := hb.2.1.2 k hk
      obtain ⟨v5, e5, l5⟩ := rgN (hb.2.2 k hk).1
      obtain ⟨v6, e6, l6⟩ := rgN r15
      obtain ⟨eH, lH⟩ := hN_of r16
      rw [sp_mem hc32 (by omega), ob_some]
      by_cases q : Nat.testBit ch k = true
      · rw [if_pos q, if_neg (by decide)]
        have q17 : a_ld 5 17 (iI (k : Nat)) m1 = some (m 17 k) := by rw [ldN (by omega) (by omega), i3 17 (by omega) (by omega)]
        have q19 : a_ld 5 19 (iI (k : Nat)) m1 = some (m 19 k) := by rw [ldN (by omega) (by omega), i3 19 (by omega) (by omega)]
        have ez : ∀ {α : Type} (G : Int32 → Option α), ob (if m 17 k = 0 then ob (some (m 19 k)) fun v12 => some v12 else ob (some (m 19 k)) fun v13 => some (-v13)) G = G (iI (uT (m 17) (m 19) k)) := by
          intro α G
          unfold uT sgn
          by_cases w : m 17 k = 0
          · rw [if_pos w, if_pos w, ob_some, ob_some, iI_of]
          · rw [if_neg w, if_neg w, ob_some, ob_some, ← iI_neg, iI_of]
        rw [q17, ob_some, q19, ez]
        have inner : T (f_X9_takeBlocks_L68 (69 + 16 * d) (iI (k : Nat)) (iI (uT (m 17) (m 19) k)) f_fuel 0 m1) (fun r => (∀ z, z < 3 → ∀ h, h < 4 → plA (r.2 (69 + 16 * d + 3)) (4 * z + h) 6 = plA (m1 (69 + 16 * d + 3)) (4 * z + h) 6 + iI (bsT (m 15) (m 16) (m 17) (m 19) ch h z k)) ∧ fC d m r.2) := by
          refine T_run2 (f_X9_takeBlocks_L68 (69 + 16 * d) (iI (k : Nat)) (iI (uT (m 17) (m 19) k))) (fun g x m2 => x = iI (g : Nat) ∧ (∀ z, z < 3 → ∀ h, h < 4 → plA (m2 (69 + 16 * d + 3)) (4 * z + h) 6 = plA (m1 (69 + 16 * d + 3)) (4 * z + h) 6 + (if h < g then iI (bsT (m 15) (m 16) (m 17) (m 19) ch h z k) else 0)) ∧ fC d m m2) _ 4 0 _ _ ⟨rfl, fun z _ h _ => by rw [if_neg (by omega), Int32.add_zero], i3⟩ (Nat.zero_le _) (by omega) ?_
          intro g x m3 f9 hJ hg hcont9
          obtain ⟨e, j1, j3⟩ := hJ
          subst e
          unfold f_X9_takeBlocks_L68
          rw [iL_4, iI_le (by omega) (by omega) (by omega) (by omega)]
          by_cases c9 : (4 : Int) ≤ g
          · rw [if_pos c9]
            refine T_some ⟨fun z hz h hh => ?_, j3⟩
            have := j1 z hz h hh
            rw [if_pos (by omega)] at this
            exact this
          · rw [if_neg c9]
            have hg4 : g < 4 := by omega
            have p16 : a_ld 5 16 (iI (k : Nat)) m3 = some (iI (hN (m 16) k : Nat)) := by rw [ldN (by omega) (by omega), j3 16 (by omega) (by omega), eH]
            have p15 : a_ld 5 15 (iI (k : Nat)) m3 = some (iI (v6 : Nat)) := by rw [ldN (by omega) (by omega), j3 15 (by omega) (by omega), e6]
            have p14 : a_ld 5 14 (iI (k : Nat)) m3 = some (iI (v5 : Nat)) := by rw [ldN (by omega) (by omega), j3 14 (by omega) (by omega), e5]
            have p1 : a_ld 12 (69 + 16 * d + 1) (iI ((v6 : Nat) * 4 + (g : Nat))) m3 = some (m3 (69 + 16 * d + 1) (4 * v6 + g)) := by
              rw [show ((v6 : Nat) : Int) * 4 + ((g : Nat) : Int) = ((4 * v6 + g : Nat) : Int) by omega, ldN (by omega) (by omega)]
            rw [p16, ob_some, sp_mem (by omega) (by omega), ob_some]
            have hstep : ∀ (m5 : gM), (∀ z, z < 3 → ∀ h, h < 4 → plA (m5 (69 + 16 * d + 3)) (4 * z + h) 6 = plA (m3 (69 + 16 * d + 3)) (4 * z + h) 6 + (if h = g then iI (bsT (m 15) (m 16) (m 17) (m 19) ch h z k) else 0)) → ∀ z, z < 3 → ∀ h, h < 4 → plA (m5 (69 + 16 * d + 3)) (4 * z + h) 6 = plA (m1 (69 + 16 * d + 3)) (4 * z + h) 6 + (if h < g + 1 then iI (bsT (m 15) (m 16) (m 17) (m 19) ch h z k) else 0) := by
              intro m5 h5 z hz h hh
              rw [h5 z hz h hh, j1 z hz h hh]
              by_cases w : h = g
              · rw [if_neg (show ¬ h < g by omega), if_pos w, if_pos (by omega), Int32.add_zero]
              · rw [if_neg w, Int32.add_zero]
                by_cases w2 : h < g
                · rw [if_pos w2, if_pos (by omega)]
                · rw [if_neg w2, if_neg (by omega)]
            by_cases q2 : Nat.testBit (hN (m 16) k) g = true
            · rw [if_pos q2, if_neg (by decide), p15, ob_some, sp_spot, ob_some, p14, ob_some, p1, ob_some, sp_book (by omega) (by omega) hg4, ob_some, ob_some]
              refine hcont9 (by omega) _ _ ⟨iI_succ g, hstep _ ?_, ?_⟩
              · intro z hz h hh
                rw [g_up_ne _ _ (show 69 + 16 * d + 3 ≠ 69 + 16 * d + 5 by omega), g_up_at, show 12 * v5 + 4 * v6 + g = 12 * v5 + (4 * v6 + g) by omega, plA_upd _ _ (by omega) (by omega)]
                congr 1
                unfold bsT
                by_cases w : h = g
                · subst w
                  rw [if_pos rfl]
                  by_cases w2 : v6 = z
                  · subst w2
                    rw [if_pos ⟨rfl, by omega⟩, if_pos ⟨⟨q, q2⟩, e6⟩]
                  · rw [if_neg (by omega), if_neg (fun u => w2 (iI_injN (e6.symm.trans u.2) (by omega) (by omega)))]
                    rfl
                · rw [if_neg (by omega), if_neg w]
              · intro c c1 c2
                rw [g_up_ne _ _ c2, g_up_ne _ _ c1]
                exact j3 c c1 c2
            · rw [if_neg q2, if_pos rfl, ob_some]
              refine hcont9 (by omega) _ _ ⟨iI_succ g, hstep _ ?_, j3⟩
              intro z hz h hh
              by_cases w : h = g
              · subst w
                rw [if_pos rfl]
                unfold bsT
                rw [if_neg (fun u => q2 u.1.2)]
                show _ = _ + (0 : Int32)
                rw [Int32.add_zero]
              · rw [if_neg w, Int32.add_zero]
        obtain ⟨r, er, k1, k2⟩ := inner
        rw [er, ob_some]
        try simp only [ob_sm]
        refine hcont (by omega) _ _ ⟨iI_succ k, ?_, k2⟩
        intro z hz h hh
        rw [k1 z hz h hh, h1 z hz h hh]
        show _ = _ + iI (isum k (bsT (m 15) (m 16) (m 17) (m 19) ch h z) + bsT (m 15) (m 16) (m 17) (m 19) ch h z k)
        rw [← iI_add, Int32.add_assoc]
      · rw [if_neg q, if_pos rfl, ob_some]
        refine hcont (by omega) _ _ ⟨iI_succ k, ?_, i3⟩
        intro z hz h hh
        rw [h1 z hz h hh]
        show _ = _ + iI (isum k (bsT (m 15) (m 16) (m 17) (m 19) ch h z) + bsT (m 15) (m 16) (m 17) (m 19) ch h z k)
        unfold bsT
        rw [if_neg (fun u => q u.1.1), Int.add_zero]
  obtain ⟨r, er, h1, h2⟩ := key
  refine ⟨r.2, ?_, h1, h2⟩
  unfold f_X9_takeBlocks
  rw [er]
  try simp only [ob_sm]
