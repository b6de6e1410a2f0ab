theorem isum_add (t u : Nat → Int) : ∀ n, isum n (fun k => t k + u k) = isum n t + isum n u
  | 0 => rfl
  | n + 1 => by
    show isum n (fun k => t k + u k) + (t n + u n) = isum n t + t n + (isum n u + u n)
    rw [isum_add t u n]
    omega
theorem isum_sub (t u : Nat → Int) : ∀ n, isum n (fun k => t k - u k) = isum n t - isum n u
  | 0 => rfl
  | n + 1 => by
    show isum n (fun k => t k - u k) + (t n - u n) = isum n t + t n - (isum n u + u n)
    rw [isum_sub t u n]
    omega
theorem isum_zero : ∀ n, isum n (fun _ => 0) = 0
  | 0 => rfl
  | n + 1 => by
    show isum n (fun _ => 0) + 0 = 0
    rw [isum_zero n]
    rfl
theorem isum_one (a : Nat) (x : Int) : ∀ n, isum n (fun k => if k = a then x else 0) = if a < n then x else 0
  | 0 => rfl
  | n + 1 => by
    show isum n (fun k => if k = a then x else 0) + (if n = a then x else 0) = _
    rw [isum_one a x n]
    by_cases c : a < n
    · rw [if_pos c, if_neg (by omega), if_pos (by omega)]
      omega
    · rw [if_neg c]
      by_cases d : n = a
      · rw [if_pos d, if_pos (by omega)]
        omega
      · rw [if_neg d, if_neg (by omega)]
        omega
theorem isum_swap (f : Nat → Nat → Int) (b : Nat) : ∀ a, isum a (fun i => isum b (fun j => f i j)) = isum b (fun j => isum a (fun i => f i j))
  | 0 => (isum_zero b).symm
  | a + 1 => by
    show isum a (fun i => isum b (fun j => f i j)) + isum b (fun j => f a j) = isum b (fun j => isum a (fun i => f i j) + f a j)
    rw [isum_swap f b a, isum_add]
theorem list_isum {f : Nat → Int} {n : Nat} : ∀ {L : List Nat}, L.Nodup → (∀ k, k ∈ L → k < n) → (L.map f).sum = isum n (fun k => if k ∈ L then f k else 0)
  | [], _, _ => by
    have : isum n (fun k => if k ∈ ([] : List Nat) then f k else 0) = isum n (fun _ => 0) := isum_congr n (fun k _ => if_neg List.not_mem_nil)
    rw [this, isum_zero]
    rfl
  | a :: L, hn, hl => by
    have hn2 := List.nodup_cons.1 hn
    rw [List.map_cons, List.sum_cons, list_isum hn2.2 (fun k hk => hl k (List.mem_cons_of_mem _ hk))]
    have e : isum n (fun k => if k ∈ a :: L then f k else 0) = isum n (fun k => (if k = a then f a else 0) + (if k ∈ L then f k else 0)) := by
      apply isum_congr
      intro k _
      by_cases c : k = a
      · subst c
        rw [if_pos List.mem_cons_self, if_pos rfl, if_neg hn2.1]
        omega
      · rw [if_neg c]
        by_cases d : k ∈ L
        · rw [if_pos d, if_pos (List.mem_cons_of_mem _ d)]
          omega
        · rw [if_neg d, if_neg (fun u => (List.mem_cons.1 u).elim c d)]
          rfl
    rw [e, isum_add, isum_one, if_pos (hl a List.mem_cons_self)]
def pvF (m : gM) (k : Nat) : Int := if m 8 k = 0 then -(m 9 k).toInt else (m 9 k).toInt
def wF (R : Nat → Option (Int × Int × Int)) (h : Nat) : Int := match R h with
  | none => 0
  | some (w, _, _) => w
theorem hwS_isum {R : Nat → Option (Int × Int × Int)} : ∀ n, (∀ h, h < n → R h ≠ none) → hwS R n = some (isum n (wF R))
  | 0, _ => rfl
  | n + 1, hp => by
    have h1 := hwS_isum n (fun h hh => hp h (by omega))
    cases q : R n with
    | none => exact absurd q (hp n (by omega))
    | some u =>
      obtain ⟨w, x, y⟩ := u
      rw [hwS_succS h1 q]
      show _ = some (isum n (wF R) + wF R n)
      have : wF R n = w := by unfold wF; rw [q]
      rw [this]
theorem worth_sum {m0 : gM} {l : Nat → Int} {n : Nat} {M : List Nat} {nb : Nat} {TO GR : Nat → Int} (hD : cDat m0 l n M nb TO GR) {c : Nat} (hpos : ∀ h, h < 4 → cR l m0 M nb c h ≠ none) : hwS (cR l m0 M nb c) 4 = some (isum n (fun k => pvF m0 k * (tkA l m0 M nb c k : Nat))) := by
  have hM := hD.2.1.2.2.1
  have hrow := hD.2.1.2.2.2
  have hlr : ∀ k, k < 3 → 0 ≤ l k ∧ l k ≤ 10 := fun k hk => (hD.1 k hk).2
  rw [hwS_isum 4 hpos]
  congr 1
  have hLm : ∀ (z h : Nat) (b : Int32) (k : Nat), k ∈ Lz m0 M (iI (z : Nat)) (iI (h : Nat)) b ↔ k < n ∧ m0 6 k = iI (z : Nat) ∧ m0 7 k = iI (h : Nat) ∧ m0 8 k = b := by
    intro z h b k
    constructor
    · exact fun hk => Lz_sub hM hk
    · intro hk
      exact List.mem_filter.2 ⟨(hM.2.2.1 k).2 hk.1, decide_eq_true hk.2⟩
  have hnd : ∀ (z h : Nat) (b : Int32), (Lz m0 M (iI (z : Nat)) (iI (h : Nat)) b).Nodup := fun z h b => srt_nodup (hM.2.1.filter _)
  generalize hF : (fun (z h k : Nat) => (if k ∈ Lz m0 M (iI (z : Nat)) (iI (h : Nat)) 1 then pP m0 k * (tk (uU m0) (Lz m0 M (iI (z : Nat)) (iI (h : Nat)) 1) (qbF l m0 M nb c h z) k : Nat) else 0) - (if k ∈ Lz m0 M (iI (z : Nat)) (iI (h : Nat)) 0 then pP m0 k * (tk (uU m0) (Lz m0 M (iI (z : Nat)) (iI (h : Nat)) 0) (qsF l m0 M nb c h z) k : Nat) else 0 : Int)) = F
  have hG : ∀ h, h < 4 → wF (cR l m0 M nb c) h = isum 3 (fun z => isum n (F z h)) := by
    intro h hh
    obtain ⟨w, a, b, hR⟩ : ∃ w a b, cR l m0 M nb c h = some (w, a, b) := by
      cases q : cR l m0 M nb c h with
      | none => exact absurd q (hpos h hh)
      | some u => obtain ⟨w, a, b⟩ := u; exact ⟨w, a, b, rfl⟩
    have hfe := cR_feas hlr hR
    have hw : wF (cR l m0 M nb c) h = w := by unfold wF; rw [hR]
    have hcw : ∀ z, z < 3 → cw (lsF m0 M h z) (lbF m0 M h z) (mkF l m0 M nb c h z) = some (isum n (F z h)) := by
      intro z hz
      obtain ⟨_, _, f1, f2⟩ := hfe.2.1 z hz
      have hcd := cwd_rng (ls := lsF m0 M h z) (lb := lbF m0 M h z) f1 f2
      have eqb : cwd (lsF m0 M h z) (lbF m0 M h z) (mkF l m0 M nb c h z) = qbF l m0 M nb c h z := rfl
      unfold cw
      rw [if_pos ⟨f1, f2⟩]
      congr 1
      unfold cwf
      rw [eqb] at hcd ⊢
      have eqs : (mkF l m0 M nb c h z + ((qbF l m0 M nb c h z : Nat) : Int)).toNat = qsF l m0 M nb c h z := rfl
      rw [eqs]
      have hqs : ((qsF l m0 M nb c h z : Nat) : Int) = mkF l m0 M nb c h z + qbF l m0 M nb c h z := by unfold qsF; omega
      have e1 : pf (lbF m0 M h z) (qbF l m0 M nb c h z) = isum n (fun k => if k ∈ Lz m0 M (iI (z : Nat)) (iI (h : Nat)) 1 then pP m0 k * (tk (uU m0) (Lz m0 M (iI (z : Nat)) (iI (h : Nat)) 1) (qbF l m0 M nb c h z) k : Nat) else 0) := by
        rw [← list_isum (hnd z h 1) (fun k hk => ((hLm z h 1 k).1 hk).1)]
        exact (tk_sum (hnd z h 1) (by show _ ≤ (lbF m0 M h z).length; omega)).symm
      have e0 : pf (lsF m0 M h z) (qsF l m0 M nb c h z) = isum n (fun k => if k ∈ Lz m0 M (iI (z : Nat)) (iI (h : Nat)) 0 then pP m0 k * (tk (uU m0) (Lz m0 M (iI (z : Nat)) (iI (h : Nat)) 0) (qsF l m0 M nb c h z) k : Nat) else 0) := by
        rw [← list_isum (hnd z h 0) (fun k hk => ((hLm z h 0 k).1 hk).1)]
        exact (tk_sum (hnd z h 0) (by show _ ≤ (lsF m0 M h z).length; omega)).symm
      rw [e1, e0, ← isum_sub, ← hF]
    have h3 := hfe.2.2
    rw [hcw 0 (by decide), hcw 1 (by decide), hcw 2 (by decide)] at h3
    have h4 : isum n (F 0 h) + isum n (F 1 h) + isum n (F 2 h) = w := Option.some.inj h3
    rw [hw, ← h4]
    show _ = 0 + isum n (F 0 h) + isum n (F 1 h) + isum n (F 2 h)
    omega
  rw [isum_congr 4 hG, isum_congr 4 (fun h _ => isum_swap (fun z k => F z h k) n 3), isum_swap (fun h k => isum 3 (fun z => F z h k)) n 4]
  apply isum_congr
  intro k hk
  have hr := hrow k hk
  obtain ⟨ez, lz⟩ := zN_of hr.2.1
  have h7 := hr.2.2.1
  unfold rg at h7
  have eh : m0 7 k = iI (hnF m0 k : Nat) := by
    unfold hnF
    rw [Int.toNat_of_nonneg (by omega), iI_of]
  have lh : hnF m0 k < 4 := by
    unfold hnF
    omega
  have ez : m0 6 k = iI (znF m0 k : Nat) := ez
  have lz : znF m0 k < 3 := lz
  have hFk : ∀ h, h < 4 → ∀ z, z < 3 → F z h k = if z = znF m0 k then (if h = hnF m0 k then pvF m0 k * (tkA l m0 M nb c k : Nat) else 0) else 0 := by
    intro h hh z hz
    rw [← hF]
    show (if k ∈ Lz m0 M (iI (z : Nat)) (iI (h : Nat)) 1 then pP m0 k * (tk (uU m0) (Lz m0 M (iI (z : Nat)) (iI (h : Nat)) 1) (qbF l m0 M nb c h z) k : Nat) else 0) - (if k ∈ Lz m0 M (iI (z : Nat)) (iI (h : Nat)) 0 then pP m0 k * (tk (uU m0) (Lz m0 M (iI (z : Nat)) (iI (h : Nat)) 0) (qsF l m0 M nb c h z) k : Nat) else 0 : Int) = _
    by_cases u : z = znF m0 k
    · by_cases v : h = hnF m0 k
      · rw [if_pos u, if_pos v]
        have e6 : m0 6 k = iI (z : Nat) := by rw [ez, u]
        have e7 : m0 7 k = iI (h : Nat) := by rw [eh, v]
        unfold tkA tkv pvF
        rw [e6, e7, ← u, ← v]
        rcases hr.2.2.2.1 with b0 | b1
        · rw [if_neg (fun w => by have := ((hLm z h 1 k).1 w).2.2.2; rw [b0] at this; exact absurd this (by decide)), if_pos ((hLm z h 0 k).2 ⟨hk, e6, e7, b0⟩), if_pos b0, if_pos b0, Int.neg_mul]
          show 0 - (m0 9 k).toInt * _ = _
          omega
        · have nb0 : ¬ m0 8 k = 0 := by rw [b1]; decide
          rw [if_pos ((hLm z h 1 k).2 ⟨hk, e6, e7, b1⟩), if_neg (fun w => by have := ((hLm z h 0 k).1 w).2.2.2; rw [b1] at this; exact absurd this (by decide)), if_neg nb0, if_neg nb0]
          show (m0 9 k).toInt * _ - 0 = _
          omega
      · have e7 : ¬ m0 7 k = iI (h : Nat) := by
          rw [eh, iI_eqP (by omega) (by omega) (by omega) (by omega)]
          omega
        rw [if_pos u, if_neg v, if_neg (fun w => e7 ((hLm z h 1 k).1 w).2.2.1), if_neg (fun w => e7 ((hLm z h 0 k).1 w).2.2.1)]
        rfl
    · have e6 : ¬ m0 6 k = iI (z : Nat) := by
        rw [ez, iI_eqP (by omega) (by omega) (by omega) (by omega)]
        omega
      rw [if_neg u, if_neg (fun w => e6 ((hLm z h 1 k).1 w).2.1), if_neg (fun w => e6 ((hLm z h 0 k).1 w).2.1)]
      rfl
  rw [isum_congr 4 (fun h hh => isum_congr 3 (fun z hz => hFk h hh z hz)), isum_congr 4 (fun h _ => (isum_one (znF m0 k) (if h = hnF m0 k then pvF m0 k * (tkA l m0 M nb c k : Nat) else 0) 3).trans (if_pos lz))]
  rw [isum_one, if_pos lh]
theorem sp_worthTaken {m : gM} {n nb ch : Nat} {TO GR : Nat → Int} {t : Nat → Int} (hb : blkC m nb TO GR) (hc : m 13 9 = iI (ch : Nat)) (hc32 : ch < 32) (hn : m 4 8 = iI (n : Nat)) (hn40 : n ≤ 40) (h8 : ∀ k, k < n → m 8 k = 0 ∨ m 8 k = 1) (ht : ∀ k, k < n → m 10 k - m 11 k = iI (t k)) : f_X9_worthTaken m = some (iI (isum nb (wT (m 16) (m 17) (m 18) (m 19) ch) + isum n (fun k => pvF m k * t k))) := by
  unfold f_X9_worthTaken
  rw [hc, sp_worthOfB hb hc32, ob_some]
  generalize isum nb (wT (m 16) (m 17) (m 18) (m 19) ch) = WW
  refine T_eq (T_ob (P := fun u => u.1 = iI (WW + isum n (fun k => pvF m k * t k))) ?_ (fun u hu => T_some hu))
  refine T_run2 (f_X9_worthTaken_L17 m) (fun k x y => x = iI (WW + isum k (fun k => pvF m k * t k)) ∧ y = iI (k : Nat)) _ n 0 _ _ ⟨by show iI WW = iI (WW + 0); rw [Int.add_zero], rfl⟩ (Nat.zero_le _) (by omega) ?_
  intro k x y f hI hk hcont
  obtain ⟨e1, e2⟩ := hI
  subst e1
  subst e2
  unfold f_X9_worthTaken_L17
  rw [hn, iI_le (by omega) (by omega) (by omega) (by omega)]
  by_cases c : (n : Int) ≤ k
  · rw [if_pos c]
    have e : k = n := by omega
    subst e
    exact T_some rfl
  · have hL : f_oln 4 = 40 := rfl
    rw [if_neg c, a_ldI (by omega) (by omega) (by omega), a_ldI (by omega) (by omega) (by omega), Int.toNat_natCast, ob_some, sp_used (by rw [hL]; omega) (by rw [hL]; omega), show (4 + 6 : Nat) = 10 from rfl, show (4 + 7 : Nat) = 11 from rfl, ht k (by omega)]
    simp only [ob_sm]
    have ez : ∀ {α : Type} (G : Int32 → Option α), ob (if m 8 k = 0 then some (-(m 9 k)) else some (m 9 k)) G = G (iI (pvF m k)) := by
      intro α G
      unfold pvF
      by_cases u : m 8 k = 0
      · rw [if_pos u, if_pos u, ob_some, ← iI_neg, iI_of]
      · rw [if_neg u, if_neg u, ob_some, iI_of]
    rw [ez, iI_mul, iI_add, Int.add_assoc]
    exact hcont (by omega) _ _ ⟨rfl, iI_succ k⟩
