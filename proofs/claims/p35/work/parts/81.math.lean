def kl (key : Nat → Int) (a b : Nat) : Prop := key a < key b ∨ (key a = key b ∧ a < b)
theorem kl_tri (key : Nat → Int) {a b : Nat} (h : a ≠ b) : kl key a b ∨ kl key b a := by unfold kl; omega
theorem kl_irr {key : Nat → Int} {a : Nat} : ¬ kl key a a := by unfold kl; omega
theorem kl_asym {key : Nat → Int} {a b : Nat} (h : kl key a b) : ¬ kl key b a := by unfold kl at *; omega
theorem kl_tr {key : Nat → Int} {a b c : Nat} (h : kl key a b) (h2 : kl key b c) : kl key a c := by unfold kl at *; omega
theorem srt_uniq {key : Nat → Int} : ∀ {L1 L2 : List Nat}, L1.Pairwise (kl key) → L2.Pairwise (kl key) → (∀ k, k ∈ L1 ↔ k ∈ L2) → L1 = L2
  | [], [], _, _, _ => rfl
  | [], b :: _, _, _, h => absurd ((h b).2 List.mem_cons_self) List.not_mem_nil
  | a :: _, [], _, _, h => absurd ((h a).1 List.mem_cons_self) List.not_mem_nil
  | a :: l1, b :: l2, h1, h2, h => by
    have e : a = b := by
      by_cases q : a = b
      · exact q
      · exfalso
        have ha : a ∈ l2 := by
          rcases List.mem_cons.1 ((h a).1 List.mem_cons_self) with c | c
          · exact absurd c q
          · exact c
        have hb : b ∈ l1 := by
          rcases List.mem_cons.1 ((h b).2 List.mem_cons_self) with c | c
          · exact absurd c.symm q
          · exact c
        exact kl_asym ((List.pairwise_cons.1 h1).1 b hb) ((List.pairwise_cons.1 h2).1 a ha)
    subst e
    have e2 : l1 = l2 := by
      apply srt_uniq (List.pairwise_cons.1 h1).2 (List.pairwise_cons.1 h2).2
      intro k
      constructor
      · intro hk
        rcases List.mem_cons.1 ((h k).1 (List.mem_cons_of_mem _ hk)) with c | c
        · subst c; exact absurd ((List.pairwise_cons.1 h1).1 _ hk) kl_irr
        · exact c
      · intro hk
        rcases List.mem_cons.1 ((h k).2 (List.mem_cons_of_mem _ hk)) with c | c
        · subst c; exact absurd ((List.pairwise_cons.1 h2).1 _ hk) kl_irr
        · exact c
    rw [e2]
theorem srt_nodup {key : Nat → Int} {L : List Nat} (h : L.Pairwise (kl key)) : L.Nodup := h.imp (fun {a b} hab e => by subst e; exact kl_irr hab)
theorem take_getD {α : Type} (M : List α) (d : α) {i : Nat} (h : i < M.length) : M.take (i + 1) = M.take i ++ [M.getD i d] := by
  rw [List.take_succ_eq_append_getElem h]
  simp [List.getD, h]
theorem getD_mem {α : Type} (M : List α) (d : α) {i : Nat} (h : i < M.length) : M.getD i d ∈ M := by
  simp [List.getD, h]
theorem gD {α : Type} (M : List α) (d : α) {i : Nat} (h : i < M.length) : M.getD i d = M[i] := by
  simp [List.getD, h]
def Mer (n : Nat) (key : Nat → Int) (mer : Nat → Int32) (M : List Nat) : Prop := M.length = n ∧ M.Pairwise (kl key) ∧ (∀ k, k ∈ M ↔ k < n) ∧ ∀ i, i < n → mer i = iI (M.getD i 0 : Nat)
theorem Mer_0 (key : Nat → Int) (mer : Nat → Int32) : Mer 0 key mer [] := ⟨rfl, List.Pairwise.nil, fun k => by simp, fun i h => absurd h (by omega)⟩
theorem Mer_lt {n : Nat} {key : Nat → Int} {mer : Nat → Int32} {M : List Nat} (h : Mer n key mer M) {i : Nat} (hi : i < n) : M.getD i 0 < n := (h.2.2.1 _).1 (getD_mem M 0 (by rw [h.1]; exact hi))
theorem foldl_take {α β : Type} (f : β → α → β) (b : β) (M : List α) (d : α) {i : Nat} (h : i < M.length) : (M.take (i + 1)).foldl f b = f ((M.take i).foldl f b) (M.getD i d) := by
  rw [take_getD M d h, List.foldl_append]
  rfl
def pf (l : List Int) (j : Nat) : Int := (l.take j).sum
theorem pf_0 (l : List Int) : pf l 0 = 0 := rfl
theorem pf_succ (l : List Int) {j : Nat} (h : j < l.length) : pf l (j + 1) = pf l j + l.getD j 0 := by
  unfold pf
  rw [take_getD l 0 h, List.sum_append_int]
  simp
theorem pf_app (l r : List Int) {j : Nat} (h : j ≤ l.length) : pf (l ++ r) j = pf l j := by
  unfold pf
  rw [List.take_append_of_le_length h]
theorem pf_app2 (l r : List Int) (j : Nat) : pf (l ++ r) (l.length + j) = l.sum + pf r j := by
  unfold pf
  rw [List.take_length_add_append, List.sum_append_int]
theorem pf_rep (a : Int) (n : Nat) {j : Nat} (h : j ≤ n) : pf (List.replicate n a) j = j * a := by
  unfold pf
  rw [List.take_replicate, Nat.min_eq_left h, List.sum_replicate_int]
theorem pf_rng {l : List Int} {B : Int} (h : ∀ x ∈ l, 0 ≤ x ∧ x ≤ B) : ∀ j : Nat, j ≤ l.length → 0 ≤ pf l j ∧ pf l j ≤ B * j := by
  intro j
  induction j with
  | zero => intro _; rw [pf_0]; omega
  | succ j ih =>
    intro hj
    have h1 := ih (by omega)
    rw [pf_succ l (by omega)]
    have h2 := h _ (getD_mem l 0 (show j < l.length by omega))
    have h3 : B * ((j + 1 : Nat) : Int) = B * j + B := by
      rw [Int.natCast_add, Int.mul_add]; simp
    omega
def ups (P : Nat → Int) (U : Nat → Nat) (L : List Nat) : List Int := L.flatMap (fun k => List.replicate (U k) (P k))
theorem ups_nil (P : Nat → Int) (U : Nat → Nat) : ups P U [] = [] := rfl
theorem ups_app (P : Nat → Int) (U : Nat → Nat) (L : List Nat) (k : Nat) : ups P U (L ++ [k]) = ups P U L ++ List.replicate (U k) (P k) := by
  unfold ups
  rw [List.flatMap_append]
  simp
theorem ups_cons (P : Nat → Int) (U : Nat → Nat) (L : List Nat) (k : Nat) : ups P U (k :: L) = List.replicate (U k) (P k) ++ ups P U L := rfl
theorem ups_mem {P : Nat → Int} {U : Nat → Nat} {L : List Nat} {x : Int} (h : x ∈ ups P U L) : ∃ k ∈ L, x = P k := by
  unfold ups at h
  rw [List.mem_flatMap] at h
  obtain ⟨k, hk, hx⟩ := h
  exact ⟨k, hk, (List.mem_replicate.1 hx).2⟩
theorem ups_len {P : Nat → Int} {U : Nat → Nat} {B : Nat} : ∀ {L : List Nat}, (∀ k ∈ L, U k ≤ B) → (ups P U L).length ≤ B * L.length
  | [], _ => by simp [ups_nil]
  | k :: L, h => by
    have h1 := ups_len (P := P) (L := L) (fun j hj => h j (List.mem_cons_of_mem _ hj))
    have h2 := h k List.mem_cons_self
    rw [ups_cons, List.length_append, List.length_replicate, List.length_cons, Nat.mul_add]
    omega
theorem ups_mono {P key : Nat → Int} {U : Nat → Nat} {L : List Nat} (h : L.Pairwise (kl key)) (hk : ∀ k ∈ L, key k = P k) {i j : Nat} (hij : i ≤ j) (hj : j < (ups P U L).length) : (ups P U L).getD i 0 ≤ (ups P U L).getD j 0 := by
  have hp : (ups P U L).Pairwise (· ≤ ·) := by
    unfold ups
    rw [List.pairwise_flatMap]
    constructor
    · intro a _
      rw [List.pairwise_replicate]
      exact Or.inr (Int.le_refl _)
    · have : L.Pairwise (fun a b => a ∈ L ∧ b ∈ L ∧ kl key a b) := by
        apply List.Pairwise.and_mem.1 h
      refine this.imp ?_
      intro a b hab x hx y hy
      rw [(List.mem_replicate.1 hx).2, (List.mem_replicate.1 hy).2]
      obtain ⟨ha, hb, hk2⟩ := hab
      have e1 := hk a ha
      have e2 := hk b hb
      unfold kl at hk2
      omega
  by_cases q : i = j
  · subst q; exact Int.le_refl _
  · have := List.pairwise_iff_getElem.1 hp i j (by omega) hj (by omega)
    simpa [List.getD, hj, show i < (ups P U L).length by omega] using this
theorem ups_anti {P key : Nat → Int} {U : Nat → Nat} {L : List Nat} (h : L.Pairwise (kl key)) (hk : ∀ k ∈ L, key k = - P k) {i j : Nat} (hij : i ≤ j) (hj : j < (ups P U L).length) : (ups P U L).getD j 0 ≤ (ups P U L).getD i 0 := by
  have hp : (ups P U L).Pairwise (fun x y => y ≤ x) := by
    unfold ups
    rw [List.pairwise_flatMap]
    constructor
    · intro a _
      rw [List.pairwise_replicate]
      exact Or.inr (Int.le_refl _)
    · have : L.Pairwise (fun a b => a ∈ L ∧ b ∈ L ∧ kl key a b) := by
        apply List.Pairwise.and_mem.1 h
      refine this.imp ?_
      intro a b hab x hx y hy
      rw [(List.mem_replicate.1 hx).2, (List.mem_replicate.1 hy).2]
      obtain ⟨ha, hb, hk2⟩ := hab
      have e1 := hk a ha
      have e2 := hk b hb
      unfold kl at hk2
      omega
  by_cases q : i = j
  · subst q; exact Int.le_refl _
  · have := List.pairwise_iff_getElem.1 hp i j (by omega) hj (by omega)
    simpa [List.getD, hj, show i < (ups P U L).length by omega] using this
def am (f : Nat → Int) (lo : Nat) : Nat → Nat
  | 0 => lo
  | n + 1 => if f (am f lo n) < f (lo + n + 1) then lo + n + 1 else am f lo n
theorem am_spec (f : Nat → Int) (lo : Nat) : ∀ n, lo ≤ am f lo n ∧ am f lo n ≤ lo + n ∧ ∀ d, lo ≤ d → d ≤ lo + n → f d ≤ f (am f lo n) ∧ (d < am f lo n → f d < f (am f lo n))
  | 0 => ⟨Nat.le_refl _, Nat.le_refl _, fun d h1 h2 => by
      have e : d = lo := by omega
      subst e
      exact ⟨Int.le_refl _, fun h => absurd h (by unfold am; omega)⟩⟩
  | n + 1 => by
    obtain ⟨h1, h2, h3⟩ := am_spec f lo n
    unfold am
    by_cases c : f (am f lo n) < f (lo + n + 1)
    · rw [if_pos c]
      refine ⟨by omega, by omega, fun d hd1 hd2 => ?_⟩
      by_cases q : d = lo + n + 1
      · subst q; exact ⟨Int.le_refl _, fun h => absurd h (by omega)⟩
      · have := (h3 d hd1 (by omega)).1
        exact ⟨by omega, fun _ => by omega⟩
    · rw [if_neg c]
      refine ⟨by omega, by omega, fun d hd1 hd2 => ?_⟩
      by_cases q : d = lo + n + 1
      · subst q; exact ⟨by omega, fun h => absurd h (by omega)⟩
      · exact h3 d hd1 (by omega)
theorem am_uniq {f : Nat → Int} {lo n x : Nat} (h1 : lo ≤ x) (h2 : x ≤ lo + n) (h3 : ∀ d, lo ≤ d → d ≤ lo + n → f d ≤ f x ∧ (d < x → f d < f x)) : x = am f lo n := by
  obtain ⟨g1, g2, g3⟩ := am_spec f lo n
  have a1 := h3 (am f lo n) g1 g2
  have a2 := g3 x h1 h2
  rcases Nat.lt_trichotomy x (am f lo n) with c | c | c
  · have := a2.2 c; omega
  · exact c
  · have := a1.2 c; omega
theorem mono_up {f : Nat → Int} {x : Nat} : ∀ n lo, lo + n = x → (∀ d, lo ≤ d → d < x → f d < f (d + 1)) → f lo ≤ f x ∧ (lo < x → f lo < f x)
  | 0, lo, e, _ => by
    have : lo = x := by omega
    subst this
    exact ⟨Int.le_refl _, fun h => absurd h (by omega)⟩
  | n + 1, lo, e, h => by
    have a := mono_up n (lo + 1) (by omega) (fun d h1 h2 => h d (by omega) h2)
    have b := h lo (Nat.le_refl _) (by omega)
    exact ⟨by omega, fun _ => by omega⟩
theorem mono_dn {f : Nat → Int} {x : Nat} : ∀ n, (∀ d, x ≤ d → d < x + n → f (d + 1) ≤ f d) → f (x + n) ≤ f x
  | 0, _ => Int.le_refl _
  | n + 1, h => by
    have a := mono_dn n (fun d h1 h2 => h d h1 (by omega))
    have b := h (x + n) (by omega) (by omega)
    show f (x + n + 1) ≤ f x
    omega
theorem am_greedy {f : Nat → Int} {lo n x : Nat} (h1 : lo ≤ x) (h2 : x ≤ lo + n) (hu : ∀ d, lo ≤ d → d < x → f d < f (d + 1)) (hd : ∀ d, x ≤ d → d < lo + n → f (d + 1) ≤ f d) : x = am f lo n := by
  apply am_uniq h1 h2
  intro d d1 d2
  by_cases c : d ≤ x
  · exact mono_up (x - d) d (by omega) (fun e e1 e2 => hu e (by omega) e2)
  · have := mono_dn (f := f) (x := x) (d - x) (fun e e1 e2 => hd e e1 (by omega))
    rw [show x + (d - x) = d by omega] at this
    exact ⟨this, fun h => absurd h (by omega)⟩
def cwf (ls lb : List Int) (mk : Int) (d : Nat) : Int := pf lb d - pf ls (mk + d).toNat
def cwn (ls lb : List Int) (mk : Int) : Nat := min lb.length (ls.length - mk).toNat - (-mk).toNat
def cwd (ls lb : List Int) (mk : Int) : Nat := am (cwf ls lb mk) (-mk).toNat (cwn ls lb mk)
def cw (ls lb : List Int) (mk : Int) : Option Int := if -(lb.length : Int) ≤ mk ∧ mk ≤ ls.length then some (cwf ls lb mk (cwd ls lb mk)) else none
theorem cwd_rng {ls lb : List Int} {mk : Int} (h1 : -(lb.length : Int) ≤ mk) (h2 : mk ≤ ls.length) : (-mk).toNat ≤ cwd ls lb mk ∧ cwd ls lb mk ≤ lb.length ∧ 0 ≤ mk + cwd ls lb mk ∧ mk + cwd ls lb mk ≤ ls.length := by
  obtain ⟨a, b, _⟩ := am_spec (cwf ls lb mk) (-mk).toNat (cwn ls lb mk)
  unfold cwd
  have hn : cwn ls lb mk = min lb.length (ls.length - mk).toNat - (-mk).toNat := rfl
  omega
theorem cwf_rng {ls lb : List Int} (hs : ∀ x ∈ ls, 0 ≤ x ∧ x ≤ 200) (hb : ∀ x ∈ lb, 0 ≤ x ∧ x ≤ 200) (ns : ls.length ≤ 400) (nb : lb.length ≤ 400) {mk : Int} {d : Nat} (h1 : d ≤ lb.length) (h2 : 0 ≤ mk + d) (h3 : mk + d ≤ ls.length) : -80000 ≤ cwf ls lb mk d ∧ cwf ls lb mk d ≤ 80000 := by
  have a := pf_rng hb d h1
  have b := pf_rng hs (mk + d).toNat (by omega)
  unfold cwf
  omega
theorem cw_rng {ls lb : List Int} (hs : ∀ x ∈ ls, 0 ≤ x ∧ x ≤ 200) (hb : ∀ x ∈ lb, 0 ≤ x ∧ x ≤ 200) (ns : ls.length ≤ 400) (nb : lb.length ≤ 400) {mk w : Int} (h : cw ls lb mk = some w) : -80000 ≤ w ∧ w ≤ 80000 := by
  unfold cw at h
  by_cases c : -(lb.length : Int) ≤ mk ∧ mk ≤ ls.length
  · rw [if_pos c] at h
    have e := Option.some.inj h
    obtain ⟨_, a2, a3, a4⟩ := cwd_rng c.1 c.2
    rw [← e]
    exact cwf_rng hs hb ns nb a2 a3 a4
  · rw [if_neg c] at h; cases h
theorem cw_0 {ls lb : List Int} : ∃ w, cw ls lb 0 = some w ∧ 0 ≤ w := by
  refine ⟨cwf ls lb 0 (cwd ls lb 0), ?_, ?_⟩
  · unfold cw
    rw [if_pos ⟨by omega, by omega⟩]
  · obtain ⟨_, _, g⟩ := am_spec (cwf ls lb 0) (-(0 : Int)).toNat (cwn ls lb 0)
    have := (g 0 (by decide) (Nat.zero_le _)).1
    unfold cwd
    have e : cwf ls lb 0 0 = 0 := by unfold cwf; simp [pf_0]
    omega
def tk (U : Nat → Nat) : List Nat → Nat → Nat → Nat
  | [], _, _ => 0
  | a :: L, q, k => if k = a then min (U a) q else tk U L (q - min (U a) q) k
theorem tk_out {U : Nat → Nat} : ∀ {L : List Nat} {q k : Nat}, k ∉ L → tk U L q k = 0
  | [], _, _, _ => rfl
  | a :: L, q, k, h => by
    unfold tk
    rw [if_neg (fun e => h (by rw [e]; exact List.mem_cons_self)), tk_out (fun e => h (List.mem_cons_of_mem _ e))]
theorem tk_0 {U : Nat → Nat} : ∀ {L : List Nat} {k : Nat}, tk U L 0 k = 0
  | [], _ => rfl
  | a :: L, k => by
    unfold tk
    by_cases c : k = a
    · rw [if_pos c]; omega
    · rw [if_neg c, show 0 - min (U a) 0 = 0 by omega, tk_0]
theorem tk_sum {P : Nat → Int} {U : Nat → Nat} : ∀ {L : List Nat} {q : Nat}, L.Nodup → q ≤ (ups P U L).length → (L.map (fun k => P k * (tk U L q k : Int))).sum = pf (ups P U L) q
  | [], q, _, h => by
    have e : q = 0 := by simpa [ups_nil] using h
    subst e
    rfl
  | a :: L, q, hn, h => by
    have hn2 := List.nodup_cons.1 hn
    rw [List.map_cons, List.sum_cons]
    have e1 : L.map (fun k => P k * (tk U (a :: L) q k : Int)) = L.map (fun k => P k * (tk U L (q - min (U a) q) k : Int)) := by
      apply List.map_congr_left
      intro k hk
      have : k ≠ a := fun e => hn2.1 (by rw [← e]; exact hk)
      show P k * ((if k = a then min (U a) q else tk U L (q - min (U a) q) k : Nat) : Int) = _
      rw [if_neg this]
    rw [ups_cons, List.length_append, List.length_replicate] at h
    rw [e1, tk_sum (P := P) hn2.2 (by omega), ups_cons]
    have e2 : tk U (a :: L) q a = min (U a) q := by unfold tk; rw [if_pos rfl]
    rw [e2]
    by_cases c : q ≤ U a
    · rw [Nat.min_eq_right c, pf_app _ _ (by rw [List.length_replicate]; exact c), pf_rep _ _ c, Nat.sub_self, pf_0, Int.mul_comm]
      omega
    · have e3 : q = (List.replicate (U a) (P a)).length + (q - U a) := by rw [List.length_replicate]; omega
      rw [Nat.min_eq_left (by omega)]
      have e4 : pf (List.replicate (U a) (P a) ++ ups P U L) q = (List.replicate (U a) (P a)).sum + pf (ups P U L) (q - U a) := by
        have := pf_app2 (List.replicate (U a) (P a)) (ups P U L) (q - U a)
        rw [← e3] at this
        exact this
      rw [e4, List.sum_replicate_int, Int.mul_comm]
def gs (a b : Int) : Int := aI (a - b) + aI (b - (-a - b)) + aI (a - (-a - b))
def BestOf (F : Int → Int → Option Int) (S : Int → Int → Prop) : Option (Int × Int × Int) → Prop
  | none => ∀ a b, S a b → F a b = none
  | some (w, a, b) => S a b ∧ F a b = some w ∧ ∀ a2 b2 w2, S a2 b2 → F a2 b2 = some w2 → w2 < w ∨ (w2 = w ∧ (gs a b < gs a2 b2 ∨ (gs a b = gs a2 b2 ∧ (a < a2 ∨ (a = a2 ∧ b ≤ b2)))))
theorem Best_uniq {F : Int → Int → Option Int} {S : Int → Int → Prop} {r1 r2 : Option (Int × Int × Int)} (h1 : BestOf F S r1) (h2 : BestOf F S r2) : r1 = r2 := by
  cases r1 with
  | none =>
    cases r2 with
    | none => rfl
    | some v =>
      obtain ⟨w, a, b⟩ := v
      have := h1 a b h2.1
      rw [h2.2.1] at this
      cases this
  | some v =>
    obtain ⟨w, a, b⟩ := v
    cases r2 with
    | none =>
      have := h2 a b h1.1
      rw [h1.2.1] at this
      cases this
    | some u =>
      obtain ⟨w2, a2, b2⟩ := u
      have p := h1.2.2 a2 b2 w2 h2.1 h2.2.1
      have q := h2.2.2 a b w h1.1 h1.2.1
      have e1 : w = w2 := by omega
      have e2 : a = a2 := by omega
      have e3 : b = b2 := by omega
      rw [e1, e2, e3]
theorem Best_S {F : Int → Int → Option Int} {S S2 : Int → Int → Prop} {r : Option (Int × Int × Int)} (h : BestOf F S r) (hS : ∀ a b w, F a b = some w → (S a b ↔ S2 a b)) : BestOf F S2 r := by
  cases r with
  | none =>
    intro a b hs
    cases e : F a b with
    | none => rfl
    | some w =>
      have := h a b ((hS a b w e).2 hs)
      rw [e] at this
      cases this
  | some v =>
    obtain ⟨w, a, b⟩ := v
    exact ⟨(hS a b w h.2.1).1 h.1, h.2.1, fun a2 b2 w2 hs hf => h.2.2 a2 b2 w2 ((hS a2 b2 w2 hf).2 hs) hf⟩
def stepB (F : Int → Int → Option Int) (r : Option (Int × Int × Int)) (a b : Int) : Option (Int × Int × Int) := match F a b with
  | none => r
  | some w => match r with
    | none => some (w, a, b)
    | some (w0, a0, b0) => if w0 < w ∨ (w = w0 ∧ gs a b < gs a0 b0) then some (w, a, b) else some (w0, a0, b0)
theorem Best_step {F : Int → Int → Option Int} {S S2 : Int → Int → Prop} {r : Option (Int × Int × Int)} (h : BestOf F S r) {a b : Int} (hl : ∀ a2 b2, S a2 b2 → a2 < a ∨ (a2 = a ∧ b2 < b)) (hS : ∀ a2 b2, S2 a2 b2 ↔ S a2 b2 ∨ (a2 = a ∧ b2 = b)) : BestOf F S2 (stepB F r a b) := by
  unfold stepB
  cases e : F a b with
  | none =>
    refine Best_S h (fun a2 b2 w hf => ?_)
    rw [hS]
    constructor
    · exact Or.inl
    · intro q
      rcases q with q | q
      · exact q
      · rw [q.1, q.2, e] at hf; cases hf
  | some w =>
    cases r with
    | none =>
      refine ⟨(hS a b).2 (Or.inr ⟨rfl, rfl⟩), e, fun a2 b2 w2 hs hf => ?_⟩
      rcases (hS a2 b2).1 hs with q | q
      · have := h a2 b2 q
        rw [hf] at this
        cases this
      · obtain ⟨q1, q2⟩ := q
        subst q1
        subst q2
        rw [e] at hf
        have := Option.some.inj hf
        omega
    | some v =>
      obtain ⟨w0, a0, b0⟩ := v
      show BestOf F S2 (if w0 < w ∨ (w = w0 ∧ gs a b < gs a0 b0) then some (w, a, b) else some (w0, a0, b0))
      by_cases c : w0 < w ∨ (w = w0 ∧ gs a b < gs a0 b0)
      · rw [if_pos c]
        refine ⟨(hS a b).2 (Or.inr ⟨rfl, rfl⟩), e, fun a2 b2 w2 hs hf => ?_⟩
        rcases (hS a2 b2).1 hs with q | q
        · have := h.2.2 a2 b2 w2 q hf
          omega
        · obtain ⟨q1, q2⟩ := q
          subst q1
          subst q2
          rw [e] at hf
          have := Option.some.inj hf
          omega
      · rw [if_neg c]
        refine ⟨(hS a0 b0).2 (Or.inl h.1), h.2.1, fun a2 b2 w2 hs hf => ?_⟩
        rcases (hS a2 b2).1 hs with q | q
        · exact h.2.2 a2 b2 w2 q hf
        · obtain ⟨q1, q2⟩ := q
          subst q1
          subst q2
          rw [e] at hf
          have := Option.some.inj hf
          have l := hl a0 b0 h.1
          omega
def MaxOf (F : Int → Int → Option Int) (S : Int → Int → Prop) : Option Int → Prop
  | none => ∀ a b, S a b → F a b = none
  | some w => (∃ a b, S a b ∧ F a b = some w) ∧ ∀ a2 b2 w2, S a2 b2 → F a2 b2 = some w2 → w2 ≤ w
theorem Max_uniq {F : Int → Int → Option Int} {S : Int → Int → Prop} {r1 r2 : Option Int} (h1 : MaxOf F S r1) (h2 : MaxOf F S r2) : r1 = r2 := by
  cases r1 with
  | none =>
    cases r2 with
    | none => rfl
    | some w =>
      obtain ⟨⟨a, b, hs, hf⟩, _⟩ := h2
      have := h1 a b hs
      rw [hf] at this
      cases this
  | some w =>
    obtain ⟨⟨a, b, hs, hf⟩, g⟩ := h1
    cases r2 with
    | none =>
      have := h2 a b hs
      rw [hf] at this
      cases this
    | some w2 =>
      obtain ⟨⟨a2, b2, hs2, hf2⟩, g2⟩ := h2
      have p := g a2 b2 w2 hs2 hf2
      have q := g2 a b w hs hf
      rw [show w = w2 by omega]
theorem Max_S {F : Int → Int → Option Int} {S S2 : Int → Int → Prop} {r : Option Int} (h : MaxOf F S r) (hS : ∀ a b w, F a b = some w → (S a b ↔ S2 a b)) : MaxOf F S2 r := by
  cases r with
  | none =>
    intro a b hs
    cases e : F a b with
    | none => rfl
    | some w =>
      have := h a b ((hS a b w e).2 hs)
      rw [e] at this
      cases this
  | some w =>
    obtain ⟨⟨a, b, hs, hf⟩, g⟩ := h
    exact ⟨⟨a, b, (hS a b w hf).1 hs, hf⟩, fun a2 b2 w2 hs2 hf2 => g a2 b2 w2 ((hS a2 b2 w2 hf2).2 hs2) hf2⟩
def stepM (F : Int → Int → Option Int) (r : Option Int) (a b : Int) : Option Int := match F a b with
  | none => r
  | some w => match r with
    | none => some w
    | some w0 => if w0 < w then some w else some w0
theorem Max_step {F : Int → Int → Option Int} {S S2 : Int → Int → Prop} {r : Option Int} (h : MaxOf F S r) {a b : Int} (hS : ∀ a2 b2, S2 a2 b2 ↔ S a2 b2 ∨ (a2 = a ∧ b2 = b)) : MaxOf F S2 (stepM F r a b) := by
  unfold stepM
  cases e : F a b with
  | none =>
    refine Max_S h (fun a2 b2 w hf => ?_)
    rw [hS]
    constructor
    · exact Or.inl
    · intro q
      rcases q with q | q
      · exact q
      · rw [q.1, q.2, e] at hf; cases hf
  | some w =>
    cases r with
    | none =>
      refine ⟨⟨a, b, (hS a b).2 (Or.inr ⟨rfl, rfl⟩), e⟩, fun a2 b2 w2 hs hf => ?_⟩
      rcases (hS a2 b2).1 hs with q | q
      · have := h a2 b2 q
        rw [hf] at this
        cases this
      · rw [q.1, q.2, e] at hf
        have := Option.some.inj hf
        omega
    | some w0 =>
      obtain ⟨⟨a0, b0, hs0, hf0⟩, g⟩ := h
      show MaxOf F S2 (if w0 < w then some w else some w0)
      by_cases c : w0 < w
      · rw [if_pos c]
        refine ⟨⟨a, b, (hS a b).2 (Or.inr ⟨rfl, rfl⟩), e⟩, fun a2 b2 w2 hs hf => ?_⟩
        rcases (hS a2 b2).1 hs with q | q
        · have := g a2 b2 w2 q hf
          omega
        · rw [q.1, q.2, e] at hf
          have := Option.some.inj hf
          omega
      · rw [if_neg c]
        refine ⟨⟨a0, b0, (hS a0 b0).2 (Or.inl hs0), hf0⟩, fun a2 b2 w2 hs hf => ?_⟩
        rcases (hS a2 b2).1 hs with q | q
        · exact g a2 b2 w2 q hf
        · rw [q.1, q.2, e] at hf
          have := Option.some.inj hf
          omega
