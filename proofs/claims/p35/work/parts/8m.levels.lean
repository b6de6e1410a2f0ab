theorem T_run5 {α β γ δ ε ρ : Type} (F : Nat → α → β → γ → δ → ε → Option ρ) (I : Nat → α → β → γ → δ → ε → Prop) (Q : ρ → Prop) (N k : Nat) (a : α) (b : β) (c : γ) (d : δ) (e : ε) (hI : I k a b c d e) (hk : k ≤ N) (hN : N < 100000) (h : ∀ k a b c d e n, I k a b c d e → k ≤ N → (k < N → ∀ a2 b2 c2 d2 e2, I (k + 1) a2 b2 c2 d2 e2 → T (F n a2 b2 c2 d2 e2) Q) → T (F (n + 1) a b c d e) Q) : T (F f_fuel a b c d e) Q :=
  T_run (fun n (s : α × β × γ × δ × ε) => F n s.1 s.2.1 s.2.2.1 s.2.2.2.1 s.2.2.2.2) (fun k s => I k s.1 s.2.1 s.2.2.1 s.2.2.2.1 s.2.2.2.2) Q N k (a, b, c, d, e) hI hk hN (fun k s n hI hk hc => h k s.1 s.2.1 s.2.2.1 s.2.2.2.1 s.2.2.2.2 n hI hk (fun hk2 a2 b2 c2 d2 e2 hI2 => hc hk2 (a2, b2, c2, d2, e2) hI2))
def rstep (P : Nat → Int32) (U : Nat → Nat) (s : Nat × Int32 × Nat × (Nat → Nat)) (k : Nat) : Nat × Int32 × Nat × (Nat → Nat) := (s.1 - min (U k) s.1, (if 0 < min (U k) s.1 then P k else s.2.1), s.2.2.1 + (U k - min (U k) s.1), fun j => if j = k then min (U k) s.1 else s.2.2.2 j)
def rs (P : Nat → Int32) (U : Nat → Nat) (q0 : Nat) (p0 : Int32) (A : List Nat) : Nat × Int32 × Nat × (Nat → Nat) := A.foldl (rstep P U) (q0, p0, 0, fun _ => 0)
theorem rs_nil (P : Nat → Int32) (U : Nat → Nat) (q0 : Nat) (p0 : Int32) : rs P U q0 p0 [] = (q0, p0, 0, fun _ => 0) := rfl
theorem rs_app (P : Nat → Int32) (U : Nat → Nat) (q0 : Nat) (p0 : Int32) (A : List Nat) (k : Nat) : rs P U q0 p0 (A ++ [k]) = rstep P U (rs P U q0 p0 A) k := by
  unfold rs
  rw [List.foldl_append]
  rfl
theorem snoc_ind {p : List Nat → Prop} (h0 : p []) (h1 : ∀ A k, p A → p (A ++ [k])) : ∀ A, p A := by
  intro A
  have : ∀ n : Nat, n ≤ A.length → p (A.take n) := by
    intro n
    induction n with
    | zero => intro _; exact h0
    | succ n ih =>
      intro hn
      rw [take_getD A 0 (by omega)]
      exact h1 _ _ (ih (by omega))
  have h2 := this A.length (Nat.le_refl _)
  rw [List.take_length] at h2
  exact h2
theorem rs_le (P : Nat → Int32) (U : Nat → Nat) (q0 : Nat) (p0 : Int32) : ∀ A : List Nat, (rs P U q0 p0 A).1 ≤ q0 := by
  apply snoc_ind
  · exact Nat.le_refl _
  · intro A k h
    rw [rs_app]
    show (rs P U q0 p0 A).1 - min (U k) (rs P U q0 p0 A).1 ≤ q0
    omega
theorem rs_wb {P : Nat → Int32} {U : Nat → Nat} {q0 : Nat} {p0 : Int32} {B : Nat} : ∀ A : List Nat, (∀ k, k ∈ A → U k ≤ B) → (rs P U q0 p0 A).2.2.1 ≤ B * A.length := by
  apply snoc_ind
  · intro _
    exact Nat.zero_le _
  · intro A k h hU
    rw [rs_app]
    have h1 := h (fun j hj => hU j (List.mem_append_left _ hj))
    have h2 := hU k (List.mem_append_right _ (List.mem_singleton.2 rfl))
    show (rs P U q0 p0 A).2.2.1 + (U k - min (U k) (rs P U q0 p0 A).1) ≤ B * (A ++ [k]).length
    rw [List.length_append, List.length_singleton, Nat.mul_add]
    omega
theorem rs_gb {P : Nat → Int32} {U : Nat → Nat} {q0 : Nat} {p0 : Int32} : ∀ A : List Nat, ∀ j, (rs P U q0 p0 A).2.2.2 j ≤ U j := by
  apply snoc_ind
  · intro j
    exact Nat.zero_le _
  · intro A k h j
    rw [rs_app]
    show (if j = k then min (U k) (rs P U q0 p0 A).1 else (rs P U q0 p0 A).2.2.2 j) ≤ U j
    by_cases c : j = k
    · rw [if_pos c, c]; omega
    · rw [if_neg c]; exact h j
theorem rs_z {P : Nat → Int32} {U : Nat → Nat} {q0 : Nat} {p0 : Int32} {A : List Nat} (h0 : (rs P U q0 p0 A).1 = 0) : ∀ B : List Nat, (rs P U q0 p0 (A ++ B)).1 = 0 ∧ (rs P U q0 p0 (A ++ B)).2.1 = (rs P U q0 p0 A).2.1 ∧ (∀ j, j ∉ B → (rs P U q0 p0 (A ++ B)).2.2.2 j = (rs P U q0 p0 A).2.2.2 j) ∧ ∀ j, j ∈ B → (rs P U q0 p0 (A ++ B)).2.2.2 j = 0 := by
  apply snoc_ind
  · rw [List.append_nil]
    exact ⟨h0, rfl, fun j _ => rfl, fun j hj => absurd hj List.not_mem_nil⟩
  · intro B k h
    obtain ⟨a, b, c, e⟩ := h
    rw [← List.append_assoc, rs_app]
    refine ⟨?_, ?_, ?_, ?_⟩
    · show (rs P U q0 p0 (A ++ B)).1 - min (U k) (rs P U q0 p0 (A ++ B)).1 = 0
      omega
    · show (if 0 < min (U k) (rs P U q0 p0 (A ++ B)).1 then P k else (rs P U q0 p0 (A ++ B)).2.1) = _
      rw [if_neg (by omega), b]
    · intro j hj
      rw [List.mem_append, List.mem_singleton] at hj
      show (if j = k then min (U k) (rs P U q0 p0 (A ++ B)).1 else (rs P U q0 p0 (A ++ B)).2.2.2 j) = _
      rw [if_neg (fun u => hj (Or.inr u))]
      exact c j (fun u => hj (Or.inl u))
    · intro j hj
      show (if j = k then min (U k) (rs P U q0 p0 (A ++ B)).1 else (rs P U q0 p0 (A ++ B)).2.2.2 j) = _
      by_cases u : j = k
      · rw [if_pos u, a]; omega
      · rw [if_neg u]
        rw [List.mem_append, List.mem_singleton] at hj
        exact e j (hj.resolve_right u)
def pl (key : Nat → Int) (w : Int) (j : Nat) (k : Nat) : Bool := decide (key k < w ∨ (key k = w ∧ k < j))
theorem pl_step {key : Nat → Int} {L : List Nat} (hs : L.Pairwise (kl key)) {w : Int} {k : Nat} (hk : k ∈ L) (hw : key k = w) : L.filter (pl key w (k + 1)) = L.filter (pl key w k) ++ [k] := by
  apply srt_uniq (key := key)
  · exact hs.filter _
  · rw [List.pairwise_append]
    refine ⟨hs.filter _, List.pairwise_singleton _ _, ?_⟩
    intro a ha b hb
    rw [List.mem_singleton] at hb
    subst hb
    have h2 := of_decide_eq_true (List.mem_filter.1 ha).2
    unfold kl
    omega
  · intro x
    rw [List.mem_append, List.mem_singleton, List.mem_filter, List.mem_filter]
    unfold pl
    rw [decide_eq_true_iff, decide_eq_true_iff]
    constructor
    · intro ⟨a, b⟩
      by_cases c : x = k
      · exact Or.inr c
      · exact Or.inl ⟨a, by omega⟩
    · intro h
      rcases h with ⟨a, b⟩ | c
      · exact ⟨a, by omega⟩
      · subst c
        exact ⟨hk, by omega⟩
theorem flt_congr {L : List Nat} {p q : Nat → Bool} (h : ∀ x, x ∈ L → p x = q x) : L.filter p = L.filter q := List.filter_congr h
theorem pl_skip {key : Nat → Int} {L : List Nat} {w : Int} {k : Nat} (hk : ¬ (k ∈ L ∧ key k = w)) : L.filter (pl key w (k + 1)) = L.filter (pl key w k) := by
  apply flt_congr
  intro x hx
  unfold pl
  rw [decide_eq_decide]
  constructor
  · intro h
    rcases h with h | ⟨h1, h2⟩
    · exact Or.inl h
    · refine Or.inr ⟨h1, ?_⟩
      by_cases c : x = k
      · subst c; exact absurd ⟨hx, h1⟩ hk
      · omega
  · intro h
    omega
theorem pl_next {key : Nat → Int} {L : List Nat} {w : Int} {n : Nat} (hn : ∀ x, x ∈ L → x < n) : L.filter (pl key w n) = L.filter (pl key (w + 1) 0) := by
  apply flt_congr
  intro x hx
  have := hn x hx
  unfold pl
  rw [decide_eq_decide]
  omega
theorem pl_bot {key : Nat → Int} {L : List Nat} {w : Int} (h : ∀ x, x ∈ L → w ≤ key x) : L.filter (pl key w 0) = [] := by
  rw [List.filter_eq_nil_iff]
  intro x hx
  have := h x hx
  unfold pl
  rw [decide_eq_true_iff]
  omega
theorem pl_top {key : Nat → Int} {L : List Nat} {w : Int} (h : ∀ x, x ∈ L → key x < w) : L.filter (pl key w 0) = L := by
  rw [List.filter_eq_self]
  intro x hx
  have := h x hx
  unfold pl
  rw [decide_eq_true_iff]
  omega
theorem pl_mem {key : Nat → Int} {L : List Nat} {w : Int} {k : Nat} (hw : key k = w) : k ∉ L.filter (pl key w k) := by
  intro h
  have h2 := of_decide_eq_true (List.mem_filter.1 h).2
  omega
