def s_mc : gM := fun c k => if c = 3 then 5 else if c = 22 ∧ k = 4 then -1000000000 else 0
def s_mm : gM := fun c _ => if c = 1 then 5 else 0
theorem s_mc0 {c : Nat} (h : c ≠ 3) (h2 : c ≠ 22) : s_mc c = fun _ => 0 := by
  funext k
  unfold s_mc
  rw [if_neg h, if_neg (fun q => h2 q.1)]
theorem s_mm0 {c : Nat} (h : c ≠ 1) : s_mm c = fun _ => 0 := by
  funext k
  unfold s_mm
  rw [if_neg h]
theorem rg_0 {B : Int} (h : 0 ≤ B) : rg 0 (-B) B := by
  show -B ≤ (0 : Int32).toInt ∧ (0 : Int32).toInt ≤ B
  rw [show (0 : Int32).toInt = 0 from rfl]
  omega
theorem rel_0 : RelG s_mc s_mm := by
  have c0 : ∀ c k, c ≠ 3 → c ≠ 22 → s_mc c k = 0 := fun c k h h2 => by rw [s_mc0 h h2]
  have m0 : ∀ c k, c ≠ 1 → s_mm c k = 0 := fun c k h => by rw [s_mm0 h]
  have ee : ∀ c d, c ≠ 3 → c ≠ 22 → d ≠ 1 → s_mm d = s_mc c := fun c d h h2 h3 => by rw [s_mc0 h h2, s_mm0 h3]
  refine ⟨0, 0, fun _ => 5, 0, [], 0, fun _ => 0, fun _ => 0, 0, [], 0, [], ?_, ?_, ?_, ?_, ?_, ?_, ?_, ?_, ?_, ?_, ?_, ?_⟩
  · exact ⟨by omega, by omega, rfl, rfl, rfl, rfl⟩
  · exact ⟨ee 66 2 (by decide) (by decide) (by decide), ee 67 3 (by decide) (by decide) (by decide), ee 68 4 (by decide) (by decide) (by decide), fun k _ => Or.inl (c0 68 k (by decide) (by decide)), rfl⟩
  · exact ⟨fun k _ => ⟨rfl, show (0 : Int) ≤ 5 by decide, show (5 : Int) ≤ 10 by decide⟩, fun k _ => ⟨rfl, show (0 : Int) ≤ 5 by decide, show (5 : Int) ≤ 10 by decide⟩⟩
  · exact ⟨⟨by omega, rfl, Mer_0 _ _, fun k hk => absurd hk (by omega)⟩, rfl, fun c h1 h2 => ee c c (by omega) (by omega) (by omega), fun h => absurd h (by decide)⟩
  · refine ⟨⟨rfl, ?_, fun k hk => absurd hk (by omega)⟩, ⟨rfl, ?_, fun k hk => absurd hk (by omega)⟩, ee 14 13 (by decide) (by decide) (by decide), ee 15 14 (by decide) (by decide) (by decide), ee 16 15 (by decide) (by decide) (by decide), ee 17 16 (by decide) (by decide) (by decide), ee 18 17 (by decide) (by decide) (by decide), ee 19 18 (by decide) (by decide) (by decide), fun h => absurd h (by decide)⟩
    · exact ⟨by omega, fun k hk => absurd hk (by omega)⟩
    · exact ⟨by omega, fun k hk => absurd hk (by omega)⟩
  · exact ⟨⟨rfl, by omega, Mer_0 _ _, fun k hk => absurd hk (by omega)⟩, ⟨rfl, ee 46 21 (by decide) (by decide) (by decide), ee 47 22 (by decide) (by decide) (by decide), ee 54 23 (by decide) (by decide) (by decide), ee 51 24 (by decide) (by decide) (by decide), ee 50 25 (by decide) (by decide) (by decide)⟩, fun _ k hk => absurd hk (by omega), fun h => absurd h (by decide)⟩
  · exact ⟨rfl, rfl, by omega, ⟨ee 56 27 (by decide) (by decide) (by decide), ee 57 28 (by decide) (by decide) (by decide), ee 58 29 (by decide) (by decide) (by decide), ee 59 30 (by decide) (by decide) (by decide), ee 60 31 (by decide) (by decide) (by decide), ee 62 32 (by decide) (by decide) (by decide)⟩, Mer_0 _ _, fun k hk => absurd hk (by omega), fun _ => rfl⟩
  · intro h
    exact absurd h (by decide)
  · intro j hj
    refine ⟨fun i _ => by rw [c0 _ _ (by omega) (by omega), m0 _ _ (by decide)], ⟨fun i _ => by rw [c0 _ _ (by omega) (by omega), m0 _ _ (by decide)], fun i _ => by rw [c0 _ _ (by omega) (by omega), m0 _ _ (by decide)]⟩, fun i _ => ?_, fun _ i _ => m0 _ _ (by decide), fun i _ => by rw [c0 _ _ (by omega) (by omega), m0 _ _ (by decide)], ⟨0, by omega, by rw [c0 _ _ (by omega) (by omega)]; rfl, by rw [m0 _ _ (by decide)]; rfl⟩, fun i _ => by rw [c0 _ _ (by omega) (by omega)]; exact rg_0 (by omega)⟩
    rw [c0 _ _ (by omega) (by omega), m0 44 _ (by decide), if_neg (by decide)]
  · have h : ∀ j B, 0 ≤ B → pB j B s_mc := fun j B hB i _ => by rw [c0 _ _ (by omega) (by omega)]; exact rg_0 hB
    exact ⟨fun j _ => h j _ (by omega), fun q => absurd q (by decide), fun _ => h 0 0 (by omega), fun j _ _ => h j 0 (by omega)⟩
  · intro j hj
    refine ⟨0, [], by rw [c0 _ _ (by omega) (by omega)]; rfl, by rw [m0 _ _ (by decide)]; rfl, by omega, Mer_0 _ _, fun k hk => absurd hk (by omega)⟩
  · refine ⟨fun z hz => ⟨?_, ?_⟩, rfl, rfl⟩
    · rw [c0 _ _ (by omega) (by omega)]; rfl
    · rw [c0 _ _ (by omega) (by omega)]; rfl
