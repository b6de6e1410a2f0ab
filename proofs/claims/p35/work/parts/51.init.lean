def i_nl : List (String × Nat × MethodName) := [(RX3, 11, yX6_init), (RX3, 29, yX2_init), (RX7, 35, yX4_init), (RX9, 33, yX1_init), (RX9, 54, yX0_init), (RX9, 66, yX5_init), (RX9, 9, yX3_init)]
theorem i_df0 : ∀ j, j < 4 → defaultValue (g_ty 0 j) = if g_isI (g_ty 0 j) then .int 0 else .null := fun j => match j with
  | 0 => fun _ => rfl
  | 1 => fun _ => rfl
  | 2 => fun _ => rfl
  | 3 => fun _ => rfl
  | k + 4 => fun h => absurd h (by omega)
theorem i_df1 : ∀ j, j < 2 → defaultValue (g_ty 1 j) = if g_isI (g_ty 1 j) then .int 0 else .null := fun j => match j with
  | 0 => fun _ => rfl
  | 1 => fun _ => rfl
  | k + 2 => fun h => absurd h (by omega)
theorem i_df2 : ∀ j, j < 10 → defaultValue (g_ty 2 j) = if g_isI (g_ty 2 j) then .int 0 else .null := fun j => match j with
  | 0 => fun _ => rfl
  | 1 => fun _ => rfl
  | 2 => fun _ => rfl
  | 3 => fun _ => rfl
  | 4 => fun _ => rfl
  | 5 => fun _ => rfl
  | 6 => fun _ => rfl
  | 7 => fun _ => rfl
  | 8 => fun _ => rfl
  | 9 => fun _ => rfl
  | k + 10 => fun h => absurd h (by omega)
theorem i_df3 : ∀ j, j < 9 → defaultValue (g_ty 3 j) = if g_isI (g_ty 3 j) then .int 0 else .null := fun j => match j with
  | 0 => fun _ => rfl
  | 1 => fun _ => rfl
  | 2 => fun _ => rfl
  | 3 => fun _ => rfl
  | 4 => fun _ => rfl
  | 5 => fun _ => rfl
  | 6 => fun _ => rfl
  | 7 => fun _ => rfl
  | 8 => fun _ => rfl
  | k + 9 => fun h => absurd h (by omega)
theorem i_df4 : ∀ j, j < 5 → defaultValue (g_ty 4 j) = if g_isI (g_ty 4 j) then .int 0 else .null := fun j => match j with
  | 0 => fun _ => rfl
  | 1 => fun _ => rfl
  | 2 => fun _ => rfl
  | 3 => fun _ => rfl
  | 4 => fun _ => rfl
  | k + 5 => fun h => absurd h (by omega)
theorem i_df5 : ∀ j, j < 8 → defaultValue (g_ty 5 j) = if g_isI (g_ty 5 j) then .int 0 else .null := fun j => match j with
  | 0 => fun _ => rfl
  | 1 => fun _ => rfl
  | 2 => fun _ => rfl
  | 3 => fun _ => rfl
  | 4 => fun _ => rfl
  | 5 => fun _ => rfl
  | 6 => fun _ => rfl
  | 7 => fun _ => rfl
  | k + 8 => fun h => absurd h (by omega)
theorem i_df6 : ∀ j, j < 1 → defaultValue (g_ty 6 j) = if g_isI (g_ty 6 j) then .int 0 else .null := fun j => match j with
  | 0 => fun _ => rfl
  | k + 1 => fun h => absurd h (by omega)
theorem i_df7 : ∀ j, j < 6 → defaultValue (g_ty 7 j) = if g_isI (g_ty 7 j) then .int 0 else .null := fun j => match j with
  | 0 => fun _ => rfl
  | 1 => fun _ => rfl
  | 2 => fun _ => rfl
  | 3 => fun _ => rfl
  | 4 => fun _ => rfl
  | 5 => fun _ => rfl
  | k + 6 => fun h => absurd h (by omega)
theorem i_df8 : ∀ j, j < 9 → defaultValue (g_ty 8 j) = if g_isI (g_ty 8 j) then .int 0 else .null := fun j => match j with
  | 0 => fun _ => rfl
  | 1 => fun _ => rfl
  | 2 => fun _ => rfl
  | 3 => fun _ => rfl
  | 4 => fun _ => rfl
  | 5 => fun _ => rfl
  | 6 => fun _ => rfl
  | 7 => fun _ => rfl
  | 8 => fun _ => rfl
  | k + 9 => fun h => absurd h (by omega)
theorem i_df9 : ∀ j, j < 10 → defaultValue (g_ty 9 j) = if g_isI (g_ty 9 j) then .int 0 else .null := fun j => match j with
  | 0 => fun _ => rfl
  | 1 => fun _ => rfl
  | 2 => fun _ => rfl
  | 3 => fun _ => rfl
  | 4 => fun _ => rfl
  | 5 => fun _ => rfl
  | 6 => fun _ => rfl
  | 7 => fun _ => rfl
  | 8 => fun _ => rfl
  | 9 => fun _ => rfl
  | k + 10 => fun h => absurd h (by omega)
def f_X8_init (o0 : Nat) (N : Nat) (S0 : gS) : Option gS :=
  ob (i_pi ZC 8 o0 8 0 S0) fun S1 =>
  ob (i_arr ZC 20 N S1) fun S2 =>
  ob (i_pr ZC 8 o0 0 S1.1 S2) fun S3 =>
  ob (i_arr ZC 20 N S3) fun S4 =>
  ob (i_pr ZC 8 o0 1 S3.1 S4) fun S5 =>
  ob (i_arr ZC 20 N S5) fun S6 =>
  ob (i_pr ZC 8 o0 2 S5.1 S6) fun S7 =>
  ob (i_arr ZC 21 N S7) fun S8 =>
  ob (i_pr ZC 8 o0 3 S7.1 S8) fun S9 =>
  ob (i_arr ZC 20 N S9) fun S10 =>
  ob (i_pr ZC 8 o0 4 S9.1 S10) fun S11 =>
  ob (i_arr ZC 20 N S11) fun S12 =>
  ob (i_pr ZC 8 o0 5 S11.1 S12) fun S13 =>
  ob (i_arr ZC 20 N S13) fun S14 =>
  ob (i_pr ZC 8 o0 6 S13.1 S14) fun S15 =>
  ob (i_arr ZC 20 N S15) fun S16 =>
  ob (i_pr ZC 8 o0 7 S15.1 S16) fun S17 =>
  some S17
def f_X6_init (o0 : Nat) (S0 : gS) : Option gS :=
  ob (i_arr ZC 20 3 S0) fun S1 =>
  ob (i_ai ZC S0.1 0 5 S1) fun S2 =>
  ob (i_ai ZC S0.1 1 5 S2) fun S3 =>
  ob (i_ai ZC S0.1 2 5 S3) fun S4 =>
  ob (i_pr ZC 6 o0 0 S0.1 S4) fun S5 =>
  some S5
def f_X2_init (o0 : Nat) (S0 : gS) : Option gS :=
  ob (i_arr ZC 20 5 S0) fun S1 =>
  ob (i_pr ZC 2 o0 0 S0.1 S1) fun S2 =>
  ob (i_arr ZC 20 5 S2) fun S3 =>
  ob (i_pr ZC 2 o0 1 S2.1 S3) fun S4 =>
  ob (i_arr ZC 20 5 S4) fun S5 =>
  ob (i_pr ZC 2 o0 2 S4.1 S5) fun S6 =>
  ob (i_arr ZC 21 5 S6) fun S7 =>
  ob (i_pr ZC 2 o0 3 S6.1 S7) fun S8 =>
  ob (i_arr ZC 20 5 S8) fun S9 =>
  ob (i_pr ZC 2 o0 4 S8.1 S9) fun S10 =>
  ob (i_arr ZC 20 5 S10) fun S11 =>
  ob (i_pr ZC 2 o0 5 S10.1 S11) fun S12 =>
  ob (i_arr ZC 20 5 S12) fun S13 =>
  ob (i_pr ZC 2 o0 6 S12.1 S13) fun S14 =>
  ob (i_arr ZC 20 5 S14) fun S15 =>
  ob (i_pr ZC 2 o0 7 S14.1 S15) fun S16 =>
  ob (i_pi ZC 2 o0 8 0 S16) fun S17 =>
  ob (i_pi ZC 2 o0 9 0 S17) fun S18 =>
  some S18
def f_X4_init (o0 : Nat) (S0 : gS) : Option gS :=
  ob (i_arr ZC 20 401 S0) fun S1 =>
  ob (i_pr ZC 4 o0 0 S0.1 S1) fun S2 =>
  ob (i_arr ZC 20 401 S2) fun S3 =>
  ob (i_pr ZC 4 o0 1 S2.1 S3) fun S4 =>
  ob (i_arr ZC 20 143 S4) fun S5 =>
  ob (i_pr ZC 4 o0 2 S4.1 S5) fun S6 =>
  ob (i_pi ZC 4 o0 3 0 S6) fun S7 =>
  ob (i_pi ZC 4 o0 4 0 S7) fun S8 =>
  some S8
def f_X7_init (o0 : Nat) (S0 : gS) : Option gS :=
  ob (i_arr ZC 23 3 S0) fun S1 =>
  ob (i_pr ZC 7 o0 0 S0.1 S1) fun S2 =>
  ob (i_arr ZC 20 3 S2) fun S3 =>
  ob (i_pr ZC 7 o0 1 S2.1 S3) fun S4 =>
  ob (i_arr ZC 20 3 S4) fun S5 =>
  ob (i_pr ZC 7 o0 2 S4.1 S5) fun S6 =>
  ob (i_arr ZC 20 3 S6) fun S7 =>
  ob (i_pr ZC 7 o0 3 S6.1 S7) fun S8 =>
  ob (i_pi ZC 7 o0 4 (-1000000000) S8) fun S9 =>
  ob (i_pi ZC 7 o0 5 0 S9) fun S10 =>
  ob (i_gr ZC 7 o0 0 S10) fun d11 =>
  ob (i_new ZC 5 S10) fun S12 =>
  ob (f_X4_init S10.1 S12) fun S13 =>
  ob (i_ar ZC 23 4 d11 0 S10.1 S13) fun S14 =>
  ob (i_gr ZC 7 o0 0 S14) fun d15 =>
  ob (i_new ZC 5 S14) fun S16 =>
  ob (f_X4_init S14.1 S16) fun S17 =>
  ob (i_ar ZC 23 4 d15 1 S14.1 S17) fun S18 =>
  ob (i_gr ZC 7 o0 0 S18) fun d19 =>
  ob (i_new ZC 5 S18) fun S20 =>
  ob (f_X4_init S18.1 S20) fun S21 =>
  ob (i_ar ZC 23 4 d19 2 S18.1 S21) fun S22 =>
  some S22
def f_X3_init (o0 : Nat) (S0 : gS) : Option gS :=
  ob (i_new ZC 7 S0) fun S1 =>
  ob (f_X6_init S0.1 S1) fun S2 =>
  ob (i_pr ZC 3 o0 0 S0.1 S2) fun S3 =>
  ob (i_new ZC 9 S3) fun S4 =>
  ob (f_X8_init S3.1 40 S4) fun S5 =>
  ob (i_pr ZC 3 o0 1 S3.1 S5) fun S6 =>
  ob (i_new ZC 3 S6) fun S7 =>
  ob (f_X2_init S6.1 S7) fun S8 =>
  ob (i_pr ZC 3 o0 2 S6.1 S8) fun S9 =>
  ob (i_new ZC 8 S9) fun S10 =>
  ob (f_X7_init S9.1 S10) fun S11 =>
  ob (i_pr ZC 3 o0 3 S9.1 S11) fun S12 =>
  ob (i_arr ZC 21 128 S12) fun S13 =>
  ob (i_pr ZC 3 o0 4 S12.1 S13) fun S14 =>
  ob (i_arr ZC 20 128 S14) fun S15 =>
  ob (i_pr ZC 3 o0 5 S14.1 S15) fun S16 =>
  ob (i_arr ZC 20 384 S16) fun S17 =>
  ob (i_pr ZC 3 o0 6 S16.1 S17) fun S18 =>
  ob (i_arr ZC 20 384 S18) fun S19 =>
  ob (i_pr ZC 3 o0 7 S18.1 S19) fun S20 =>
  ob (i_arr ZC 20 12 S20) fun S21 =>
  ob (i_pr ZC 3 o0 8 S20.1 S21) fun S22 =>
  some S22
def f_X1_init (o0 : Nat) (S0 : gS) : Option gS :=
  ob (i_new ZC 9 S0) fun S1 =>
  ob (f_X8_init S0.1 20 S1) fun S2 =>
  ob (i_pr ZC 1 o0 0 S0.1 S2) fun S3 =>
  ob (i_arr ZC 20 20 S3) fun S4 =>
  ob (i_pr ZC 1 o0 1 S3.1 S4) fun S5 =>
  some S5
def f_X0_init (o0 : Nat) (S0 : gS) : Option gS :=
  ob (i_arr ZC 20 6 S0) fun S1 =>
  ob (i_pr ZC 0 o0 0 S0.1 S1) fun S2 =>
  ob (i_arr ZC 20 6 S2) fun S3 =>
  ob (i_pr ZC 0 o0 1 S2.1 S3) fun S4 =>
  ob (i_arr ZC 21 6 S4) fun S5 =>
  ob (i_pr ZC 0 o0 2 S4.1 S5) fun S6 =>
  ob (i_pi ZC 0 o0 3 0 S6) fun S7 =>
  some S7
def f_X5_init (o0 : Nat) (S0 : gS) : Option gS :=
  ob (i_arr ZC 20 12 S0) fun S1 =>
  ob (i_pr ZC 5 o0 0 S0.1 S1) fun S2 =>
  ob (i_arr ZC 20 12 S2) fun S3 =>
  ob (i_pr ZC 5 o0 1 S2.1 S3) fun S4 =>
  ob (i_arr ZC 20 72 S4) fun S5 =>
  ob (i_pr ZC 5 o0 2 S4.1 S5) fun S6 =>
  ob (i_arr ZC 20 72 S6) fun S7 =>
  ob (i_pr ZC 5 o0 3 S6.1 S7) fun S8 =>
  ob (i_arr ZC 20 6 S8) fun S9 =>
  ob (i_pr ZC 5 o0 4 S8.1 S9) fun S10 =>
  ob (i_arr ZC 20 6 S10) fun S11 =>
  ob (i_pr ZC 5 o0 5 S10.1 S11) fun S12 =>
  ob (i_new ZC 9 S12) fun S13 =>
  ob (f_X8_init S12.1 30 S13) fun S14 =>
  ob (i_pr ZC 5 o0 6 S12.1 S14) fun S15 =>
  ob (i_pi ZC 5 o0 7 0 S15) fun S16 =>
  some S16
def f_X9_init (o0 : Nat) (S0 : gS) : Option gS :=
  ob (i_new ZC 4 S0) fun S1 =>
  ob (f_X3_init S0.1 S1) fun S2 =>
  ob (i_pr ZC 9 o0 0 S0.1 S2) fun S3 =>
  ob (i_gr ZC 9 o0 0 S3) fun d4 =>
  ob (i_gr ZC 3 d4 0 S3) fun d5 =>
  ob (i_pr ZC 9 o0 1 d5 S3) fun S6 =>
  ob (i_gr ZC 9 o0 0 S6) fun d7 =>
  ob (i_gr ZC 3 d7 1 S6) fun d8 =>
  ob (i_pr ZC 9 o0 2 d8 S6) fun S9 =>
  ob (i_gr ZC 9 o0 0 S9) fun d10 =>
  ob (i_gr ZC 3 d10 2 S9) fun d11 =>
  ob (i_pr ZC 9 o0 3 d11 S9) fun S12 =>
  ob (i_new ZC 2 S12) fun S13 =>
  ob (f_X1_init S12.1 S13) fun S14 =>
  ob (i_pr ZC 9 o0 4 S12.1 S14) fun S15 =>
  ob (i_new ZC 9 S15) fun S16 =>
  ob (f_X8_init S15.1 60 S16) fun S17 =>
  ob (i_pr ZC 9 o0 5 S15.1 S17) fun S18 =>
  ob (i_arr ZC 24 10 S18) fun S19 =>
  ob (i_pr ZC 9 o0 6 S18.1 S19) fun S20 =>
  ob (i_new ZC 1 S20) fun S21 =>
  ob (f_X0_init S20.1 S21) fun S22 =>
  ob (i_pr ZC 9 o0 7 S20.1 S22) fun S23 =>
  ob (i_pi ZC 9 o0 8 0 S23) fun S24 =>
  ob (i_pi ZC 9 o0 9 0 S24) fun S25 =>
  ob (i_gr ZC 9 o0 6 S25) fun d26 =>
  ob (i_new ZC 6 S25) fun S27 =>
  ob (f_X5_init S25.1 S27) fun S28 =>
  ob (i_ar ZC 24 5 d26 0 S25.1 S28) fun S29 =>
  ob (i_gr ZC 9 o0 6 S29) fun d30 =>
  ob (i_new ZC 6 S29) fun S31 =>
  ob (f_X5_init S29.1 S31) fun S32 =>
  ob (i_ar ZC 24 5 d30 1 S29.1 S32) fun S33 =>
  ob (i_gr ZC 9 o0 6 S33) fun d34 =>
  ob (i_new ZC 6 S33) fun S35 =>
  ob (f_X5_init S33.1 S35) fun S36 =>
  ob (i_ar ZC 24 5 d34 2 S33.1 S36) fun S37 =>
  ob (i_gr ZC 9 o0 6 S37) fun d38 =>
  ob (i_new ZC 6 S37) fun S39 =>
  ob (f_X5_init S37.1 S39) fun S40 =>
  ob (i_ar ZC 24 5 d38 3 S37.1 S40) fun S41 =>
  ob (i_gr ZC 9 o0 6 S41) fun d42 =>
  ob (i_new ZC 6 S41) fun S43 =>
  ob (f_X5_init S41.1 S43) fun S44 =>
  ob (i_ar ZC 24 5 d42 4 S41.1 S44) fun S45 =>
  ob (i_gr ZC 9 o0 6 S45) fun d46 =>
  ob (i_new ZC 6 S45) fun S47 =>
  ob (f_X5_init S45.1 S47) fun S48 =>
  ob (i_ar ZC 24 5 d46 5 S45.1 S48) fun S49 =>
  ob (i_gr ZC 9 o0 6 S49) fun d50 =>
  ob (i_new ZC 6 S49) fun S51 =>
  ob (f_X5_init S49.1 S51) fun S52 =>
  ob (i_ar ZC 24 5 d50 6 S49.1 S52) fun S53 =>
  ob (i_gr ZC 9 o0 6 S53) fun d54 =>
  ob (i_new ZC 6 S53) fun S55 =>
  ob (f_X5_init S53.1 S55) fun S56 =>
  ob (i_ar ZC 24 5 d54 7 S53.1 S56) fun S57 =>
  ob (i_gr ZC 9 o0 6 S57) fun d58 =>
  ob (i_new ZC 6 S57) fun S59 =>
  ob (f_X5_init S57.1 S59) fun S60 =>
  ob (i_ar ZC 24 5 d58 8 S57.1 S60) fun S61 =>
  ob (i_gr ZC 9 o0 6 S61) fun d62 =>
  ob (i_new ZC 6 S61) fun S63 =>
  ob (f_X5_init S61.1 S63) fun S64 =>
  ob (i_ar ZC 24 5 d62 9 S61.1 S64) fun S65 =>
  some S65
abbrev rmX8_init (N : Nat) : Room := { frames := 1, cells := 8, slots := (8 * N), locals := 12 }
set_option maxHeartbeats 8000000 in
set_option maxRecDepth 100000 in
theorem c_X8_init (l : Launch) (G : gG) {o0 : Nat} {N : Nat} {S0 S9 : gS} (hN : N ≤ 1000) (hf : f_X8_init o0 N S0 = some S9) : Met l yX8_init wsX8_init (rmX8_init N) (va_Pc [.ref (G.2.2.1 o0), .int (nI N)] (i_W ZC i_nl G S0)) (i_Q ZC i_nl G S9) 8 (8 * N) (i_A G) := by
  refine Met.ofW (cc := cX8_init) (maxL := 2) (ret := none) (by decide) rfl ?_
  intro p e s m args below meth c s₁ B hml hv
  obtain ⟨rfl, hW0⟩ := hv
  have hC : CallFix p m c cX8_init 2 s ([.ref (G.2.2.1 o0), .int (nI N)] : List Value).toArray wsX8_init RX8 := ⟨B.exec, B.bytes, hml, findClass_of_methodNamed B.named, atoms_spec (ws := wsX8_init) B.pre⟩
  have hx := hC.1
  have hb := hC.2.1
  have hown := hC.2.2.2.1
  have hts := hC.2.2.2.2
  have hr := B.returns
  have hlocks := B.notSynchronized
  have hin2 : meth.name = "<init>" := (name_of_methodNamed B.named B.method).1
  have hW := i_enter hW0
  have hi8 : ∀ w ∈ wsX80, w ∈ wsX8_init := by decide +kernel
  have hl := lv_entry ([.ref (G.2.2.1 o0), .int (nI N)]) (n := 2) (Nat.le_of_ble_eq_true rfl)
  rw [lg_entry_eq]
  generalize (lg_sl ([.ref (G.2.2.1 o0), .int (nI N)]) ++ List.replicate (2 - (lg_sl ([.ref (G.2.2.1 o0), .int (nI N)])).length) Slot.unset).toArray = ls at hl ⊢
  have hl : lv_has ls 2 [(0, .ref (G.2.2.1 o0)), (1, .int (nI N))] := hl
  obtain ⟨Q, hQ⟩ : ∃ Q, Q = MQ below (i_Q ZC i_nl G S9) ([.ref (G.2.2.1 o0), .int (nI N)] : List Value).toArray s 8 (8 * N) (i_A G) := ⟨_, rfl⟩
  refine g_goQ hQ ?_
  unfold f_X8_init at hf
  refine i_start hW (fun H locs hW => ?_)
  refine lv_aload_n hx hb dX8_init_0 rfl (lv_at hl 0 rfl) ?_
  refine W.objInit hx hb hown (hts _ (by decide +kernel : Cond.methodLink RX8 3 objectInit ∈ wsX8_init)) (hts _ (by decide +kernel : Cond.instanceMethod objectInit ∈ wsX8_init)) (hts _ (by decide +kernel : Cond.code objectInit ⟨#[0xb1]⟩ 1 none ∈ wsX8_init)) rfl (hl.1.trans hC.2.2.1.symm) rfl dX8_init_1 (Nat.le_of_ble_eq_true rfl) (Nat.le_of_ble_eq_true rfl) ?_
  refine W.eq (g2 := F0 m 4 ls []) rfl ?_
  refine lv_aload_n hx hb dX8_init_4 rfl (lv_at hl 0 rfl) ?_
  refine lv_iconst (v := 0) hx hb dX8_init_5 (by decide) ?_
  obtain ⟨S1, h9, hf⟩ := ob_inv hf
  refine i_puti hC hW h9 rfl hi8 tyX8_ok nmX8 (by decide) rfl rfl rfl (by decide +kernel) dX8_init_6 (fun H locs hW => ?_)
  refine lv_aload_n hx hb dX8_init_9 rfl (lv_at hl 0 rfl) ?_
  refine lv_iload_n hx hb dX8_init_10 rfl (lv_at hl 1 rfl) ?_
  obtain ⟨S2, h9, hf⟩ := ob_inv hf
  refine i_newar hC hW (ai := 0) (ty := .int) (Or.inl rfl) rfl rfl rfl (fun _ => rfl) (by decide +kernel) (N := N) (nI_pos (by omega)) (nI_clamp (by omega)) (by show N * 4 ≤ _; omega) h9 (Nat.le_of_ble_eq_true rfl) (by show _ ≤ 8 * N; omega) dX8_init_11 (fun H hW => ?_)
  obtain ⟨S3, h9, hf⟩ := ob_inv hf
  refine i_putr hC hW h9 rfl hi8 tyX8_ok nmX8 (by decide) rfl rfl hin2 rfl (fun _ => rfl) (fun _ => rfl) (by decide +kernel) dX8_init_13 (fun H locs hW => ?_)
  refine lv_aload_n hx hb dX8_init_16 rfl (lv_at hl 0 rfl) ?_
  refine lv_iload_n hx hb dX8_init_17 rfl (lv_at hl 1 rfl) ?_
  obtain ⟨S4, h9, hf⟩ := ob_inv hf
  refine i_newar hC hW (ai := 0) (ty := .int) (Or.inl rfl) rfl rfl rfl (fun _ => rfl) (by decide +kernel) (N := N) (nI_pos (by omega)) (nI_clamp (by omega)) (by show N * 4 ≤ _; omega) h9 (Nat.le_of_ble_eq_true rfl) (by show _ ≤ 8 * N; omega) dX8_init_18 (fun H hW => ?_)
  obtain ⟨S5, h9, hf⟩ := ob_inv hf
  refine i_putr hC hW h9 rfl hi8 tyX8_ok nmX8 (by decide) rfl rfl hin2 rfl (fun _ => rfl) (fun _ => rfl) (by decide +kernel) dX8_init_20 (fun H locs hW => ?_)
  refine lv_aload_n hx hb dX8_init_23 rfl (lv_at hl 0 rfl) ?_
  refine lv_iload_n hx hb dX8_init_24 rfl (lv_at hl 1 rfl) ?_
  obtain ⟨S6, h9, hf⟩ := ob_inv hf
  refine i_newar hC hW (ai := 0) (ty := .int) (Or.inl rfl) rfl rfl rfl (fun _ => rfl) (by decide +kernel) (N := N) (nI_pos (by omega)) (nI_clamp (by omega)) (by show N * 4 ≤ _; omega) h9 (Nat.le_of_ble_eq_true rfl) (by show _ ≤ 8 * N; omega) dX8_init_25 (fun H hW => ?_)
  obtain ⟨S7, h9, hf⟩ := ob_inv hf
  refine i_putr hC hW h9 rfl hi8 tyX8_ok nmX8 (by decide) rfl rfl hin2 rfl (fun _ => rfl) (fun _ => rfl) (by decide +kernel) dX8_init_27 (fun H locs hW => ?_)
  refine lv_aload_n hx hb dX8_init_30 rfl (lv_at hl 0 rfl) ?_
  refine lv_iload_n hx hb dX8_init_31 rfl (lv_at hl 1 rfl) ?_
  obtain ⟨S8, h9, hf⟩ := ob_inv hf
  refine i_newar hC hW (ai := 1) (ty := .boolean) (Or.inr rfl) rfl rfl rfl (fun _ => rfl) (by decide +kernel) (N := N) (nI_pos (by omega)) (nI_clamp (by omega)) (by show N * 1 ≤ _; omega) h9 (Nat.le_of_ble_eq_true rfl) (by show _ ≤ 8 * N; omega) dX8_init_32 (fun H hW => ?_)
  obtain ⟨S9, h9, hf⟩ := ob_inv hf
  refine i_putr hC hW h9 rfl hi8 tyX8_ok nmX8 (by decide) rfl rfl hin2 rfl (fun _ => rfl) (fun _ => rfl) (by decide +kernel) dX8_init_34 (fun H locs hW => ?_)
  refine lv_aload_n hx hb dX8_init_37 rfl (lv_at hl 0 rfl) ?_
  refine lv_iload_n hx hb dX8_init_38 rfl (lv_at hl 1 rfl) ?_
  obtain ⟨S10, h9, hf⟩ := ob_inv hf
  refine i_newar hC hW (ai := 0) (ty := .int) (Or.inl rfl) rfl rfl rfl (fun _ => rfl) (by decide +kernel) (N := N) (nI_pos (by omega)) (nI_clamp (by omega)) (by show N * 4 ≤ _; omega) h9 (Nat.le_of_ble_eq_true rfl) (by show _ ≤ 8 * N; omega) dX8_init_39 (fun H hW => ?_)
  obtain ⟨S11, h9, hf⟩ := ob_inv hf
  refine i_putr hC hW h9 rfl hi8 tyX8_ok nmX8 (by decide) rfl rfl hin2 rfl (fun _ => rfl) (fun _ => rfl) (by decide +kernel) dX8_init_41 (fun H locs hW => ?_)
  refine lv_aload_n hx hb dX8_init_44 rfl (lv_at hl 0 rfl) ?_
  refine lv_iload_n hx hb dX8_init_45 rfl (lv_at hl 1 rfl) ?_
  obtain ⟨S12, h9, hf⟩ := ob_inv hf
  refine i_newar hC hW (ai := 0) (ty := .int) (Or.inl rfl) rfl rfl rfl (fun _ => rfl) (by decide +kernel) (N := N) (nI_pos (by omega)) (nI_clamp (by omega)) (by show N * 4 ≤ _; omega) h9 (Nat.le_of_ble_eq_true rfl) (by show _ ≤ 8 * N; omega) dX8_init_46 (fun H hW => ?_)
  obtain ⟨S13, h9, hf⟩ := ob_inv hf
  refine i_putr hC hW h9 rfl hi8 tyX8_ok nmX8 (by decide) rfl rfl hin2 rfl (fun _ => rfl) (fun _ => rfl) (by decide +kernel) dX8_init_48 (fun H locs hW => ?_)
  refine lv_aload_n hx hb dX8_init_51 rfl (lv_at hl 0 rfl) ?_
  refine lv_iload_n hx hb dX8_init_52 rfl (lv_at hl 1 rfl) ?_
  obtain ⟨S14, h9, hf⟩ := ob_inv hf
  refine i_newar hC hW (ai := 0) (ty := .int) (Or.inl rfl) rfl rfl rfl (fun _ => rfl) (by decide +kernel) (N := N) (nI_pos (by omega)) (nI_clamp (by omega)) (by show N * 4 ≤ _; omega) h9 (Nat.le_of_ble_eq_true rfl) (by show _ ≤ 8 * N; omega) dX8_init_53 (fun H hW => ?_)
  obtain ⟨S15, h9, hf⟩ := ob_inv hf
  refine i_putr hC hW h9 rfl hi8 tyX8_ok nmX8 (by decide) rfl rfl hin2 rfl (fun _ => rfl) (fun _ => rfl) (by decide +kernel) dX8_init_55 (fun H locs hW => ?_)
  refine lv_aload_n hx hb dX8_init_58 rfl (lv_at hl 0 rfl) ?_
  refine lv_iload_n hx hb dX8_init_59 rfl (lv_at hl 1 rfl) ?_
  obtain ⟨S16, h9, hf⟩ := ob_inv hf
  refine i_newar hC hW (ai := 0) (ty := .int) (Or.inl rfl) rfl rfl rfl (fun _ => rfl) (by decide +kernel) (N := N) (nI_pos (by omega)) (nI_clamp (by omega)) (by show N * 4 ≤ _; omega) h9 (Nat.le_of_ble_eq_true rfl) (by show _ ≤ 8 * N; omega) dX8_init_60 (fun H hW => ?_)
  obtain ⟨S17, h9, hf⟩ := ob_inv hf
  refine i_putr hC hW h9 rfl hi8 tyX8_ok nmX8 (by decide) rfl rfl hin2 rfl (fun _ => rfl) (fun _ => rfl) (by decide +kernel) dX8_init_62 (fun H locs hW => ?_)
  cases hf
  subst hQ
  exact i_vret hC hW hr hlocks rfl (Nat.le_of_ble_eq_true rfl) (by omega) dX8_init_65
abbrev rmX6_init : Room := { frames := 1, cells := 1, slots := 3, locals := 12 }
set_option maxHeartbeats 8000000 in
set_option maxRecDepth 100000 in
theorem c_X6_init (l : Launch) (G : gG) {o0 : Nat} {S0 S9 : gS} (hf : f_X6_init o0 S0 = some S9) : Met l yX6_init wsX6_init (rmX6_init) (va_Pc [.ref (G.2.2.1 o0)] (i_W ZC i_nl G S0)) (i_Q ZC i_nl G S9) 1 3 (i_A G) := by
  refine Met.ofW (cc := cX6_init) (maxL := 1) (ret := none) (by decide) rfl ?_
  intro p e s m args below meth c s₁ B hml hv
  obtain ⟨rfl, hW0⟩ := hv
  have hC : CallFix p m c cX6_init 1 s ([.ref (G.2.2.1 o0)] : List Value).toArray wsX6_init RX6 := ⟨B.exec, B.bytes, hml, findClass_of_methodNamed B.named, atoms_spec (ws := wsX6_init) B.pre⟩
  have hx := hC.1
  have hb := hC.2.1
  have hown := hC.2.2.2.1
  have hts := hC.2.2.2.2
  have hr := B.returns
  have hlocks := B.notSynchronized
  have hin2 : meth.name = "<init>" := (name_of_methodNamed B.named B.method).1
  have hW := i_enter hW0
  have hi6 : ∀ w ∈ wsX60, w ∈ wsX6_init := by decide +kernel
  have hl := lv_entry ([.ref (G.2.2.1 o0)]) (n := 1) (Nat.le_of_ble_eq_true rfl)
  rw [lg_entry_eq]
  generalize (lg_sl ([.ref (G.2.2.1 o0)]) ++ List.replicate (1 - (lg_sl ([.ref (G.2.2.1 o0)])).length) Slot.unset).toArray = ls at hl ⊢
  have hl : lv_has ls 1 [(0, .ref (G.2.2.1 o0))] := hl
  obtain ⟨Q, hQ⟩ : ∃ Q, Q = MQ below (i_Q ZC i_nl G S9) ([.ref (G.2.2.1 o0)] : List Value).toArray s 1 3 (i_A G) := ⟨_, rfl⟩
  refine g_goQ hQ ?_
  unfold f_X6_init at hf
  refine i_start hW (fun H locs hW => ?_)
  refine lv_aload_n hx hb dX6_init_0 rfl (lv_at hl 0 rfl) ?_
  refine W.objInit hx hb hown (hts _ (by decide +kernel : Cond.methodLink RX6 3 objectInit ∈ wsX6_init)) (hts _ (by decide +kernel : Cond.instanceMethod objectInit ∈ wsX6_init)) (hts _ (by decide +kernel : Cond.code objectInit ⟨#[0xb1]⟩ 1 none ∈ wsX6_init)) rfl (hl.1.trans hC.2.2.1.symm) rfl dX6_init_1 (Nat.le_of_ble_eq_true rfl) (Nat.le_of_ble_eq_true rfl) ?_
  refine W.eq (g2 := F0 m 4 ls []) rfl ?_
  refine lv_aload_n hx hb dX6_init_4 rfl (lv_at hl 0 rfl) ?_
  refine lv_iconst (v := 3) hx hb dX6_init_5 (by decide) ?_
  obtain ⟨S1, h9, hf⟩ := ob_inv hf
  refine i_newar hC hW (ai := 0) (ty := .int) (Or.inl rfl) rfl rfl rfl (fun _ => rfl) (by decide +kernel) (N := 3) (by decide) (by decide) (Nat.le_of_ble_eq_true rfl) h9 (Nat.le_of_ble_eq_true rfl) (Nat.le_of_ble_eq_true rfl) dX6_init_6 (fun H hW => ?_)
  refine lv_dup hx hb dX6_init_8 rfl ?_
  refine lv_iconst (v := 0) hx hb dX6_init_9 (by decide) ?_
  refine lv_iconst (v := 5) hx hb dX6_init_10 (by decide) ?_
  obtain ⟨S2, h9, hf⟩ := ob_inv hf
  refine i_ist hC hW h9 dX6_init_11 (fun H locs hW => ?_)
  refine lv_dup hx hb dX6_init_12 rfl ?_
  refine lv_iconst (v := 1) hx hb dX6_init_13 (by decide) ?_
  refine lv_iconst (v := 5) hx hb dX6_init_14 (by decide) ?_
  obtain ⟨S3, h9, hf⟩ := ob_inv hf
  refine i_ist hC hW h9 dX6_init_15 (fun H locs hW => ?_)
  refine lv_dup hx hb dX6_init_16 rfl ?_
  refine lv_iconst (v := 2) hx hb dX6_init_17 (by decide) ?_
  refine lv_iconst (v := 5) hx hb dX6_init_18 (by decide) ?_
  obtain ⟨S4, h9, hf⟩ := ob_inv hf
  refine i_ist hC hW h9 dX6_init_19 (fun H locs hW => ?_)
  obtain ⟨S5, h9, hf⟩ := ob_inv hf
  refine i_putr hC hW h9 rfl hi6 tyX6_ok nmX6 (by decide) rfl rfl hin2 rfl (fun _ => rfl) (fun _ => rfl) (by decide +kernel) dX6_init_20 (fun H locs hW => ?_)
  cases hf
  subst hQ
  exact i_vret hC hW hr hlocks rfl (Nat.le_of_ble_eq_true rfl) (Nat.le_of_ble_eq_true rfl) dX6_init_23
abbrev rmX2_init : Room := { frames := 1, cells := 8, slots := 40, locals := 12 }
set_option maxHeartbeats 8000000 in
set_option maxRecDepth 100000 in
theorem c_X2_init (l : Launch) (G : gG) {o0 : Nat} {S0 S9 : gS} (hf : f_X2_init o0 S0 = some S9) : Met l yX2_init wsX2_init (rmX2_init) (va_Pc [.ref (G.2.2.1 o0)] (i_W ZC i_nl G S0)) (i_Q ZC i_nl G S9) 8 40 (i_A G) := by
  refine Met.ofW (cc := cX2_init) (maxL := 1) (ret := none) (by decide) rfl ?_
  intro p e s m args below meth c s₁ B hml hv
  obtain ⟨rfl, hW0⟩ := hv
  have hC : CallFix p m c cX2_init 1 s ([.ref (G.2.2.1 o0)] : List Value).toArray wsX2_init RX2 := ⟨B.exec, B.bytes, hml, findClass_of_methodNamed B.named, atoms_spec (ws := wsX2_init) B.pre⟩
  have hx := hC.1
  have hb := hC.2.1
  have hown := hC.2.2.2.1
  have hts := hC.2.2.2.2
  have hr := B.returns
  have hlocks := B.notSynchronized
  have hin2 : meth.name = "<init>" := (name_of_methodNamed B.named B.method).1
  have hW := i_enter hW0
  have hi2 : ∀ w ∈ wsX20, w ∈ wsX2_init := by decide +kernel
  have hl := lv_entry ([.ref (G.2.2.1 o0)]) (n := 1) (Nat.le_of_ble_eq_true rfl)
  rw [lg_entry_eq]
  generalize (lg_sl ([.ref (G.2.2.1 o0)]) ++ List.replicate (1 - (lg_sl ([.ref (G.2.2.1 o0)])).length) Slot.unset).toArray = ls at hl ⊢
  have hl : lv_has ls 1 [(0, .ref (G.2.2.1 o0))] := hl
  obtain ⟨Q, hQ⟩ : ∃ Q, Q = MQ below (i_Q ZC i_nl G S9) ([.ref (G.2.2.1 o0)] : List Value).toArray s 8 40 (i_A G) := ⟨_, rfl⟩
  refine g_goQ hQ ?_
  unfold f_X2_init at hf
  refine i_start hW (fun H locs hW => ?_)
  refine lv_aload_n hx hb dX2_init_0 rfl (lv_at hl 0 rfl) ?_
  refine W.objInit hx hb hown (hts _ (by decide +kernel : Cond.methodLink RX2 3 objectInit ∈ wsX2_init)) (hts _ (by decide +kernel : Cond.instanceMethod objectInit ∈ wsX2_init)) (hts _ (by decide +kernel : Cond.code objectInit ⟨#[0xb1]⟩ 1 none ∈ wsX2_init)) rfl (hl.1.trans hC.2.2.1.symm) rfl dX2_init_1 (Nat.le_of_ble_eq_true rfl) (Nat.le_of_ble_eq_true rfl) ?_
  refine W.eq (g2 := F0 m 4 ls []) rfl ?_
  refine lv_aload_n hx hb dX2_init_4 rfl (lv_at hl 0 rfl) ?_
  refine lv_iconst (v := 5) hx hb dX2_init_5 (by decide) ?_
  obtain ⟨S1, h9, hf⟩ := ob_inv hf
  refine i_newar hC hW (ai := 0) (ty := .int) (Or.inl rfl) rfl rfl rfl (fun _ => rfl) (by decide +kernel) (N := 5) (by decide) (by decide) (Nat.le_of_ble_eq_true rfl) h9 (Nat.le_of_ble_eq_true rfl) (Nat.le_of_ble_eq_true rfl) dX2_init_6 (fun H hW => ?_)
  obtain ⟨S2, h9, hf⟩ := ob_inv hf
  refine i_putr hC hW h9 rfl hi2 tyX2_ok nmX2 (by decide) rfl rfl hin2 rfl (fun _ => rfl) (fun _ => rfl) (by decide +kernel) dX2_init_8 (fun H locs hW => ?_)
  refine lv_aload_n hx hb dX2_init_11 rfl (lv_at hl 0 rfl) ?_
  refine lv_iconst (v := 5) hx hb dX2_init_12 (by decide) ?_
  obtain ⟨S3, h9, hf⟩ := ob_inv hf
  refine i_newar hC hW (ai := 0) (ty := .int) (Or.inl rfl) rfl rfl rfl (fun _ => rfl) (by decide +kernel) (N := 5) (by decide) (by decide) (Nat.le_of_ble_eq_true rfl) h9 (Nat.le_of_ble_eq_true rfl) (Nat.le_of_ble_eq_true rfl) dX2_init_13 (fun H hW => ?_)
  obtain ⟨S4, h9, hf⟩ := ob_inv hf
  refine i_putr hC hW h9 rfl hi2 tyX2_ok nmX2 (by decide) rfl rfl hin2 rfl (fun _ => rfl) (fun _ => rfl) (by decide +kernel) dX2_init_15 (fun H locs hW => ?_)
  refine lv_aload_n hx hb dX2_init_18 rfl (lv_at hl 0 rfl) ?_
  refine lv_iconst (v := 5) hx hb dX2_init_19 (by decide) ?_
  obtain ⟨S5, h9, hf⟩ := ob_inv hf
  refine i_newar hC hW (ai := 0) (ty := .int) (Or.inl rfl) rfl rfl rfl (fun _ => rfl) (by decide +kernel) (N := 5) (by decide) (by decide) (Nat.le_of_ble_eq_true rfl) h9 (Nat.le_of_ble_eq_true rfl) (Nat.le_of_ble_eq_true rfl) dX2_init_20 (fun H hW => ?_)
  obtain ⟨S6, h9, hf⟩ := ob_inv hf
  refine i_putr hC hW h9 rfl hi2 tyX2_ok nmX2 (by decide) rfl rfl hin2 rfl (fun _ => rfl) (fun _ => rfl) (by decide +kernel) dX2_init_22 (fun H locs hW => ?_)
  refine lv_aload_n hx hb dX2_init_25 rfl (lv_at hl 0 rfl) ?_
  refine lv_iconst (v := 5) hx hb dX2_init_26 (by decide) ?_
  obtain ⟨S7, h9, hf⟩ := ob_inv hf
  refine i_newar hC hW (ai := 1) (ty := .boolean) (Or.inr rfl) rfl rfl rfl (fun _ => rfl) (by decide +kernel) (N := 5) (by decide) (by decide) (Nat.le_of_ble_eq_true rfl) h9 (Nat.le_of_ble_eq_true rfl) (Nat.le_of_ble_eq_true rfl) dX2_init_27 (fun H hW => ?_)
  obtain ⟨S8, h9, hf⟩ := ob_inv hf
  refine i_putr hC hW h9 rfl hi2 tyX2_ok nmX2 (by decide) rfl rfl hin2 rfl (fun _ => rfl) (fun _ => rfl) (by decide +kernel) dX2_init_29 (fun H locs hW => ?_)
  refine lv_aload_n hx hb dX2_init_32 rfl (lv_at hl 0 rfl) ?_
  refine lv_iconst (v := 5) hx hb dX2_init_33 (by decide) ?_
  obtain ⟨S9, h9, hf⟩ := ob_inv hf
  refine i_newar hC hW (ai := 0) (ty := .int) (Or.inl rfl) rfl rfl rfl (fun _ => rfl) (by decide +kernel) (N := 5) (by decide) (by decide) (Nat.le_of_ble_eq_true rfl) h9 (Nat.le_of_ble_eq_true rfl) (Nat.le_of_ble_eq_true rfl) dX2_init_34 (fun H hW => ?_)
  obtain ⟨S10, h9, hf⟩ := ob_inv hf
  refine i_putr hC hW h9 rfl hi2 tyX2_ok nmX2 (by decide) rfl rfl hin2 rfl (fun _ => rfl) (fun _ => rfl) (by decide +kernel) dX2_init_36 (fun H locs hW => ?_)
  refine lv_aload_n hx hb dX2_init_39 rfl (lv_at hl 0 rfl) ?_
  refine lv_iconst (v := 5) hx hb dX2_init_40 (by decide) ?_
  obtain ⟨S11, h9, hf⟩ := ob_inv hf
  refine i_newar hC hW (ai := 0) (ty := .int) (Or.inl rfl) rfl rfl rfl (fun _ => rfl) (by decide +kernel) (N := 5) (by decide) (by decide) (Nat.le_of_ble_eq_true rfl) h9 (Nat.le_of_ble_eq_true rfl) (Nat.le_of_ble_eq_true rfl) dX2_init_41 (fun H hW => ?_)
  obtain ⟨S12, h9, hf⟩ := ob_inv hf
  refine i_putr hC hW h9 rfl hi2 tyX2_ok nmX2 (by decide) rfl rfl hin2 rfl (fun _ => rfl) (fun _ => rfl) (by decide +kernel) dX2_init_43 (fun H locs hW => ?_)
  refine lv_aload_n hx hb dX2_init_46 rfl (lv_at hl 0 rfl) ?_
  refine lv_iconst (v := 5) hx hb dX2_init_47 (by decide) ?_
  obtain ⟨S13, h9, hf⟩ := ob_inv hf
  refine i_newar hC hW (ai := 0) (ty := .int) (Or.inl rfl) rfl rfl rfl (fun _ => rfl) (by decide +kernel) (N := 5) (by decide) (by decide) (Nat.le_of_ble_eq_true rfl) h9 (Nat.le_of_ble_eq_true rfl) (Nat.le_of_ble_eq_true rfl) dX2_init_48 (fun H hW => ?_)
  obtain ⟨S14, h9, hf⟩ := ob_inv hf
  refine i_putr hC hW h9 rfl hi2 tyX2_ok nmX2 (by decide) rfl rfl hin2 rfl (fun _ => rfl) (fun _ => rfl) (by decide +kernel) dX2_init_50 (fun H locs hW => ?_)
  refine lv_aload_n hx hb dX2_init_53 rfl (lv_at hl 0 rfl) ?_
  refine lv_iconst (v := 5) hx hb dX2_init_54 (by decide) ?_
  obtain ⟨S15, h9, hf⟩ := ob_inv hf
  refine i_newar hC hW (ai := 0) (ty := .int) (Or.inl rfl) rfl rfl rfl (fun _ => rfl) (by decide +kernel) (N := 5) (by decide) (by decide) (Nat.le_of_ble_eq_true rfl) h9 (Nat.le_of_ble_eq_true rfl) (Nat.le_of_ble_eq_true rfl) dX2_init_55 (fun H hW => ?_)
  obtain ⟨S16, h9, hf⟩ := ob_inv hf
  refine i_putr hC hW h9 rfl hi2 tyX2_ok nmX2 (by decide) rfl rfl hin2 rfl (fun _ => rfl) (fun _ => rfl) (by decide +kernel) dX2_init_57 (fun H locs hW => ?_)
  refine lv_aload_n hx hb dX2_init_60 rfl (lv_at hl 0 rfl) ?_
  refine lv_iconst (v := 0) hx hb dX2_init_61 (by decide) ?_
  obtain ⟨S17, h9, hf⟩ := ob_inv hf
  refine i_puti hC hW h9 rfl hi2 tyX2_ok nmX2 (by decide) rfl rfl rfl (by decide +kernel) dX2_init_62 (fun H locs hW => ?_)
  refine lv_aload_n hx hb dX2_init_65 rfl (lv_at hl 0 rfl) ?_
  refine lv_iconst (v := 0) hx hb dX2_init_66 (by decide) ?_
  obtain ⟨S18, h9, hf⟩ := ob_inv hf
  refine i_puti hC hW h9 rfl hi2 tyX2_ok nmX2 (by decide) rfl rfl rfl (by decide +kernel) dX2_init_67 (fun H locs hW => ?_)
  cases hf
  subst hQ
  exact i_vret hC hW hr hlocks rfl (Nat.le_of_ble_eq_true rfl) (Nat.le_of_ble_eq_true rfl) dX2_init_70
abbrev rmX4_init : Room := { frames := 1, cells := 3, slots := 945, locals := 12 }
set_option maxHeartbeats 8000000 in
set_option maxRecDepth 100000 in
theorem c_X4_init (l : Launch) (G : gG) {o0 : Nat} {S0 S9 : gS} (hf : f_X4_init o0 S0 = some S9) : Met l yX4_init wsX4_init (rmX4_init) (va_Pc [.ref (G.2.2.1 o0)] (i_W ZC i_nl G S0)) (i_Q ZC i_nl G S9) 3 945 (i_A G) := by
  refine Met.ofW (cc := cX4_init) (maxL := 1) (ret := none) (by decide) rfl ?_
  intro p e s m args below meth c s₁ B hml hv
  obtain ⟨rfl, hW0⟩ := hv
  have hC : CallFix p m c cX4_init 1 s ([.ref (G.2.2.1 o0)] : List Value).toArray wsX4_init RX4 := ⟨B.exec, B.bytes, hml, findClass_of_methodNamed B.named, atoms_spec (ws := wsX4_init) B.pre⟩
  have hx := hC.1
  have hb := hC.2.1
  have hown := hC.2.2.2.1
  have hts := hC.2.2.2.2
  have hr := B.returns
  have hlocks := B.notSynchronized
  have hin2 : meth.name = "<init>" := (name_of_methodNamed B.named B.method).1
  have hW := i_enter hW0
  have hi4 : ∀ w ∈ wsX40, w ∈ wsX4_init := by decide +kernel
  have hl := lv_entry ([.ref (G.2.2.1 o0)]) (n := 1) (Nat.le_of_ble_eq_true rfl)
  rw [lg_entry_eq]
  generalize (lg_sl ([.ref (G.2.2.1 o0)]) ++ List.replicate (1 - (lg_sl ([.ref (G.2.2.1 o0)])).length) Slot.unset).toArray = ls at hl ⊢
  have hl : lv_has ls 1 [(0, .ref (G.2.2.1 o0))] := hl
  obtain ⟨Q, hQ⟩ : ∃ Q, Q = MQ below (i_Q ZC i_nl G S9) ([.ref (G.2.2.1 o0)] : List Value).toArray s 3 945 (i_A G) := ⟨_, rfl⟩
  refine g_goQ hQ ?_
  unfold f_X4_init at hf
  refine i_start hW (fun H locs hW => ?_)
  refine lv_aload_n hx hb dX4_init_0 rfl (lv_at hl 0 rfl) ?_
  refine W.objInit hx hb hown (hts _ (by decide +kernel : Cond.methodLink RX4 3 objectInit ∈ wsX4_init)) (hts _ (by decide +kernel : Cond.instanceMethod objectInit ∈ wsX4_init)) (hts _ (by decide +kernel : Cond.code objectInit ⟨#[0xb1]⟩ 1 none ∈ wsX4_init)) rfl (hl.1.trans hC.2.2.1.symm) rfl dX4_init_1 (Nat.le_of_ble_eq_true rfl) (Nat.le_of_ble_eq_true rfl) ?_
  refine W.eq (g2 := F0 m 4 ls []) rfl ?_
  refine lv_aload_n hx hb dX4_init_4 rfl (lv_at hl 0 rfl) ?_
  refine lv_sipush (v := 401) hx hb dX4_init_5 (by decide) ?_
  obtain ⟨S1, h9, hf⟩ := ob_inv hf
  refine i_newar hC hW (ai := 0) (ty := .int) (Or.inl rfl) rfl rfl rfl (fun _ => rfl) (by decide +kernel) (N := 401) (by decide) (by decide) (Nat.le_of_ble_eq_true rfl) h9 (Nat.le_of_ble_eq_true rfl) (Nat.le_of_ble_eq_true rfl) dX4_init_8 (fun H hW => ?_)
  obtain ⟨S2, h9, hf⟩ := ob_inv hf
  refine i_putr hC hW h9 rfl hi4 tyX4_ok nmX4 (by decide) rfl rfl hin2 rfl (fun _ => rfl) (fun _ => rfl) (by decide +kernel) dX4_init_10 (fun H locs hW => ?_)
  refine lv_aload_n hx hb dX4_init_13 rfl (lv_at hl 0 rfl) ?_
  refine lv_sipush (v := 401) hx hb dX4_init_14 (by decide) ?_
  obtain ⟨S3, h9, hf⟩ := ob_inv hf
  refine i_newar hC hW (ai := 0) (ty := .int) (Or.inl rfl) rfl rfl rfl (fun _ => rfl) (by decide +kernel) (N := 401) (by decide) (by decide) (Nat.le_of_ble_eq_true rfl) h9 (Nat.le_of_ble_eq_true rfl) (Nat.le_of_ble_eq_true rfl) dX4_init_17 (fun H hW => ?_)
  obtain ⟨S4, h9, hf⟩ := ob_inv hf
  refine i_putr hC hW h9 rfl hi4 tyX4_ok nmX4 (by decide) rfl rfl hin2 rfl (fun _ => rfl) (fun _ => rfl) (by decide +kernel) dX4_init_19 (fun H locs hW => ?_)
  refine lv_aload_n hx hb dX4_init_22 rfl (lv_at hl 0 rfl) ?_
  refine lv_sipush (v := 143) hx hb dX4_init_23 (by decide) ?_
  obtain ⟨S5, h9, hf⟩ := ob_inv hf
  refine i_newar hC hW (ai := 0) (ty := .int) (Or.inl rfl) rfl rfl rfl (fun _ => rfl) (by decide +kernel) (N := 143) (by decide) (by decide) (Nat.le_of_ble_eq_true rfl) h9 (Nat.le_of_ble_eq_true rfl) (Nat.le_of_ble_eq_true rfl) dX4_init_26 (fun H hW => ?_)
  obtain ⟨S6, h9, hf⟩ := ob_inv hf
  refine i_putr hC hW h9 rfl hi4 tyX4_ok nmX4 (by decide) rfl rfl hin2 rfl (fun _ => rfl) (fun _ => rfl) (by decide +kernel) dX4_init_28 (fun H locs hW => ?_)
  refine lv_aload_n hx hb dX4_init_31 rfl (lv_at hl 0 rfl) ?_
  refine lv_iconst (v := 0) hx hb dX4_init_32 (by decide) ?_
  obtain ⟨S7, h9, hf⟩ := ob_inv hf
  refine i_puti hC hW h9 rfl hi4 tyX4_ok nmX4 (by decide) rfl rfl rfl (by decide +kernel) dX4_init_33 (fun H locs hW => ?_)
  refine lv_aload_n hx hb dX4_init_36 rfl (lv_at hl 0 rfl) ?_
  refine lv_iconst (v := 0) hx hb dX4_init_37 (by decide) ?_
  obtain ⟨S8, h9, hf⟩ := ob_inv hf
  refine i_puti hC hW h9 rfl hi4 tyX4_ok nmX4 (by decide) rfl rfl rfl (by decide +kernel) dX4_init_38 (fun H locs hW => ?_)
  cases hf
  subst hQ
  exact i_vret hC hW hr hlocks rfl (Nat.le_of_ble_eq_true rfl) (Nat.le_of_ble_eq_true rfl) dX4_init_41
abbrev rmX7_init : Room := { frames := 2, cells := 16, slots := 2862, locals := 32 }
set_option maxHeartbeats 8000000 in
set_option maxRecDepth 100000 in
theorem c_X7_init (l : Launch) (G : gG) {o0 : Nat} {S0 S9 : gS} (hf : f_X7_init o0 S0 = some S9) : Met l yX7_init wsX7_init (rmX7_init) (va_Pc [.ref (G.2.2.1 o0)] (i_W ZC i_nl G S0)) (i_Q ZC i_nl G S9) 16 2862 (i_A G) := by
  refine Met.ofW (cc := cX7_init) (maxL := 2) (ret := none) (by decide) rfl ?_
  intro p e s m args below meth c s₁ B hml hv
  obtain ⟨rfl, hW0⟩ := hv
  have hC : CallFix p m c cX7_init 2 s ([.ref (G.2.2.1 o0)] : List Value).toArray wsX7_init RX7 := ⟨B.exec, B.bytes, hml, findClass_of_methodNamed B.named, atoms_spec (ws := wsX7_init) B.pre⟩
  have hx := hC.1
  have hb := hC.2.1
  have hown := hC.2.2.2.1
  have hts := hC.2.2.2.2
  have hr := B.returns
  have hlocks := B.notSynchronized
  have hin2 : meth.name = "<init>" := (name_of_methodNamed B.named B.method).1
  have hW := i_enter hW0
  have hi4 : ∀ w ∈ wsX40, w ∈ wsX7_init := by decide +kernel
  have hi7 : ∀ w ∈ wsX70, w ∈ wsX7_init := by decide +kernel
  have hl := lv_entry ([.ref (G.2.2.1 o0)]) (n := 2) (Nat.le_of_ble_eq_true rfl)
  rw [lg_entry_eq]
  generalize (lg_sl ([.ref (G.2.2.1 o0)]) ++ List.replicate (2 - (lg_sl ([.ref (G.2.2.1 o0)])).length) Slot.unset).toArray = ls at hl ⊢
  have hl : lv_has ls 2 [(0, .ref (G.2.2.1 o0))] := hl
  obtain ⟨Q, hQ⟩ : ∃ Q, Q = MQ below (i_Q ZC i_nl G S9) ([.ref (G.2.2.1 o0)] : List Value).toArray s 16 2862 (i_A G) := ⟨_, rfl⟩
  refine g_goQ hQ ?_
  unfold f_X7_init at hf
  refine i_start hW (fun H locs hW => ?_)
  refine lv_aload_n hx hb dX7_init_0 rfl (lv_at hl 0 rfl) ?_
  refine W.objInit hx hb hown (hts _ (by decide +kernel : Cond.methodLink RX7 3 objectInit ∈ wsX7_init)) (hts _ (by decide +kernel : Cond.instanceMethod objectInit ∈ wsX7_init)) (hts _ (by decide +kernel : Cond.code objectInit ⟨#[0xb1]⟩ 1 none ∈ wsX7_init)) rfl (hl.1.trans hC.2.2.1.symm) rfl dX7_init_1 (Nat.le_of_ble_eq_true rfl) (Nat.le_of_ble_eq_true rfl) ?_
  refine W.eq (g2 := F0 m 4 ls []) rfl ?_
  refine lv_aload_n hx hb dX7_init_4 rfl (lv_at hl 0 rfl) ?_
  refine lv_iconst (v := 3) hx hb dX7_init_5 (by decide) ?_
  obtain ⟨S1, h9, hf⟩ := ob_inv hf
  refine i_newq hC hW (ai := 3) (Or.inl rfl) rfl hW.2.2.2.1.2.2 (by decide +kernel) (N := 3) (by decide) (by decide) (Nat.le_of_ble_eq_true rfl) h9 (Nat.le_of_ble_eq_true rfl) (Nat.le_of_ble_eq_true rfl) dX7_init_6 (fun H hW => ?_)
  obtain ⟨S2, h9, hf⟩ := ob_inv hf
  refine i_putr hC hW h9 rfl hi7 tyX7_ok nmX7 (by decide) rfl rfl hin2 rfl (fun _ => rfl) (fun _ => rfl) (by decide +kernel) dX7_init_9 (fun H locs hW => ?_)
  refine lv_aload_n hx hb dX7_init_12 rfl (lv_at hl 0 rfl) ?_
  refine lv_iconst (v := 3) hx hb dX7_init_13 (by decide) ?_
  obtain ⟨S3, h9, hf⟩ := ob_inv hf
  refine i_newar hC hW (ai := 0) (ty := .int) (Or.inl rfl) rfl rfl rfl (fun _ => rfl) (by decide +kernel) (N := 3) (by decide) (by decide) (Nat.le_of_ble_eq_true rfl) h9 (Nat.le_of_ble_eq_true rfl) (Nat.le_of_ble_eq_true rfl) dX7_init_14 (fun H hW => ?_)
  obtain ⟨S4, h9, hf⟩ := ob_inv hf
  refine i_putr hC hW h9 rfl hi7 tyX7_ok nmX7 (by decide) rfl rfl hin2 rfl (fun _ => rfl) (fun _ => rfl) (by decide +kernel) dX7_init_16 (fun H locs hW => ?_)
  refine lv_aload_n hx hb dX7_init_19 rfl (lv_at hl 0 rfl) ?_
  refine lv_iconst (v := 3) hx hb dX7_init_20 (by decide) ?_
  obtain ⟨S5, h9, hf⟩ := ob_inv hf
  refine i_newar hC hW (ai := 0) (ty := .int) (Or.inl rfl) rfl rfl rfl (fun _ => rfl) (by decide +kernel) (N := 3) (by decide) (by decide) (Nat.le_of_ble_eq_true rfl) h9 (Nat.le_of_ble_eq_true rfl) (Nat.le_of_ble_eq_true rfl) dX7_init_21 (fun H hW => ?_)
  obtain ⟨S6, h9, hf⟩ := ob_inv hf
  refine i_putr hC hW h9 rfl hi7 tyX7_ok nmX7 (by decide) rfl rfl hin2 rfl (fun _ => rfl) (fun _ => rfl) (by decide +kernel) dX7_init_23 (fun H locs hW => ?_)
  refine lv_aload_n hx hb dX7_init_26 rfl (lv_at hl 0 rfl) ?_
  refine lv_iconst (v := 3) hx hb dX7_init_27 (by decide) ?_
  obtain ⟨S7, h9, hf⟩ := ob_inv hf
  refine i_newar hC hW (ai := 0) (ty := .int) (Or.inl rfl) rfl rfl rfl (fun _ => rfl) (by decide +kernel) (N := 3) (by decide) (by decide) (Nat.le_of_ble_eq_true rfl) h9 (Nat.le_of_ble_eq_true rfl) (Nat.le_of_ble_eq_true rfl) dX7_init_28 (fun H hW => ?_)
  obtain ⟨S8, h9, hf⟩ := ob_inv hf
  refine i_putr hC hW h9 rfl hi7 tyX7_ok nmX7 (by decide) rfl rfl hin2 rfl (fun _ => rfl) (fun _ => rfl) (by decide +kernel) dX7_init_30 (fun H locs hW => ?_)
  refine lv_aload_n hx hb dX7_init_33 rfl (lv_at hl 0 rfl) ?_
  refine lv_ldc (v := (-1000000000)) hx hb hown (hts _ (by decide +kernel : Cond.constant RX7 27 (-1000000000) ∈ wsX7_init)) dX7_init_34 ?_
  obtain ⟨S9, h9, hf⟩ := ob_inv hf
  refine i_puti hC hW h9 rfl hi7 tyX7_ok nmX7 (by decide) rfl rfl rfl (by decide +kernel) dX7_init_36 (fun H locs hW => ?_)
  refine lv_aload_n hx hb dX7_init_39 rfl (lv_at hl 0 rfl) ?_
  refine lv_iconst (v := 0) hx hb dX7_init_40 (by decide) ?_
  obtain ⟨S10, h9, hf⟩ := ob_inv hf
  refine i_puti hC hW h9 rfl hi7 tyX7_ok nmX7 (by decide) rfl rfl rfl (by decide +kernel) dX7_init_41 (fun H locs hW => ?_)
  refine lv_iconst (v := 0) hx hb dX7_init_44 (by decide) ?_
  refine lv_istore_n (lv' := [(1, .int 0), (0, .ref (G.2.2.1 o0))]) hx hb dX7_init_45 rfl hl (by decide) rfl (fun ls hl => ?_)
  refine lv_iload_n hx hb dX7_init_46 rfl (lv_at hl 0 rfl) ?_
  refine lv_iconst (v := 3) hx hb dX7_init_47 (by decide) ?_
  refine lv_icmp_ge (tgt := 70) hx hb dX7_init_48 (by decide) (fun c9 => absurd c9 (by decide)) (fun c9 => ?_)
  refine lv_aload_n hx hb dX7_init_51 rfl (lv_at hl 1 rfl) ?_
  obtain ⟨d11, h9, hf⟩ := ob_inv hf
  refine i_getr hC hW h9 rfl hi7 (by decide) rfl (by decide +kernel) dX7_init_52 ?_
  refine lv_iload_n hx hb dX7_init_55 rfl (lv_at hl 0 rfl) ?_
  obtain ⟨S12, h9, hf⟩ := ob_inv hf
  refine i_newo hC hW (ci := 4) rfl hi4 tyX4_ok i_df4 (by decide +kernel) (by decide +kernel) (by decide +kernel) h9 (Nat.le_of_ble_eq_true rfl) (Nat.le_of_ble_eq_true rfl) dX7_init_56 (fun H hW => ?_)
  refine lv_dup hx hb dX7_init_59 rfl ?_
  obtain ⟨S13, hg, hf⟩ := ob_inv hf
  refine i_callN hC hW (o := S10.1) (As := []) (rest := [.ref (G.2.2.1 S10.1), .int 0, .ref (G.2.2.1 d11)]) (host := "GridMarket") (c_X4_init l G hg) ⟨va_cnB 0 hts gX7_init_X4_init_n35 rfl rfl rfl (hW.2.2.2.1.1 (RX7, 35, yX4_init) (by decide +kernel)) (hts _ (by decide +kernel : Cond.initialized RX4 ∈ wsX7_init)) (by decide +kernel) ⟨(Nat.le_of_ble_eq_true rfl), (Nat.le_of_ble_eq_true rfl)⟩, rfl, hts _ (by decide +kernel : Cond.instanceMethod yX4_init ∈ wsX7_init)⟩ rfl hl.1 rfl (Nat.le_of_ble_eq_true rfl) dX7_init_60 ⟨(Nat.le_of_ble_eq_true rfl), (Nat.le_of_ble_eq_true rfl)⟩ (fun H locs hW => ?_)
  obtain ⟨S14, h9, hf⟩ := ob_inv hf
  refine i_rst hC hW (Or.inl rfl) h9 rfl rfl dX7_init_63 (fun H locs hW => ?_)
  refine lv_iinc (v := 1) (lv' := [(1, .int 1), (0, .ref (G.2.2.1 o0))]) hx hb dX7_init_64 hl (k := 0) rfl (by decide) (by decide) rfl (fun ls hl => ?_)
  refine lv_goto (tgt := 46) hx hb dX7_init_67 (by decide) ?_
  refine lv_iload_n hx hb dX7_init_46 rfl (lv_at hl 0 rfl) ?_
  refine lv_iconst (v := 3) hx hb dX7_init_47 (by decide) ?_
  refine lv_icmp_ge (tgt := 70) hx hb dX7_init_48 (by decide) (fun c9 => absurd c9 (by decide)) (fun c9 => ?_)
  refine lv_aload_n hx hb dX7_init_51 rfl (lv_at hl 1 rfl) ?_
  obtain ⟨d15, h9, hf⟩ := ob_inv hf
  refine i_getr hC hW h9 rfl hi7 (by decide) rfl (by decide +kernel) dX7_init_52 ?_
  refine lv_iload_n hx hb dX7_init_55 rfl (lv_at hl 0 rfl) ?_
  obtain ⟨S16, h9, hf⟩ := ob_inv hf
  refine i_newo hC hW (ci := 4) rfl hi4 tyX4_ok i_df4 (by decide +kernel) (by decide +kernel) (by decide +kernel) h9 (Nat.le_of_ble_eq_true rfl) (Nat.le_of_ble_eq_true rfl) dX7_init_56 (fun H hW => ?_)
  refine lv_dup hx hb dX7_init_59 rfl ?_
  obtain ⟨S17, hg, hf⟩ := ob_inv hf
  refine i_callN hC hW (o := S14.1) (As := []) (rest := [.ref (G.2.2.1 S14.1), .int 1, .ref (G.2.2.1 d15)]) (host := "GridMarket") (c_X4_init l G hg) ⟨va_cnB 0 hts gX7_init_X4_init_n35 rfl rfl rfl (hW.2.2.2.1.1 (RX7, 35, yX4_init) (by decide +kernel)) (hts _ (by decide +kernel : Cond.initialized RX4 ∈ wsX7_init)) (by decide +kernel) ⟨(Nat.le_of_ble_eq_true rfl), (Nat.le_of_ble_eq_true rfl)⟩, rfl, hts _ (by decide +kernel : Cond.instanceMethod yX4_init ∈ wsX7_init)⟩ rfl hl.1 rfl (Nat.le_of_ble_eq_true rfl) dX7_init_60 ⟨(Nat.le_of_ble_eq_true rfl), (Nat.le_of_ble_eq_true rfl)⟩ (fun H locs hW => ?_)
  obtain ⟨S18, h9, hf⟩ := ob_inv hf
  refine i_rst hC hW (Or.inl rfl) h9 rfl rfl dX7_init_63 (fun H locs hW => ?_)
  refine lv_iinc (v := 2) (lv' := [(1, .int 2), (0, .ref (G.2.2.1 o0))]) hx hb dX7_init_64 hl (k := 0) rfl (by decide) (by decide) rfl (fun ls hl => ?_)
  refine lv_goto (tgt := 46) hx hb dX7_init_67 (by decide) ?_
  refine lv_iload_n hx hb dX7_init_46 rfl (lv_at hl 0 rfl) ?_
  refine lv_iconst (v := 3) hx hb dX7_init_47 (by decide) ?_
  refine lv_icmp_ge (tgt := 70) hx hb dX7_init_48 (by decide) (fun c9 => absurd c9 (by decide)) (fun c9 => ?_)
  refine lv_aload_n hx hb dX7_init_51 rfl (lv_at hl 1 rfl) ?_
  obtain ⟨d19, h9, hf⟩ := ob_inv hf
  refine i_getr hC hW h9 rfl hi7 (by decide) rfl (by decide +kernel) dX7_init_52 ?_
  refine lv_iload_n hx hb dX7_init_55 rfl (lv_at hl 0 rfl) ?_
  obtain ⟨S20, h9, hf⟩ := ob_inv hf
  refine i_newo hC hW (ci := 4) rfl hi4 tyX4_ok i_df4 (by decide +kernel) (by decide +kernel) (by decide +kernel) h9 (Nat.le_of_ble_eq_true rfl) (Nat.le_of_ble_eq_true rfl) dX7_init_56 (fun H hW => ?_)
  refine lv_dup hx hb dX7_init_59 rfl ?_
  obtain ⟨S21, hg, hf⟩ := ob_inv hf
  refine i_callN hC hW (o := S18.1) (As := []) (rest := [.ref (G.2.2.1 S18.1), .int 2, .ref (G.2.2.1 d19)]) (host := "GridMarket") (c_X4_init l G hg) ⟨va_cnB 0 hts gX7_init_X4_init_n35 rfl rfl rfl (hW.2.2.2.1.1 (RX7, 35, yX4_init) (by decide +kernel)) (hts _ (by decide +kernel : Cond.initialized RX4 ∈ wsX7_init)) (by decide +kernel) ⟨(Nat.le_of_ble_eq_true rfl), (Nat.le_of_ble_eq_true rfl)⟩, rfl, hts _ (by decide +kernel : Cond.instanceMethod yX4_init ∈ wsX7_init)⟩ rfl hl.1 rfl (Nat.le_of_ble_eq_true rfl) dX7_init_60 ⟨(Nat.le_of_ble_eq_true rfl), (Nat.le_of_ble_eq_true rfl)⟩ (fun H locs hW => ?_)
  obtain ⟨S22, h9, hf⟩ := ob_inv hf
  refine i_rst hC hW (Or.inl rfl) h9 rfl rfl dX7_init_63 (fun H locs hW => ?_)
  refine lv_iinc (v := 3) (lv' := [(1, .int 3), (0, .ref (G.2.2.1 o0))]) hx hb dX7_init_64 hl (k := 0) rfl (by decide) (by decide) rfl (fun ls hl => ?_)
  refine lv_goto (tgt := 46) hx hb dX7_init_67 (by decide) ?_
  refine lv_iload_n hx hb dX7_init_46 rfl (lv_at hl 0 rfl) ?_
  refine lv_iconst (v := 3) hx hb dX7_init_47 (by decide) ?_
  refine lv_icmp_ge (tgt := 70) hx hb dX7_init_48 (by decide) (fun c9 => ?_) (fun c9 => absurd (by decide) c9)
  cases hf
  subst hQ
  exact i_vret hC hW hr hlocks rfl (Nat.le_of_ble_eq_true rfl) (Nat.le_of_ble_eq_true rfl) dX7_init_70
abbrev rmX3_init : Room := { frames := 3, cells := 42, slots := 4287, locals := 53 }
set_option maxHeartbeats 8000000 in
set_option maxRecDepth 100000 in
theorem c_X3_init (l : Launch) (G : gG) {o0 : Nat} {S0 S9 : gS} (hf : f_X3_init o0 S0 = some S9) : Met l yX3_init wsX3_init (rmX3_init) (va_Pc [.ref (G.2.2.1 o0)] (i_W ZC i_nl G S0)) (i_Q ZC i_nl G S9) 42 4287 (i_A G) := by
  refine Met.ofW (cc := cX3_init) (maxL := 1) (ret := none) (by decide) rfl ?_
  intro p e s m args below meth c s₁ B hml hv
  obtain ⟨rfl, hW0⟩ := hv
  have hC : CallFix p m c cX3_init 1 s ([.ref (G.2.2.1 o0)] : List Value).toArray wsX3_init RX3 := ⟨B.exec, B.bytes, hml, findClass_of_methodNamed B.named, atoms_spec (ws := wsX3_init) B.pre⟩
  have hx := hC.1
  have hb := hC.2.1
  have hown := hC.2.2.2.1
  have hts := hC.2.2.2.2
  have hr := B.returns
  have hlocks := B.notSynchronized
  have hin2 : meth.name = "<init>" := (name_of_methodNamed B.named B.method).1
  have hW := i_enter hW0
  have hi2 : ∀ w ∈ wsX20, w ∈ wsX3_init := by decide +kernel
  have hi3 : ∀ w ∈ wsX30, w ∈ wsX3_init := by decide +kernel
  have hi6 : ∀ w ∈ wsX60, w ∈ wsX3_init := by decide +kernel
  have hi7 : ∀ w ∈ wsX70, w ∈ wsX3_init := by decide +kernel
  have hi8 : ∀ w ∈ wsX80, w ∈ wsX3_init := by decide +kernel
  have hl := lv_entry ([.ref (G.2.2.1 o0)]) (n := 1) (Nat.le_of_ble_eq_true rfl)
  rw [lg_entry_eq]
  generalize (lg_sl ([.ref (G.2.2.1 o0)]) ++ List.replicate (1 - (lg_sl ([.ref (G.2.2.1 o0)])).length) Slot.unset).toArray = ls at hl ⊢
  have hl : lv_has ls 1 [(0, .ref (G.2.2.1 o0))] := hl
  obtain ⟨Q, hQ⟩ : ∃ Q, Q = MQ below (i_Q ZC i_nl G S9) ([.ref (G.2.2.1 o0)] : List Value).toArray s 42 4287 (i_A G) := ⟨_, rfl⟩
  refine g_goQ hQ ?_
  unfold f_X3_init at hf
  refine i_start hW (fun H locs hW => ?_)
  refine lv_aload_n hx hb dX3_init_0 rfl (lv_at hl 0 rfl) ?_
  refine W.objInit hx hb hown (hts _ (by decide +kernel : Cond.methodLink RX3 3 objectInit ∈ wsX3_init)) (hts _ (by decide +kernel : Cond.instanceMethod objectInit ∈ wsX3_init)) (hts _ (by decide +kernel : Cond.code objectInit ⟨#[0xb1]⟩ 1 none ∈ wsX3_init)) rfl (hl.1.trans hC.2.2.1.symm) rfl dX3_init_1 (Nat.le_of_ble_eq_true rfl) (Nat.le_of_ble_eq_true rfl) ?_
  refine W.eq (g2 := F0 m 4 ls []) rfl ?_
  refine lv_aload_n hx hb dX3_init_4 rfl (lv_at hl 0 rfl) ?_
  obtain ⟨S1, h9, hf⟩ := ob_inv hf
  refine i_newo hC hW (ci := 6) rfl hi6 tyX6_ok i_df6 (by decide +kernel) (by decide +kernel) (by decide +kernel) h9 (Nat.le_of_ble_eq_true rfl) (Nat.le_of_ble_eq_true rfl) dX3_init_5 (fun H hW => ?_)
  refine lv_dup hx hb dX3_init_8 rfl ?_
  obtain ⟨S2, hg, hf⟩ := ob_inv hf
  refine i_callN hC hW (o := S0.1) (As := []) (rest := [.ref (G.2.2.1 S0.1), .ref (G.2.2.1 o0)]) (host := "GridMarket") (c_X6_init l G hg) ⟨va_cnB 0 hts gX3_init_X6_init_n11 rfl rfl rfl (hW.2.2.2.1.1 (RX3, 11, yX6_init) (by decide +kernel)) (hts _ (by decide +kernel : Cond.initialized RX6 ∈ wsX3_init)) (by decide +kernel) ⟨(Nat.le_of_ble_eq_true rfl), (Nat.le_of_ble_eq_true rfl)⟩, rfl, hts _ (by decide +kernel : Cond.instanceMethod yX6_init ∈ wsX3_init)⟩ rfl hl.1 rfl (Nat.le_of_ble_eq_true rfl) dX3_init_9 ⟨(Nat.le_of_ble_eq_true rfl), (Nat.le_of_ble_eq_true rfl)⟩ (fun H locs hW => ?_)
  obtain ⟨S3, h9, hf⟩ := ob_inv hf
  refine i_putr hC hW h9 rfl hi3 tyX3_ok nmX3 (by decide) rfl rfl hin2 rfl (fun _ => rfl) (fun _ => rfl) (by decide +kernel) dX3_init_12 (fun H locs hW => ?_)
  refine lv_aload_n hx hb dX3_init_15 rfl (lv_at hl 0 rfl) ?_
  obtain ⟨S4, h9, hf⟩ := ob_inv hf
  refine i_newo hC hW (ci := 8) rfl hi8 tyX8_ok i_df8 (by decide +kernel) (by decide +kernel) (by decide +kernel) h9 (Nat.le_of_ble_eq_true rfl) (Nat.le_of_ble_eq_true rfl) dX3_init_16 (fun H hW => ?_)
  refine lv_dup hx hb dX3_init_19 rfl ?_
  refine lv_bipush (v := 40) hx hb dX3_init_20 (by decide) ?_
  obtain ⟨S5, hg, hf⟩ := ob_inv hf
  refine i_callI hC hW (o := S3.1) (As := [.int 40]) (rest := [.ref (G.2.2.1 S3.1), .ref (G.2.2.1 o0)]) (c_X8_init l G (N := 40) (Nat.le_of_ble_eq_true rfl) hg) (cwI 1 hts gX3_init_X8_init rfl rfl rfl (hts _ (by decide +kernel : Cond.initialized RX8 ∈ wsX3_init)) (hts _ (by decide +kernel : Cond.methodLink RX3 20 yX8_init ∈ wsX3_init)) (hts _ (by decide +kernel : Cond.instanceMethod yX8_init ∈ wsX3_init)) rfl (by decide +kernel) ⟨(Nat.le_of_ble_eq_true rfl), (Nat.le_of_ble_eq_true rfl)⟩) rfl hl.1 rfl (Nat.le_of_ble_eq_true rfl) dX3_init_22 ⟨(Nat.le_of_ble_eq_true rfl), (Nat.le_of_ble_eq_true rfl)⟩ (fun H locs hW => ?_)
  obtain ⟨S6, h9, hf⟩ := ob_inv hf
  refine i_putr hC hW h9 rfl hi3 tyX3_ok nmX3 (by decide) rfl rfl hin2 rfl (fun _ => rfl) (fun _ => rfl) (by decide +kernel) dX3_init_25 (fun H locs hW => ?_)
  refine lv_aload_n hx hb dX3_init_28 rfl (lv_at hl 0 rfl) ?_
  obtain ⟨S7, h9, hf⟩ := ob_inv hf
  refine i_newo hC hW (ci := 2) rfl hi2 tyX2_ok i_df2 (by decide +kernel) (by decide +kernel) (by decide +kernel) h9 (Nat.le_of_ble_eq_true rfl) (Nat.le_of_ble_eq_true rfl) dX3_init_29 (fun H hW => ?_)
  refine lv_dup hx hb dX3_init_32 rfl ?_
  obtain ⟨S8, hg, hf⟩ := ob_inv hf
  refine i_callN hC hW (o := S6.1) (As := []) (rest := [.ref (G.2.2.1 S6.1), .ref (G.2.2.1 o0)]) (host := "GridMarket") (c_X2_init l G hg) ⟨va_cnB 0 hts gX3_init_X2_init_n29 rfl rfl rfl (hW.2.2.2.1.1 (RX3, 29, yX2_init) (by decide +kernel)) (hts _ (by decide +kernel : Cond.initialized RX2 ∈ wsX3_init)) (by decide +kernel) ⟨(Nat.le_of_ble_eq_true rfl), (Nat.le_of_ble_eq_true rfl)⟩, rfl, hts _ (by decide +kernel : Cond.instanceMethod yX2_init ∈ wsX3_init)⟩ rfl hl.1 rfl (Nat.le_of_ble_eq_true rfl) dX3_init_33 ⟨(Nat.le_of_ble_eq_true rfl), (Nat.le_of_ble_eq_true rfl)⟩ (fun H locs hW => ?_)
  obtain ⟨S9, h9, hf⟩ := ob_inv hf
  refine i_putr hC hW h9 rfl hi3 tyX3_ok nmX3 (by decide) rfl rfl hin2 rfl (fun _ => rfl) (fun _ => rfl) (by decide +kernel) dX3_init_36 (fun H locs hW => ?_)
  refine lv_aload_n hx hb dX3_init_39 rfl (lv_at hl 0 rfl) ?_
  obtain ⟨S10, h9, hf⟩ := ob_inv hf
  refine i_newo hC hW (ci := 7) rfl hi7 tyX7_ok i_df7 (by decide +kernel) (by decide +kernel) (by decide +kernel) h9 (Nat.le_of_ble_eq_true rfl) (Nat.le_of_ble_eq_true rfl) dX3_init_40 (fun H hW => ?_)
  refine lv_dup hx hb dX3_init_43 rfl ?_
  obtain ⟨S11, hg, hf⟩ := ob_inv hf
  refine i_callI hC hW (o := S9.1) (As := []) (rest := [.ref (G.2.2.1 S9.1), .ref (G.2.2.1 o0)]) (c_X7_init l G hg) (cwI 0 hts gX3_init_X7_init rfl rfl rfl (hts _ (by decide +kernel : Cond.initialized RX7 ∈ wsX3_init)) (hts _ (by decide +kernel : Cond.methodLink RX3 36 yX7_init ∈ wsX3_init)) (hts _ (by decide +kernel : Cond.instanceMethod yX7_init ∈ wsX3_init)) rfl (by decide +kernel) ⟨(Nat.le_of_ble_eq_true rfl), (Nat.le_of_ble_eq_true rfl)⟩) rfl hl.1 rfl (Nat.le_of_ble_eq_true rfl) dX3_init_44 ⟨(Nat.le_of_ble_eq_true rfl), (Nat.le_of_ble_eq_true rfl)⟩ (fun H locs hW => ?_)
  obtain ⟨S12, h9, hf⟩ := ob_inv hf
  refine i_putr hC hW h9 rfl hi3 tyX3_ok nmX3 (by decide) rfl rfl hin2 rfl (fun _ => rfl) (fun _ => rfl) (by decide +kernel) dX3_init_47 (fun H locs hW => ?_)
  refine lv_aload_n hx hb dX3_init_50 rfl (lv_at hl 0 rfl) ?_
  refine lv_sipush (v := 128) hx hb dX3_init_51 (by decide) ?_
  obtain ⟨S13, h9, hf⟩ := ob_inv hf
  refine i_newar hC hW (ai := 1) (ty := .boolean) (Or.inr rfl) rfl rfl rfl (fun _ => rfl) (by decide +kernel) (N := 128) (by decide) (by decide) (Nat.le_of_ble_eq_true rfl) h9 (Nat.le_of_ble_eq_true rfl) (Nat.le_of_ble_eq_true rfl) dX3_init_54 (fun H hW => ?_)
  obtain ⟨S14, h9, hf⟩ := ob_inv hf
  refine i_putr hC hW h9 rfl hi3 tyX3_ok nmX3 (by decide) rfl rfl hin2 rfl (fun _ => rfl) (fun _ => rfl) (by decide +kernel) dX3_init_56 (fun H locs hW => ?_)
  refine lv_aload_n hx hb dX3_init_59 rfl (lv_at hl 0 rfl) ?_
  refine lv_sipush (v := 128) hx hb dX3_init_60 (by decide) ?_
  obtain ⟨S15, h9, hf⟩ := ob_inv hf
  refine i_newar hC hW (ai := 0) (ty := .int) (Or.inl rfl) rfl rfl rfl (fun _ => rfl) (by decide +kernel) (N := 128) (by decide) (by decide) (Nat.le_of_ble_eq_true rfl) h9 (Nat.le_of_ble_eq_true rfl) (Nat.le_of_ble_eq_true rfl) dX3_init_63 (fun H hW => ?_)
  obtain ⟨S16, h9, hf⟩ := ob_inv hf
  refine i_putr hC hW h9 rfl hi3 tyX3_ok nmX3 (by decide) rfl rfl hin2 rfl (fun _ => rfl) (fun _ => rfl) (by decide +kernel) dX3_init_65 (fun H locs hW => ?_)
  refine lv_aload_n hx hb dX3_init_68 rfl (lv_at hl 0 rfl) ?_
  refine lv_sipush (v := 384) hx hb dX3_init_69 (by decide) ?_
  obtain ⟨S17, h9, hf⟩ := ob_inv hf
  refine i_newar hC hW (ai := 0) (ty := .int) (Or.inl rfl) rfl rfl rfl (fun _ => rfl) (by decide +kernel) (N := 384) (by decide) (by decide) (Nat.le_of_ble_eq_true rfl) h9 (Nat.le_of_ble_eq_true rfl) (Nat.le_of_ble_eq_true rfl) dX3_init_72 (fun H hW => ?_)
  obtain ⟨S18, h9, hf⟩ := ob_inv hf
  refine i_putr hC hW h9 rfl hi3 tyX3_ok nmX3 (by decide) rfl rfl hin2 rfl (fun _ => rfl) (fun _ => rfl) (by decide +kernel) dX3_init_74 (fun H locs hW => ?_)
  refine lv_aload_n hx hb dX3_init_77 rfl (lv_at hl 0 rfl) ?_
  refine lv_sipush (v := 384) hx hb dX3_init_78 (by decide) ?_
  obtain ⟨S19, h9, hf⟩ := ob_inv hf
  refine i_newar hC hW (ai := 0) (ty := .int) (Or.inl rfl) rfl rfl rfl (fun _ => rfl) (by decide +kernel) (N := 384) (by decide) (by decide) (Nat.le_of_ble_eq_true rfl) h9 (Nat.le_of_ble_eq_true rfl) (Nat.le_of_ble_eq_true rfl) dX3_init_81 (fun H hW => ?_)
  obtain ⟨S20, h9, hf⟩ := ob_inv hf
  refine i_putr hC hW h9 rfl hi3 tyX3_ok nmX3 (by decide) rfl rfl hin2 rfl (fun _ => rfl) (fun _ => rfl) (by decide +kernel) dX3_init_83 (fun H locs hW => ?_)
  refine lv_aload_n hx hb dX3_init_86 rfl (lv_at hl 0 rfl) ?_
  refine lv_bipush (v := 12) hx hb dX3_init_87 (by decide) ?_
  obtain ⟨S21, h9, hf⟩ := ob_inv hf
  refine i_newar hC hW (ai := 0) (ty := .int) (Or.inl rfl) rfl rfl rfl (fun _ => rfl) (by decide +kernel) (N := 12) (by decide) (by decide) (Nat.le_of_ble_eq_true rfl) h9 (Nat.le_of_ble_eq_true rfl) (Nat.le_of_ble_eq_true rfl) dX3_init_89 (fun H hW => ?_)
  obtain ⟨S22, h9, hf⟩ := ob_inv hf
  refine i_putr hC hW h9 rfl hi3 tyX3_ok nmX3 (by decide) rfl rfl hin2 rfl (fun _ => rfl) (fun _ => rfl) (by decide +kernel) dX3_init_91 (fun H locs hW => ?_)
  cases hf
  subst hQ
  exact i_vret hC hW hr hlocks rfl (Nat.le_of_ble_eq_true rfl) (Nat.le_of_ble_eq_true rfl) dX3_init_94
abbrev rmX1_init : Room := { frames := 2, cells := 10, slots := 189, locals := 33 }
set_option maxHeartbeats 8000000 in
set_option maxRecDepth 100000 in
theorem c_X1_init (l : Launch) (G : gG) {o0 : Nat} {S0 S9 : gS} (hf : f_X1_init o0 S0 = some S9) : Met l yX1_init wsX1_init (rmX1_init) (va_Pc [.ref (G.2.2.1 o0)] (i_W ZC i_nl G S0)) (i_Q ZC i_nl G S9) 10 189 (i_A G) := by
  refine Met.ofW (cc := cX1_init) (maxL := 1) (ret := none) (by decide) rfl ?_
  intro p e s m args below meth c s₁ B hml hv
  obtain ⟨rfl, hW0⟩ := hv
  have hC : CallFix p m c cX1_init 1 s ([.ref (G.2.2.1 o0)] : List Value).toArray wsX1_init RX1 := ⟨B.exec, B.bytes, hml, findClass_of_methodNamed B.named, atoms_spec (ws := wsX1_init) B.pre⟩
  have hx := hC.1
  have hb := hC.2.1
  have hown := hC.2.2.2.1
  have hts := hC.2.2.2.2
  have hr := B.returns
  have hlocks := B.notSynchronized
  have hin2 : meth.name = "<init>" := (name_of_methodNamed B.named B.method).1
  have hW := i_enter hW0
  have hi1 : ∀ w ∈ wsX10, w ∈ wsX1_init := by decide +kernel
  have hi8 : ∀ w ∈ wsX80, w ∈ wsX1_init := by decide +kernel
  have hl := lv_entry ([.ref (G.2.2.1 o0)]) (n := 1) (Nat.le_of_ble_eq_true rfl)
  rw [lg_entry_eq]
  generalize (lg_sl ([.ref (G.2.2.1 o0)]) ++ List.replicate (1 - (lg_sl ([.ref (G.2.2.1 o0)])).length) Slot.unset).toArray = ls at hl ⊢
  have hl : lv_has ls 1 [(0, .ref (G.2.2.1 o0))] := hl
  obtain ⟨Q, hQ⟩ : ∃ Q, Q = MQ below (i_Q ZC i_nl G S9) ([.ref (G.2.2.1 o0)] : List Value).toArray s 10 189 (i_A G) := ⟨_, rfl⟩
  refine g_goQ hQ ?_
  unfold f_X1_init at hf
  refine i_start hW (fun H locs hW => ?_)
  refine lv_aload_n hx hb dX1_init_0 rfl (lv_at hl 0 rfl) ?_
  refine W.objInit hx hb hown (hts _ (by decide +kernel : Cond.methodLink RX1 3 objectInit ∈ wsX1_init)) (hts _ (by decide +kernel : Cond.instanceMethod objectInit ∈ wsX1_init)) (hts _ (by decide +kernel : Cond.code objectInit ⟨#[0xb1]⟩ 1 none ∈ wsX1_init)) rfl (hl.1.trans hC.2.2.1.symm) rfl dX1_init_1 (Nat.le_of_ble_eq_true rfl) (Nat.le_of_ble_eq_true rfl) ?_
  refine W.eq (g2 := F0 m 4 ls []) rfl ?_
  refine lv_aload_n hx hb dX1_init_4 rfl (lv_at hl 0 rfl) ?_
  obtain ⟨S1, h9, hf⟩ := ob_inv hf
  refine i_newo hC hW (ci := 8) rfl hi8 tyX8_ok i_df8 (by decide +kernel) (by decide +kernel) (by decide +kernel) h9 (Nat.le_of_ble_eq_true rfl) (Nat.le_of_ble_eq_true rfl) dX1_init_5 (fun H hW => ?_)
  refine lv_dup hx hb dX1_init_8 rfl ?_
  refine lv_bipush (v := 20) hx hb dX1_init_9 (by decide) ?_
  obtain ⟨S2, hg, hf⟩ := ob_inv hf
  refine i_callI hC hW (o := S0.1) (As := [.int 20]) (rest := [.ref (G.2.2.1 S0.1), .ref (G.2.2.1 o0)]) (c_X8_init l G (N := 20) (Nat.le_of_ble_eq_true rfl) hg) (cwI 1 hts gX1_init_X8_init rfl rfl rfl (hts _ (by decide +kernel : Cond.initialized RX8 ∈ wsX1_init)) (hts _ (by decide +kernel : Cond.methodLink RX1 11 yX8_init ∈ wsX1_init)) (hts _ (by decide +kernel : Cond.instanceMethod yX8_init ∈ wsX1_init)) rfl (by decide +kernel) ⟨(Nat.le_of_ble_eq_true rfl), (Nat.le_of_ble_eq_true rfl)⟩) rfl hl.1 rfl (Nat.le_of_ble_eq_true rfl) dX1_init_11 ⟨(Nat.le_of_ble_eq_true rfl), (Nat.le_of_ble_eq_true rfl)⟩ (fun H locs hW => ?_)
  obtain ⟨S3, h9, hf⟩ := ob_inv hf
  refine i_putr hC hW h9 rfl hi1 tyX1_ok nmX1 (by decide) rfl rfl hin2 rfl (fun _ => rfl) (fun _ => rfl) (by decide +kernel) dX1_init_14 (fun H locs hW => ?_)
  refine lv_aload_n hx hb dX1_init_17 rfl (lv_at hl 0 rfl) ?_
  refine lv_bipush (v := 20) hx hb dX1_init_18 (by decide) ?_
  obtain ⟨S4, h9, hf⟩ := ob_inv hf
  refine i_newar hC hW (ai := 0) (ty := .int) (Or.inl rfl) rfl rfl rfl (fun _ => rfl) (by decide +kernel) (N := 20) (by decide) (by decide) (Nat.le_of_ble_eq_true rfl) h9 (Nat.le_of_ble_eq_true rfl) (Nat.le_of_ble_eq_true rfl) dX1_init_20 (fun H hW => ?_)
  obtain ⟨S5, h9, hf⟩ := ob_inv hf
  refine i_putr hC hW h9 rfl hi1 tyX1_ok nmX1 (by decide) rfl rfl hin2 rfl (fun _ => rfl) (fun _ => rfl) (by decide +kernel) dX1_init_22 (fun H locs hW => ?_)
  cases hf
  subst hQ
  exact i_vret hC hW hr hlocks rfl (Nat.le_of_ble_eq_true rfl) (Nat.le_of_ble_eq_true rfl) dX1_init_25
abbrev rmX0_init : Room := { frames := 1, cells := 3, slots := 18, locals := 12 }
set_option maxHeartbeats 8000000 in
set_option maxRecDepth 100000 in
theorem c_X0_init (l : Launch) (G : gG) {o0 : Nat} {S0 S9 : gS} (hf : f_X0_init o0 S0 = some S9) : Met l yX0_init wsX0_init (rmX0_init) (va_Pc [.ref (G.2.2.1 o0)] (i_W ZC i_nl G S0)) (i_Q ZC i_nl G S9) 3 18 (i_A G) := by
  refine Met.ofW (cc := cX0_init) (maxL := 1) (ret := none) (by decide) rfl ?_
  intro p e s m args below meth c s₁ B hml hv
  obtain ⟨rfl, hW0⟩ := hv
  have hC : CallFix p m c cX0_init 1 s ([.ref (G.2.2.1 o0)] : List Value).toArray wsX0_init RX0 := ⟨B.exec, B.bytes, hml, findClass_of_methodNamed B.named, atoms_spec (ws := wsX0_init) B.pre⟩
  have hx := hC.1
  have hb := hC.2.1
  have hown := hC.2.2.2.1
  have hts := hC.2.2.2.2
  have hr := B.returns
  have hlocks := B.notSynchronized
  have hin2 : meth.name = "<init>" := (name_of_methodNamed B.named B.method).1
  have hW := i_enter hW0
  have hi0 : ∀ w ∈ wsX00, w ∈ wsX0_init := by decide +kernel
  have hl := lv_entry ([.ref (G.2.2.1 o0)]) (n := 1) (Nat.le_of_ble_eq_true rfl)
  rw [lg_entry_eq]
  generalize (lg_sl ([.ref (G.2.2.1 o0)]) ++ List.replicate (1 - (lg_sl ([.ref (G.2.2.1 o0)])).length) Slot.unset).toArray = ls at hl ⊢
  have hl : lv_has ls 1 [(0, .ref (G.2.2.1 o0))] := hl
  obtain ⟨Q, hQ⟩ : ∃ Q, Q = MQ below (i_Q ZC i_nl G S9) ([.ref (G.2.2.1 o0)] : List Value).toArray s 3 18 (i_A G) := ⟨_, rfl⟩
  refine g_goQ hQ ?_
  unfold f_X0_init at hf
  refine i_start hW (fun H locs hW => ?_)
  refine lv_aload_n hx hb dX0_init_0 rfl (lv_at hl 0 rfl) ?_
  refine W.objInit hx hb hown (hts _ (by decide +kernel : Cond.methodLink RX0 3 objectInit ∈ wsX0_init)) (hts _ (by decide +kernel : Cond.instanceMethod objectInit ∈ wsX0_init)) (hts _ (by decide +kernel : Cond.code objectInit ⟨#[0xb1]⟩ 1 none ∈ wsX0_init)) rfl (hl.1.trans hC.2.2.1.symm) rfl dX0_init_1 (Nat.le_of_ble_eq_true rfl) (Nat.le_of_ble_eq_true rfl) ?_
  refine W.eq (g2 := F0 m 4 ls []) rfl ?_
  refine lv_aload_n hx hb dX0_init_4 rfl (lv_at hl 0 rfl) ?_
  refine lv_bipush (v := 6) hx hb dX0_init_5 (by decide) ?_
  obtain ⟨S1, h9, hf⟩ := ob_inv hf
  refine i_newar hC hW (ai := 0) (ty := .int) (Or.inl rfl) rfl rfl rfl (fun _ => rfl) (by decide +kernel) (N := 6) (by decide) (by decide) (Nat.le_of_ble_eq_true rfl) h9 (Nat.le_of_ble_eq_true rfl) (Nat.le_of_ble_eq_true rfl) dX0_init_7 (fun H hW => ?_)
  obtain ⟨S2, h9, hf⟩ := ob_inv hf
  refine i_putr hC hW h9 rfl hi0 tyX0_ok nmX0 (by decide) rfl rfl hin2 rfl (fun _ => rfl) (fun _ => rfl) (by decide +kernel) dX0_init_9 (fun H locs hW => ?_)
  refine lv_aload_n hx hb dX0_init_12 rfl (lv_at hl 0 rfl) ?_
  refine lv_bipush (v := 6) hx hb dX0_init_13 (by decide) ?_
  obtain ⟨S3, h9, hf⟩ := ob_inv hf
  refine i_newar hC hW (ai := 0) (ty := .int) (Or.inl rfl) rfl rfl rfl (fun _ => rfl) (by decide +kernel) (N := 6) (by decide) (by decide) (Nat.le_of_ble_eq_true rfl) h9 (Nat.le_of_ble_eq_true rfl) (Nat.le_of_ble_eq_true rfl) dX0_init_15 (fun H hW => ?_)
  obtain ⟨S4, h9, hf⟩ := ob_inv hf
  refine i_putr hC hW h9 rfl hi0 tyX0_ok nmX0 (by decide) rfl rfl hin2 rfl (fun _ => rfl) (fun _ => rfl) (by decide +kernel) dX0_init_17 (fun H locs hW => ?_)
  refine lv_aload_n hx hb dX0_init_20 rfl (lv_at hl 0 rfl) ?_
  refine lv_bipush (v := 6) hx hb dX0_init_21 (by decide) ?_
  obtain ⟨S5, h9, hf⟩ := ob_inv hf
  refine i_newar hC hW (ai := 1) (ty := .boolean) (Or.inr rfl) rfl rfl rfl (fun _ => rfl) (by decide +kernel) (N := 6) (by decide) (by decide) (Nat.le_of_ble_eq_true rfl) h9 (Nat.le_of_ble_eq_true rfl) (Nat.le_of_ble_eq_true rfl) dX0_init_23 (fun H hW => ?_)
  obtain ⟨S6, h9, hf⟩ := ob_inv hf
  refine i_putr hC hW h9 rfl hi0 tyX0_ok nmX0 (by decide) rfl rfl hin2 rfl (fun _ => rfl) (fun _ => rfl) (by decide +kernel) dX0_init_25 (fun H locs hW => ?_)
  refine lv_aload_n hx hb dX0_init_28 rfl (lv_at hl 0 rfl) ?_
  refine lv_iconst (v := 0) hx hb dX0_init_29 (by decide) ?_
  obtain ⟨S7, h9, hf⟩ := ob_inv hf
  refine i_puti hC hW h9 rfl hi0 tyX0_ok nmX0 (by decide) rfl rfl rfl (by decide +kernel) dX0_init_30 (fun H locs hW => ?_)
  cases hf
  subst hQ
  exact i_vret hC hW hr hlocks rfl (Nat.le_of_ble_eq_true rfl) (Nat.le_of_ble_eq_true rfl) dX0_init_33
abbrev rmX5_init : Room := { frames := 2, cells := 15, slots := 429, locals := 33 }
set_option maxHeartbeats 8000000 in
set_option maxRecDepth 100000 in
theorem c_X5_init (l : Launch) (G : gG) {o0 : Nat} {S0 S9 : gS} (hf : f_X5_init o0 S0 = some S9) : Met l yX5_init wsX5_init (rmX5_init) (va_Pc [.ref (G.2.2.1 o0)] (i_W ZC i_nl G S0)) (i_Q ZC i_nl G S9) 15 429 (i_A G) := by
  refine Met.ofW (cc := cX5_init) (maxL := 1) (ret := none) (by decide) rfl ?_
  intro p e s m args below meth c s₁ B hml hv
  obtain ⟨rfl, hW0⟩ := hv
  have hC : CallFix p m c cX5_init 1 s ([.ref (G.2.2.1 o0)] : List Value).toArray wsX5_init RX5 := ⟨B.exec, B.bytes, hml, findClass_of_methodNamed B.named, atoms_spec (ws := wsX5_init) B.pre⟩
  have hx := hC.1
  have hb := hC.2.1
  have hown := hC.2.2.2.1
  have hts := hC.2.2.2.2
  have hr := B.returns
  have hlocks := B.notSynchronized
  have hin2 : meth.name = "<init>" := (name_of_methodNamed B.named B.method).1
  have hW := i_enter hW0
  have hi5 : ∀ w ∈ wsX50, w ∈ wsX5_init := by decide +kernel
  have hi8 : ∀ w ∈ wsX80, w ∈ wsX5_init := by decide +kernel
  have hl := lv_entry ([.ref (G.2.2.1 o0)]) (n := 1) (Nat.le_of_ble_eq_true rfl)
  rw [lg_entry_eq]
  generalize (lg_sl ([.ref (G.2.2.1 o0)]) ++ List.replicate (1 - (lg_sl ([.ref (G.2.2.1 o0)])).length) Slot.unset).toArray = ls at hl ⊢
  have hl : lv_has ls 1 [(0, .ref (G.2.2.1 o0))] := hl
  obtain ⟨Q, hQ⟩ : ∃ Q, Q = MQ below (i_Q ZC i_nl G S9) ([.ref (G.2.2.1 o0)] : List Value).toArray s 15 429 (i_A G) := ⟨_, rfl⟩
  refine g_goQ hQ ?_
  unfold f_X5_init at hf
  refine i_start hW (fun H locs hW => ?_)
  refine lv_aload_n hx hb dX5_init_0 rfl (lv_at hl 0 rfl) ?_
  refine W.objInit hx hb hown (hts _ (by decide +kernel : Cond.methodLink RX5 3 objectInit ∈ wsX5_init)) (hts _ (by decide +kernel : Cond.instanceMethod objectInit ∈ wsX5_init)) (hts _ (by decide +kernel : Cond.code objectInit ⟨#[0xb1]⟩ 1 none ∈ wsX5_init)) rfl (hl.1.trans hC.2.2.1.symm) rfl dX5_init_1 (Nat.le_of_ble_eq_true rfl) (Nat.le_of_ble_eq_true rfl) ?_
  refine W.eq (g2 := F0 m 4 ls []) rfl ?_
  refine lv_aload_n hx hb dX5_init_4 rfl (lv_at hl 0 rfl) ?_
  refine lv_bipush (v := 12) hx hb dX5_init_5 (by decide) ?_
  obtain ⟨S1, h9, hf⟩ := ob_inv hf
  refine i_newar hC hW (ai := 0) (ty := .int) (Or.inl rfl) rfl rfl rfl (fun _ => rfl) (by decide +kernel) (N := 12) (by decide) (by decide) (Nat.le_of_ble_eq_true rfl) h9 (Nat.le_of_ble_eq_true rfl) (Nat.le_of_ble_eq_true rfl) dX5_init_7 (fun H hW => ?_)
  obtain ⟨S2, h9, hf⟩ := ob_inv hf
  refine i_putr hC hW h9 rfl hi5 tyX5_ok nmX5 (by decide) rfl rfl hin2 rfl (fun _ => rfl) (fun _ => rfl) (by decide +kernel) dX5_init_9 (fun H locs hW => ?_)
  refine lv_aload_n hx hb dX5_init_12 rfl (lv_at hl 0 rfl) ?_
  refine lv_bipush (v := 12) hx hb dX5_init_13 (by decide) ?_
  obtain ⟨S3, h9, hf⟩ := ob_inv hf
  refine i_newar hC hW (ai := 0) (ty := .int) (Or.inl rfl) rfl rfl rfl (fun _ => rfl) (by decide +kernel) (N := 12) (by decide) (by decide) (Nat.le_of_ble_eq_true rfl) h9 (Nat.le_of_ble_eq_true rfl) (Nat.le_of_ble_eq_true rfl) dX5_init_15 (fun H hW => ?_)
  obtain ⟨S4, h9, hf⟩ := ob_inv hf
  refine i_putr hC hW h9 rfl hi5 tyX5_ok nmX5 (by decide) rfl rfl hin2 rfl (fun _ => rfl) (fun _ => rfl) (by decide +kernel) dX5_init_17 (fun H locs hW => ?_)
  refine lv_aload_n hx hb dX5_init_20 rfl (lv_at hl 0 rfl) ?_
  refine lv_bipush (v := 72) hx hb dX5_init_21 (by decide) ?_
  obtain ⟨S5, h9, hf⟩ := ob_inv hf
  refine i_newar hC hW (ai := 0) (ty := .int) (Or.inl rfl) rfl rfl rfl (fun _ => rfl) (by decide +kernel) (N := 72) (by decide) (by decide) (Nat.le_of_ble_eq_true rfl) h9 (Nat.le_of_ble_eq_true rfl) (Nat.le_of_ble_eq_true rfl) dX5_init_23 (fun H hW => ?_)
  obtain ⟨S6, h9, hf⟩ := ob_inv hf
  refine i_putr hC hW h9 rfl hi5 tyX5_ok nmX5 (by decide) rfl rfl hin2 rfl (fun _ => rfl) (fun _ => rfl) (by decide +kernel) dX5_init_25 (fun H locs hW => ?_)
  refine lv_aload_n hx hb dX5_init_28 rfl (lv_at hl 0 rfl) ?_
  refine lv_bipush (v := 72) hx hb dX5_init_29 (by decide) ?_
  obtain ⟨S7, h9, hf⟩ := ob_inv hf
  refine i_newar hC hW (ai := 0) (ty := .int) (Or.inl rfl) rfl rfl rfl (fun _ => rfl) (by decide +kernel) (N := 72) (by decide) (by decide) (Nat.le_of_ble_eq_true rfl) h9 (Nat.le_of_ble_eq_true rfl) (Nat.le_of_ble_eq_true rfl) dX5_init_31 (fun H hW => ?_)
  obtain ⟨S8, h9, hf⟩ := ob_inv hf
  refine i_putr hC hW h9 rfl hi5 tyX5_ok nmX5 (by decide) rfl rfl hin2 rfl (fun _ => rfl) (fun _ => rfl) (by decide +kernel) dX5_init_33 (fun H locs hW => ?_)
  refine lv_aload_n hx hb dX5_init_36 rfl (lv_at hl 0 rfl) ?_
  refine lv_bipush (v := 6) hx hb dX5_init_37 (by decide) ?_
  obtain ⟨S9, h9, hf⟩ := ob_inv hf
  refine i_newar hC hW (ai := 0) (ty := .int) (Or.inl rfl) rfl rfl rfl (fun _ => rfl) (by decide +kernel) (N := 6) (by decide) (by decide) (Nat.le_of_ble_eq_true rfl) h9 (Nat.le_of_ble_eq_true rfl) (Nat.le_of_ble_eq_true rfl) dX5_init_39 (fun H hW => ?_)
  obtain ⟨S10, h9, hf⟩ := ob_inv hf
  refine i_putr hC hW h9 rfl hi5 tyX5_ok nmX5 (by decide) rfl rfl hin2 rfl (fun _ => rfl) (fun _ => rfl) (by decide +kernel) dX5_init_41 (fun H locs hW => ?_)
  refine lv_aload_n hx hb dX5_init_44 rfl (lv_at hl 0 rfl) ?_
  refine lv_bipush (v := 6) hx hb dX5_init_45 (by decide) ?_
  obtain ⟨S11, h9, hf⟩ := ob_inv hf
  refine i_newar hC hW (ai := 0) (ty := .int) (Or.inl rfl) rfl rfl rfl (fun _ => rfl) (by decide +kernel) (N := 6) (by decide) (by decide) (Nat.le_of_ble_eq_true rfl) h9 (Nat.le_of_ble_eq_true rfl) (Nat.le_of_ble_eq_true rfl) dX5_init_47 (fun H hW => ?_)
  obtain ⟨S12, h9, hf⟩ := ob_inv hf
  refine i_putr hC hW h9 rfl hi5 tyX5_ok nmX5 (by decide) rfl rfl hin2 rfl (fun _ => rfl) (fun _ => rfl) (by decide +kernel) dX5_init_49 (fun H locs hW => ?_)
  refine lv_aload_n hx hb dX5_init_52 rfl (lv_at hl 0 rfl) ?_
  obtain ⟨S13, h9, hf⟩ := ob_inv hf
  refine i_newo hC hW (ci := 8) rfl hi8 tyX8_ok i_df8 (by decide +kernel) (by decide +kernel) (by decide +kernel) h9 (Nat.le_of_ble_eq_true rfl) (Nat.le_of_ble_eq_true rfl) dX5_init_53 (fun H hW => ?_)
  refine lv_dup hx hb dX5_init_56 rfl ?_
  refine lv_bipush (v := 30) hx hb dX5_init_57 (by decide) ?_
  obtain ⟨S14, hg, hf⟩ := ob_inv hf
  refine i_callI hC hW (o := S12.1) (As := [.int 30]) (rest := [.ref (G.2.2.1 S12.1), .ref (G.2.2.1 o0)]) (c_X8_init l G (N := 30) (Nat.le_of_ble_eq_true rfl) hg) (cwI 1 hts gX5_init_X8_init rfl rfl rfl (hts _ (by decide +kernel : Cond.initialized RX8 ∈ wsX5_init)) (hts _ (by decide +kernel : Cond.methodLink RX5 32 yX8_init ∈ wsX5_init)) (hts _ (by decide +kernel : Cond.instanceMethod yX8_init ∈ wsX5_init)) rfl (by decide +kernel) ⟨(Nat.le_of_ble_eq_true rfl), (Nat.le_of_ble_eq_true rfl)⟩) rfl hl.1 rfl (Nat.le_of_ble_eq_true rfl) dX5_init_59 ⟨(Nat.le_of_ble_eq_true rfl), (Nat.le_of_ble_eq_true rfl)⟩ (fun H locs hW => ?_)
  obtain ⟨S15, h9, hf⟩ := ob_inv hf
  refine i_putr hC hW h9 rfl hi5 tyX5_ok nmX5 (by decide) rfl rfl hin2 rfl (fun _ => rfl) (fun _ => rfl) (by decide +kernel) dX5_init_62 (fun H locs hW => ?_)
  refine lv_aload_n hx hb dX5_init_65 rfl (lv_at hl 0 rfl) ?_
  refine lv_iconst (v := 0) hx hb dX5_init_66 (by decide) ?_
  obtain ⟨S16, h9, hf⟩ := ob_inv hf
  refine i_puti hC hW h9 rfl hi5 tyX5_ok nmX5 (by decide) rfl rfl rfl (by decide +kernel) dX5_init_67 (fun H locs hW => ?_)
  cases hf
  subst hQ
  exact i_vret hC hW hr hlocks rfl (Nat.le_of_ble_eq_true rfl) (Nat.le_of_ble_eq_true rfl) dX5_init_70
abbrev rmX9_init : Room := { frames := 4, cells := 228, slots := 9378, locals := 73 }
set_option maxHeartbeats 8000000 in
set_option maxRecDepth 100000 in
theorem c_X9_init (l : Launch) (G : gG) {o0 : Nat} {S0 S9 : gS} (hf : f_X9_init o0 S0 = some S9) : Met l yX9_init wsX9_init (rmX9_init) (va_Pc [.ref (G.2.2.1 o0)] (i_W ZC i_nl G S0)) (i_Q ZC i_nl G S9) 228 9378 (i_A G) := by
  refine Met.ofW (cc := cX9_init) (maxL := 2) (ret := none) (by decide) rfl ?_
  intro p e s m args below meth c s₁ B hml hv
  obtain ⟨rfl, hW0⟩ := hv
  have hC : CallFix p m c cX9_init 2 s ([.ref (G.2.2.1 o0)] : List Value).toArray wsX9_init RX9 := ⟨B.exec, B.bytes, hml, findClass_of_methodNamed B.named, atoms_spec (ws := wsX9_init) B.pre⟩
  have hx := hC.1
  have hb := hC.2.1
  have hown := hC.2.2.2.1
  have hts := hC.2.2.2.2
  have hr := B.returns
  have hlocks := B.notSynchronized
  have hin2 : meth.name = "<init>" := (name_of_methodNamed B.named B.method).1
  have hW := i_enter hW0
  have hi0 : ∀ w ∈ wsX00, w ∈ wsX9_init := by decide +kernel
  have hi1 : ∀ w ∈ wsX10, w ∈ wsX9_init := by decide +kernel
  have hi3 : ∀ w ∈ wsX30, w ∈ wsX9_init := by decide +kernel
  have hi5 : ∀ w ∈ wsX50, w ∈ wsX9_init := by decide +kernel
  have hi8 : ∀ w ∈ wsX80, w ∈ wsX9_init := by decide +kernel
  have hi9 : ∀ w ∈ wsX90, w ∈ wsX9_init := by decide +kernel
  have hl := lv_entry ([.ref (G.2.2.1 o0)]) (n := 2) (Nat.le_of_ble_eq_true rfl)
  rw [lg_entry_eq]
  generalize (lg_sl ([.ref (G.2.2.1 o0)]) ++ List.replicate (2 - (lg_sl ([.ref (G.2.2.1 o0)])).length) Slot.unset).toArray = ls at hl ⊢
  have hl : lv_has ls 2 [(0, .ref (G.2.2.1 o0))] := hl
  obtain ⟨Q, hQ⟩ : ∃ Q, Q = MQ below (i_Q ZC i_nl G S9) ([.ref (G.2.2.1 o0)] : List Value).toArray s 228 9378 (i_A G) := ⟨_, rfl⟩
  refine g_goQ hQ ?_
  unfold f_X9_init at hf
  refine i_start hW (fun H locs hW => ?_)
  refine lv_aload_n hx hb dX9_init_0 rfl (lv_at hl 0 rfl) ?_
  refine W.objInit hx hb hown (hts _ (by decide +kernel : Cond.methodLink RX9 1 objectInit ∈ wsX9_init)) (hts _ (by decide +kernel : Cond.instanceMethod objectInit ∈ wsX9_init)) (hts _ (by decide +kernel : Cond.code objectInit ⟨#[0xb1]⟩ 1 none ∈ wsX9_init)) rfl (hl.1.trans hC.2.2.1.symm) rfl dX9_init_1 (Nat.le_of_ble_eq_true rfl) (Nat.le_of_ble_eq_true rfl) ?_
  refine W.eq (g2 := F0 m 4 ls []) rfl ?_
  refine lv_aload_n hx hb dX9_init_4 rfl (lv_at hl 0 rfl) ?_
  obtain ⟨S1, h9, hf⟩ := ob_inv hf
  refine i_newo hC hW (ci := 3) rfl hi3 tyX3_ok i_df3 (by decide +kernel) (by decide +kernel) (by decide +kernel) h9 (Nat.le_of_ble_eq_true rfl) (Nat.le_of_ble_eq_true rfl) dX9_init_5 (fun H hW => ?_)
  refine lv_dup hx hb dX9_init_8 rfl ?_
  obtain ⟨S2, hg, hf⟩ := ob_inv hf
  refine i_callN hC hW (o := S0.1) (As := []) (rest := [.ref (G.2.2.1 S0.1), .ref (G.2.2.1 o0)]) (host := "GridMarket") (c_X3_init l G hg) ⟨va_cnB 0 hts gX9_init_X3_init_n9 rfl rfl rfl (hW.2.2.2.1.1 (RX9, 9, yX3_init) (by decide +kernel)) (hts _ (by decide +kernel : Cond.initialized RX3 ∈ wsX9_init)) (by decide +kernel) ⟨(Nat.le_of_ble_eq_true rfl), (Nat.le_of_ble_eq_true rfl)⟩, rfl, hts _ (by decide +kernel : Cond.instanceMethod yX3_init ∈ wsX9_init)⟩ rfl hl.1 rfl (Nat.le_of_ble_eq_true rfl) dX9_init_9 ⟨(Nat.le_of_ble_eq_true rfl), (Nat.le_of_ble_eq_true rfl)⟩ (fun H locs hW => ?_)
  obtain ⟨S3, h9, hf⟩ := ob_inv hf
  refine i_putr hC hW h9 rfl hi9 tyX9_ok nmX9 (by decide) rfl rfl hin2 rfl (fun _ => rfl) (fun _ => rfl) (by decide +kernel) dX9_init_12 (fun H locs hW => ?_)
  refine lv_aload_n hx hb dX9_init_15 rfl (lv_at hl 0 rfl) ?_
  refine lv_aload_n hx hb dX9_init_16 rfl (lv_at hl 0 rfl) ?_
  obtain ⟨d4, h9, hf⟩ := ob_inv hf
  refine i_getr hC hW h9 rfl hi9 (by decide) rfl (by decide +kernel) dX9_init_17 ?_
  obtain ⟨d5, h9, hf⟩ := ob_inv hf
  refine i_getr hC hW h9 rfl hi3 (by decide) rfl (by decide +kernel) dX9_init_20 ?_
  obtain ⟨S6, h9, hf⟩ := ob_inv hf
  refine i_putr hC hW h9 rfl hi9 tyX9_ok nmX9 (by decide) rfl rfl hin2 rfl (fun _ => rfl) (fun _ => rfl) (by decide +kernel) dX9_init_23 (fun H locs hW => ?_)
  refine lv_aload_n hx hb dX9_init_26 rfl (lv_at hl 0 rfl) ?_
  refine lv_aload_n hx hb dX9_init_27 rfl (lv_at hl 0 rfl) ?_
  obtain ⟨d7, h9, hf⟩ := ob_inv hf
  refine i_getr hC hW h9 rfl hi9 (by decide) rfl (by decide +kernel) dX9_init_28 ?_
  obtain ⟨d8, h9, hf⟩ := ob_inv hf
  refine i_getr hC hW h9 rfl hi3 (by decide) rfl (by decide +kernel) dX9_init_31 ?_
  obtain ⟨S9, h9, hf⟩ := ob_inv hf
  refine i_putr hC hW h9 rfl hi9 tyX9_ok nmX9 (by decide) rfl rfl hin2 rfl (fun _ => rfl) (fun _ => rfl) (by decide +kernel) dX9_init_34 (fun H locs hW => ?_)
  refine lv_aload_n hx hb dX9_init_37 rfl (lv_at hl 0 rfl) ?_
  refine lv_aload_n hx hb dX9_init_38 rfl (lv_at hl 0 rfl) ?_
  obtain ⟨d10, h9, hf⟩ := ob_inv hf
  refine i_getr hC hW h9 rfl hi9 (by decide) rfl (by decide +kernel) dX9_init_39 ?_
  obtain ⟨d11, h9, hf⟩ := ob_inv hf
  refine i_getr hC hW h9 rfl hi3 (by decide) rfl (by decide +kernel) dX9_init_42 ?_
  obtain ⟨S12, h9, hf⟩ := ob_inv hf
  refine i_putr hC hW h9 rfl hi9 tyX9_ok nmX9 (by decide) rfl rfl hin2 rfl (fun _ => rfl) (fun _ => rfl) (by decide +kernel) dX9_init_45 (fun H locs hW => ?_)
  refine lv_aload_n hx hb dX9_init_48 rfl (lv_at hl 0 rfl) ?_
  obtain ⟨S13, h9, hf⟩ := ob_inv hf
  refine i_newo hC hW (ci := 1) rfl hi1 tyX1_ok i_df1 (by decide +kernel) (by decide +kernel) (by decide +kernel) h9 (Nat.le_of_ble_eq_true rfl) (Nat.le_of_ble_eq_true rfl) dX9_init_49 (fun H hW => ?_)
  refine lv_dup hx hb dX9_init_52 rfl ?_
  obtain ⟨S14, hg, hf⟩ := ob_inv hf
  refine i_callN hC hW (o := S12.1) (As := []) (rest := [.ref (G.2.2.1 S12.1), .ref (G.2.2.1 o0)]) (host := "GridMarket") (c_X1_init l G hg) ⟨va_cnB 0 hts gX9_init_X1_init_n33 rfl rfl rfl (hW.2.2.2.1.1 (RX9, 33, yX1_init) (by decide +kernel)) (hts _ (by decide +kernel : Cond.initialized RX1 ∈ wsX9_init)) (by decide +kernel) ⟨(Nat.le_of_ble_eq_true rfl), (Nat.le_of_ble_eq_true rfl)⟩, rfl, hts _ (by decide +kernel : Cond.instanceMethod yX1_init ∈ wsX9_init)⟩ rfl hl.1 rfl (Nat.le_of_ble_eq_true rfl) dX9_init_53 ⟨(Nat.le_of_ble_eq_true rfl), (Nat.le_of_ble_eq_true rfl)⟩ (fun H locs hW => ?_)
  obtain ⟨S15, h9, hf⟩ := ob_inv hf
  refine i_putr hC hW h9 rfl hi9 tyX9_ok nmX9 (by decide) rfl rfl hin2 rfl (fun _ => rfl) (fun _ => rfl) (by decide +kernel) dX9_init_56 (fun H locs hW => ?_)
  refine lv_aload_n hx hb dX9_init_59 rfl (lv_at hl 0 rfl) ?_
  obtain ⟨S16, h9, hf⟩ := ob_inv hf
  refine i_newo hC hW (ci := 8) rfl hi8 tyX8_ok i_df8 (by decide +kernel) (by decide +kernel) (by decide +kernel) h9 (Nat.le_of_ble_eq_true rfl) (Nat.le_of_ble_eq_true rfl) dX9_init_60 (fun H hW => ?_)
  refine lv_dup hx hb dX9_init_63 rfl ?_
  refine lv_bipush (v := 60) hx hb dX9_init_64 (by decide) ?_
  obtain ⟨S17, hg, hf⟩ := ob_inv hf
  refine i_callI hC hW (o := S15.1) (As := [.int 60]) (rest := [.ref (G.2.2.1 S15.1), .ref (G.2.2.1 o0)]) (c_X8_init l G (N := 60) (Nat.le_of_ble_eq_true rfl) hg) (cwI 1 hts gX9_init_X8_init rfl rfl rfl (hts _ (by decide +kernel : Cond.initialized RX8 ∈ wsX9_init)) (hts _ (by decide +kernel : Cond.methodLink RX9 40 yX8_init ∈ wsX9_init)) (hts _ (by decide +kernel : Cond.instanceMethod yX8_init ∈ wsX9_init)) rfl (by decide +kernel) ⟨(Nat.le_of_ble_eq_true rfl), (Nat.le_of_ble_eq_true rfl)⟩) rfl hl.1 rfl (Nat.le_of_ble_eq_true rfl) dX9_init_66 ⟨(Nat.le_of_ble_eq_true rfl), (Nat.le_of_ble_eq_true rfl)⟩ (fun H locs hW => ?_)
  obtain ⟨S18, h9, hf⟩ := ob_inv hf
  refine i_putr hC hW h9 rfl hi9 tyX9_ok nmX9 (by decide) rfl rfl hin2 rfl (fun _ => rfl) (fun _ => rfl) (by decide +kernel) dX9_init_69 (fun H locs hW => ?_)
  refine lv_aload_n hx hb dX9_init_72 rfl (lv_at hl 0 rfl) ?_
  refine lv_bipush (v := 10) hx hb dX9_init_73 (by decide) ?_
  obtain ⟨S19, h9, hf⟩ := ob_inv hf
  refine i_newq hC hW (ai := 4) (Or.inr rfl) rfl hW.2.2.2.1.2.1 (by decide +kernel) (N := 10) (by decide) (by decide) (Nat.le_of_ble_eq_true rfl) h9 (Nat.le_of_ble_eq_true rfl) (Nat.le_of_ble_eq_true rfl) dX9_init_75 (fun H hW => ?_)
  obtain ⟨S20, h9, hf⟩ := ob_inv hf
  refine i_putr hC hW h9 rfl hi9 tyX9_ok nmX9 (by decide) rfl rfl hin2 rfl (fun _ => rfl) (fun _ => rfl) (by decide +kernel) dX9_init_78 (fun H locs hW => ?_)
  refine lv_aload_n hx hb dX9_init_81 rfl (lv_at hl 0 rfl) ?_
  obtain ⟨S21, h9, hf⟩ := ob_inv hf
  refine i_newo hC hW (ci := 0) rfl hi0 tyX0_ok i_df0 (by decide +kernel) (by decide +kernel) (by decide +kernel) h9 (Nat.le_of_ble_eq_true rfl) (Nat.le_of_ble_eq_true rfl) dX9_init_82 (fun H hW => ?_)
  refine lv_dup hx hb dX9_init_85 rfl ?_
  obtain ⟨S22, hg, hf⟩ := ob_inv hf
  refine i_callN hC hW (o := S20.1) (As := []) (rest := [.ref (G.2.2.1 S20.1), .ref (G.2.2.1 o0)]) (host := "GridMarket") (c_X0_init l G hg) ⟨va_cnB 0 hts gX9_init_X0_init_n54 rfl rfl rfl (hW.2.2.2.1.1 (RX9, 54, yX0_init) (by decide +kernel)) (hts _ (by decide +kernel : Cond.initialized RX0 ∈ wsX9_init)) (by decide +kernel) ⟨(Nat.le_of_ble_eq_true rfl), (Nat.le_of_ble_eq_true rfl)⟩, rfl, hts _ (by decide +kernel : Cond.instanceMethod yX0_init ∈ wsX9_init)⟩ rfl hl.1 rfl (Nat.le_of_ble_eq_true rfl) dX9_init_86 ⟨(Nat.le_of_ble_eq_true rfl), (Nat.le_of_ble_eq_true rfl)⟩ (fun H locs hW => ?_)
  obtain ⟨S23, h9, hf⟩ := ob_inv hf
  refine i_putr hC hW h9 rfl hi9 tyX9_ok nmX9 (by decide) rfl rfl hin2 rfl (fun _ => rfl) (fun _ => rfl) (by decide +kernel) dX9_init_89 (fun H locs hW => ?_)
  refine lv_aload_n hx hb dX9_init_92 rfl (lv_at hl 0 rfl) ?_
  refine lv_iconst (v := 0) hx hb dX9_init_93 (by decide) ?_
  obtain ⟨S24, h9, hf⟩ := ob_inv hf
  refine i_puti hC hW h9 rfl hi9 tyX9_ok nmX9 (by decide) rfl rfl rfl (by decide +kernel) dX9_init_94 (fun H locs hW => ?_)
  refine lv_aload_n hx hb dX9_init_97 rfl (lv_at hl 0 rfl) ?_
  refine lv_iconst (v := 0) hx hb dX9_init_98 (by decide) ?_
  obtain ⟨S25, h9, hf⟩ := ob_inv hf
  refine i_puti hC hW h9 rfl hi9 tyX9_ok nmX9 (by decide) rfl rfl rfl (by decide +kernel) dX9_init_99 (fun H locs hW => ?_)
  refine lv_iconst (v := 0) hx hb dX9_init_102 (by decide) ?_
  refine lv_istore_n (lv' := [(1, .int 0), (0, .ref (G.2.2.1 o0))]) hx hb dX9_init_103 rfl hl (by decide) rfl (fun ls hl => ?_)
  refine lv_iload_n hx hb dX9_init_104 rfl (lv_at hl 0 rfl) ?_
  refine lv_bipush (v := 10) hx hb dX9_init_105 (by decide) ?_
  refine lv_icmp_ge (tgt := 129) hx hb dX9_init_107 (by decide) (fun c9 => absurd c9 (by decide)) (fun c9 => ?_)
  refine lv_aload_n hx hb dX9_init_110 rfl (lv_at hl 1 rfl) ?_
  obtain ⟨d26, h9, hf⟩ := ob_inv hf
  refine i_getr hC hW h9 rfl hi9 (by decide) rfl (by decide +kernel) dX9_init_111 ?_
  refine lv_iload_n hx hb dX9_init_114 rfl (lv_at hl 0 rfl) ?_
  obtain ⟨S27, h9, hf⟩ := ob_inv hf
  refine i_newo hC hW (ci := 5) rfl hi5 tyX5_ok i_df5 (by decide +kernel) (by decide +kernel) (by decide +kernel) h9 (Nat.le_of_ble_eq_true rfl) (Nat.le_of_ble_eq_true rfl) dX9_init_115 (fun H hW => ?_)
  refine lv_dup hx hb dX9_init_118 rfl ?_
  obtain ⟨S28, hg, hf⟩ := ob_inv hf
  refine i_callN hC hW (o := S25.1) (As := []) (rest := [.ref (G.2.2.1 S25.1), .int 0, .ref (G.2.2.1 d26)]) (host := "GridMarket") (c_X5_init l G hg) ⟨va_cnB 0 hts gX9_init_X5_init_n66 rfl rfl rfl (hW.2.2.2.1.1 (RX9, 66, yX5_init) (by decide +kernel)) (hts _ (by decide +kernel : Cond.initialized RX5 ∈ wsX9_init)) (by decide +kernel) ⟨(Nat.le_of_ble_eq_true rfl), (Nat.le_of_ble_eq_true rfl)⟩, rfl, hts _ (by decide +kernel : Cond.instanceMethod yX5_init ∈ wsX9_init)⟩ rfl hl.1 rfl (Nat.le_of_ble_eq_true rfl) dX9_init_119 ⟨(Nat.le_of_ble_eq_true rfl), (Nat.le_of_ble_eq_true rfl)⟩ (fun H locs hW => ?_)
  obtain ⟨S29, h9, hf⟩ := ob_inv hf
  refine i_rst hC hW (Or.inr rfl) h9 rfl rfl dX9_init_122 (fun H locs hW => ?_)
  refine lv_iinc (v := 1) (lv' := [(1, .int 1), (0, .ref (G.2.2.1 o0))]) hx hb dX9_init_123 hl (k := 0) rfl (by decide) (by decide) rfl (fun ls hl => ?_)
  refine lv_goto (tgt := 104) hx hb dX9_init_126 (by decide) ?_
  refine lv_iload_n hx hb dX9_init_104 rfl (lv_at hl 0 rfl) ?_
  refine lv_bipush (v := 10) hx hb dX9_init_105 (by decide) ?_
  refine lv_icmp_ge (tgt := 129) hx hb dX9_init_107 (by decide) (fun c9 => absurd c9 (by decide)) (fun c9 => ?_)
  refine lv_aload_n hx hb dX9_init_110 rfl (lv_at hl 1 rfl) ?_
  obtain ⟨d30, h9, hf⟩ := ob_inv hf
  refine i_getr hC hW h9 rfl hi9 (by decide) rfl (by decide +kernel) dX9_init_111 ?_
  refine lv_iload_n hx hb dX9_init_114 rfl (lv_at hl 0 rfl) ?_
  obtain ⟨S31, h9, hf⟩ := ob_inv hf
  refine i_newo hC hW (ci := 5) rfl hi5 tyX5_ok i_df5 (by decide +kernel) (by decide +kernel) (by decide +kernel) h9 (Nat.le_of_ble_eq_true rfl) (Nat.le_of_ble_eq_true rfl) dX9_init_115 (fun H hW => ?_)
  refine lv_dup hx hb dX9_init_118 rfl ?_
  obtain ⟨S32, hg, hf⟩ := ob_inv hf
  refine i_callN hC hW (o := S29.1) (As := []) (rest := [.ref (G.2.2.1 S29.1), .int 1, .ref (G.2.2.1 d30)]) (host := "GridMarket") (c_X5_init l G hg) ⟨va_cnB 0 hts gX9_init_X5_init_n66 rfl rfl rfl (hW.2.2.2.1.1 (RX9, 66, yX5_init) (by decide +kernel)) (hts _ (by decide +kernel : Cond.initialized RX5 ∈ wsX9_init)) (by decide +kernel) ⟨(Nat.le_of_ble_eq_true rfl), (Nat.le_of_ble_eq_true rfl)⟩, rfl, hts _ (by decide +kernel : Cond.instanceMethod yX5_init ∈ wsX9_init)⟩ rfl hl.1 rfl (Nat.le_of_ble_eq_true rfl) dX9_init_119 ⟨(Nat.le_of_ble_eq_true rfl), (Nat.le_of_ble_eq_true rfl)⟩ (fun H locs hW => ?_)
  obtain ⟨S33, h9, hf⟩ := ob_inv hf
  refine i_rst hC hW (Or.inr rfl) h9 rfl rfl dX9_init_122 (fun H locs hW => ?_)
  refine lv_iinc (v := 2) (lv' := [(1, .int 2), (0, .ref (G.2.2.1 o0))]) hx hb dX9_init_123 hl (k := 0) rfl (by decide) (by decide) rfl (fun ls hl => ?_)
  refine lv_goto (tgt := 104) hx hb dX9_init_126 (by decide) ?_
  refine lv_iload_n hx hb dX9_init_104 rfl (lv_at hl 0 rfl) ?_
  refine lv_bipush (v := 10) hx hb dX9_init_105 (by decide) ?_
  refine lv_icmp_ge (tgt := 129) hx hb dX9_init_107 (by decide) (fun c9 => absurd c9 (by decide)) (fun c9 => ?_)
  refine lv_aload_n hx hb dX9_init_110 rfl (lv_at hl 1 rfl) ?_
  obtain ⟨d34, h9, hf⟩ := ob_inv hf
  refine i_getr hC hW h9 rfl hi9 (by decide) rfl (by decide +kernel) dX9_init_111 ?_
  refine lv_iload_n hx hb dX9_init_114 rfl (lv_at hl 0 rfl) ?_
  obtain ⟨S35, h9, hf⟩ := ob_inv hf
  refine i_newo hC hW (ci := 5) rfl hi5 tyX5_ok i_df5 (by decide +kernel) (by decide +kernel) (by decide +kernel) h9 (Nat.le_of_ble_eq_true rfl) (Nat.le_of_ble_eq_true rfl) dX9_init_115 (fun H hW => ?_)
  refine lv_dup hx hb dX9_init_118 rfl ?_
  obtain ⟨S36, hg, hf⟩ := ob_inv hf
  refine i_callN hC hW (o := S33.1) (As := []) (rest := [.ref (G.2.2.1 S33.1), .int 2, .ref (G.2.2.1 d34)]) (host := "GridMarket") (c_X5_init l G hg) ⟨va_cnB 0 hts gX9_init_X5_init_n66 rfl rfl rfl (hW.2.2.2.1.1 (RX9, 66, yX5_init) (by decide +kernel)) (hts _ (by decide +kernel : Cond.initialized RX5 ∈ wsX9_init)) (by decide +kernel) ⟨(Nat.le_of_ble_eq_true rfl), (Nat.le_of_ble_eq_true rfl)⟩, rfl, hts _ (by decide +kernel : Cond.instanceMethod yX5_init ∈ wsX9_init)⟩ rfl hl.1 rfl (Nat.le_of_ble_eq_true rfl) dX9_init_119 ⟨(Nat.le_of_ble_eq_true rfl), (Nat.le_of_ble_eq_true rfl)⟩ (fun H locs hW => ?_)
  obtain ⟨S37, h9, hf⟩ := ob_inv hf
  refine i_rst hC hW (Or.inr rfl) h9 rfl rfl dX9_init_122 (fun H locs hW => ?_)
  refine lv_iinc (v := 3) (lv' := [(1, .int 3), (0, .ref (G.2.2.1 o0))]) hx hb dX9_init_123 hl (k := 0) rfl (by decide) (by decide) rfl (fun ls hl => ?_)
  refine lv_goto (tgt := 104) hx hb dX9_init_126 (by decide) ?_
  refine lv_iload_n hx hb dX9_init_104 rfl (lv_at hl 0 rfl) ?_
  refine lv_bipush (v := 10) hx hb dX9_init_105 (by decide) ?_
  refine lv_icmp_ge (tgt := 129) hx hb dX9_init_107 (by decide) (fun c9 => absurd c9 (by decide)) (fun c9 => ?_)
  refine lv_aload_n hx hb dX9_init_110 rfl (lv_at hl 1 rfl) ?_
  obtain ⟨d38, h9, hf⟩ := ob_inv hf
  refine i_getr hC hW h9 rfl hi9 (by decide) rfl (by decide +kernel) dX9_init_111 ?_
  refine lv_iload_n hx hb dX9_init_114 rfl (lv_at hl 0 rfl) ?_
  obtain ⟨S39, h9, hf⟩ := ob_inv hf
  refine i_newo hC hW (ci := 5) rfl hi5 tyX5_ok i_df5 (by decide +kernel) (by decide +kernel) (by decide +kernel) h9 (Nat.le_of_ble_eq_true rfl) (Nat.le_of_ble_eq_true rfl) dX9_init_115 (fun H hW => ?_)
  refine lv_dup hx hb dX9_init_118 rfl ?_
  obtain ⟨S40, hg, hf⟩ := ob_inv hf
  refine i_callN hC hW (o := S37.1) (As := []) (rest := [.ref (G.2.2.1 S37.1), .int 3, .ref (G.2.2.1 d38)]) (host := "GridMarket") (c_X5_init l G hg) ⟨va_cnB 0 hts gX9_init_X5_init_n66 rfl rfl rfl (hW.2.2.2.1.1 (RX9, 66, yX5_init) (by decide +kernel)) (hts _ (by decide +kernel : Cond.initialized RX5 ∈ wsX9_init)) (by decide +kernel) ⟨(Nat.le_of_ble_eq_true rfl), (Nat.le_of_ble_eq_true rfl)⟩, rfl, hts _ (by decide +kernel : Cond.instanceMethod yX5_init ∈ wsX9_init)⟩ rfl hl.1 rfl (Nat.le_of_ble_eq_true rfl) dX9_init_119 ⟨(Nat.le_of_ble_eq_true rfl), (Nat.le_of_ble_eq_true rfl)⟩ (fun H locs hW => ?_)
  obtain ⟨S41, h9, hf⟩ := ob_inv hf
  refine i_rst hC hW (Or.inr rfl) h9 rfl rfl dX9_init_122 (fun H locs hW => ?_)
  refine lv_iinc (v := 4) (lv' := [(1, .int 4), (0, .ref (G.2.2.1 o0))]) hx hb dX9_init_123 hl (k := 0) rfl (by decide) (by decide) rfl (fun ls hl => ?_)
  refine lv_goto (tgt := 104) hx hb dX9_init_126 (by decide) ?_
  refine lv_iload_n hx hb dX9_init_104 rfl (lv_at hl 0 rfl) ?_
  refine lv_bipush (v := 10) hx hb dX9_init_105 (by decide) ?_
  refine lv_icmp_ge (tgt := 129) hx hb dX9_init_107 (by decide) (fun c9 => absurd c9 (by decide)) (fun c9 => ?_)
  refine lv_aload_n hx hb dX9_init_110 rfl (lv_at hl 1 rfl) ?_
  obtain ⟨d42, h9, hf⟩ := ob_inv hf
  refine i_getr hC hW h9 rfl hi9 (by decide) rfl (by decide +kernel) dX9_init_111 ?_
  refine lv_iload_n hx hb dX9_init_114 rfl (lv_at hl 0 rfl) ?_
  obtain ⟨S43, h9, hf⟩ := ob_inv hf
  refine i_newo hC hW (ci := 5) rfl hi5 tyX5_ok i_df5 (by decide +kernel) (by decide +kernel) (by decide +kernel) h9 (Nat.le_of_ble_eq_true rfl) (Nat.le_of_ble_eq_true rfl) dX9_init_115 (fun H hW => ?_)
  refine lv_dup hx hb dX9_init_118 rfl ?_
  obtain ⟨S44, hg, hf⟩ := ob_inv hf
  refine i_callN hC hW (o := S41.1) (As := []) (rest := [.ref (G.2.2.1 S41.1), .int 4, .ref (G.2.2.1 d42)]) (host := "GridMarket") (c_X5_init l G hg) ⟨va_cnB 0 hts gX9_init_X5_init_n66 rfl rfl rfl (hW.2.2.2.1.1 (RX9, 66, yX5_init) (by decide +kernel)) (hts _ (by decide +kernel : Cond.initialized RX5 ∈ wsX9_init)) (by decide +kernel) ⟨(Nat.le_of_ble_eq_true rfl), (Nat.le_of_ble_eq_true rfl)⟩, rfl, hts _ (by decide +kernel : Cond.instanceMethod yX5_init ∈ wsX9_init)⟩ rfl hl.1 rfl (Nat.le_of_ble_eq_true rfl) dX9_init_119 ⟨(Nat.le_of_ble_eq_true rfl), (Nat.le_of_ble_eq_true rfl)⟩ (fun H locs hW => ?_)
  obtain ⟨S45, h9, hf⟩ := ob_inv hf
  refine i_rst hC hW (Or.inr rfl) h9 rfl rfl dX9_init_122 (fun H locs hW => ?_)
  refine lv_iinc (v := 5) (lv' := [(1, .int 5), (0, .ref (G.2.2.1 o0))]) hx hb dX9_init_123 hl (k := 0) rfl (by decide) (by decide) rfl (fun ls hl => ?_)
  refine lv_goto (tgt := 104) hx hb dX9_init_126 (by decide) ?_
  refine lv_iload_n hx hb dX9_init_104 rfl (lv_at hl 0 rfl) ?_
  refine lv_bipush (v := 10) hx hb dX9_init_105 (by decide) ?_
  refine lv_icmp_ge (tgt := 129) hx hb dX9_init_107 (by decide) (fun c9 => absurd c9 (by decide)) (fun c9 => ?_)
  refine lv_aload_n hx hb dX9_init_110 rfl (lv_at hl 1 rfl) ?_
  obtain ⟨d46, h9, hf⟩ := ob_inv hf
  refine i_getr hC hW h9 rfl hi9 (by decide) rfl (by decide +kernel) dX9_init_111 ?_
  refine lv_iload_n hx hb dX9_init_114 rfl (lv_at hl 0 rfl) ?_
  obtain ⟨S47, h9, hf⟩ := ob_inv hf
  refine i_newo hC hW (ci := 5) rfl hi5 tyX5_ok i_df5 (by decide +kernel) (by decide +kernel) (by decide +kernel) h9 (Nat.le_of_ble_eq_true rfl) (Nat.le_of_ble_eq_true rfl) dX9_init_115 (fun H hW => ?_)
  refine lv_dup hx hb dX9_init_118 rfl ?_
  obtain ⟨S48, hg, hf⟩ := ob_inv hf
  refine i_callN hC hW (o := S45.1) (As := []) (rest := [.ref (G.2.2.1 S45.1), .int 5, .ref (G.2.2.1 d46)]) (host := "GridMarket") (c_X5_init l G hg) ⟨va_cnB 0 hts gX9_init_X5_init_n66 rfl rfl rfl (hW.2.2.2.1.1 (RX9, 66, yX5_init) (by decide +kernel)) (hts _ (by decide +kernel : Cond.initialized RX5 ∈ wsX9_init)) (by decide +kernel) ⟨(Nat.le_of_ble_eq_true rfl), (Nat.le_of_ble_eq_true rfl)⟩, rfl, hts _ (by decide +kernel : Cond.instanceMethod yX5_init ∈ wsX9_init)⟩ rfl hl.1 rfl (Nat.le_of_ble_eq_true rfl) dX9_init_119 ⟨(Nat.le_of_ble_eq_true rfl), (Nat.le_of_ble_eq_true rfl)⟩ (fun H locs hW => ?_)
  obtain ⟨S49, h9, hf⟩ := ob_inv hf
  refine i_rst hC hW (Or.inr rfl) h9 rfl rfl dX9_init_122 (fun H locs hW => ?_)
  refine lv_iinc (v := 6) (lv' := [(1, .int 6), (0, .ref (G.2.2.1 o0))]) hx hb dX9_init_123 hl (k := 0) rfl (by decide) (by decide) rfl (fun ls hl => ?_)
  refine lv_goto (tgt := 104) hx hb dX9_init_126 (by decide) ?_
  refine lv_iload_n hx hb dX9_init_104 rfl (lv_at hl 0 rfl) ?_
  refine lv_bipush (v := 10) hx hb dX9_init_105 (by decide) ?_
  refine lv_icmp_ge (tgt := 129) hx hb dX9_init_107 (by decide) (fun c9 => absurd c9 (by decide)) (fun c9 => ?_)
  refine lv_aload_n hx hb dX9_init_110 rfl (lv_at hl 1 rfl) ?_
  obtain ⟨d50, h9, hf⟩ := ob_inv hf
  refine i_getr hC hW h9 rfl hi9 (by decide) rfl (by decide +kernel) dX9_init_111 ?_
  refine lv_iload_n hx hb dX9_init_114 rfl (lv_at hl 0 rfl) ?_
  obtain ⟨S51, h9, hf⟩ := ob_inv hf
  refine i_newo hC hW (ci := 5) rfl hi5 tyX5_ok i_df5 (by decide +kernel) (by decide +kernel) (by decide +kernel) h9 (Nat.le_of_ble_eq_true rfl) (Nat.le_of_ble_eq_true rfl) dX9_init_115 (fun H hW => ?_)
  refine lv_dup hx hb dX9_init_118 rfl ?_
  obtain ⟨S52, hg, hf⟩ := ob_inv hf
  refine i_callN hC hW (o := S49.1) (As := []) (rest := [.ref (G.2.2.1 S49.1), .int 6, .ref (G.2.2.1 d50)]) (host := "GridMarket") (c_X5_init l G hg) ⟨va_cnB 0 hts gX9_init_X5_init_n66 rfl rfl rfl (hW.2.2.2.1.1 (RX9, 66, yX5_init) (by decide +kernel)) (hts _ (by decide +kernel : Cond.initialized RX5 ∈ wsX9_init)) (by decide +kernel) ⟨(Nat.le_of_ble_eq_true rfl), (Nat.le_of_ble_eq_true rfl)⟩, rfl, hts _ (by decide +kernel : Cond.instanceMethod yX5_init ∈ wsX9_init)⟩ rfl hl.1 rfl (Nat.le_of_ble_eq_true rfl) dX9_init_119 ⟨(Nat.le_of_ble_eq_true rfl), (Nat.le_of_ble_eq_true rfl)⟩ (fun H locs hW => ?_)
  obtain ⟨S53, h9, hf⟩ := ob_inv hf
  refine i_rst hC hW (Or.inr rfl) h9 rfl rfl dX9_init_122 (fun H locs hW => ?_)
  refine lv_iinc (v := 7) (lv' := [(1, .int 7), (0, .ref (G.2.2.1 o0))]) hx hb dX9_init_123 hl (k := 0) rfl (by decide) (by decide) rfl (fun ls hl => ?_)
  refine lv_goto (tgt := 104) hx hb dX9_init_126 (by decide) ?_
  refine lv_iload_n hx hb dX9_init_104 rfl (lv_at hl 0 rfl) ?_
  refine lv_bipush (v := 10) hx hb dX9_init_105 (by decide) ?_
  refine lv_icmp_ge (tgt := 129) hx hb dX9_init_107 (by decide) (fun c9 => absurd c9 (by decide)) (fun c9 => ?_)
  refine lv_aload_n hx hb dX9_init_110 rfl (lv_at hl 1 rfl) ?_
  obtain ⟨d54, h9, hf⟩ := ob_inv hf
  refine i_getr hC hW h9 rfl hi9 (by decide) rfl (by decide +kernel) dX9_init_111 ?_
  refine lv_iload_n hx hb dX9_init_114 rfl (lv_at hl 0 rfl) ?_
  obtain ⟨S55, h9, hf⟩ := ob_inv hf
  refine i_newo hC hW (ci := 5) rfl hi5 tyX5_ok i_df5 (by decide +kernel) (by decide +kernel) (by decide +kernel) h9 (Nat.le_of_ble_eq_true rfl) (Nat.le_of_ble_eq_true rfl) dX9_init_115 (fun H hW => ?_)
  refine lv_dup hx hb dX9_init_118 rfl ?_
  obtain ⟨S56, hg, hf⟩ := ob_inv hf
  refine i_callN hC hW (o := S53.1) (As := []) (rest := [.ref (G.2.2.1 S53.1), .int 7, .ref (G.2.2.1 d54)]) (host := "GridMarket") (c_X5_init l G hg) ⟨va_cnB 0 hts gX9_init_X5_init_n66 rfl rfl rfl (hW.2.2.2.1.1 (RX9, 66, yX5_init) (by decide +kernel)) (hts _ (by decide +kernel : Cond.initialized RX5 ∈ wsX9_init)) (by decide +kernel) ⟨(Nat.le_of_ble_eq_true rfl), (Nat.le_of_ble_eq_true rfl)⟩, rfl, hts _ (by decide +kernel : Cond.instanceMethod yX5_init ∈ wsX9_init)⟩ rfl hl.1 rfl (Nat.le_of_ble_eq_true rfl) dX9_init_119 ⟨(Nat.le_of_ble_eq_true rfl), (Nat.le_of_ble_eq_true rfl)⟩ (fun H locs hW => ?_)
  obtain ⟨S57, h9, hf⟩ := ob_inv hf
  refine i_rst hC hW (Or.inr rfl) h9 rfl rfl dX9_init_122 (fun H locs hW => ?_)
  refine lv_iinc (v := 8) (lv' := [(1, .int 8), (0, .ref (G.2.2.1 o0))]) hx hb dX9_init_123 hl (k := 0) rfl (by decide) (by decide) rfl (fun ls hl => ?_)
  refine lv_goto (tgt := 104) hx hb dX9_init_126 (by decide) ?_
  refine lv_iload_n hx hb dX9_init_104 rfl (lv_at hl 0 rfl) ?_
  refine lv_bipush (v := 10) hx hb dX9_init_105 (by decide) ?_
  refine lv_icmp_ge (tgt := 129) hx hb dX9_init_107 (by decide) (fun c9 => absurd c9 (by decide)) (fun c9 => ?_)
  refine lv_aload_n hx hb dX9_init_110 rfl (lv_at hl 1 rfl) ?_
  obtain ⟨d58, h9, hf⟩ := ob_inv hf
  refine i_getr hC hW h9 rfl hi9 (by decide) rfl (by decide +kernel) dX9_init_111 ?_
  refine lv_iload_n hx hb dX9_init_114 rfl (lv_at hl 0 rfl) ?_
  obtain ⟨S59, h9, hf⟩ := ob_inv hf
  refine i_newo hC hW (ci := 5) rfl hi5 tyX5_ok i_df5 (by decide +kernel) (by decide +kernel) (by decide +kernel) h9 (Nat.le_of_ble_eq_true rfl) (Nat.le_of_ble_eq_true rfl) dX9_init_115 (fun H hW => ?_)
  refine lv_dup hx hb dX9_init_118 rfl ?_
  obtain ⟨S60, hg, hf⟩ := ob_inv hf
  refine i_callN hC hW (o := S57.1) (As := []) (rest := [.ref (G.2.2.1 S57.1), .int 8, .ref (G.2.2.1 d58)]) (host := "GridMarket") (c_X5_init l G hg) ⟨va_cnB 0 hts gX9_init_X5_init_n66 rfl rfl rfl (hW.2.2.2.1.1 (RX9, 66, yX5_init) (by decide +kernel)) (hts _ (by decide +kernel : Cond.initialized RX5 ∈ wsX9_init)) (by decide +kernel) ⟨(Nat.le_of_ble_eq_true rfl), (Nat.le_of_ble_eq_true rfl)⟩, rfl, hts _ (by decide +kernel : Cond.instanceMethod yX5_init ∈ wsX9_init)⟩ rfl hl.1 rfl (Nat.le_of_ble_eq_true rfl) dX9_init_119 ⟨(Nat.le_of_ble_eq_true rfl), (Nat.le_of_ble_eq_true rfl)⟩ (fun H locs hW => ?_)
  obtain ⟨S61, h9, hf⟩ := ob_inv hf
  refine i_rst hC hW (Or.inr rfl) h9 rfl rfl dX9_init_122 (fun H locs hW => ?_)
  refine lv_iinc (v := 9) (lv' := [(1, .int 9), (0, .ref (G.2.2.1 o0))]) hx hb dX9_init_123 hl (k := 0) rfl (by decide) (by decide) rfl (fun ls hl => ?_)
  refine lv_goto (tgt := 104) hx hb dX9_init_126 (by decide) ?_
  refine lv_iload_n hx hb dX9_init_104 rfl (lv_at hl 0 rfl) ?_
  refine lv_bipush (v := 10) hx hb dX9_init_105 (by decide) ?_
  refine lv_icmp_ge (tgt := 129) hx hb dX9_init_107 (by decide) (fun c9 => absurd c9 (by decide)) (fun c9 => ?_)
  refine lv_aload_n hx hb dX9_init_110 rfl (lv_at hl 1 rfl) ?_
  obtain ⟨d62, h9, hf⟩ := ob_inv hf
  refine i_getr hC hW h9 rfl hi9 (by decide) rfl (by decide +kernel) dX9_init_111 ?_
  refine lv_iload_n hx hb dX9_init_114 rfl (lv_at hl 0 rfl) ?_
  obtain ⟨S63, h9, hf⟩ := ob_inv hf
  refine i_newo hC hW (ci := 5) rfl hi5 tyX5_ok i_df5 (by decide +kernel) (by decide +kernel) (by decide +kernel) h9 (Nat.le_of_ble_eq_true rfl) (Nat.le_of_ble_eq_true rfl) dX9_init_115 (fun H hW => ?_)
  refine lv_dup hx hb dX9_init_118 rfl ?_
  obtain ⟨S64, hg, hf⟩ := ob_inv hf
  refine i_callN hC hW (o := S61.1) (As := []) (rest := [.ref (G.2.2.1 S61.1), .int 9, .ref (G.2.2.1 d62)]) (host := "GridMarket") (c_X5_init l G hg) ⟨va_cnB 0 hts gX9_init_X5_init_n66 rfl rfl rfl (hW.2.2.2.1.1 (RX9, 66, yX5_init) (by decide +kernel)) (hts _ (by decide +kernel : Cond.initialized RX5 ∈ wsX9_init)) (by decide +kernel) ⟨(Nat.le_of_ble_eq_true rfl), (Nat.le_of_ble_eq_true rfl)⟩, rfl, hts _ (by decide +kernel : Cond.instanceMethod yX5_init ∈ wsX9_init)⟩ rfl hl.1 rfl (Nat.le_of_ble_eq_true rfl) dX9_init_119 ⟨(Nat.le_of_ble_eq_true rfl), (Nat.le_of_ble_eq_true rfl)⟩ (fun H locs hW => ?_)
  obtain ⟨S65, h9, hf⟩ := ob_inv hf
  refine i_rst hC hW (Or.inr rfl) h9 rfl rfl dX9_init_122 (fun H locs hW => ?_)
  refine lv_iinc (v := 10) (lv' := [(1, .int 10), (0, .ref (G.2.2.1 o0))]) hx hb dX9_init_123 hl (k := 0) rfl (by decide) (by decide) rfl (fun ls hl => ?_)
  refine lv_goto (tgt := 104) hx hb dX9_init_126 (by decide) ?_
  refine lv_iload_n hx hb dX9_init_104 rfl (lv_at hl 0 rfl) ?_
  refine lv_bipush (v := 10) hx hb dX9_init_105 (by decide) ?_
  refine lv_icmp_ge (tgt := 129) hx hb dX9_init_107 (by decide) (fun c9 => ?_) (fun c9 => absurd (by decide) c9)
  cases hf
  subst hQ
  exact i_vret hC hW hr hlocks rfl (Nat.le_of_ble_eq_true rfl) (Nat.le_of_ble_eq_true rfl) dX9_init_129
