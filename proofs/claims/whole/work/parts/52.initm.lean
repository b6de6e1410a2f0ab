def f_X10_init (o0 : Nat) (S0 : gS) : Option gS :=
  ob (i_arr ZM 20 3 S0) fun S1 =>
  ob (i_pr ZM 10 o0 2 S0.1 S1) fun S2 =>
  ob (i_arr ZM 20 6 S2) fun S3 =>
  ob (i_pr ZM 10 o0 3 S2.1 S3) fun S4 =>
  ob (i_arr ZM 20 6 S4) fun S5 =>
  ob (i_pr ZM 10 o0 4 S4.1 S5) fun S6 =>
  ob (i_arr ZM 20 6 S6) fun S7 =>
  ob (i_pr ZM 10 o0 5 S6.1 S7) fun S8 =>
  ob (i_arr ZM 20 40 S8) fun S9 =>
  ob (i_pr ZM 10 o0 8 S8.1 S9) fun S10 =>
  ob (i_arr ZM 20 40 S10) fun S11 =>
  ob (i_pr ZM 10 o0 9 S10.1 S11) fun S12 =>
  ob (i_arr ZM 20 40 S12) fun S13 =>
  ob (i_pr ZM 10 o0 10 S12.1 S13) fun S14 =>
  ob (i_arr ZM 20 40 S14) fun S15 =>
  ob (i_pr ZM 10 o0 11 S14.1 S15) fun S16 =>
  ob (i_arr ZM 20 40 S16) fun S17 =>
  ob (i_pr ZM 10 o0 12 S16.1 S17) fun S18 =>
  ob (i_arr ZM 20 40 S18) fun S19 =>
  ob (i_pr ZM 10 o0 13 S18.1 S19) fun S20 =>
  ob (i_arr ZM 20 40 S20) fun S21 =>
  ob (i_pr ZM 10 o0 14 S20.1 S21) fun S22 =>
  ob (i_arr ZM 20 40 S22) fun S23 =>
  ob (i_pr ZM 10 o0 15 S22.1 S23) fun S24 =>
  ob (i_arr ZM 20 5 S24) fun S25 =>
  ob (i_pr ZM 10 o0 17 S24.1 S25) fun S26 =>
  ob (i_arr ZM 20 5 S26) fun S27 =>
  ob (i_pr ZM 10 o0 18 S26.1 S27) fun S28 =>
  ob (i_arr ZM 20 5 S28) fun S29 =>
  ob (i_pr ZM 10 o0 19 S28.1 S29) fun S30 =>
  ob (i_arr ZM 20 5 S30) fun S31 =>
  ob (i_pr ZM 10 o0 20 S30.1 S31) fun S32 =>
  ob (i_arr ZM 20 5 S32) fun S33 =>
  ob (i_pr ZM 10 o0 21 S32.1 S33) fun S34 =>
  ob (i_arr ZM 20 5 S34) fun S35 =>
  ob (i_pr ZM 10 o0 22 S34.1 S35) fun S36 =>
  ob (i_arr ZM 20 5 S36) fun S37 =>
  ob (i_pr ZM 10 o0 23 S36.1 S37) fun S38 =>
  ob (i_arr ZM 20 5 S38) fun S39 =>
  ob (i_pr ZM 10 o0 24 S38.1 S39) fun S40 =>
  ob (i_arr ZM 20 20 S40) fun S41 =>
  ob (i_pr ZM 10 o0 27 S40.1 S41) fun S42 =>
  ob (i_arr ZM 20 20 S42) fun S43 =>
  ob (i_pr ZM 10 o0 28 S42.1 S43) fun S44 =>
  ob (i_arr ZM 20 20 S44) fun S45 =>
  ob (i_pr ZM 10 o0 29 S44.1 S45) fun S46 =>
  ob (i_arr ZM 20 20 S46) fun S47 =>
  ob (i_pr ZM 10 o0 30 S46.1 S47) fun S48 =>
  ob (i_arr ZM 20 20 S48) fun S49 =>
  ob (i_pr ZM 10 o0 31 S48.1 S49) fun S50 =>
  ob (i_arr ZM 20 20 S50) fun S51 =>
  ob (i_pr ZM 10 o0 32 S50.1 S51) fun S52 =>
  ob (i_arr ZM 20 60 S52) fun S53 =>
  ob (i_pr ZM 10 o0 34 S52.1 S53) fun S54 =>
  ob (i_arr ZM 20 60 S54) fun S55 =>
  ob (i_pr ZM 10 o0 35 S54.1 S55) fun S56 =>
  ob (i_arr ZM 20 60 S56) fun S57 =>
  ob (i_pr ZM 10 o0 36 S56.1 S57) fun S58 =>
  ob (i_arr ZM 20 60 S58) fun S59 =>
  ob (i_pr ZM 10 o0 37 S58.1 S59) fun S60 =>
  ob (i_arr ZM 20 60 S60) fun S61 =>
  ob (i_pr ZM 10 o0 38 S60.1 S61) fun S62 =>
  ob (i_arr ZM 20 60 S62) fun S63 =>
  ob (i_pr ZM 10 o0 39 S62.1 S63) fun S64 =>
  ob (i_arr ZM 20 60 S64) fun S65 =>
  ob (i_pr ZM 10 o0 40 S64.1 S65) fun S66 =>
  ob (i_arr ZM 20 10 S66) fun S67 =>
  ob (i_pr ZM 10 o0 41 S66.1 S67) fun S68 =>
  ob (i_arr ZM 20 300 S68) fun S69 =>
  ob (i_pr ZM 10 o0 42 S68.1 S69) fun S70 =>
  ob (i_arr ZM 20 300 S70) fun S71 =>
  ob (i_pr ZM 10 o0 43 S70.1 S71) fun S72 =>
  ob (i_arr ZM 20 300 S72) fun S73 =>
  ob (i_pr ZM 10 o0 44 S72.1 S73) fun S74 =>
  ob (i_arr ZM 20 300 S74) fun S75 =>
  ob (i_pr ZM 10 o0 45 S74.1 S75) fun S76 =>
  ob (i_arr ZM 20 300 S76) fun S77 =>
  ob (i_pr ZM 10 o0 46 S76.1 S77) fun S78 =>
  ob (i_arr ZM 20 300 S78) fun S79 =>
  ob (i_pr ZM 10 o0 47 S78.1 S79) fun S80 =>
  ob (i_arr ZM 20 120 S80) fun S81 =>
  ob (i_pr ZM 10 o0 48 S80.1 S81) fun S82 =>
  ob (i_arr ZM 20 720 S82) fun S83 =>
  ob (i_pr ZM 10 o0 49 S82.1 S83) fun S84 =>
  ob (i_arr ZM 20 720 S84) fun S85 =>
  ob (i_pr ZM 10 o0 50 S84.1 S85) fun S86 =>
  ob (i_arr ZM 20 720 S86) fun S87 =>
  ob (i_pr ZM 10 o0 51 S86.1 S87) fun S88 =>
  ob (i_arr ZM 20 60 S88) fun S89 =>
  ob (i_pr ZM 10 o0 52 S88.1 S89) fun S90 =>
  ob (i_arr ZM 20 60 S90) fun S91 =>
  ob (i_pr ZM 10 o0 53 S90.1 S91) fun S92 =>
  ob (i_arr ZM 20 10 S92) fun S93 =>
  ob (i_pr ZM 10 o0 54 S92.1 S93) fun S94 =>
  ob (i_arr ZM 20 12 S94) fun S95 =>
  ob (i_pr ZM 10 o0 55 S94.1 S95) fun S96 =>
  ob (i_arr ZM 20 401 S96) fun S97 =>
  ob (i_pr ZM 10 o0 56 S96.1 S97) fun S98 =>
  ob (i_arr ZM 20 401 S98) fun S99 =>
  ob (i_pr ZM 10 o0 57 S98.1 S99) fun S100 =>
  ob (i_arr ZM 20 1932 S100) fun S101 =>
  ob (i_pr ZM 10 o0 60 S100.1 S101) fun S102 =>
  ob (i_arr ZM 20 1932 S102) fun S103 =>
  ob (i_pr ZM 10 o0 61 S102.1 S103) fun S104 =>
  ob (i_arr ZM 20 12 S104) fun S105 =>
  ob (i_pr ZM 10 o0 62 S104.1 S105) fun S106 =>
  ob (i_arr ZM 20 12 S106) fun S107 =>
  ob (i_pr ZM 10 o0 63 S106.1 S107) fun S108 =>
  ob (i_arr ZM 20 12 S108) fun S109 =>
  ob (i_pr ZM 10 o0 64 S108.1 S109) fun S110 =>
  ob (i_gr ZM 10 o0 2 S110) fun d111 =>
  ob (i_ai ZM d111 0 5 S110) fun S112 =>
  ob (i_gr ZM 10 o0 2 S112) fun d113 =>
  ob (i_ai ZM d113 1 5 S112) fun S114 =>
  ob (i_gr ZM 10 o0 2 S114) fun d115 =>
  ob (i_ai ZM d115 2 5 S114) fun S116 =>
  some S116
abbrev rmX10_init : Room := { frames := 1, cells := 55, slots := 9855, locals := 12 }
set_option maxHeartbeats 8000000 in
set_option maxRecDepth 100000 in
theorem c_X10_init (l : Launch) (G : gG) {o0 : Nat} {S0 S9 : gS} (hf : f_X10_init o0 S0 = some S9) : Met l yX10_init wsX10_init (rmX10_init) (va_Pc [.ref (G.2.2.1 o0)] (i_W ZM i_nl G S0)) (i_Q ZM i_nl G S9) 55 9855 (i_A G) := by
  refine Met.ofW (cc := cX10_init) (maxL := 2) (ret := none) (by decide) rfl ?_
  intro p e s m args below meth c s₁ B hml hv
  obtain ⟨rfl, hW0⟩ := hv
  have hC : CallFix p m c cX10_init 2 s ([.ref (G.2.2.1 o0)] : List Value).toArray wsX10_init RX10 := ⟨B.exec, B.bytes, hml, findClass_of_methodNamed B.named, atoms_spec (ws := wsX10_init) B.pre⟩
  have hx := hC.1
  have hb := hC.2.1
  have hown := hC.2.2.2.1
  have hts := hC.2.2.2.2
  have hr := B.returns
  have hlocks := B.notSynchronized
  have hin2 : meth.name = "<init>" := (name_of_methodNamed B.named B.method).1
  have hW := i_enter hW0
  have hi10 : ∀ w ∈ wsX100, w ∈ wsX10_init := by decide +kernel
  have hl := lv_entry ([.ref (G.2.2.1 o0)]) (n := 2) (Nat.le_of_ble_eq_true rfl)
  rw [lg_entry_eq]
  generalize (lg_sl ([.ref (G.2.2.1 o0)]) ++ List.replicate (2 - (lg_sl ([.ref (G.2.2.1 o0)])).length) Slot.unset).toArray = ls at hl ⊢
  have hl : lv_has ls 2 [(0, .ref (G.2.2.1 o0))] := hl
  obtain ⟨Q, hQ⟩ : ∃ Q, Q = MQ below (i_Q ZM i_nl G S9) ([.ref (G.2.2.1 o0)] : List Value).toArray s 55 9855 (i_A G) := ⟨_, rfl⟩
  refine g_goQ hQ ?_
  unfold f_X10_init at hf
  refine i_start hW (fun H locs hW => ?_)
  refine lv_aload_n hx hb dX10_init_0 rfl (lv_at hl 0 rfl) ?_
  refine W.objInit hx hb hown (hts _ (by decide +kernel : Cond.methodLink RX10 1 objectInit ∈ wsX10_init)) (hts _ (by decide +kernel : Cond.instanceMethod objectInit ∈ wsX10_init)) (hts _ (by decide +kernel : Cond.code objectInit ⟨#[0xb1]⟩ 1 none ∈ wsX10_init)) rfl (hl.1.trans hC.2.2.1.symm) rfl dX10_init_1 (Nat.le_of_ble_eq_true rfl) (Nat.le_of_ble_eq_true rfl) ?_
  refine W.eq (g2 := F0 m 4 ls []) rfl ?_
  refine lv_aload_n hx hb dX10_init_4 rfl (lv_at hl 0 rfl) ?_
  refine lv_iconst (v := 3) hx hb dX10_init_5 (by decide) ?_
  obtain ⟨S1, h9, hf⟩ := ob_inv hf
  refine i_newar hC hW (ai := 0) (ty := .int) (Or.inl rfl) rfl rfl rfl (fun _ => rfl) (by decide +kernel) (N := 3) (by decide) (by decide) (Nat.le_of_ble_eq_true rfl) h9 (Nat.le_of_ble_eq_true rfl) (Nat.le_of_ble_eq_true rfl) dX10_init_6 (fun H hW => ?_)
  obtain ⟨S2, h9, hf⟩ := ob_inv hf
  refine i_putr hC hW h9 rfl hi10 tyX10_ok nmX10 (by decide) rfl rfl hin2 rfl (fun _ => rfl) (fun _ => rfl) (by decide +kernel) dX10_init_8 (fun H locs hW => ?_)
  refine lv_aload_n hx hb dX10_init_11 rfl (lv_at hl 0 rfl) ?_
  refine lv_bipush (v := 6) hx hb dX10_init_12 (by decide) ?_
  obtain ⟨S3, h9, hf⟩ := ob_inv hf
  refine i_newar hC hW (ai := 0) (ty := .int) (Or.inl rfl) rfl rfl rfl (fun _ => rfl) (by decide +kernel) (N := 6) (by decide) (by decide) (Nat.le_of_ble_eq_true rfl) h9 (Nat.le_of_ble_eq_true rfl) (Nat.le_of_ble_eq_true rfl) dX10_init_14 (fun H hW => ?_)
  obtain ⟨S4, h9, hf⟩ := ob_inv hf
  refine i_putr hC hW h9 rfl hi10 tyX10_ok nmX10 (by decide) rfl rfl hin2 rfl (fun _ => rfl) (fun _ => rfl) (by decide +kernel) dX10_init_16 (fun H locs hW => ?_)
  refine lv_aload_n hx hb dX10_init_19 rfl (lv_at hl 0 rfl) ?_
  refine lv_bipush (v := 6) hx hb dX10_init_20 (by decide) ?_
  obtain ⟨S5, h9, hf⟩ := ob_inv hf
  refine i_newar hC hW (ai := 0) (ty := .int) (Or.inl rfl) rfl rfl rfl (fun _ => rfl) (by decide +kernel) (N := 6) (by decide) (by decide) (Nat.le_of_ble_eq_true rfl) h9 (Nat.le_of_ble_eq_true rfl) (Nat.le_of_ble_eq_true rfl) dX10_init_22 (fun H hW => ?_)
  obtain ⟨S6, h9, hf⟩ := ob_inv hf
  refine i_putr hC hW h9 rfl hi10 tyX10_ok nmX10 (by decide) rfl rfl hin2 rfl (fun _ => rfl) (fun _ => rfl) (by decide +kernel) dX10_init_24 (fun H locs hW => ?_)
  refine lv_aload_n hx hb dX10_init_27 rfl (lv_at hl 0 rfl) ?_
  refine lv_bipush (v := 6) hx hb dX10_init_28 (by decide) ?_
  obtain ⟨S7, h9, hf⟩ := ob_inv hf
  refine i_newar hC hW (ai := 0) (ty := .int) (Or.inl rfl) rfl rfl rfl (fun _ => rfl) (by decide +kernel) (N := 6) (by decide) (by decide) (Nat.le_of_ble_eq_true rfl) h9 (Nat.le_of_ble_eq_true rfl) (Nat.le_of_ble_eq_true rfl) dX10_init_30 (fun H hW => ?_)
  obtain ⟨S8, h9, hf⟩ := ob_inv hf
  refine i_putr hC hW h9 rfl hi10 tyX10_ok nmX10 (by decide) rfl rfl hin2 rfl (fun _ => rfl) (fun _ => rfl) (by decide +kernel) dX10_init_32 (fun H locs hW => ?_)
  refine lv_aload_n hx hb dX10_init_35 rfl (lv_at hl 0 rfl) ?_
  refine lv_bipush (v := 40) hx hb dX10_init_36 (by decide) ?_
  obtain ⟨S9, h9, hf⟩ := ob_inv hf
  refine i_newar hC hW (ai := 0) (ty := .int) (Or.inl rfl) rfl rfl rfl (fun _ => rfl) (by decide +kernel) (N := 40) (by decide) (by decide) (Nat.le_of_ble_eq_true rfl) h9 (Nat.le_of_ble_eq_true rfl) (Nat.le_of_ble_eq_true rfl) dX10_init_38 (fun H hW => ?_)
  obtain ⟨S10, h9, hf⟩ := ob_inv hf
  refine i_putr hC hW h9 rfl hi10 tyX10_ok nmX10 (by decide) rfl rfl hin2 rfl (fun _ => rfl) (fun _ => rfl) (by decide +kernel) dX10_init_40 (fun H locs hW => ?_)
  refine lv_aload_n hx hb dX10_init_43 rfl (lv_at hl 0 rfl) ?_
  refine lv_bipush (v := 40) hx hb dX10_init_44 (by decide) ?_
  obtain ⟨S11, h9, hf⟩ := ob_inv hf
  refine i_newar hC hW (ai := 0) (ty := .int) (Or.inl rfl) rfl rfl rfl (fun _ => rfl) (by decide +kernel) (N := 40) (by decide) (by decide) (Nat.le_of_ble_eq_true rfl) h9 (Nat.le_of_ble_eq_true rfl) (Nat.le_of_ble_eq_true rfl) dX10_init_46 (fun H hW => ?_)
  obtain ⟨S12, h9, hf⟩ := ob_inv hf
  refine i_putr hC hW h9 rfl hi10 tyX10_ok nmX10 (by decide) rfl rfl hin2 rfl (fun _ => rfl) (fun _ => rfl) (by decide +kernel) dX10_init_48 (fun H locs hW => ?_)
  refine lv_aload_n hx hb dX10_init_51 rfl (lv_at hl 0 rfl) ?_
  refine lv_bipush (v := 40) hx hb dX10_init_52 (by decide) ?_
  obtain ⟨S13, h9, hf⟩ := ob_inv hf
  refine i_newar hC hW (ai := 0) (ty := .int) (Or.inl rfl) rfl rfl rfl (fun _ => rfl) (by decide +kernel) (N := 40) (by decide) (by decide) (Nat.le_of_ble_eq_true rfl) h9 (Nat.le_of_ble_eq_true rfl) (Nat.le_of_ble_eq_true rfl) dX10_init_54 (fun H hW => ?_)
  obtain ⟨S14, h9, hf⟩ := ob_inv hf
  refine i_putr hC hW h9 rfl hi10 tyX10_ok nmX10 (by decide) rfl rfl hin2 rfl (fun _ => rfl) (fun _ => rfl) (by decide +kernel) dX10_init_56 (fun H locs hW => ?_)
  refine lv_aload_n hx hb dX10_init_59 rfl (lv_at hl 0 rfl) ?_
  refine lv_bipush (v := 40) hx hb dX10_init_60 (by decide) ?_
  obtain ⟨S15, h9, hf⟩ := ob_inv hf
  refine i_newar hC hW (ai := 0) (ty := .int) (Or.inl rfl) rfl rfl rfl (fun _ => rfl) (by decide +kernel) (N := 40) (by decide) (by decide) (Nat.le_of_ble_eq_true rfl) h9 (Nat.le_of_ble_eq_true rfl) (Nat.le_of_ble_eq_true rfl) dX10_init_62 (fun H hW => ?_)
  obtain ⟨S16, h9, hf⟩ := ob_inv hf
  refine i_putr hC hW h9 rfl hi10 tyX10_ok nmX10 (by decide) rfl rfl hin2 rfl (fun _ => rfl) (fun _ => rfl) (by decide +kernel) dX10_init_64 (fun H locs hW => ?_)
  refine lv_aload_n hx hb dX10_init_67 rfl (lv_at hl 0 rfl) ?_
  refine lv_bipush (v := 40) hx hb dX10_init_68 (by decide) ?_
  obtain ⟨S17, h9, hf⟩ := ob_inv hf
  refine i_newar hC hW (ai := 0) (ty := .int) (Or.inl rfl) rfl rfl rfl (fun _ => rfl) (by decide +kernel) (N := 40) (by decide) (by decide) (Nat.le_of_ble_eq_true rfl) h9 (Nat.le_of_ble_eq_true rfl) (Nat.le_of_ble_eq_true rfl) dX10_init_70 (fun H hW => ?_)
  obtain ⟨S18, h9, hf⟩ := ob_inv hf
  refine i_putr hC hW h9 rfl hi10 tyX10_ok nmX10 (by decide) rfl rfl hin2 rfl (fun _ => rfl) (fun _ => rfl) (by decide +kernel) dX10_init_72 (fun H locs hW => ?_)
  refine lv_aload_n hx hb dX10_init_75 rfl (lv_at hl 0 rfl) ?_
  refine lv_bipush (v := 40) hx hb dX10_init_76 (by decide) ?_
  obtain ⟨S19, h9, hf⟩ := ob_inv hf
  refine i_newar hC hW (ai := 0) (ty := .int) (Or.inl rfl) rfl rfl rfl (fun _ => rfl) (by decide +kernel) (N := 40) (by decide) (by decide) (Nat.le_of_ble_eq_true rfl) h9 (Nat.le_of_ble_eq_true rfl) (Nat.le_of_ble_eq_true rfl) dX10_init_78 (fun H hW => ?_)
  obtain ⟨S20, h9, hf⟩ := ob_inv hf
  refine i_putr hC hW h9 rfl hi10 tyX10_ok nmX10 (by decide) rfl rfl hin2 rfl (fun _ => rfl) (fun _ => rfl) (by decide +kernel) dX10_init_80 (fun H locs hW => ?_)
  refine lv_aload_n hx hb dX10_init_83 rfl (lv_at hl 0 rfl) ?_
  refine lv_bipush (v := 40) hx hb dX10_init_84 (by decide) ?_
  obtain ⟨S21, h9, hf⟩ := ob_inv hf
  refine i_newar hC hW (ai := 0) (ty := .int) (Or.inl rfl) rfl rfl rfl (fun _ => rfl) (by decide +kernel) (N := 40) (by decide) (by decide) (Nat.le_of_ble_eq_true rfl) h9 (Nat.le_of_ble_eq_true rfl) (Nat.le_of_ble_eq_true rfl) dX10_init_86 (fun H hW => ?_)
  obtain ⟨S22, h9, hf⟩ := ob_inv hf
  refine i_putr hC hW h9 rfl hi10 tyX10_ok nmX10 (by decide) rfl rfl hin2 rfl (fun _ => rfl) (fun _ => rfl) (by decide +kernel) dX10_init_88 (fun H locs hW => ?_)
  refine lv_aload_n hx hb dX10_init_91 rfl (lv_at hl 0 rfl) ?_
  refine lv_bipush (v := 40) hx hb dX10_init_92 (by decide) ?_
  obtain ⟨S23, h9, hf⟩ := ob_inv hf
  refine i_newar hC hW (ai := 0) (ty := .int) (Or.inl rfl) rfl rfl rfl (fun _ => rfl) (by decide +kernel) (N := 40) (by decide) (by decide) (Nat.le_of_ble_eq_true rfl) h9 (Nat.le_of_ble_eq_true rfl) (Nat.le_of_ble_eq_true rfl) dX10_init_94 (fun H hW => ?_)
  obtain ⟨S24, h9, hf⟩ := ob_inv hf
  refine i_putr hC hW h9 rfl hi10 tyX10_ok nmX10 (by decide) rfl rfl hin2 rfl (fun _ => rfl) (fun _ => rfl) (by decide +kernel) dX10_init_96 (fun H locs hW => ?_)
  refine lv_aload_n hx hb dX10_init_99 rfl (lv_at hl 0 rfl) ?_
  refine lv_iconst (v := 5) hx hb dX10_init_100 (by decide) ?_
  obtain ⟨S25, h9, hf⟩ := ob_inv hf
  refine i_newar hC hW (ai := 0) (ty := .int) (Or.inl rfl) rfl rfl rfl (fun _ => rfl) (by decide +kernel) (N := 5) (by decide) (by decide) (Nat.le_of_ble_eq_true rfl) h9 (Nat.le_of_ble_eq_true rfl) (Nat.le_of_ble_eq_true rfl) dX10_init_101 (fun H hW => ?_)
  obtain ⟨S26, h9, hf⟩ := ob_inv hf
  refine i_putr hC hW h9 rfl hi10 tyX10_ok nmX10 (by decide) rfl rfl hin2 rfl (fun _ => rfl) (fun _ => rfl) (by decide +kernel) dX10_init_103 (fun H locs hW => ?_)
  refine lv_aload_n hx hb dX10_init_106 rfl (lv_at hl 0 rfl) ?_
  refine lv_iconst (v := 5) hx hb dX10_init_107 (by decide) ?_
  obtain ⟨S27, h9, hf⟩ := ob_inv hf
  refine i_newar hC hW (ai := 0) (ty := .int) (Or.inl rfl) rfl rfl rfl (fun _ => rfl) (by decide +kernel) (N := 5) (by decide) (by decide) (Nat.le_of_ble_eq_true rfl) h9 (Nat.le_of_ble_eq_true rfl) (Nat.le_of_ble_eq_true rfl) dX10_init_108 (fun H hW => ?_)
  obtain ⟨S28, h9, hf⟩ := ob_inv hf
  refine i_putr hC hW h9 rfl hi10 tyX10_ok nmX10 (by decide) rfl rfl hin2 rfl (fun _ => rfl) (fun _ => rfl) (by decide +kernel) dX10_init_110 (fun H locs hW => ?_)
  refine lv_aload_n hx hb dX10_init_113 rfl (lv_at hl 0 rfl) ?_
  refine lv_iconst (v := 5) hx hb dX10_init_114 (by decide) ?_
  obtain ⟨S29, h9, hf⟩ := ob_inv hf
  refine i_newar hC hW (ai := 0) (ty := .int) (Or.inl rfl) rfl rfl rfl (fun _ => rfl) (by decide +kernel) (N := 5) (by decide) (by decide) (Nat.le_of_ble_eq_true rfl) h9 (Nat.le_of_ble_eq_true rfl) (Nat.le_of_ble_eq_true rfl) dX10_init_115 (fun H hW => ?_)
  obtain ⟨S30, h9, hf⟩ := ob_inv hf
  refine i_putr hC hW h9 rfl hi10 tyX10_ok nmX10 (by decide) rfl rfl hin2 rfl (fun _ => rfl) (fun _ => rfl) (by decide +kernel) dX10_init_117 (fun H locs hW => ?_)
  refine lv_aload_n hx hb dX10_init_120 rfl (lv_at hl 0 rfl) ?_
  refine lv_iconst (v := 5) hx hb dX10_init_121 (by decide) ?_
  obtain ⟨S31, h9, hf⟩ := ob_inv hf
  refine i_newar hC hW (ai := 0) (ty := .int) (Or.inl rfl) rfl rfl rfl (fun _ => rfl) (by decide +kernel) (N := 5) (by decide) (by decide) (Nat.le_of_ble_eq_true rfl) h9 (Nat.le_of_ble_eq_true rfl) (Nat.le_of_ble_eq_true rfl) dX10_init_122 (fun H hW => ?_)
  obtain ⟨S32, h9, hf⟩ := ob_inv hf
  refine i_putr hC hW h9 rfl hi10 tyX10_ok nmX10 (by decide) rfl rfl hin2 rfl (fun _ => rfl) (fun _ => rfl) (by decide +kernel) dX10_init_124 (fun H locs hW => ?_)
  refine lv_aload_n hx hb dX10_init_127 rfl (lv_at hl 0 rfl) ?_
  refine lv_iconst (v := 5) hx hb dX10_init_128 (by decide) ?_
  obtain ⟨S33, h9, hf⟩ := ob_inv hf
  refine i_newar hC hW (ai := 0) (ty := .int) (Or.inl rfl) rfl rfl rfl (fun _ => rfl) (by decide +kernel) (N := 5) (by decide) (by decide) (Nat.le_of_ble_eq_true rfl) h9 (Nat.le_of_ble_eq_true rfl) (Nat.le_of_ble_eq_true rfl) dX10_init_129 (fun H hW => ?_)
  obtain ⟨S34, h9, hf⟩ := ob_inv hf
  refine i_putr hC hW h9 rfl hi10 tyX10_ok nmX10 (by decide) rfl rfl hin2 rfl (fun _ => rfl) (fun _ => rfl) (by decide +kernel) dX10_init_131 (fun H locs hW => ?_)
  refine lv_aload_n hx hb dX10_init_134 rfl (lv_at hl 0 rfl) ?_
  refine lv_iconst (v := 5) hx hb dX10_init_135 (by decide) ?_
  obtain ⟨S35, h9, hf⟩ := ob_inv hf
  refine i_newar hC hW (ai := 0) (ty := .int) (Or.inl rfl) rfl rfl rfl (fun _ => rfl) (by decide +kernel) (N := 5) (by decide) (by decide) (Nat.le_of_ble_eq_true rfl) h9 (Nat.le_of_ble_eq_true rfl) (Nat.le_of_ble_eq_true rfl) dX10_init_136 (fun H hW => ?_)
  obtain ⟨S36, h9, hf⟩ := ob_inv hf
  refine i_putr hC hW h9 rfl hi10 tyX10_ok nmX10 (by decide) rfl rfl hin2 rfl (fun _ => rfl) (fun _ => rfl) (by decide +kernel) dX10_init_138 (fun H locs hW => ?_)
  refine lv_aload_n hx hb dX10_init_141 rfl (lv_at hl 0 rfl) ?_
  refine lv_iconst (v := 5) hx hb dX10_init_142 (by decide) ?_
  obtain ⟨S37, h9, hf⟩ := ob_inv hf
  refine i_newar hC hW (ai := 0) (ty := .int) (Or.inl rfl) rfl rfl rfl (fun _ => rfl) (by decide +kernel) (N := 5) (by decide) (by decide) (Nat.le_of_ble_eq_true rfl) h9 (Nat.le_of_ble_eq_true rfl) (Nat.le_of_ble_eq_true rfl) dX10_init_143 (fun H hW => ?_)
  obtain ⟨S38, h9, hf⟩ := ob_inv hf
  refine i_putr hC hW h9 rfl hi10 tyX10_ok nmX10 (by decide) rfl rfl hin2 rfl (fun _ => rfl) (fun _ => rfl) (by decide +kernel) dX10_init_145 (fun H locs hW => ?_)
  refine lv_aload_n hx hb dX10_init_148 rfl (lv_at hl 0 rfl) ?_
  refine lv_iconst (v := 5) hx hb dX10_init_149 (by decide) ?_
  obtain ⟨S39, h9, hf⟩ := ob_inv hf
  refine i_newar hC hW (ai := 0) (ty := .int) (Or.inl rfl) rfl rfl rfl (fun _ => rfl) (by decide +kernel) (N := 5) (by decide) (by decide) (Nat.le_of_ble_eq_true rfl) h9 (Nat.le_of_ble_eq_true rfl) (Nat.le_of_ble_eq_true rfl) dX10_init_150 (fun H hW => ?_)
  obtain ⟨S40, h9, hf⟩ := ob_inv hf
  refine i_putr hC hW h9 rfl hi10 tyX10_ok nmX10 (by decide) rfl rfl hin2 rfl (fun _ => rfl) (fun _ => rfl) (by decide +kernel) dX10_init_152 (fun H locs hW => ?_)
  refine lv_aload_n hx hb dX10_init_155 rfl (lv_at hl 0 rfl) ?_
  refine lv_bipush (v := 20) hx hb dX10_init_156 (by decide) ?_
  obtain ⟨S41, h9, hf⟩ := ob_inv hf
  refine i_newar hC hW (ai := 0) (ty := .int) (Or.inl rfl) rfl rfl rfl (fun _ => rfl) (by decide +kernel) (N := 20) (by decide) (by decide) (Nat.le_of_ble_eq_true rfl) h9 (Nat.le_of_ble_eq_true rfl) (Nat.le_of_ble_eq_true rfl) dX10_init_158 (fun H hW => ?_)
  obtain ⟨S42, h9, hf⟩ := ob_inv hf
  refine i_putr hC hW h9 rfl hi10 tyX10_ok nmX10 (by decide) rfl rfl hin2 rfl (fun _ => rfl) (fun _ => rfl) (by decide +kernel) dX10_init_160 (fun H locs hW => ?_)
  refine lv_aload_n hx hb dX10_init_163 rfl (lv_at hl 0 rfl) ?_
  refine lv_bipush (v := 20) hx hb dX10_init_164 (by decide) ?_
  obtain ⟨S43, h9, hf⟩ := ob_inv hf
  refine i_newar hC hW (ai := 0) (ty := .int) (Or.inl rfl) rfl rfl rfl (fun _ => rfl) (by decide +kernel) (N := 20) (by decide) (by decide) (Nat.le_of_ble_eq_true rfl) h9 (Nat.le_of_ble_eq_true rfl) (Nat.le_of_ble_eq_true rfl) dX10_init_166 (fun H hW => ?_)
  obtain ⟨S44, h9, hf⟩ := ob_inv hf
  refine i_putr hC hW h9 rfl hi10 tyX10_ok nmX10 (by decide) rfl rfl hin2 rfl (fun _ => rfl) (fun _ => rfl) (by decide +kernel) dX10_init_168 (fun H locs hW => ?_)
  refine lv_aload_n hx hb dX10_init_171 rfl (lv_at hl 0 rfl) ?_
  refine lv_bipush (v := 20) hx hb dX10_init_172 (by decide) ?_
  obtain ⟨S45, h9, hf⟩ := ob_inv hf
  refine i_newar hC hW (ai := 0) (ty := .int) (Or.inl rfl) rfl rfl rfl (fun _ => rfl) (by decide +kernel) (N := 20) (by decide) (by decide) (Nat.le_of_ble_eq_true rfl) h9 (Nat.le_of_ble_eq_true rfl) (Nat.le_of_ble_eq_true rfl) dX10_init_174 (fun H hW => ?_)
  obtain ⟨S46, h9, hf⟩ := ob_inv hf
  refine i_putr hC hW h9 rfl hi10 tyX10_ok nmX10 (by decide) rfl rfl hin2 rfl (fun _ => rfl) (fun _ => rfl) (by decide +kernel) dX10_init_176 (fun H locs hW => ?_)
  refine lv_aload_n hx hb dX10_init_179 rfl (lv_at hl 0 rfl) ?_
  refine lv_bipush (v := 20) hx hb dX10_init_180 (by decide) ?_
  obtain ⟨S47, h9, hf⟩ := ob_inv hf
  refine i_newar hC hW (ai := 0) (ty := .int) (Or.inl rfl) rfl rfl rfl (fun _ => rfl) (by decide +kernel) (N := 20) (by decide) (by decide) (Nat.le_of_ble_eq_true rfl) h9 (Nat.le_of_ble_eq_true rfl) (Nat.le_of_ble_eq_true rfl) dX10_init_182 (fun H hW => ?_)
  obtain ⟨S48, h9, hf⟩ := ob_inv hf
  refine i_putr hC hW h9 rfl hi10 tyX10_ok nmX10 (by decide) rfl rfl hin2 rfl (fun _ => rfl) (fun _ => rfl) (by decide +kernel) dX10_init_184 (fun H locs hW => ?_)
  refine lv_aload_n hx hb dX10_init_187 rfl (lv_at hl 0 rfl) ?_
  refine lv_bipush (v := 20) hx hb dX10_init_188 (by decide) ?_
  obtain ⟨S49, h9, hf⟩ := ob_inv hf
  refine i_newar hC hW (ai := 0) (ty := .int) (Or.inl rfl) rfl rfl rfl (fun _ => rfl) (by decide +kernel) (N := 20) (by decide) (by decide) (Nat.le_of_ble_eq_true rfl) h9 (Nat.le_of_ble_eq_true rfl) (Nat.le_of_ble_eq_true rfl) dX10_init_190 (fun H hW => ?_)
  obtain ⟨S50, h9, hf⟩ := ob_inv hf
  refine i_putr hC hW h9 rfl hi10 tyX10_ok nmX10 (by decide) rfl rfl hin2 rfl (fun _ => rfl) (fun _ => rfl) (by decide +kernel) dX10_init_192 (fun H locs hW => ?_)
  refine lv_aload_n hx hb dX10_init_195 rfl (lv_at hl 0 rfl) ?_
  refine lv_bipush (v := 20) hx hb dX10_init_196 (by decide) ?_
  obtain ⟨S51, h9, hf⟩ := ob_inv hf
  refine i_newar hC hW (ai := 0) (ty := .int) (Or.inl rfl) rfl rfl rfl (fun _ => rfl) (by decide +kernel) (N := 20) (by decide) (by decide) (Nat.le_of_ble_eq_true rfl) h9 (Nat.le_of_ble_eq_true rfl) (Nat.le_of_ble_eq_true rfl) dX10_init_198 (fun H hW => ?_)
  obtain ⟨S52, h9, hf⟩ := ob_inv hf
  refine i_putr hC hW h9 rfl hi10 tyX10_ok nmX10 (by decide) rfl rfl hin2 rfl (fun _ => rfl) (fun _ => rfl) (by decide +kernel) dX10_init_200 (fun H locs hW => ?_)
  refine lv_aload_n hx hb dX10_init_203 rfl (lv_at hl 0 rfl) ?_
  refine lv_bipush (v := 60) hx hb dX10_init_204 (by decide) ?_
  obtain ⟨S53, h9, hf⟩ := ob_inv hf
  refine i_newar hC hW (ai := 0) (ty := .int) (Or.inl rfl) rfl rfl rfl (fun _ => rfl) (by decide +kernel) (N := 60) (by decide) (by decide) (Nat.le_of_ble_eq_true rfl) h9 (Nat.le_of_ble_eq_true rfl) (Nat.le_of_ble_eq_true rfl) dX10_init_206 (fun H hW => ?_)
  obtain ⟨S54, h9, hf⟩ := ob_inv hf
  refine i_putr hC hW h9 rfl hi10 tyX10_ok nmX10 (by decide) rfl rfl hin2 rfl (fun _ => rfl) (fun _ => rfl) (by decide +kernel) dX10_init_208 (fun H locs hW => ?_)
  refine lv_aload_n hx hb dX10_init_211 rfl (lv_at hl 0 rfl) ?_
  refine lv_bipush (v := 60) hx hb dX10_init_212 (by decide) ?_
  obtain ⟨S55, h9, hf⟩ := ob_inv hf
  refine i_newar hC hW (ai := 0) (ty := .int) (Or.inl rfl) rfl rfl rfl (fun _ => rfl) (by decide +kernel) (N := 60) (by decide) (by decide) (Nat.le_of_ble_eq_true rfl) h9 (Nat.le_of_ble_eq_true rfl) (Nat.le_of_ble_eq_true rfl) dX10_init_214 (fun H hW => ?_)
  obtain ⟨S56, h9, hf⟩ := ob_inv hf
  refine i_putr hC hW h9 rfl hi10 tyX10_ok nmX10 (by decide) rfl rfl hin2 rfl (fun _ => rfl) (fun _ => rfl) (by decide +kernel) dX10_init_216 (fun H locs hW => ?_)
  refine lv_aload_n hx hb dX10_init_219 rfl (lv_at hl 0 rfl) ?_
  refine lv_bipush (v := 60) hx hb dX10_init_220 (by decide) ?_
  obtain ⟨S57, h9, hf⟩ := ob_inv hf
  refine i_newar hC hW (ai := 0) (ty := .int) (Or.inl rfl) rfl rfl rfl (fun _ => rfl) (by decide +kernel) (N := 60) (by decide) (by decide) (Nat.le_of_ble_eq_true rfl) h9 (Nat.le_of_ble_eq_true rfl) (Nat.le_of_ble_eq_true rfl) dX10_init_222 (fun H hW => ?_)
  obtain ⟨S58, h9, hf⟩ := ob_inv hf
  refine i_putr hC hW h9 rfl hi10 tyX10_ok nmX10 (by decide) rfl rfl hin2 rfl (fun _ => rfl) (fun _ => rfl) (by decide +kernel) dX10_init_224 (fun H locs hW => ?_)
  refine lv_aload_n hx hb dX10_init_227 rfl (lv_at hl 0 rfl) ?_
  refine lv_bipush (v := 60) hx hb dX10_init_228 (by decide) ?_
  obtain ⟨S59, h9, hf⟩ := ob_inv hf
  refine i_newar hC hW (ai := 0) (ty := .int) (Or.inl rfl) rfl rfl rfl (fun _ => rfl) (by decide +kernel) (N := 60) (by decide) (by decide) (Nat.le_of_ble_eq_true rfl) h9 (Nat.le_of_ble_eq_true rfl) (Nat.le_of_ble_eq_true rfl) dX10_init_230 (fun H hW => ?_)
  obtain ⟨S60, h9, hf⟩ := ob_inv hf
  refine i_putr hC hW h9 rfl hi10 tyX10_ok nmX10 (by decide) rfl rfl hin2 rfl (fun _ => rfl) (fun _ => rfl) (by decide +kernel) dX10_init_232 (fun H locs hW => ?_)
  refine lv_aload_n hx hb dX10_init_235 rfl (lv_at hl 0 rfl) ?_
  refine lv_bipush (v := 60) hx hb dX10_init_236 (by decide) ?_
  obtain ⟨S61, h9, hf⟩ := ob_inv hf
  refine i_newar hC hW (ai := 0) (ty := .int) (Or.inl rfl) rfl rfl rfl (fun _ => rfl) (by decide +kernel) (N := 60) (by decide) (by decide) (Nat.le_of_ble_eq_true rfl) h9 (Nat.le_of_ble_eq_true rfl) (Nat.le_of_ble_eq_true rfl) dX10_init_238 (fun H hW => ?_)
  obtain ⟨S62, h9, hf⟩ := ob_inv hf
  refine i_putr hC hW h9 rfl hi10 tyX10_ok nmX10 (by decide) rfl rfl hin2 rfl (fun _ => rfl) (fun _ => rfl) (by decide +kernel) dX10_init_240 (fun H locs hW => ?_)
  refine lv_aload_n hx hb dX10_init_243 rfl (lv_at hl 0 rfl) ?_
  refine lv_bipush (v := 60) hx hb dX10_init_244 (by decide) ?_
  obtain ⟨S63, h9, hf⟩ := ob_inv hf
  refine i_newar hC hW (ai := 0) (ty := .int) (Or.inl rfl) rfl rfl rfl (fun _ => rfl) (by decide +kernel) (N := 60) (by decide) (by decide) (Nat.le_of_ble_eq_true rfl) h9 (Nat.le_of_ble_eq_true rfl) (Nat.le_of_ble_eq_true rfl) dX10_init_246 (fun H hW => ?_)
  obtain ⟨S64, h9, hf⟩ := ob_inv hf
  refine i_putr hC hW h9 rfl hi10 tyX10_ok nmX10 (by decide) rfl rfl hin2 rfl (fun _ => rfl) (fun _ => rfl) (by decide +kernel) dX10_init_248 (fun H locs hW => ?_)
  refine lv_aload_n hx hb dX10_init_251 rfl (lv_at hl 0 rfl) ?_
  refine lv_bipush (v := 60) hx hb dX10_init_252 (by decide) ?_
  obtain ⟨S65, h9, hf⟩ := ob_inv hf
  refine i_newar hC hW (ai := 0) (ty := .int) (Or.inl rfl) rfl rfl rfl (fun _ => rfl) (by decide +kernel) (N := 60) (by decide) (by decide) (Nat.le_of_ble_eq_true rfl) h9 (Nat.le_of_ble_eq_true rfl) (Nat.le_of_ble_eq_true rfl) dX10_init_254 (fun H hW => ?_)
  obtain ⟨S66, h9, hf⟩ := ob_inv hf
  refine i_putr hC hW h9 rfl hi10 tyX10_ok nmX10 (by decide) rfl rfl hin2 rfl (fun _ => rfl) (fun _ => rfl) (by decide +kernel) dX10_init_256 (fun H locs hW => ?_)
  refine lv_aload_n hx hb dX10_init_259 rfl (lv_at hl 0 rfl) ?_
  refine lv_bipush (v := 10) hx hb dX10_init_260 (by decide) ?_
  obtain ⟨S67, h9, hf⟩ := ob_inv hf
  refine i_newar hC hW (ai := 0) (ty := .int) (Or.inl rfl) rfl rfl rfl (fun _ => rfl) (by decide +kernel) (N := 10) (by decide) (by decide) (Nat.le_of_ble_eq_true rfl) h9 (Nat.le_of_ble_eq_true rfl) (Nat.le_of_ble_eq_true rfl) dX10_init_262 (fun H hW => ?_)
  obtain ⟨S68, h9, hf⟩ := ob_inv hf
  refine i_putr hC hW h9 rfl hi10 tyX10_ok nmX10 (by decide) rfl rfl hin2 rfl (fun _ => rfl) (fun _ => rfl) (by decide +kernel) dX10_init_264 (fun H locs hW => ?_)
  refine lv_aload_n hx hb dX10_init_267 rfl (lv_at hl 0 rfl) ?_
  refine lv_sipush (v := 300) hx hb dX10_init_268 (by decide) ?_
  obtain ⟨S69, h9, hf⟩ := ob_inv hf
  refine i_newar hC hW (ai := 0) (ty := .int) (Or.inl rfl) rfl rfl rfl (fun _ => rfl) (by decide +kernel) (N := 300) (by decide) (by decide) (Nat.le_of_ble_eq_true rfl) h9 (Nat.le_of_ble_eq_true rfl) (Nat.le_of_ble_eq_true rfl) dX10_init_271 (fun H hW => ?_)
  obtain ⟨S70, h9, hf⟩ := ob_inv hf
  refine i_putr hC hW h9 rfl hi10 tyX10_ok nmX10 (by decide) rfl rfl hin2 rfl (fun _ => rfl) (fun _ => rfl) (by decide +kernel) dX10_init_273 (fun H locs hW => ?_)
  refine lv_aload_n hx hb dX10_init_276 rfl (lv_at hl 0 rfl) ?_
  refine lv_sipush (v := 300) hx hb dX10_init_277 (by decide) ?_
  obtain ⟨S71, h9, hf⟩ := ob_inv hf
  refine i_newar hC hW (ai := 0) (ty := .int) (Or.inl rfl) rfl rfl rfl (fun _ => rfl) (by decide +kernel) (N := 300) (by decide) (by decide) (Nat.le_of_ble_eq_true rfl) h9 (Nat.le_of_ble_eq_true rfl) (Nat.le_of_ble_eq_true rfl) dX10_init_280 (fun H hW => ?_)
  obtain ⟨S72, h9, hf⟩ := ob_inv hf
  refine i_putr hC hW h9 rfl hi10 tyX10_ok nmX10 (by decide) rfl rfl hin2 rfl (fun _ => rfl) (fun _ => rfl) (by decide +kernel) dX10_init_282 (fun H locs hW => ?_)
  refine lv_aload_n hx hb dX10_init_285 rfl (lv_at hl 0 rfl) ?_
  refine lv_sipush (v := 300) hx hb dX10_init_286 (by decide) ?_
  obtain ⟨S73, h9, hf⟩ := ob_inv hf
  refine i_newar hC hW (ai := 0) (ty := .int) (Or.inl rfl) rfl rfl rfl (fun _ => rfl) (by decide +kernel) (N := 300) (by decide) (by decide) (Nat.le_of_ble_eq_true rfl) h9 (Nat.le_of_ble_eq_true rfl) (Nat.le_of_ble_eq_true rfl) dX10_init_289 (fun H hW => ?_)
  obtain ⟨S74, h9, hf⟩ := ob_inv hf
  refine i_putr hC hW h9 rfl hi10 tyX10_ok nmX10 (by decide) rfl rfl hin2 rfl (fun _ => rfl) (fun _ => rfl) (by decide +kernel) dX10_init_291 (fun H locs hW => ?_)
  refine lv_aload_n hx hb dX10_init_294 rfl (lv_at hl 0 rfl) ?_
  refine lv_sipush (v := 300) hx hb dX10_init_295 (by decide) ?_
  obtain ⟨S75, h9, hf⟩ := ob_inv hf
  refine i_newar hC hW (ai := 0) (ty := .int) (Or.inl rfl) rfl rfl rfl (fun _ => rfl) (by decide +kernel) (N := 300) (by decide) (by decide) (Nat.le_of_ble_eq_true rfl) h9 (Nat.le_of_ble_eq_true rfl) (Nat.le_of_ble_eq_true rfl) dX10_init_298 (fun H hW => ?_)
  obtain ⟨S76, h9, hf⟩ := ob_inv hf
  refine i_putr hC hW h9 rfl hi10 tyX10_ok nmX10 (by decide) rfl rfl hin2 rfl (fun _ => rfl) (fun _ => rfl) (by decide +kernel) dX10_init_300 (fun H locs hW => ?_)
  refine lv_aload_n hx hb dX10_init_303 rfl (lv_at hl 0 rfl) ?_
  refine lv_sipush (v := 300) hx hb dX10_init_304 (by decide) ?_
  obtain ⟨S77, h9, hf⟩ := ob_inv hf
  refine i_newar hC hW (ai := 0) (ty := .int) (Or.inl rfl) rfl rfl rfl (fun _ => rfl) (by decide +kernel) (N := 300) (by decide) (by decide) (Nat.le_of_ble_eq_true rfl) h9 (Nat.le_of_ble_eq_true rfl) (Nat.le_of_ble_eq_true rfl) dX10_init_307 (fun H hW => ?_)
  obtain ⟨S78, h9, hf⟩ := ob_inv hf
  refine i_putr hC hW h9 rfl hi10 tyX10_ok nmX10 (by decide) rfl rfl hin2 rfl (fun _ => rfl) (fun _ => rfl) (by decide +kernel) dX10_init_309 (fun H locs hW => ?_)
  refine lv_aload_n hx hb dX10_init_312 rfl (lv_at hl 0 rfl) ?_
  refine lv_sipush (v := 300) hx hb dX10_init_313 (by decide) ?_
  obtain ⟨S79, h9, hf⟩ := ob_inv hf
  refine i_newar hC hW (ai := 0) (ty := .int) (Or.inl rfl) rfl rfl rfl (fun _ => rfl) (by decide +kernel) (N := 300) (by decide) (by decide) (Nat.le_of_ble_eq_true rfl) h9 (Nat.le_of_ble_eq_true rfl) (Nat.le_of_ble_eq_true rfl) dX10_init_316 (fun H hW => ?_)
  obtain ⟨S80, h9, hf⟩ := ob_inv hf
  refine i_putr hC hW h9 rfl hi10 tyX10_ok nmX10 (by decide) rfl rfl hin2 rfl (fun _ => rfl) (fun _ => rfl) (by decide +kernel) dX10_init_318 (fun H locs hW => ?_)
  refine lv_aload_n hx hb dX10_init_321 rfl (lv_at hl 0 rfl) ?_
  refine lv_bipush (v := 120) hx hb dX10_init_322 (by decide) ?_
  obtain ⟨S81, h9, hf⟩ := ob_inv hf
  refine i_newar hC hW (ai := 0) (ty := .int) (Or.inl rfl) rfl rfl rfl (fun _ => rfl) (by decide +kernel) (N := 120) (by decide) (by decide) (Nat.le_of_ble_eq_true rfl) h9 (Nat.le_of_ble_eq_true rfl) (Nat.le_of_ble_eq_true rfl) dX10_init_324 (fun H hW => ?_)
  obtain ⟨S82, h9, hf⟩ := ob_inv hf
  refine i_putr hC hW h9 rfl hi10 tyX10_ok nmX10 (by decide) rfl rfl hin2 rfl (fun _ => rfl) (fun _ => rfl) (by decide +kernel) dX10_init_326 (fun H locs hW => ?_)
  refine lv_aload_n hx hb dX10_init_329 rfl (lv_at hl 0 rfl) ?_
  refine lv_sipush (v := 720) hx hb dX10_init_330 (by decide) ?_
  obtain ⟨S83, h9, hf⟩ := ob_inv hf
  refine i_newar hC hW (ai := 0) (ty := .int) (Or.inl rfl) rfl rfl rfl (fun _ => rfl) (by decide +kernel) (N := 720) (by decide) (by decide) (Nat.le_of_ble_eq_true rfl) h9 (Nat.le_of_ble_eq_true rfl) (Nat.le_of_ble_eq_true rfl) dX10_init_333 (fun H hW => ?_)
  obtain ⟨S84, h9, hf⟩ := ob_inv hf
  refine i_putr hC hW h9 rfl hi10 tyX10_ok nmX10 (by decide) rfl rfl hin2 rfl (fun _ => rfl) (fun _ => rfl) (by decide +kernel) dX10_init_335 (fun H locs hW => ?_)
  refine lv_aload_n hx hb dX10_init_338 rfl (lv_at hl 0 rfl) ?_
  refine lv_sipush (v := 720) hx hb dX10_init_339 (by decide) ?_
  obtain ⟨S85, h9, hf⟩ := ob_inv hf
  refine i_newar hC hW (ai := 0) (ty := .int) (Or.inl rfl) rfl rfl rfl (fun _ => rfl) (by decide +kernel) (N := 720) (by decide) (by decide) (Nat.le_of_ble_eq_true rfl) h9 (Nat.le_of_ble_eq_true rfl) (Nat.le_of_ble_eq_true rfl) dX10_init_342 (fun H hW => ?_)
  obtain ⟨S86, h9, hf⟩ := ob_inv hf
  refine i_putr hC hW h9 rfl hi10 tyX10_ok nmX10 (by decide) rfl rfl hin2 rfl (fun _ => rfl) (fun _ => rfl) (by decide +kernel) dX10_init_344 (fun H locs hW => ?_)
  refine lv_aload_n hx hb dX10_init_347 rfl (lv_at hl 0 rfl) ?_
  refine lv_sipush (v := 720) hx hb dX10_init_348 (by decide) ?_
  obtain ⟨S87, h9, hf⟩ := ob_inv hf
  refine i_newar hC hW (ai := 0) (ty := .int) (Or.inl rfl) rfl rfl rfl (fun _ => rfl) (by decide +kernel) (N := 720) (by decide) (by decide) (Nat.le_of_ble_eq_true rfl) h9 (Nat.le_of_ble_eq_true rfl) (Nat.le_of_ble_eq_true rfl) dX10_init_351 (fun H hW => ?_)
  obtain ⟨S88, h9, hf⟩ := ob_inv hf
  refine i_putr hC hW h9 rfl hi10 tyX10_ok nmX10 (by decide) rfl rfl hin2 rfl (fun _ => rfl) (fun _ => rfl) (by decide +kernel) dX10_init_353 (fun H locs hW => ?_)
  refine lv_aload_n hx hb dX10_init_356 rfl (lv_at hl 0 rfl) ?_
  refine lv_bipush (v := 60) hx hb dX10_init_357 (by decide) ?_
  obtain ⟨S89, h9, hf⟩ := ob_inv hf
  refine i_newar hC hW (ai := 0) (ty := .int) (Or.inl rfl) rfl rfl rfl (fun _ => rfl) (by decide +kernel) (N := 60) (by decide) (by decide) (Nat.le_of_ble_eq_true rfl) h9 (Nat.le_of_ble_eq_true rfl) (Nat.le_of_ble_eq_true rfl) dX10_init_359 (fun H hW => ?_)
  obtain ⟨S90, h9, hf⟩ := ob_inv hf
  refine i_putr hC hW h9 rfl hi10 tyX10_ok nmX10 (by decide) rfl rfl hin2 rfl (fun _ => rfl) (fun _ => rfl) (by decide +kernel) dX10_init_361 (fun H locs hW => ?_)
  refine lv_aload_n hx hb dX10_init_364 rfl (lv_at hl 0 rfl) ?_
  refine lv_bipush (v := 60) hx hb dX10_init_365 (by decide) ?_
  obtain ⟨S91, h9, hf⟩ := ob_inv hf
  refine i_newar hC hW (ai := 0) (ty := .int) (Or.inl rfl) rfl rfl rfl (fun _ => rfl) (by decide +kernel) (N := 60) (by decide) (by decide) (Nat.le_of_ble_eq_true rfl) h9 (Nat.le_of_ble_eq_true rfl) (Nat.le_of_ble_eq_true rfl) dX10_init_367 (fun H hW => ?_)
  obtain ⟨S92, h9, hf⟩ := ob_inv hf
  refine i_putr hC hW h9 rfl hi10 tyX10_ok nmX10 (by decide) rfl rfl hin2 rfl (fun _ => rfl) (fun _ => rfl) (by decide +kernel) dX10_init_369 (fun H locs hW => ?_)
  refine lv_aload_n hx hb dX10_init_372 rfl (lv_at hl 0 rfl) ?_
  refine lv_bipush (v := 10) hx hb dX10_init_373 (by decide) ?_
  obtain ⟨S93, h9, hf⟩ := ob_inv hf
  refine i_newar hC hW (ai := 0) (ty := .int) (Or.inl rfl) rfl rfl rfl (fun _ => rfl) (by decide +kernel) (N := 10) (by decide) (by decide) (Nat.le_of_ble_eq_true rfl) h9 (Nat.le_of_ble_eq_true rfl) (Nat.le_of_ble_eq_true rfl) dX10_init_375 (fun H hW => ?_)
  obtain ⟨S94, h9, hf⟩ := ob_inv hf
  refine i_putr hC hW h9 rfl hi10 tyX10_ok nmX10 (by decide) rfl rfl hin2 rfl (fun _ => rfl) (fun _ => rfl) (by decide +kernel) dX10_init_377 (fun H locs hW => ?_)
  refine lv_aload_n hx hb dX10_init_380 rfl (lv_at hl 0 rfl) ?_
  refine lv_bipush (v := 12) hx hb dX10_init_381 (by decide) ?_
  obtain ⟨S95, h9, hf⟩ := ob_inv hf
  refine i_newar hC hW (ai := 0) (ty := .int) (Or.inl rfl) rfl rfl rfl (fun _ => rfl) (by decide +kernel) (N := 12) (by decide) (by decide) (Nat.le_of_ble_eq_true rfl) h9 (Nat.le_of_ble_eq_true rfl) (Nat.le_of_ble_eq_true rfl) dX10_init_383 (fun H hW => ?_)
  obtain ⟨S96, h9, hf⟩ := ob_inv hf
  refine i_putr hC hW h9 rfl hi10 tyX10_ok nmX10 (by decide) rfl rfl hin2 rfl (fun _ => rfl) (fun _ => rfl) (by decide +kernel) dX10_init_385 (fun H locs hW => ?_)
  refine lv_aload_n hx hb dX10_init_388 rfl (lv_at hl 0 rfl) ?_
  refine lv_sipush (v := 401) hx hb dX10_init_389 (by decide) ?_
  obtain ⟨S97, h9, hf⟩ := ob_inv hf
  refine i_newar hC hW (ai := 0) (ty := .int) (Or.inl rfl) rfl rfl rfl (fun _ => rfl) (by decide +kernel) (N := 401) (by decide) (by decide) (Nat.le_of_ble_eq_true rfl) h9 (Nat.le_of_ble_eq_true rfl) (Nat.le_of_ble_eq_true rfl) dX10_init_392 (fun H hW => ?_)
  obtain ⟨S98, h9, hf⟩ := ob_inv hf
  refine i_putr hC hW h9 rfl hi10 tyX10_ok nmX10 (by decide) rfl rfl hin2 rfl (fun _ => rfl) (fun _ => rfl) (by decide +kernel) dX10_init_394 (fun H locs hW => ?_)
  refine lv_aload_n hx hb dX10_init_397 rfl (lv_at hl 0 rfl) ?_
  refine lv_sipush (v := 401) hx hb dX10_init_398 (by decide) ?_
  obtain ⟨S99, h9, hf⟩ := ob_inv hf
  refine i_newar hC hW (ai := 0) (ty := .int) (Or.inl rfl) rfl rfl rfl (fun _ => rfl) (by decide +kernel) (N := 401) (by decide) (by decide) (Nat.le_of_ble_eq_true rfl) h9 (Nat.le_of_ble_eq_true rfl) (Nat.le_of_ble_eq_true rfl) dX10_init_401 (fun H hW => ?_)
  obtain ⟨S100, h9, hf⟩ := ob_inv hf
  refine i_putr hC hW h9 rfl hi10 tyX10_ok nmX10 (by decide) rfl rfl hin2 rfl (fun _ => rfl) (fun _ => rfl) (by decide +kernel) dX10_init_403 (fun H locs hW => ?_)
  refine lv_aload_n hx hb dX10_init_406 rfl (lv_at hl 0 rfl) ?_
  refine lv_sipush (v := 1932) hx hb dX10_init_407 (by decide) ?_
  obtain ⟨S101, h9, hf⟩ := ob_inv hf
  refine i_newar hC hW (ai := 0) (ty := .int) (Or.inl rfl) rfl rfl rfl (fun _ => rfl) (by decide +kernel) (N := 1932) (by decide) (by decide) (Nat.le_of_ble_eq_true rfl) h9 (Nat.le_of_ble_eq_true rfl) (Nat.le_of_ble_eq_true rfl) dX10_init_410 (fun H hW => ?_)
  obtain ⟨S102, h9, hf⟩ := ob_inv hf
  refine i_putr hC hW h9 rfl hi10 tyX10_ok nmX10 (by decide) rfl rfl hin2 rfl (fun _ => rfl) (fun _ => rfl) (by decide +kernel) dX10_init_412 (fun H locs hW => ?_)
  refine lv_aload_n hx hb dX10_init_415 rfl (lv_at hl 0 rfl) ?_
  refine lv_sipush (v := 1932) hx hb dX10_init_416 (by decide) ?_
  obtain ⟨S103, h9, hf⟩ := ob_inv hf
  refine i_newar hC hW (ai := 0) (ty := .int) (Or.inl rfl) rfl rfl rfl (fun _ => rfl) (by decide +kernel) (N := 1932) (by decide) (by decide) (Nat.le_of_ble_eq_true rfl) h9 (Nat.le_of_ble_eq_true rfl) (Nat.le_of_ble_eq_true rfl) dX10_init_419 (fun H hW => ?_)
  obtain ⟨S104, h9, hf⟩ := ob_inv hf
  refine i_putr hC hW h9 rfl hi10 tyX10_ok nmX10 (by decide) rfl rfl hin2 rfl (fun _ => rfl) (fun _ => rfl) (by decide +kernel) dX10_init_421 (fun H locs hW => ?_)
  refine lv_aload_n hx hb dX10_init_424 rfl (lv_at hl 0 rfl) ?_
  refine lv_bipush (v := 12) hx hb dX10_init_425 (by decide) ?_
  obtain ⟨S105, h9, hf⟩ := ob_inv hf
  refine i_newar hC hW (ai := 0) (ty := .int) (Or.inl rfl) rfl rfl rfl (fun _ => rfl) (by decide +kernel) (N := 12) (by decide) (by decide) (Nat.le_of_ble_eq_true rfl) h9 (Nat.le_of_ble_eq_true rfl) (Nat.le_of_ble_eq_true rfl) dX10_init_427 (fun H hW => ?_)
  obtain ⟨S106, h9, hf⟩ := ob_inv hf
  refine i_putr hC hW h9 rfl hi10 tyX10_ok nmX10 (by decide) rfl rfl hin2 rfl (fun _ => rfl) (fun _ => rfl) (by decide +kernel) dX10_init_429 (fun H locs hW => ?_)
  refine lv_aload_n hx hb dX10_init_432 rfl (lv_at hl 0 rfl) ?_
  refine lv_bipush (v := 12) hx hb dX10_init_433 (by decide) ?_
  obtain ⟨S107, h9, hf⟩ := ob_inv hf
  refine i_newar hC hW (ai := 0) (ty := .int) (Or.inl rfl) rfl rfl rfl (fun _ => rfl) (by decide +kernel) (N := 12) (by decide) (by decide) (Nat.le_of_ble_eq_true rfl) h9 (Nat.le_of_ble_eq_true rfl) (Nat.le_of_ble_eq_true rfl) dX10_init_435 (fun H hW => ?_)
  obtain ⟨S108, h9, hf⟩ := ob_inv hf
  refine i_putr hC hW h9 rfl hi10 tyX10_ok nmX10 (by decide) rfl rfl hin2 rfl (fun _ => rfl) (fun _ => rfl) (by decide +kernel) dX10_init_437 (fun H locs hW => ?_)
  refine lv_aload_n hx hb dX10_init_440 rfl (lv_at hl 0 rfl) ?_
  refine lv_bipush (v := 12) hx hb dX10_init_441 (by decide) ?_
  obtain ⟨S109, h9, hf⟩ := ob_inv hf
  refine i_newar hC hW (ai := 0) (ty := .int) (Or.inl rfl) rfl rfl rfl (fun _ => rfl) (by decide +kernel) (N := 12) (by decide) (by decide) (Nat.le_of_ble_eq_true rfl) h9 (Nat.le_of_ble_eq_true rfl) (Nat.le_of_ble_eq_true rfl) dX10_init_443 (fun H hW => ?_)
  obtain ⟨S110, h9, hf⟩ := ob_inv hf
  refine i_putr hC hW h9 rfl hi10 tyX10_ok nmX10 (by decide) rfl rfl hin2 rfl (fun _ => rfl) (fun _ => rfl) (by decide +kernel) dX10_init_445 (fun H locs hW => ?_)
  refine lv_iconst (v := 0) hx hb dX10_init_448 (by decide) ?_
  refine lv_istore_n (lv' := [(1, .int 0), (0, .ref (G.2.2.1 o0))]) hx hb dX10_init_449 rfl hl (by decide) rfl (fun ls hl => ?_)
  refine lv_iload_n hx hb dX10_init_450 rfl (lv_at hl 0 rfl) ?_
  refine lv_iconst (v := 3) hx hb dX10_init_451 (by decide) ?_
  refine lv_icmp_ge (tgt := 468) hx hb dX10_init_452 (by decide) (fun c9 => absurd c9 (by decide)) (fun c9 => ?_)
  refine lv_aload_n hx hb dX10_init_455 rfl (lv_at hl 1 rfl) ?_
  obtain ⟨d111, h9, hf⟩ := ob_inv hf
  refine i_getr hC hW h9 rfl hi10 (by decide) rfl (by decide +kernel) dX10_init_456 ?_
  refine lv_iload_n hx hb dX10_init_459 rfl (lv_at hl 0 rfl) ?_
  refine lv_iconst (v := 5) hx hb dX10_init_460 (by decide) ?_
  obtain ⟨S112, h9, hf⟩ := ob_inv hf
  refine i_ist hC hW h9 dX10_init_461 (fun H locs hW => ?_)
  refine lv_iinc (v := 1) (lv' := [(1, .int 1), (0, .ref (G.2.2.1 o0))]) hx hb dX10_init_462 hl (k := 0) rfl (by decide) (by decide) rfl (fun ls hl => ?_)
  refine lv_goto (tgt := 450) hx hb dX10_init_465 (by decide) ?_
  refine lv_iload_n hx hb dX10_init_450 rfl (lv_at hl 0 rfl) ?_
  refine lv_iconst (v := 3) hx hb dX10_init_451 (by decide) ?_
  refine lv_icmp_ge (tgt := 468) hx hb dX10_init_452 (by decide) (fun c9 => absurd c9 (by decide)) (fun c9 => ?_)
  refine lv_aload_n hx hb dX10_init_455 rfl (lv_at hl 1 rfl) ?_
  obtain ⟨d113, h9, hf⟩ := ob_inv hf
  refine i_getr hC hW h9 rfl hi10 (by decide) rfl (by decide +kernel) dX10_init_456 ?_
  refine lv_iload_n hx hb dX10_init_459 rfl (lv_at hl 0 rfl) ?_
  refine lv_iconst (v := 5) hx hb dX10_init_460 (by decide) ?_
  obtain ⟨S114, h9, hf⟩ := ob_inv hf
  refine i_ist hC hW h9 dX10_init_461 (fun H locs hW => ?_)
  refine lv_iinc (v := 2) (lv' := [(1, .int 2), (0, .ref (G.2.2.1 o0))]) hx hb dX10_init_462 hl (k := 0) rfl (by decide) (by decide) rfl (fun ls hl => ?_)
  refine lv_goto (tgt := 450) hx hb dX10_init_465 (by decide) ?_
  refine lv_iload_n hx hb dX10_init_450 rfl (lv_at hl 0 rfl) ?_
  refine lv_iconst (v := 3) hx hb dX10_init_451 (by decide) ?_
  refine lv_icmp_ge (tgt := 468) hx hb dX10_init_452 (by decide) (fun c9 => absurd c9 (by decide)) (fun c9 => ?_)
  refine lv_aload_n hx hb dX10_init_455 rfl (lv_at hl 1 rfl) ?_
  obtain ⟨d115, h9, hf⟩ := ob_inv hf
  refine i_getr hC hW h9 rfl hi10 (by decide) rfl (by decide +kernel) dX10_init_456 ?_
  refine lv_iload_n hx hb dX10_init_459 rfl (lv_at hl 0 rfl) ?_
  refine lv_iconst (v := 5) hx hb dX10_init_460 (by decide) ?_
  obtain ⟨S116, h9, hf⟩ := ob_inv hf
  refine i_ist hC hW h9 dX10_init_461 (fun H locs hW => ?_)
  refine lv_iinc (v := 3) (lv' := [(1, .int 3), (0, .ref (G.2.2.1 o0))]) hx hb dX10_init_462 hl (k := 0) rfl (by decide) (by decide) rfl (fun ls hl => ?_)
  refine lv_goto (tgt := 450) hx hb dX10_init_465 (by decide) ?_
  refine lv_iload_n hx hb dX10_init_450 rfl (lv_at hl 0 rfl) ?_
  refine lv_iconst (v := 3) hx hb dX10_init_451 (by decide) ?_
  refine lv_icmp_ge (tgt := 468) hx hb dX10_init_452 (by decide) (fun c9 => ?_) (fun c9 => absurd (by decide) c9)
  cases hf
  subst hQ
  exact i_vret hC hW hr hlocks rfl (Nat.le_of_ble_eq_true rfl) (Nat.le_of_ble_eq_true rfl) dX10_init_468
