/-! the constructors that make rows alone -/
theorem df_X0 : ∀ k, k < 4 → defaultValue (tyX0 k) = vp_V (fz 0) k
  | 0, _ => rfl
  | 1, _ => rfl
  | 2, _ => rfl
  | 3, _ => rfl
  | n + 4, h => absurd h (by omega)
theorem df_X1 : ∀ k, k < 3 → defaultValue (tyX1 k) = vp_V (fz 1) k
  | 0, _ => rfl
  | 1, _ => rfl
  | 2, _ => rfl
  | n + 3, h => absurd h (by omega)
theorem df_X2 : ∀ k, k < 20 → defaultValue (tyX2 k) = vp_V (fz 2) k
  | 0, _ => rfl
  | 1, _ => rfl
  | 2, _ => rfl
  | 3, _ => rfl
  | 4, _ => rfl
  | 5, _ => rfl
  | 6, _ => rfl
  | 7, _ => rfl
  | 8, _ => rfl
  | 9, _ => rfl
  | 10, _ => rfl
  | 11, _ => rfl
  | 12, _ => rfl
  | 13, _ => rfl
  | 14, _ => rfl
  | 15, _ => rfl
  | 16, _ => rfl
  | 17, _ => rfl
  | 18, _ => rfl
  | 19, _ => rfl
  | n + 20, h => absurd h (by omega)
theorem df_X3 : ∀ k, k < 7 → defaultValue (tyX3 k) = vp_V (fz 3) k
  | 0, _ => rfl
  | 1, _ => rfl
  | 2, _ => rfl
  | 3, _ => rfl
  | 4, _ => rfl
  | 5, _ => rfl
  | 6, _ => rfl
  | n + 7, h => absurd h (by omega)
theorem df_X4 : ∀ k, k < 4 → defaultValue (tyX4 k) = vp_V (fz 4) k
  | 0, _ => rfl
  | 1, _ => rfl
  | 2, _ => rfl
  | 3, _ => rfl
  | n + 4, h => absurd h (by omega)
theorem df_X5 : ∀ k, k < 15 → defaultValue (tyX5 k) = vp_V (fz 5) k
  | 0, _ => rfl
  | 1, _ => rfl
  | 2, _ => rfl
  | 3, _ => rfl
  | 4, _ => rfl
  | 5, _ => rfl
  | 6, _ => rfl
  | 7, _ => rfl
  | 8, _ => rfl
  | 9, _ => rfl
  | 10, _ => rfl
  | 11, _ => rfl
  | 12, _ => rfl
  | 13, _ => rfl
  | 14, _ => rfl
  | n + 15, h => absurd h (by omega)
theorem df_X6 : ∀ k, k < 3 → defaultValue (tyX6 k) = vp_V (fz 6) k
  | 0, _ => rfl
  | 1, _ => rfl
  | 2, _ => rfl
  | n + 3, h => absurd h (by omega)
theorem df_X7 : ∀ k, k < 10 → defaultValue (tyX7 k) = vp_V (fz 7) k
  | 0, _ => rfl
  | 1, _ => rfl
  | 2, _ => rfl
  | 3, _ => rfl
  | 4, _ => rfl
  | 5, _ => rfl
  | 6, _ => rfl
  | 7, _ => rfl
  | 8, _ => rfl
  | 9, _ => rfl
  | n + 10, h => absurd h (by omega)
theorem df_X8 : ∀ k, k < 74 → defaultValue (tyX8 k) = vp_V (fz 8) k
  | 0, _ => rfl
  | 1, _ => rfl
  | 2, _ => rfl
  | 3, _ => rfl
  | 4, _ => rfl
  | 5, _ => rfl
  | 6, _ => rfl
  | 7, _ => rfl
  | 8, _ => rfl
  | 9, _ => rfl
  | 10, _ => rfl
  | 11, _ => rfl
  | 12, _ => rfl
  | 13, _ => rfl
  | 14, _ => rfl
  | 15, _ => rfl
  | 16, _ => rfl
  | 17, _ => rfl
  | 18, _ => rfl
  | 19, _ => rfl
  | 20, _ => rfl
  | 21, _ => rfl
  | 22, _ => rfl
  | 23, _ => rfl
  | 24, _ => rfl
  | 25, _ => rfl
  | 26, _ => rfl
  | 27, _ => rfl
  | 28, _ => rfl
  | 29, _ => rfl
  | 30, _ => rfl
  | 31, _ => rfl
  | 32, _ => rfl
  | 33, _ => rfl
  | 34, _ => rfl
  | 35, _ => rfl
  | 36, _ => rfl
  | 37, _ => rfl
  | 38, _ => rfl
  | 39, _ => rfl
  | 40, _ => rfl
  | 41, _ => rfl
  | 42, _ => rfl
  | 43, _ => rfl
  | 44, _ => rfl
  | 45, _ => rfl
  | 46, _ => rfl
  | 47, _ => rfl
  | 48, _ => rfl
  | 49, _ => rfl
  | 50, _ => rfl
  | 51, _ => rfl
  | 52, _ => rfl
  | 53, _ => rfl
  | 54, _ => rfl
  | 55, _ => rfl
  | 56, _ => rfl
  | 57, _ => rfl
  | 58, _ => rfl
  | 59, _ => rfl
  | 60, _ => rfl
  | 61, _ => rfl
  | 62, _ => rfl
  | 63, _ => rfl
  | 64, _ => rfl
  | 65, _ => rfl
  | 66, _ => rfl
  | 67, _ => rfl
  | 68, _ => rfl
  | 69, _ => rfl
  | 70, _ => rfl
  | 71, _ => rfl
  | 72, _ => rfl
  | 73, _ => rfl
  | n + 74, h => absurd h (by omega)
set_option maxHeartbeats 4000000 in
set_option maxRecDepth 100000 in
theorem r_X0_init : CtRun RX0 cX0_init 1 0 65 4 3 60 1 20 mm0 := by
  intro p l e R s m args below meth c0 g A h0 ls Q C hl hI hfr hlo hmc hms hret
  have hI : CtI g A s.heap h0 0 [.int (iI 0), .null, .null, .null] [] s.heap [] := hI
  refine ct_aload C hl 0 rfl dX0_init_0 ?_
  refine ct_obj C hl.1 oi_X0 (by omega) (by omega) (Nat.le_of_ble_eq_true rfl) dX0_init_1 ?_
  refine ct_aload C hl 0 rfl dX0_init_4 ?_
  refine ct_iconst C dX0_init_5 ?_
  refine ct_put C fp_X0_9 rfl rfl dX0_init_6 hI (fun H locs hI => ?_)
  refine ct_aload C hl 0 rfl dX0_init_9 ?_
  refine ct_bipush C dX0_init_10 (by decide) ?_
  refine ct_newa (t := 0) (n := 20) C rfl ac_int (by decide) rfl rfl rfl (by decide) (by decide) (by omega) (by omega) dX0_init_12 hI (fun q1 H hI => ?_)
  refine ct_putF C fc_X0_15 rfl rfl dX0_init_14 hI (fun H locs hI => ?_)
  refine ct_aload C hl 0 rfl dX0_init_17 ?_
  refine ct_bipush C dX0_init_18 (by decide) ?_
  refine ct_newa (t := 0) (n := 20) C rfl ac_int (by decide) rfl rfl rfl (by decide) (by decide) (by omega) (by omega) dX0_init_20 hI (fun q2 H hI => ?_)
  refine ct_putF C fc_X0_19 rfl rfl dX0_init_22 hI (fun H locs hI => ?_)
  refine ct_aload C hl 0 rfl dX0_init_25 ?_
  refine ct_bipush C dX0_init_26 (by decide) ?_
  refine ct_newa (t := 0) (n := 20) C rfl ac_int (by decide) rfl rfl rfl (by decide) (by decide) (by omega) (by omega) dX0_init_28 hI (fun q3 H hI => ?_)
  refine ct_putF C fc_X0_22 rfl rfl dX0_init_30 hI (fun H locs hI => ?_)
  have hI : CtI g A s.heap h0 0 [.int (iI (0)), .ref q1, .ref q2, .ref q3] _ H locs := hI
  refine W.widen (k := 3) (n := 60) (by omega) (by omega) ?_
  exact hret (fun k => [h0, q1, q2, q3].getD (k - 65) 0) 33 H locs ls rfl hI.1 hI.2.1 hI.2.2.1 dX0_init_33
theorem c_X0_init : CtMet yX0_init cX0_init 1 0 65 4 3 60 1 20 mm0 := ct_met (by decide) rfl (by decide) rfl r_X0_init
set_option maxHeartbeats 4000000 in
set_option maxRecDepth 100000 in
theorem r_X1_init : CtRun RX1 cX1_init 1 1 77 2 1 64 1 20 mm0 := by
  intro p l e R s m args below meth c0 g A h0 ls Q C hl hI hfr hlo hmc hms hret
  have hI : CtI g A s.heap h0 1 [.null, .int (iI 0), .int (iI 0)] [] s.heap [] := hI
  refine ct_aload C hl 0 rfl dX1_init_0 ?_
  refine ct_obj C hl.1 oi_X1 (by omega) (by omega) (Nat.le_of_ble_eq_true rfl) dX1_init_1 ?_
  refine ct_aload C hl 0 rfl dX1_init_4 ?_
  refine ct_bipush C dX1_init_5 (by decide) ?_
  refine ct_newa (t := 0) (n := 64) C rfl ac_int (by decide) rfl rfl rfl (by decide) (by decide) (by omega) (by omega) dX1_init_7 hI (fun q1 H hI => ?_)
  refine ct_putF C fc_X1_11 rfl rfl dX1_init_9 hI (fun H locs hI => ?_)
  refine ct_aload C hl 0 rfl dX1_init_12 ?_
  refine ct_iconst C dX1_init_13 ?_
  refine ct_put C fp_X1_15 rfl rfl dX1_init_14 hI (fun H locs hI => ?_)
  refine ct_aload C hl 0 rfl dX1_init_17 ?_
  refine ct_ldc (z := 1000000) C kc_X1_19 (by decide) dX1_init_18 ?_
  refine ct_put C fp_X1_20 rfl rfl dX1_init_20 hI (fun H locs hI => ?_)
  have hI : CtI g A s.heap h0 1 [.ref q1, .int (iI (-1)), .int (iI (1000000))] _ H locs := hI
  refine W.widen (k := 1) (n := 64) (by omega) (by omega) ?_
  exact hret (fun k => [h0, q1].getD (k - 77) 0) 23 H locs ls rfl hI.1 hI.2.1 hI.2.2.1 dX1_init_23
theorem c_X1_init : CtMet yX1_init cX1_init 1 1 77 2 1 64 1 20 mm0 := ct_met (by decide) rfl (by decide) rfl r_X1_init
set_option maxHeartbeats 4000000 in
set_option maxRecDepth 100000 in
theorem r_X2_init (cb : Nat) (hcb : cb = 3 ∨ cb = 20) : CtRun RX2 cX2_init 1 2 cb 17 16 112 1 20 mm0 := by
  intro p l e R s m args below meth c0 g A h0 ls Q C hl hI hfr hlo hmc hms hret
  have hI : CtI g A s.heap h0 2 [.int (iI 0), .int (iI 0), .int (iI 0), .int (iI 0), .null, .null, .null, .null, .null, .null, .null, .null, .null, .null, .null, .null, .null, .null, .null, .null] [] s.heap [] := hI
  refine ct_aload C hl 0 rfl dX2_init_0 ?_
  refine ct_obj C hl.1 oi_X2 (by omega) (by omega) (Nat.le_of_ble_eq_true rfl) dX2_init_1 ?_
  refine ct_aload C hl 0 rfl dX2_init_4 ?_
  refine ct_bipush C dX2_init_5 (by decide) ?_
  refine ct_newa (t := 0) (n := 8) C rfl ac_int (by decide) rfl rfl rfl (by decide) (by decide) (by omega) (by omega) dX2_init_7 hI (fun q1 H hI => ?_)
  refine ct_putF C fc_X2_9 rfl rfl dX2_init_9 hI (fun H locs hI => ?_)
  refine ct_aload C hl 0 rfl dX2_init_12 ?_
  refine ct_bipush C dX2_init_13 (by decide) ?_
  refine ct_newa (t := 0) (n := 8) C rfl ac_int (by decide) rfl rfl rfl (by decide) (by decide) (by omega) (by omega) dX2_init_15 hI (fun q2 H hI => ?_)
  refine ct_putF C fc_X2_15 rfl rfl dX2_init_17 hI (fun H locs hI => ?_)
  refine ct_aload C hl 0 rfl dX2_init_20 ?_
  refine ct_bipush C dX2_init_21 (by decide) ?_
  refine ct_newa (t := 0) (n := 8) C rfl ac_int (by decide) rfl rfl rfl (by decide) (by decide) (by omega) (by omega) dX2_init_23 hI (fun q3 H hI => ?_)
  refine ct_putF C fc_X2_18 rfl rfl dX2_init_25 hI (fun H locs hI => ?_)
  refine ct_aload C hl 0 rfl dX2_init_28 ?_
  refine ct_bipush C dX2_init_29 (by decide) ?_
  refine ct_newa (t := 0) (n := 8) C rfl ac_int (by decide) rfl rfl rfl (by decide) (by decide) (by omega) (by omega) dX2_init_31 hI (fun q4 H hI => ?_)
  refine ct_putF C fc_X2_21 rfl rfl dX2_init_33 hI (fun H locs hI => ?_)
  refine ct_aload C hl 0 rfl dX2_init_36 ?_
  refine ct_bipush C dX2_init_37 (by decide) ?_
  refine ct_newa (t := 0) (n := 12) C rfl ac_int (by decide) rfl rfl rfl (by decide) (by decide) (by omega) (by omega) dX2_init_39 hI (fun q5 H hI => ?_)
  refine ct_putF C fc_X2_24 rfl rfl dX2_init_41 hI (fun H locs hI => ?_)
  refine ct_aload C hl 0 rfl dX2_init_44 ?_
  refine ct_bipush C dX2_init_45 (by decide) ?_
  refine ct_newa (t := 0) (n := 12) C rfl ac_int (by decide) rfl rfl rfl (by decide) (by decide) (by omega) (by omega) dX2_init_47 hI (fun q6 H hI => ?_)
  refine ct_putF C fc_X2_27 rfl rfl dX2_init_49 hI (fun H locs hI => ?_)
  have hI : CtI g A s.heap h0 2 [.int (iI 0), .int (iI 0), .int (iI 0), .int (iI 0), .ref q1, .ref q2, .ref q3, .ref q4, .ref q5, .ref q6, .null, .null, .null, .null, .null, .null, .null, .null, .null, .null] _ H locs := hI
  refine ct_aload C hl 0 rfl dX2_init_52 ?_
  refine ct_bipush C dX2_init_53 (by decide) ?_
  refine ct_newa (t := 0) (n := 12) C rfl ac_int (by decide) rfl rfl rfl (by decide) (by decide) (by omega) (by omega) dX2_init_55 hI (fun q7 H hI => ?_)
  refine ct_putF C fc_X2_30 rfl rfl dX2_init_57 hI (fun H locs hI => ?_)
  refine ct_aload C hl 0 rfl dX2_init_60 ?_
  refine ct_bipush C dX2_init_61 (by decide) ?_
  refine ct_newa (t := 0) (n := 12) C rfl ac_int (by decide) rfl rfl rfl (by decide) (by decide) (by omega) (by omega) dX2_init_63 hI (fun q8 H hI => ?_)
  refine ct_putF C fc_X2_33 rfl rfl dX2_init_65 hI (fun H locs hI => ?_)
  refine ct_aload C hl 0 rfl dX2_init_68 ?_
  refine ct_iconst C dX2_init_69 ?_
  refine ct_newa (t := 0) (n := 4) C rfl ac_int (by decide) rfl rfl rfl (by decide) (by decide) (by omega) (by omega) dX2_init_70 hI (fun q9 H hI => ?_)
  refine ct_putF C fc_X2_36 rfl rfl dX2_init_72 hI (fun H locs hI => ?_)
  refine ct_aload C hl 0 rfl dX2_init_75 ?_
  refine ct_iconst C dX2_init_76 ?_
  refine ct_newa (t := 0) (n := 4) C rfl ac_int (by decide) rfl rfl rfl (by decide) (by decide) (by omega) (by omega) dX2_init_77 hI (fun q10 H hI => ?_)
  refine ct_putF C fc_X2_39 rfl rfl dX2_init_79 hI (fun H locs hI => ?_)
  refine ct_aload C hl 0 rfl dX2_init_82 ?_
  refine ct_iconst C dX2_init_83 ?_
  refine ct_newa (t := 0) (n := 4) C rfl ac_int (by decide) rfl rfl rfl (by decide) (by decide) (by omega) (by omega) dX2_init_84 hI (fun q11 H hI => ?_)
  refine ct_putF C fc_X2_42 rfl rfl dX2_init_86 hI (fun H locs hI => ?_)
  refine ct_aload C hl 0 rfl dX2_init_89 ?_
  refine ct_iconst C dX2_init_90 ?_
  refine ct_newa (t := 0) (n := 4) C rfl ac_int (by decide) rfl rfl rfl (by decide) (by decide) (by omega) (by omega) dX2_init_91 hI (fun q12 H hI => ?_)
  refine ct_putF C fc_X2_45 rfl rfl dX2_init_93 hI (fun H locs hI => ?_)
  have hI : CtI g A s.heap h0 2 [.int (iI 0), .int (iI 0), .int (iI 0), .int (iI 0), .ref q1, .ref q2, .ref q3, .ref q4, .ref q5, .ref q6, .ref q7, .ref q8, .ref q9, .ref q10, .ref q11, .ref q12, .null, .null, .null, .null] _ H locs := hI
  refine ct_aload C hl 0 rfl dX2_init_96 ?_
  refine ct_iconst C dX2_init_97 ?_
  refine ct_newa (t := 0) (n := 4) C rfl ac_int (by decide) rfl rfl rfl (by decide) (by decide) (by omega) (by omega) dX2_init_98 hI (fun q13 H hI => ?_)
  refine ct_putF C fc_X2_48 rfl rfl dX2_init_100 hI (fun H locs hI => ?_)
  refine ct_aload C hl 0 rfl dX2_init_103 ?_
  refine ct_iconst C dX2_init_104 ?_
  refine ct_newa (t := 0) (n := 4) C rfl ac_int (by decide) rfl rfl rfl (by decide) (by decide) (by omega) (by omega) dX2_init_105 hI (fun q14 H hI => ?_)
  refine ct_putF C fc_X2_51 rfl rfl dX2_init_107 hI (fun H locs hI => ?_)
  refine ct_aload C hl 0 rfl dX2_init_110 ?_
  refine ct_iconst C dX2_init_111 ?_
  refine ct_newa (t := 0) (n := 4) C rfl ac_int (by decide) rfl rfl rfl (by decide) (by decide) (by omega) (by omega) dX2_init_112 hI (fun q15 H hI => ?_)
  refine ct_putF C fc_X2_54 rfl rfl dX2_init_114 hI (fun H locs hI => ?_)
  refine ct_aload C hl 0 rfl dX2_init_117 ?_
  refine ct_iconst C dX2_init_118 ?_
  refine ct_newa (t := 0) (n := 4) C rfl ac_int (by decide) rfl rfl rfl (by decide) (by decide) (by omega) (by omega) dX2_init_119 hI (fun q16 H hI => ?_)
  refine ct_putF C fc_X2_57 rfl rfl dX2_init_121 hI (fun H locs hI => ?_)
  have hI : CtI g A s.heap h0 2 [.int (iI 0), .int (iI 0), .int (iI 0), .int (iI 0), .ref q1, .ref q2, .ref q3, .ref q4, .ref q5, .ref q6, .ref q7, .ref q8, .ref q9, .ref q10, .ref q11, .ref q12, .ref q13, .ref q14, .ref q15, .ref q16] _ H locs := hI
  refine W.widen (k := 16) (n := 112) (by omega) (by omega) ?_
  rcases hcb with rfl | rfl
  · exact hret (fun k => [h0, q1, q2, q3, q4, q5, q6, q7, q8, q9, q10, q11, q12, q13, q14, q15, q16].getD (k - 3) 0) 124 H locs ls rfl hI.1 hI.2.1 hI.2.2.1 dX2_init_124
  · exact hret (fun k => [h0, q1, q2, q3, q4, q5, q6, q7, q8, q9, q10, q11, q12, q13, q14, q15, q16].getD (k - 20) 0) 124 H locs ls rfl hI.1 hI.2.1 hI.2.2.1 dX2_init_124
theorem c_X2_init (cb : Nat) (hcb : cb = 3 ∨ cb = 20) : CtMet yX2_init cX2_init 1 2 cb 17 16 112 1 20 mm0 := ct_met (by decide) rfl (by decide) rfl (r_X2_init cb hcb)
set_option maxHeartbeats 4000000 in
set_option maxRecDepth 100000 in
theorem r_X3_init : CtRun RX3 cX3_init 1 3 1 2 1 500 1 20 mm0 := by
  intro p l e R s m args below meth c0 g A h0 ls Q C hl hI hfr hlo hmc hms hret
  have hI : CtI g A s.heap h0 3 [.null, .int (iI 0), .int (iI 0), .int (iI 0), .int (iI 0), .int (iI 0), .int (iI 0)] [] s.heap [] := hI
  refine ct_aload C hl 0 rfl dX3_init_0 ?_
  refine ct_obj C hl.1 oi_X3 (by omega) (by omega) (Nat.le_of_ble_eq_true rfl) dX3_init_1 ?_
  refine ct_aload C hl 0 rfl dX3_init_4 ?_
  refine ct_sipush C dX3_init_5 (by decide) ?_
  refine ct_newa (t := 1) (n := 500) C rfl ac_byte (by decide) rfl rfl rfl (by decide) (by decide) (by omega) (by omega) dX3_init_8 hI (fun q1 H hI => ?_)
  refine ct_putF C fc_X3_9 rfl rfl dX3_init_10 hI (fun H locs hI => ?_)
  refine ct_aload C hl 0 rfl dX3_init_13 ?_
  refine ct_iconst C dX3_init_14 ?_
  refine ct_put C fp_X3_15 rfl rfl dX3_init_15 hI (fun H locs hI => ?_)
  refine ct_aload C hl 0 rfl dX3_init_18 ?_
  refine ct_iconst C dX3_init_19 ?_
  refine ct_put C fp_X3_19 rfl rfl dX3_init_20 hI (fun H locs hI => ?_)
  refine ct_aload C hl 0 rfl dX3_init_23 ?_
  refine ct_iconst C dX3_init_24 ?_
  refine ct_put C fp_X3_22 rfl rfl dX3_init_25 hI (fun H locs hI => ?_)
  refine ct_aload C hl 0 rfl dX3_init_28 ?_
  refine ct_iconst C dX3_init_29 ?_
  refine ct_put C fp_X3_25 rfl rfl dX3_init_30 hI (fun H locs hI => ?_)
  refine ct_aload C hl 0 rfl dX3_init_33 ?_
  refine ct_iconst C dX3_init_34 ?_
  refine ct_put C fp_X3_28 rfl rfl dX3_init_35 hI (fun H locs hI => ?_)
  have hI : CtI g A s.heap h0 3 [.ref q1, .int (iI (0)), .int (iI (0)), .int (iI (-1)), .int (iI (0)), .int (iI (0)), .int (iI 0)] _ H locs := hI
  refine ct_aload C hl 0 rfl dX3_init_38 ?_
  refine ct_iconst C dX3_init_39 ?_
  refine ct_put C fp_X3_31 rfl rfl dX3_init_40 hI (fun H locs hI => ?_)
  have hI : CtI g A s.heap h0 3 [.ref q1, .int (iI (0)), .int (iI (0)), .int (iI (-1)), .int (iI (0)), .int (iI (0)), .int (iI (0))] _ H locs := hI
  refine W.widen (k := 1) (n := 500) (by omega) (by omega) ?_
  exact hret (fun k => [h0, q1].getD (k - 1) 0) 43 H locs ls rfl hI.1 hI.2.1 hI.2.2.1 dX3_init_43
theorem c_X3_init : CtMet yX3_init cX3_init 1 3 1 2 1 500 1 20 mm0 := ct_met (by decide) rfl (by decide) rfl r_X3_init
set_option maxHeartbeats 4000000 in
set_option maxRecDepth 100000 in
theorem r_X4_init : CtRun RX4 cX4_init 1 4 72 5 4 3080 1 20 mm0 := by
  intro p l e R s m args below meth c0 g A h0 ls Q C hl hI hfr hlo hmc hms hret
  have hI : CtI g A s.heap h0 4 [.null, .null, .null, .null] [] s.heap [] := hI
  refine ct_aload C hl 0 rfl dX4_init_0 ?_
  refine ct_obj C hl.1 oi_X4 (by omega) (by omega) (Nat.le_of_ble_eq_true rfl) dX4_init_1 ?_
  refine ct_aload C hl 0 rfl dX4_init_4 ?_
  refine ct_iconst C dX4_init_5 ?_
  refine ct_newa (t := 0) (n := 4) C rfl ac_int (by decide) rfl rfl rfl (by decide) (by decide) (by omega) (by omega) dX4_init_6 hI (fun q1 H hI => ?_)
  refine ct_putF C fc_X4_9 rfl rfl dX4_init_8 hI (fun H locs hI => ?_)
  refine ct_aload C hl 0 rfl dX4_init_11 ?_
  refine ct_iconst C dX4_init_12 ?_
  refine ct_newa (t := 0) (n := 4) C rfl ac_int (by decide) rfl rfl rfl (by decide) (by decide) (by omega) (by omega) dX4_init_13 hI (fun q2 H hI => ?_)
  refine ct_putF C fc_X4_15 rfl rfl dX4_init_15 hI (fun H locs hI => ?_)
  refine ct_aload C hl 0 rfl dX4_init_18 ?_
  refine ct_sipush C dX4_init_19 (by decide) ?_
  refine ct_newa (t := 0) (n := 1024) C rfl ac_int (by decide) rfl rfl rfl (by decide) (by decide) (by omega) (by omega) dX4_init_22 hI (fun q3 H hI => ?_)
  refine ct_putF C fc_X4_18 rfl rfl dX4_init_24 hI (fun H locs hI => ?_)
  refine ct_aload C hl 0 rfl dX4_init_27 ?_
  refine ct_sipush C dX4_init_28 (by decide) ?_
  refine ct_newa (t := 0) (n := 2048) C rfl ac_int (by decide) rfl rfl rfl (by decide) (by decide) (by omega) (by omega) dX4_init_31 hI (fun q4 H hI => ?_)
  refine ct_putF C fc_X4_21 rfl rfl dX4_init_33 hI (fun H locs hI => ?_)
  have hI : CtI g A s.heap h0 4 [.ref q1, .ref q2, .ref q3, .ref q4] _ H locs := hI
  refine W.widen (k := 4) (n := 3080) (by omega) (by omega) ?_
  exact hret (fun k => [h0, q1, q2, q3, q4].getD (k - 72) 0) 36 H locs ls rfl hI.1 hI.2.1 hI.2.2.1 dX4_init_36
theorem c_X4_init : CtMet yX4_init cX4_init 1 4 72 5 4 3080 1 20 mm0 := ct_met (by decide) rfl (by decide) rfl r_X4_init
set_option maxHeartbeats 4000000 in
set_option maxRecDepth 100000 in
theorem r_X5_init (cb : Nat) (hcb : cb = 37 ∨ cb = 47 ∨ cb = 56) : CtRun RX5 cX5_init 1 5 cb 9 8 432 1 20 mm0 := by
  intro p l e R s m args below meth c0 g A h0 ls Q C hl hI hfr hlo hmc hms hret
  have hI : CtI g A s.heap h0 5 [.int (iI 0), .int (iI 0), .int (iI 0), .int (iI 0), .int (iI 0), .int (iI 0), .int (iI 0), .null, .null, .null, .null, .null, .null, .null, .null] [] s.heap [] := hI
  refine ct_aload C hl 0 rfl dX5_init_0 ?_
  refine ct_obj C hl.1 oi_X5 (by omega) (by omega) (Nat.le_of_ble_eq_true rfl) dX5_init_1 ?_
  refine ct_aload C hl 0 rfl dX5_init_4 ?_
  refine ct_bipush C dX5_init_5 (by decide) ?_
  refine ct_newa (t := 0) (n := 12) C rfl ac_int (by decide) rfl rfl rfl (by decide) (by decide) (by omega) (by omega) dX5_init_7 hI (fun q1 H hI => ?_)
  refine ct_putF C fc_X5_9 rfl rfl dX5_init_9 hI (fun H locs hI => ?_)
  refine ct_aload C hl 0 rfl dX5_init_12 ?_
  refine ct_iconst C dX5_init_13 ?_
  refine ct_newa (t := 0) (n := 4) C rfl ac_int (by decide) rfl rfl rfl (by decide) (by decide) (by omega) (by omega) dX5_init_14 hI (fun q2 H hI => ?_)
  refine ct_putF C fc_X5_15 rfl rfl dX5_init_16 hI (fun H locs hI => ?_)
  refine ct_aload C hl 0 rfl dX5_init_19 ?_
  refine ct_iconst C dX5_init_20 ?_
  refine ct_newa (t := 0) (n := 4) C rfl ac_int (by decide) rfl rfl rfl (by decide) (by decide) (by omega) (by omega) dX5_init_21 hI (fun q3 H hI => ?_)
  refine ct_putF C fc_X5_18 rfl rfl dX5_init_23 hI (fun H locs hI => ?_)
  refine ct_aload C hl 0 rfl dX5_init_26 ?_
  refine ct_iconst C dX5_init_27 ?_
  refine ct_newa (t := 0) (n := 4) C rfl ac_int (by decide) rfl rfl rfl (by decide) (by decide) (by omega) (by omega) dX5_init_28 hI (fun q4 H hI => ?_)
  refine ct_putF C fc_X5_21 rfl rfl dX5_init_30 hI (fun H locs hI => ?_)
  refine ct_aload C hl 0 rfl dX5_init_33 ?_
  refine ct_iconst C dX5_init_34 ?_
  refine ct_newa (t := 0) (n := 4) C rfl ac_int (by decide) rfl rfl rfl (by decide) (by decide) (by omega) (by omega) dX5_init_35 hI (fun q5 H hI => ?_)
  refine ct_putF C fc_X5_24 rfl rfl dX5_init_37 hI (fun H locs hI => ?_)
  refine ct_aload C hl 0 rfl dX5_init_40 ?_
  refine ct_iconst C dX5_init_41 ?_
  refine ct_newa (t := 0) (n := 4) C rfl ac_int (by decide) rfl rfl rfl (by decide) (by decide) (by omega) (by omega) dX5_init_42 hI (fun q6 H hI => ?_)
  refine ct_putF C fc_X5_27 rfl rfl dX5_init_44 hI (fun H locs hI => ?_)
  have hI : CtI g A s.heap h0 5 [.int (iI 0), .int (iI 0), .int (iI 0), .int (iI 0), .int (iI 0), .int (iI 0), .int (iI 0), .ref q1, .ref q2, .ref q3, .ref q4, .ref q5, .ref q6, .null, .null] _ H locs := hI
  refine ct_aload C hl 0 rfl dX5_init_47 ?_
  refine ct_sipush C dX5_init_48 (by decide) ?_
  refine ct_newa (t := 0) (n := 200) C rfl ac_int (by decide) rfl rfl rfl (by decide) (by decide) (by omega) (by omega) dX5_init_51 hI (fun q7 H hI => ?_)
  refine ct_putF C fc_X5_30 rfl rfl dX5_init_53 hI (fun H locs hI => ?_)
  refine ct_aload C hl 0 rfl dX5_init_56 ?_
  refine ct_sipush C dX5_init_57 (by decide) ?_
  refine ct_newa (t := 0) (n := 200) C rfl ac_int (by decide) rfl rfl rfl (by decide) (by decide) (by omega) (by omega) dX5_init_60 hI (fun q8 H hI => ?_)
  refine ct_putF C fc_X5_33 rfl rfl dX5_init_62 hI (fun H locs hI => ?_)
  have hI : CtI g A s.heap h0 5 [.int (iI 0), .int (iI 0), .int (iI 0), .int (iI 0), .int (iI 0), .int (iI 0), .int (iI 0), .ref q1, .ref q2, .ref q3, .ref q4, .ref q5, .ref q6, .ref q7, .ref q8] _ H locs := hI
  refine W.widen (k := 8) (n := 432) (by omega) (by omega) ?_
  rcases hcb with rfl | rfl | rfl
  · exact hret (fun k => [h0, q1, q2, q3, q4, q5, q6, q7, q8].getD (k - 37) 0) 65 H locs ls rfl hI.1 hI.2.1 hI.2.2.1 dX5_init_65
  · exact hret (fun k => [h0, q1, q2, q3, q4, q5, q6, q7, q8].getD (k - 47) 0) 65 H locs ls rfl hI.1 hI.2.1 hI.2.2.1 dX5_init_65
  · exact hret (fun k => [h0, q1, q2, q3, q4, q5, q6, q7, q8].getD (k - 56) 0) 65 H locs ls rfl hI.1 hI.2.1 hI.2.2.1 dX5_init_65
theorem c_X5_init (cb : Nat) (hcb : cb = 37 ∨ cb = 47 ∨ cb = 56) : CtMet yX5_init cX5_init 1 5 cb 9 8 432 1 20 mm0 := ct_met (by decide) rfl (by decide) rfl (r_X5_init cb hcb)
set_option maxHeartbeats 4000000 in
set_option maxRecDepth 100000 in
theorem r_X6_init : CtRun RX6 cX6_init 1 6 69 3 2 76 1 20 mm0 := by
  intro p l e R s m args below meth c0 g A h0 ls Q C hl hI hfr hlo hmc hms hret
  have hI : CtI g A s.heap h0 6 [.null, .null, .int (iI 0)] [] s.heap [] := hI
  refine ct_aload C hl 0 rfl dX6_init_0 ?_
  refine ct_obj C hl.1 oi_X6 (by omega) (by omega) (Nat.le_of_ble_eq_true rfl) dX6_init_1 ?_
  refine ct_aload C hl 0 rfl dX6_init_4 ?_
  refine ct_bipush C dX6_init_5 (by decide) ?_
  refine ct_newa (t := 0) (n := 12) C rfl ac_int (by decide) rfl rfl rfl (by decide) (by decide) (by omega) (by omega) dX6_init_7 hI (fun q1 H hI => ?_)
  refine ct_putF C fc_X6_9 rfl rfl dX6_init_9 hI (fun H locs hI => ?_)
  refine ct_aload C hl 0 rfl dX6_init_12 ?_
  refine ct_bipush C dX6_init_13 (by decide) ?_
  refine ct_newa (t := 0) (n := 64) C rfl ac_int (by decide) rfl rfl rfl (by decide) (by decide) (by omega) (by omega) dX6_init_15 hI (fun q2 H hI => ?_)
  refine ct_putF C fc_X6_15 rfl rfl dX6_init_17 hI (fun H locs hI => ?_)
  refine ct_aload C hl 0 rfl dX6_init_20 ?_
  refine ct_iconst C dX6_init_21 ?_
  refine ct_put C fp_X6_18 rfl rfl dX6_init_22 hI (fun H locs hI => ?_)
  have hI : CtI g A s.heap h0 6 [.ref q1, .ref q2, .int (iI (0))] _ H locs := hI
  refine W.widen (k := 2) (n := 76) (by omega) (by omega) ?_
  exact hret (fun k => [h0, q1, q2].getD (k - 69) 0) 25 H locs ls rfl hI.1 hI.2.1 hI.2.2.1 dX6_init_25
theorem c_X6_init : CtMet yX6_init cX6_init 1 6 69 3 2 76 1 20 mm0 := ct_met (by decide) rfl (by decide) rfl r_X6_init
set_option maxHeartbeats 4000000 in
set_option maxRecDepth 100000 in
theorem r_X8_init : CtRun RX8 cX8_init 1 8 79 55 54 3026 1 20 mm0 := by
  intro p l e R s m args below meth c0 g A h0 ls Q C hl hI hfr hlo hmc hms hret
  have hI : CtI g A s.heap h0 8 [.int (iI 0), .null, .null, .null, .int (iI 0), .null, .null, .null, .null, .int (iI 0), .null, .null, .null, .int (iI 0), .null, .null, .null, .null, .null, .null, .null, .null, .null, .null, .null, .null, .null, .null, .null, .int (iI 0), .int (iI 0), .int (iI 0), .null, .null, .int (iI 0), .null, .int (iI 0), .int (iI 0), .int (iI 0), .long (lI 0), .int (iI 0), .int (iI 0), .int (iI 0), .int (iI 0), .null, .null, .null, .int (iI 0), .null, .null, .null, .null, .int (iI 0), .null, .null, .null, .int (iI 0), .null, .null, .null, .null, .null, .null, .null, .null, .null, .null, .null, .int (iI 0), .null, .null, .null, .null, .null] [] s.heap [] := hI
  refine ct_aload C hl 0 rfl dX8_init_0 ?_
  refine ct_obj C hl.1 oi_X8 (by omega) (by omega) (Nat.le_of_ble_eq_true rfl) dX8_init_1 ?_
  refine ct_aload C hl 0 rfl dX8_init_4 ?_
  refine ct_bipush C dX8_init_5 (by decide) ?_
  refine ct_newa (t := 0) (n := 8) C rfl ac_int (by decide) rfl rfl rfl (by decide) (by decide) (by omega) (by omega) dX8_init_7 hI (fun q1 H hI => ?_)
  refine ct_putF C fc_X8_7 rfl rfl dX8_init_9 hI (fun H locs hI => ?_)
  refine ct_aload C hl 0 rfl dX8_init_12 ?_
  refine ct_bipush C dX8_init_13 (by decide) ?_
  refine ct_newa (t := 0) (n := 8) C rfl ac_int (by decide) rfl rfl rfl (by decide) (by decide) (by omega) (by omega) dX8_init_15 hI (fun q2 H hI => ?_)
  refine ct_putF C fc_X8_13 rfl rfl dX8_init_17 hI (fun H locs hI => ?_)
  refine ct_aload C hl 0 rfl dX8_init_20 ?_
  refine ct_bipush C dX8_init_21 (by decide) ?_
  refine ct_newa (t := 0) (n := 8) C rfl ac_int (by decide) rfl rfl rfl (by decide) (by decide) (by omega) (by omega) dX8_init_23 hI (fun q3 H hI => ?_)
  refine ct_putF C fc_X8_16 rfl rfl dX8_init_25 hI (fun H locs hI => ?_)
  refine ct_aload C hl 0 rfl dX8_init_28 ?_
  refine ct_bipush C dX8_init_29 (by decide) ?_
  refine ct_newa (t := 0) (n := 12) C rfl ac_int (by decide) rfl rfl rfl (by decide) (by decide) (by omega) (by omega) dX8_init_31 hI (fun q4 H hI => ?_)
  refine ct_putF C fc_X8_19 rfl rfl dX8_init_33 hI (fun H locs hI => ?_)
  refine ct_aload C hl 0 rfl dX8_init_36 ?_
  refine ct_bipush C dX8_init_37 (by decide) ?_
  refine ct_newa (t := 0) (n := 12) C rfl ac_int (by decide) rfl rfl rfl (by decide) (by decide) (by omega) (by omega) dX8_init_39 hI (fun q5 H hI => ?_)
  refine ct_putF C fc_X8_22 rfl rfl dX8_init_41 hI (fun H locs hI => ?_)
  refine ct_aload C hl 0 rfl dX8_init_44 ?_
  refine ct_bipush C dX8_init_45 (by decide) ?_
  refine ct_newa (t := 0) (n := 12) C rfl ac_int (by decide) rfl rfl rfl (by decide) (by decide) (by omega) (by omega) dX8_init_47 hI (fun q6 H hI => ?_)
  refine ct_putF C fc_X8_25 rfl rfl dX8_init_49 hI (fun H locs hI => ?_)
  have hI : CtI g A s.heap h0 8 [.int (iI 0), .ref q1, .ref q2, .ref q3, .int (iI 0), .ref q4, .ref q5, .ref q6, .null, .int (iI 0), .null, .null, .null, .int (iI 0), .null, .null, .null, .null, .null, .null, .null, .null, .null, .null, .null, .null, .null, .null, .null, .int (iI 0), .int (iI 0), .int (iI 0), .null, .null, .int (iI 0), .null, .int (iI 0), .int (iI 0), .int (iI 0), .long (lI 0), .int (iI 0), .int (iI 0), .int (iI 0), .int (iI 0), .null, .null, .null, .int (iI 0), .null, .null, .null, .null, .int (iI 0), .null, .null, .null, .int (iI 0), .null, .null, .null, .null, .null, .null, .null, .null, .null, .null, .null, .int (iI 0), .null, .null, .null, .null, .null] _ H locs := hI
  refine ct_aload C hl 0 rfl dX8_init_52 ?_
  refine ct_bipush C dX8_init_53 (by decide) ?_
  refine ct_newa (t := 0) (n := 12) C rfl ac_int (by decide) rfl rfl rfl (by decide) (by decide) (by omega) (by omega) dX8_init_55 hI (fun q7 H hI => ?_)
  refine ct_putF C fc_X8_28 rfl rfl dX8_init_57 hI (fun H locs hI => ?_)
  refine ct_aload C hl 0 rfl dX8_init_60 ?_
  refine ct_iconst C dX8_init_61 ?_
  refine ct_newa (t := 0) (n := 4) C rfl ac_int (by decide) rfl rfl rfl (by decide) (by decide) (by omega) (by omega) dX8_init_62 hI (fun q8 H hI => ?_)
  refine ct_putF C fc_X8_31 rfl rfl dX8_init_64 hI (fun H locs hI => ?_)
  refine ct_aload C hl 0 rfl dX8_init_67 ?_
  refine ct_iconst C dX8_init_68 ?_
  refine ct_newa (t := 0) (n := 4) C rfl ac_int (by decide) rfl rfl rfl (by decide) (by decide) (by omega) (by omega) dX8_init_69 hI (fun q9 H hI => ?_)
  refine ct_putF C fc_X8_34 rfl rfl dX8_init_71 hI (fun H locs hI => ?_)
  refine ct_aload C hl 0 rfl dX8_init_74 ?_
  refine ct_iconst C dX8_init_75 ?_
  refine ct_newa (t := 0) (n := 4) C rfl ac_int (by decide) rfl rfl rfl (by decide) (by decide) (by omega) (by omega) dX8_init_76 hI (fun q10 H hI => ?_)
  refine ct_putF C fc_X8_37 rfl rfl dX8_init_78 hI (fun H locs hI => ?_)
  refine ct_aload C hl 0 rfl dX8_init_81 ?_
  refine ct_iconst C dX8_init_82 ?_
  refine ct_newa (t := 0) (n := 4) C rfl ac_int (by decide) rfl rfl rfl (by decide) (by decide) (by omega) (by omega) dX8_init_83 hI (fun q11 H hI => ?_)
  refine ct_putF C fc_X8_40 rfl rfl dX8_init_85 hI (fun H locs hI => ?_)
  refine ct_aload C hl 0 rfl dX8_init_88 ?_
  refine ct_iconst C dX8_init_89 ?_
  refine ct_newa (t := 0) (n := 4) C rfl ac_int (by decide) rfl rfl rfl (by decide) (by decide) (by omega) (by omega) dX8_init_90 hI (fun q12 H hI => ?_)
  refine ct_putF C fc_X8_43 rfl rfl dX8_init_92 hI (fun H locs hI => ?_)
  have hI : CtI g A s.heap h0 8 [.int (iI 0), .ref q1, .ref q2, .ref q3, .int (iI 0), .ref q4, .ref q5, .ref q6, .ref q7, .int (iI 0), .ref q8, .ref q9, .ref q10, .int (iI 0), .ref q11, .ref q12, .null, .null, .null, .null, .null, .null, .null, .null, .null, .null, .null, .null, .null, .int (iI 0), .int (iI 0), .int (iI 0), .null, .null, .int (iI 0), .null, .int (iI 0), .int (iI 0), .int (iI 0), .long (lI 0), .int (iI 0), .int (iI 0), .int (iI 0), .int (iI 0), .null, .null, .null, .int (iI 0), .null, .null, .null, .null, .int (iI 0), .null, .null, .null, .int (iI 0), .null, .null, .null, .null, .null, .null, .null, .null, .null, .null, .null, .int (iI 0), .null, .null, .null, .null, .null] _ H locs := hI
  refine ct_aload C hl 0 rfl dX8_init_95 ?_
  refine ct_iconst C dX8_init_96 ?_
  refine ct_newa (t := 0) (n := 4) C rfl ac_int (by decide) rfl rfl rfl (by decide) (by decide) (by omega) (by omega) dX8_init_97 hI (fun q13 H hI => ?_)
  refine ct_putF C fc_X8_46 rfl rfl dX8_init_99 hI (fun H locs hI => ?_)
  refine ct_aload C hl 0 rfl dX8_init_102 ?_
  refine ct_iconst C dX8_init_103 ?_
  refine ct_newa (t := 0) (n := 4) C rfl ac_int (by decide) rfl rfl rfl (by decide) (by decide) (by omega) (by omega) dX8_init_104 hI (fun q14 H hI => ?_)
  refine ct_putF C fc_X8_49 rfl rfl dX8_init_106 hI (fun H locs hI => ?_)
  refine ct_aload C hl 0 rfl dX8_init_109 ?_
  refine ct_iconst C dX8_init_110 ?_
  refine ct_newa (t := 0) (n := 4) C rfl ac_int (by decide) rfl rfl rfl (by decide) (by decide) (by omega) (by omega) dX8_init_111 hI (fun q15 H hI => ?_)
  refine ct_putF C fc_X8_52 rfl rfl dX8_init_113 hI (fun H locs hI => ?_)
  refine ct_aload C hl 0 rfl dX8_init_116 ?_
  refine ct_bipush C dX8_init_117 (by decide) ?_
  refine ct_newa (t := 0) (n := 12) C rfl ac_int (by decide) rfl rfl rfl (by decide) (by decide) (by omega) (by omega) dX8_init_119 hI (fun q16 H hI => ?_)
  refine ct_putF C fc_X8_55 rfl rfl dX8_init_121 hI (fun H locs hI => ?_)
  refine ct_aload C hl 0 rfl dX8_init_124 ?_
  refine ct_bipush C dX8_init_125 (by decide) ?_
  refine ct_newa (t := 2) (n := 12) C rfl ac_boolean (by decide) rfl rfl rfl (by decide) (by decide) (by omega) (by omega) dX8_init_127 hI (fun q17 H hI => ?_)
  refine ct_putF C fc_X8_58 rfl rfl dX8_init_129 hI (fun H locs hI => ?_)
  refine ct_aload C hl 0 rfl dX8_init_132 ?_
  refine ct_bipush C dX8_init_133 (by decide) ?_
  refine ct_newa (t := 2) (n := 12) C rfl ac_boolean (by decide) rfl rfl rfl (by decide) (by decide) (by omega) (by omega) dX8_init_135 hI (fun q18 H hI => ?_)
  refine ct_putF C fc_X8_62 rfl rfl dX8_init_137 hI (fun H locs hI => ?_)
  have hI : CtI g A s.heap h0 8 [.int (iI 0), .ref q1, .ref q2, .ref q3, .int (iI 0), .ref q4, .ref q5, .ref q6, .ref q7, .int (iI 0), .ref q8, .ref q9, .ref q10, .int (iI 0), .ref q11, .ref q12, .ref q13, .ref q14, .ref q15, .ref q16, .ref q17, .ref q18, .null, .null, .null, .null, .null, .null, .null, .int (iI 0), .int (iI 0), .int (iI 0), .null, .null, .int (iI 0), .null, .int (iI 0), .int (iI 0), .int (iI 0), .long (lI 0), .int (iI 0), .int (iI 0), .int (iI 0), .int (iI 0), .null, .null, .null, .int (iI 0), .null, .null, .null, .null, .int (iI 0), .null, .null, .null, .int (iI 0), .null, .null, .null, .null, .null, .null, .null, .null, .null, .null, .null, .int (iI 0), .null, .null, .null, .null, .null] _ H locs := hI
  refine ct_aload C hl 0 rfl dX8_init_140 ?_
  refine ct_iconst C dX8_init_141 ?_
  refine ct_newa (t := 0) (n := 4) C rfl ac_int (by decide) rfl rfl rfl (by decide) (by decide) (by omega) (by omega) dX8_init_142 hI (fun q19 H hI => ?_)
  refine ct_putF C fc_X8_65 rfl rfl dX8_init_144 hI (fun H locs hI => ?_)
  refine ct_aload C hl 0 rfl dX8_init_147 ?_
  refine ct_iconst C dX8_init_148 ?_
  refine ct_newa (t := 0) (n := 4) C rfl ac_int (by decide) rfl rfl rfl (by decide) (by decide) (by omega) (by omega) dX8_init_149 hI (fun q20 H hI => ?_)
  refine ct_putF C fc_X8_68 rfl rfl dX8_init_151 hI (fun H locs hI => ?_)
  refine ct_aload C hl 0 rfl dX8_init_154 ?_
  refine ct_iconst C dX8_init_155 ?_
  refine ct_newa (t := 0) (n := 4) C rfl ac_int (by decide) rfl rfl rfl (by decide) (by decide) (by omega) (by omega) dX8_init_156 hI (fun q21 H hI => ?_)
  refine ct_putF C fc_X8_71 rfl rfl dX8_init_158 hI (fun H locs hI => ?_)
  refine ct_aload C hl 0 rfl dX8_init_161 ?_
  refine ct_iconst C dX8_init_162 ?_
  refine ct_newa (t := 0) (n := 4) C rfl ac_int (by decide) rfl rfl rfl (by decide) (by decide) (by omega) (by omega) dX8_init_163 hI (fun q22 H hI => ?_)
  refine ct_putF C fc_X8_74 rfl rfl dX8_init_165 hI (fun H locs hI => ?_)
  refine ct_aload C hl 0 rfl dX8_init_168 ?_
  refine ct_iconst C dX8_init_169 ?_
  refine ct_newa (t := 0) (n := 4) C rfl ac_int (by decide) rfl rfl rfl (by decide) (by decide) (by omega) (by omega) dX8_init_170 hI (fun q23 H hI => ?_)
  refine ct_putF C fc_X8_77 rfl rfl dX8_init_172 hI (fun H locs hI => ?_)
  refine ct_aload C hl 0 rfl dX8_init_175 ?_
  refine ct_iconst C dX8_init_176 ?_
  refine ct_newa (t := 0) (n := 4) C rfl ac_int (by decide) rfl rfl rfl (by decide) (by decide) (by omega) (by omega) dX8_init_177 hI (fun q24 H hI => ?_)
  refine ct_putF C fc_X8_80 rfl rfl dX8_init_179 hI (fun H locs hI => ?_)
  have hI : CtI g A s.heap h0 8 [.int (iI 0), .ref q1, .ref q2, .ref q3, .int (iI 0), .ref q4, .ref q5, .ref q6, .ref q7, .int (iI 0), .ref q8, .ref q9, .ref q10, .int (iI 0), .ref q11, .ref q12, .ref q13, .ref q14, .ref q15, .ref q16, .ref q17, .ref q18, .ref q19, .ref q20, .ref q21, .ref q22, .ref q23, .ref q24, .null, .int (iI 0), .int (iI 0), .int (iI 0), .null, .null, .int (iI 0), .null, .int (iI 0), .int (iI 0), .int (iI 0), .long (lI 0), .int (iI 0), .int (iI 0), .int (iI 0), .int (iI 0), .null, .null, .null, .int (iI 0), .null, .null, .null, .null, .int (iI 0), .null, .null, .null, .int (iI 0), .null, .null, .null, .null, .null, .null, .null, .null, .null, .null, .null, .int (iI 0), .null, .null, .null, .null, .null] _ H locs := hI
  refine ct_aload C hl 0 rfl dX8_init_182 ?_
  refine ct_iconst C dX8_init_183 ?_
  refine ct_newa (t := 2) (n := 4) C rfl ac_boolean (by decide) rfl rfl rfl (by decide) (by decide) (by omega) (by omega) dX8_init_184 hI (fun q25 H hI => ?_)
  refine ct_putF C fc_X8_83 rfl rfl dX8_init_186 hI (fun H locs hI => ?_)
  refine ct_aload C hl 0 rfl dX8_init_189 ?_
  refine ct_sipush C dX8_init_190 (by decide) ?_
  refine ct_newa (t := 0) (n := 200) C rfl ac_int (by decide) rfl rfl rfl (by decide) (by decide) (by omega) (by omega) dX8_init_193 hI (fun q26 H hI => ?_)
  refine ct_putF C fc_X8_86 rfl rfl dX8_init_195 hI (fun H locs hI => ?_)
  refine ct_aload C hl 0 rfl dX8_init_198 ?_
  refine ct_sipush C dX8_init_199 (by decide) ?_
  refine ct_newa (t := 0) (n := 200) C rfl ac_int (by decide) rfl rfl rfl (by decide) (by decide) (by omega) (by omega) dX8_init_202 hI (fun q27 H hI => ?_)
  refine ct_putF C fc_X8_89 rfl rfl dX8_init_204 hI (fun H locs hI => ?_)
  refine ct_aload C hl 0 rfl dX8_init_207 ?_
  refine ct_sipush C dX8_init_208 (by decide) ?_
  refine ct_newa (t := 0) (n := 500) C rfl ac_int (by decide) rfl rfl rfl (by decide) (by decide) (by omega) (by omega) dX8_init_211 hI (fun q28 H hI => ?_)
  refine ct_putF C fc_X8_92 rfl rfl dX8_init_213 hI (fun H locs hI => ?_)
  refine ct_aload C hl 0 rfl dX8_init_216 ?_
  refine ct_iconst C dX8_init_217 ?_
  refine ct_put C fp_X8_95 rfl rfl dX8_init_218 hI (fun H locs hI => ?_)
  refine ct_aload C hl 0 rfl dX8_init_221 ?_
  refine ct_bipush C dX8_init_222 (by decide) ?_
  refine ct_newa (t := 0) (n := 8) C rfl ac_int (by decide) rfl rfl rfl (by decide) (by decide) (by omega) (by omega) dX8_init_224 hI (fun q29 H hI => ?_)
  refine ct_putF C fc_X8_99 rfl rfl dX8_init_226 hI (fun H locs hI => ?_)
  have hI : CtI g A s.heap h0 8 [.int (iI 0), .ref q1, .ref q2, .ref q3, .int (iI 0), .ref q4, .ref q5, .ref q6, .ref q7, .int (iI 0), .ref q8, .ref q9, .ref q10, .int (iI 0), .ref q11, .ref q12, .ref q13, .ref q14, .ref q15, .ref q16, .ref q17, .ref q18, .ref q19, .ref q20, .ref q21, .ref q22, .ref q23, .ref q24, .ref q25, .int (iI 0), .int (iI 0), .int (iI 0), .ref q26, .ref q27, .int (iI 0), .ref q28, .int (iI 0), .int (iI (-1)), .int (iI 0), .long (lI 0), .int (iI 0), .int (iI 0), .int (iI 0), .int (iI 0), .ref q29, .null, .null, .int (iI 0), .null, .null, .null, .null, .int (iI 0), .null, .null, .null, .int (iI 0), .null, .null, .null, .null, .null, .null, .null, .null, .null, .null, .null, .int (iI 0), .null, .null, .null, .null, .null] _ H locs := hI
  refine ct_aload C hl 0 rfl dX8_init_229 ?_
  refine ct_bipush C dX8_init_230 (by decide) ?_
  refine ct_newa (t := 0) (n := 8) C rfl ac_int (by decide) rfl rfl rfl (by decide) (by decide) (by omega) (by omega) dX8_init_232 hI (fun q30 H hI => ?_)
  refine ct_putF C fc_X8_102 rfl rfl dX8_init_234 hI (fun H locs hI => ?_)
  refine ct_aload C hl 0 rfl dX8_init_237 ?_
  refine ct_bipush C dX8_init_238 (by decide) ?_
  refine ct_newa (t := 0) (n := 8) C rfl ac_int (by decide) rfl rfl rfl (by decide) (by decide) (by omega) (by omega) dX8_init_240 hI (fun q31 H hI => ?_)
  refine ct_putF C fc_X8_105 rfl rfl dX8_init_242 hI (fun H locs hI => ?_)
  refine ct_aload C hl 0 rfl dX8_init_245 ?_
  refine ct_bipush C dX8_init_246 (by decide) ?_
  refine ct_newa (t := 0) (n := 12) C rfl ac_int (by decide) rfl rfl rfl (by decide) (by decide) (by omega) (by omega) dX8_init_248 hI (fun q32 H hI => ?_)
  refine ct_putF C fc_X8_108 rfl rfl dX8_init_250 hI (fun H locs hI => ?_)
  refine ct_aload C hl 0 rfl dX8_init_253 ?_
  refine ct_bipush C dX8_init_254 (by decide) ?_
  refine ct_newa (t := 0) (n := 12) C rfl ac_int (by decide) rfl rfl rfl (by decide) (by decide) (by omega) (by omega) dX8_init_256 hI (fun q33 H hI => ?_)
  refine ct_putF C fc_X8_111 rfl rfl dX8_init_258 hI (fun H locs hI => ?_)
  refine ct_aload C hl 0 rfl dX8_init_261 ?_
  refine ct_bipush C dX8_init_262 (by decide) ?_
  refine ct_newa (t := 0) (n := 12) C rfl ac_int (by decide) rfl rfl rfl (by decide) (by decide) (by omega) (by omega) dX8_init_264 hI (fun q34 H hI => ?_)
  refine ct_putF C fc_X8_114 rfl rfl dX8_init_266 hI (fun H locs hI => ?_)
  refine ct_aload C hl 0 rfl dX8_init_269 ?_
  refine ct_bipush C dX8_init_270 (by decide) ?_
  refine ct_newa (t := 0) (n := 12) C rfl ac_int (by decide) rfl rfl rfl (by decide) (by decide) (by omega) (by omega) dX8_init_272 hI (fun q35 H hI => ?_)
  refine ct_putF C fc_X8_117 rfl rfl dX8_init_274 hI (fun H locs hI => ?_)
  have hI : CtI g A s.heap h0 8 [.int (iI 0), .ref q1, .ref q2, .ref q3, .int (iI 0), .ref q4, .ref q5, .ref q6, .ref q7, .int (iI 0), .ref q8, .ref q9, .ref q10, .int (iI 0), .ref q11, .ref q12, .ref q13, .ref q14, .ref q15, .ref q16, .ref q17, .ref q18, .ref q19, .ref q20, .ref q21, .ref q22, .ref q23, .ref q24, .ref q25, .int (iI 0), .int (iI 0), .int (iI 0), .ref q26, .ref q27, .int (iI 0), .ref q28, .int (iI 0), .int (iI (-1)), .int (iI 0), .long (lI 0), .int (iI 0), .int (iI 0), .int (iI 0), .int (iI 0), .ref q29, .ref q30, .ref q31, .int (iI 0), .ref q32, .ref q33, .ref q34, .ref q35, .int (iI 0), .null, .null, .null, .int (iI 0), .null, .null, .null, .null, .null, .null, .null, .null, .null, .null, .null, .int (iI 0), .null, .null, .null, .null, .null] _ H locs := hI
  refine ct_aload C hl 0 rfl dX8_init_277 ?_
  refine ct_iconst C dX8_init_278 ?_
  refine ct_newa (t := 0) (n := 4) C rfl ac_int (by decide) rfl rfl rfl (by decide) (by decide) (by omega) (by omega) dX8_init_279 hI (fun q36 H hI => ?_)
  refine ct_putF C fc_X8_120 rfl rfl dX8_init_281 hI (fun H locs hI => ?_)
  refine ct_aload C hl 0 rfl dX8_init_284 ?_
  refine ct_iconst C dX8_init_285 ?_
  refine ct_newa (t := 0) (n := 4) C rfl ac_int (by decide) rfl rfl rfl (by decide) (by decide) (by omega) (by omega) dX8_init_286 hI (fun q37 H hI => ?_)
  refine ct_putF C fc_X8_123 rfl rfl dX8_init_288 hI (fun H locs hI => ?_)
  refine ct_aload C hl 0 rfl dX8_init_291 ?_
  refine ct_iconst C dX8_init_292 ?_
  refine ct_newa (t := 0) (n := 4) C rfl ac_int (by decide) rfl rfl rfl (by decide) (by decide) (by omega) (by omega) dX8_init_293 hI (fun q38 H hI => ?_)
  refine ct_putF C fc_X8_126 rfl rfl dX8_init_295 hI (fun H locs hI => ?_)
  refine ct_aload C hl 0 rfl dX8_init_298 ?_
  refine ct_iconst C dX8_init_299 ?_
  refine ct_newa (t := 0) (n := 4) C rfl ac_int (by decide) rfl rfl rfl (by decide) (by decide) (by omega) (by omega) dX8_init_300 hI (fun q39 H hI => ?_)
  refine ct_putF C fc_X8_129 rfl rfl dX8_init_302 hI (fun H locs hI => ?_)
  refine ct_aload C hl 0 rfl dX8_init_305 ?_
  refine ct_iconst C dX8_init_306 ?_
  refine ct_newa (t := 0) (n := 4) C rfl ac_int (by decide) rfl rfl rfl (by decide) (by decide) (by omega) (by omega) dX8_init_307 hI (fun q40 H hI => ?_)
  refine ct_putF C fc_X8_132 rfl rfl dX8_init_309 hI (fun H locs hI => ?_)
  refine ct_aload C hl 0 rfl dX8_init_312 ?_
  refine ct_iconst C dX8_init_313 ?_
  refine ct_newa (t := 0) (n := 4) C rfl ac_int (by decide) rfl rfl rfl (by decide) (by decide) (by omega) (by omega) dX8_init_314 hI (fun q41 H hI => ?_)
  refine ct_putF C fc_X8_135 rfl rfl dX8_init_316 hI (fun H locs hI => ?_)
  have hI : CtI g A s.heap h0 8 [.int (iI 0), .ref q1, .ref q2, .ref q3, .int (iI 0), .ref q4, .ref q5, .ref q6, .ref q7, .int (iI 0), .ref q8, .ref q9, .ref q10, .int (iI 0), .ref q11, .ref q12, .ref q13, .ref q14, .ref q15, .ref q16, .ref q17, .ref q18, .ref q19, .ref q20, .ref q21, .ref q22, .ref q23, .ref q24, .ref q25, .int (iI 0), .int (iI 0), .int (iI 0), .ref q26, .ref q27, .int (iI 0), .ref q28, .int (iI 0), .int (iI (-1)), .int (iI 0), .long (lI 0), .int (iI 0), .int (iI 0), .int (iI 0), .int (iI 0), .ref q29, .ref q30, .ref q31, .int (iI 0), .ref q32, .ref q33, .ref q34, .ref q35, .int (iI 0), .ref q36, .ref q37, .ref q38, .int (iI 0), .ref q39, .ref q40, .ref q41, .null, .null, .null, .null, .null, .null, .null, .null, .int (iI 0), .null, .null, .null, .null, .null] _ H locs := hI
  refine ct_aload C hl 0 rfl dX8_init_319 ?_
  refine ct_iconst C dX8_init_320 ?_
  refine ct_newa (t := 0) (n := 4) C rfl ac_int (by decide) rfl rfl rfl (by decide) (by decide) (by omega) (by omega) dX8_init_321 hI (fun q42 H hI => ?_)
  refine ct_putF C fc_X8_138 rfl rfl dX8_init_323 hI (fun H locs hI => ?_)
  refine ct_aload C hl 0 rfl dX8_init_326 ?_
  refine ct_iconst C dX8_init_327 ?_
  refine ct_newa (t := 0) (n := 4) C rfl ac_int (by decide) rfl rfl rfl (by decide) (by decide) (by omega) (by omega) dX8_init_328 hI (fun q43 H hI => ?_)
  refine ct_putF C fc_X8_141 rfl rfl dX8_init_330 hI (fun H locs hI => ?_)
  refine ct_aload C hl 0 rfl dX8_init_333 ?_
  refine ct_bipush C dX8_init_334 (by decide) ?_
  refine ct_newa (t := 0) (n := 8) C rfl ac_int (by decide) rfl rfl rfl (by decide) (by decide) (by omega) (by omega) dX8_init_336 hI (fun q44 H hI => ?_)
  refine ct_putF C fc_X8_144 rfl rfl dX8_init_338 hI (fun H locs hI => ?_)
  refine ct_aload C hl 0 rfl dX8_init_341 ?_
  refine ct_sipush C dX8_init_342 (by decide) ?_
  refine ct_newa (t := 0) (n := 648) C rfl ac_int (by decide) rfl rfl rfl (by decide) (by decide) (by omega) (by omega) dX8_init_345 hI (fun q45 H hI => ?_)
  refine ct_putF C fc_X8_147 rfl rfl dX8_init_347 hI (fun H locs hI => ?_)
  refine ct_aload C hl 0 rfl dX8_init_350 ?_
  refine ct_bipush C dX8_init_351 (by decide) ?_
  refine ct_newa (t := 0) (n := 64) C rfl ac_int (by decide) rfl rfl rfl (by decide) (by decide) (by omega) (by omega) dX8_init_353 hI (fun q46 H hI => ?_)
  refine ct_putF C fc_X8_150 rfl rfl dX8_init_355 hI (fun H locs hI => ?_)
  refine ct_aload C hl 0 rfl dX8_init_358 ?_
  refine ct_iconst C dX8_init_359 ?_
  refine ct_newa (t := 0) (n := 4) C rfl ac_int (by decide) rfl rfl rfl (by decide) (by decide) (by omega) (by omega) dX8_init_360 hI (fun q47 H hI => ?_)
  refine ct_putF C fc_X8_153 rfl rfl dX8_init_362 hI (fun H locs hI => ?_)
  have hI : CtI g A s.heap h0 8 [.int (iI 0), .ref q1, .ref q2, .ref q3, .int (iI 0), .ref q4, .ref q5, .ref q6, .ref q7, .int (iI 0), .ref q8, .ref q9, .ref q10, .int (iI 0), .ref q11, .ref q12, .ref q13, .ref q14, .ref q15, .ref q16, .ref q17, .ref q18, .ref q19, .ref q20, .ref q21, .ref q22, .ref q23, .ref q24, .ref q25, .int (iI 0), .int (iI 0), .int (iI 0), .ref q26, .ref q27, .int (iI 0), .ref q28, .int (iI 0), .int (iI (-1)), .int (iI 0), .long (lI 0), .int (iI 0), .int (iI 0), .int (iI 0), .int (iI 0), .ref q29, .ref q30, .ref q31, .int (iI 0), .ref q32, .ref q33, .ref q34, .ref q35, .int (iI 0), .ref q36, .ref q37, .ref q38, .int (iI 0), .ref q39, .ref q40, .ref q41, .ref q42, .ref q43, .ref q44, .ref q45, .ref q46, .ref q47, .null, .null, .int (iI 0), .null, .null, .null, .null, .null] _ H locs := hI
  refine ct_aload C hl 0 rfl dX8_init_365 ?_
  refine ct_iconst C dX8_init_366 ?_
  refine ct_newa (t := 0) (n := 4) C rfl ac_int (by decide) rfl rfl rfl (by decide) (by decide) (by omega) (by omega) dX8_init_367 hI (fun q48 H hI => ?_)
  refine ct_putF C fc_X8_156 rfl rfl dX8_init_369 hI (fun H locs hI => ?_)
  refine ct_aload C hl 0 rfl dX8_init_372 ?_
  refine ct_bipush C dX8_init_373 (by decide) ?_
  refine ct_newa (t := 0) (n := 64) C rfl ac_int (by decide) rfl rfl rfl (by decide) (by decide) (by omega) (by omega) dX8_init_375 hI (fun q49 H hI => ?_)
  refine ct_putF C fc_X8_159 rfl rfl dX8_init_377 hI (fun H locs hI => ?_)
  refine ct_aload C hl 0 rfl dX8_init_380 ?_
  refine ct_bipush C dX8_init_381 (by decide) ?_
  refine ct_newa (t := 0) (n := 20) C rfl ac_int (by decide) rfl rfl rfl (by decide) (by decide) (by omega) (by omega) dX8_init_383 hI (fun q50 H hI => ?_)
  refine ct_putF C fc_X8_162 rfl rfl dX8_init_385 hI (fun H locs hI => ?_)
  refine ct_aload C hl 0 rfl dX8_init_388 ?_
  refine ct_bipush C dX8_init_389 (by decide) ?_
  refine ct_newa (t := 0) (n := 20) C rfl ac_int (by decide) rfl rfl rfl (by decide) (by decide) (by omega) (by omega) dX8_init_391 hI (fun q51 H hI => ?_)
  refine ct_putF C fc_X8_165 rfl rfl dX8_init_393 hI (fun H locs hI => ?_)
  refine ct_aload C hl 0 rfl dX8_init_396 ?_
  refine ct_bipush C dX8_init_397 (by decide) ?_
  refine ct_newa (t := 0) (n := 20) C rfl ac_int (by decide) rfl rfl rfl (by decide) (by decide) (by omega) (by omega) dX8_init_399 hI (fun q52 H hI => ?_)
  refine ct_putF C fc_X8_168 rfl rfl dX8_init_401 hI (fun H locs hI => ?_)
  refine ct_aload C hl 0 rfl dX8_init_404 ?_
  refine ct_sipush C dX8_init_405 (by decide) ?_
  refine ct_newa (t := 0) (n := 1000) C rfl ac_int (by decide) rfl rfl rfl (by decide) (by decide) (by omega) (by omega) dX8_init_408 hI (fun q53 H hI => ?_)
  refine ct_putF C fc_X8_171 rfl rfl dX8_init_410 hI (fun H locs hI => ?_)
  have hI : CtI g A s.heap h0 8 [.int (iI 0), .ref q1, .ref q2, .ref q3, .int (iI 0), .ref q4, .ref q5, .ref q6, .ref q7, .int (iI 0), .ref q8, .ref q9, .ref q10, .int (iI 0), .ref q11, .ref q12, .ref q13, .ref q14, .ref q15, .ref q16, .ref q17, .ref q18, .ref q19, .ref q20, .ref q21, .ref q22, .ref q23, .ref q24, .ref q25, .int (iI 0), .int (iI 0), .int (iI 0), .ref q26, .ref q27, .int (iI 0), .ref q28, .int (iI 0), .int (iI (-1)), .int (iI 0), .long (lI 0), .int (iI 0), .int (iI 0), .int (iI 0), .int (iI 0), .ref q29, .ref q30, .ref q31, .int (iI 0), .ref q32, .ref q33, .ref q34, .ref q35, .int (iI 0), .ref q36, .ref q37, .ref q38, .int (iI 0), .ref q39, .ref q40, .ref q41, .ref q42, .ref q43, .ref q44, .ref q45, .ref q46, .ref q47, .ref q48, .ref q49, .int (iI 0), .ref q50, .ref q51, .ref q52, .ref q53, .null] _ H locs := hI
  refine ct_aload C hl 0 rfl dX8_init_413 ?_
  refine ct_iconst C dX8_init_414 ?_
  refine ct_newa (t := 2) (n := 2) C rfl ac_boolean (by decide) rfl rfl rfl (by decide) (by decide) (by omega) (by omega) dX8_init_415 hI (fun q54 H hI => ?_)
  refine ct_putF C fc_X8_174 rfl rfl dX8_init_417 hI (fun H locs hI => ?_)
  refine ct_aload C hl 0 rfl dX8_init_420 ?_
  refine ct_iconst C dX8_init_421 ?_
  refine ct_put C fp_X8_177 rfl rfl dX8_init_422 hI (fun H locs hI => ?_)
  have hI : CtI g A s.heap h0 8 [.int (iI (0)), .ref q1, .ref q2, .ref q3, .int (iI 0), .ref q4, .ref q5, .ref q6, .ref q7, .int (iI 0), .ref q8, .ref q9, .ref q10, .int (iI 0), .ref q11, .ref q12, .ref q13, .ref q14, .ref q15, .ref q16, .ref q17, .ref q18, .ref q19, .ref q20, .ref q21, .ref q22, .ref q23, .ref q24, .ref q25, .int (iI 0), .int (iI 0), .int (iI 0), .ref q26, .ref q27, .int (iI 0), .ref q28, .int (iI 0), .int (iI (-1)), .int (iI 0), .long (lI 0), .int (iI 0), .int (iI 0), .int (iI 0), .int (iI 0), .ref q29, .ref q30, .ref q31, .int (iI 0), .ref q32, .ref q33, .ref q34, .ref q35, .int (iI 0), .ref q36, .ref q37, .ref q38, .int (iI 0), .ref q39, .ref q40, .ref q41, .ref q42, .ref q43, .ref q44, .ref q45, .ref q46, .ref q47, .ref q48, .ref q49, .int (iI 0), .ref q50, .ref q51, .ref q52, .ref q53, .ref q54] _ H locs := hI
  refine W.widen (k := 54) (n := 3026) (by omega) (by omega) ?_
  exact hret (fun k => [h0, q1, q2, q3, q4, q5, q6, q7, q8, q9, q10, q11, q12, q13, q14, q15, q16, q17, q18, q19, q20, q21, q22, q23, q24, q25, q26, q27, q28, q29, q30, q31, q32, q33, q34, q35, q36, q37, q38, q39, q40, q41, q42, q43, q44, q45, q46, q47, q48, q49, q50, q51, q52, q53, q54].getD (k - 79) 0) 425 H locs ls rfl hI.1 hI.2.1 hI.2.2.1 dX8_init_425
theorem c_X8_init : CtMet yX8_init cX8_init 1 8 79 55 54 3026 1 20 mm0 := ct_met (by decide) rfl (by decide) rfl r_X8_init
