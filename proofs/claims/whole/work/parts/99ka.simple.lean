set_option maxHeartbeats 4000000 in
set_option maxRecDepth 100000 in
theorem r_X0_init : CtRun RX0 cX0_init 1 0 65 4 3 60 1 20 mm0 := by
  intro p l e R s m args below meth c0 g A h0 ls Q C hl hI hfr hlo hmc hms hret
  have hI : CtI g A s.heap h0 0 [.int (iI 0), .null, .null, .null] [] s.heap [] := hI
  refine ct_aload C hl 0 rfl dX0_init_0 ?_
  refine ct_obj C hl.1 oi_X0 (by omega) (by omega) (Nat.le_of_ble_eq_true rfl) dX0_init_1 ?_
  refine ct_aload C hl 0 rfl dX0_init_4 ?_
  refine ct_iconst C dX0_init_5 ?_
  refine ct_put C fp_X0_9 rfl rfl dX0_init_6 hI (fun H locs hI => ?_)
  refine ct_aload C hl 0 rfl dX0_init_9 ?_
  refine ct_bipush C dX0_init_10 (by decide) ?_
  refine ct_newa (aty := .int) (t := 0) (n := 20) C rfl ac_int (by decide) rfl rfl rfl (by decide) (by decide) (by omega) (by omega) dX0_init_12 hI (fun q1 H hI => ?_)
  refine ct_putF C fc_X0_15 rfl rfl dX0_init_14 hI (fun H locs hI => ?_)
  refine ct_aload C hl 0 rfl dX0_init_17 ?_
  refine ct_bipush C dX0_init_18 (by decide) ?_
  refine ct_newa (aty := .int) (t := 0) (n := 20) C rfl ac_int (by decide) rfl rfl rfl (by decide) (by decide) (by omega) (by omega) dX0_init_20 hI (fun q2 H hI => ?_)
  refine ct_putF C fc_X0_19 rfl rfl dX0_init_22 hI (fun H locs hI => ?_)
  refine ct_aload C hl 0 rfl dX0_init_25 ?_
  refine ct_bipush C dX0_init_26 (by decide) ?_
  refine ct_newa (aty := .int) (t := 0) (n := 20) C rfl ac_int (by decide) rfl rfl rfl (by decide) (by decide) (by omega) (by omega) dX0_init_28 hI (fun q3 H hI => ?_)
  refine ct_putF C fc_X0_22 rfl rfl dX0_init_30 hI (fun H locs hI => ?_)
  have hI : CtI g A s.heap h0 0 [.int (iI (0)), .ref q1, .ref q2, .ref q3] _ H locs := hI
  refine W.widen (k := 3) (n := 60) (by omega) (by omega) ?_
  exact hret (fun k => [h0, q1, q2, q3].getD (k - 65) 0) 33 H locs ls rfl hI.1 hI.2.1 hI.2.2.1 dX0_init_33
theorem c_X0_init : CtMet yX0_init cX0_init 1 0 65 4 3 60 1 20 mm0 := ct_met (by decide) rfl (by decide) rfl r_X0_init
set_option maxHeartbeats 4000000 in
set_option maxRecDepth 100000 in
theorem r_X1_init : CtRun RX1 cX1_init 1 1 77 2 1 64 1 20 mm0 := by
  intro p l e R s m args below meth c0 g A h0 ls Q C hl hI hfr hlo hmc hms hret
  have hI : CtI g A s.heap h0 1 [.null, .int (iI 0), .int (iI 0)] [] s.heap [] := hI
  refine ct_aload C hl 0 rfl dX1_init_0 ?_
  refine ct_obj C hl.1 oi_X1 (by omega) (by omega) (Nat.le_of_ble_eq_true rfl) dX1_init_1 ?_
  refine ct_aload C hl 0 rfl dX1_init_4 ?_
  refine ct_bipush C dX1_init_5 (by decide) ?_
  refine ct_newa (aty := .int) (t := 0) (n := 64) C rfl ac_int (by decide) rfl rfl rfl (by decide) (by decide) (by omega) (by omega) dX1_init_7 hI (fun q1 H hI => ?_)
  refine ct_putF C fc_X1_11 rfl rfl dX1_init_9 hI (fun H locs hI => ?_)
  refine ct_aload C hl 0 rfl dX1_init_12 ?_
  refine ct_iconst C dX1_init_13 ?_
  refine ct_put C fp_X1_15 rfl rfl dX1_init_14 hI (fun H locs hI => ?_)
  refine ct_aload C hl 0 rfl dX1_init_17 ?_
  refine ct_ldc (z := 1000000) C kc_X1_19 (by decide) dX1_init_18 ?_
  refine ct_put C fp_X1_20 rfl rfl dX1_init_20 hI (fun H locs hI => ?_)
  have hI : CtI g A s.heap h0 1 [.ref q1, .int (iI (-1)), .int (iI (1000000))] _ H locs := hI
  refine W.widen (k := 1) (n := 64) (by omega) (by omega) ?_
  exact hret (fun k => [h0, q1].getD (k - 77) 0) 23 H locs ls rfl hI.1 hI.2.1 hI.2.2.1 dX1_init_23
theorem c_X1_init : CtMet yX1_init cX1_init 1 1 77 2 1 64 1 20 mm0 := ct_met (by decide) rfl (by decide) rfl r_X1_init
set_option maxHeartbeats 4000000 in
set_option maxRecDepth 100000 in
theorem r_X2_init (cb : Nat) (hcb : cb = 3 ∨ cb = 20) : CtRun RX2 cX2_init 1 2 cb 17 16 112 1 20 mm0 := by
  intro p l e R s m args below meth c0 g A h0 ls Q C hl hI hfr hlo hmc hms hret
  have hI : CtI g A s.heap h0 2 [.int (iI 0), .int (iI 0), .int (iI 0), .int (iI 0), .null, .null, .null, .null, .null, .null, .null, .null, .null, .null, .null, .null, .null, .null, .null, .null] [] s.heap [] := hI
  refine ct_aload C hl 0 rfl dX2_init_0 ?_
  refine ct_obj C hl.1 oi_X2 (by omega) (by omega) (Nat.le_of_ble_eq_true rfl) dX2_init_1 ?_
  refine ct_aload C hl 0 rfl dX2_init_4 ?_
  refine ct_bipush C dX2_init_5 (by decide) ?_
  refine ct_newa (aty := .int) (t := 0) (n := 8) C rfl ac_int (by decide) rfl rfl rfl (by decide) (by decide) (by omega) (by omega) dX2_init_7 hI (fun q1 H hI => ?_)
  refine ct_putF C fc_X2_9 rfl rfl dX2_init_9 hI (fun H locs hI => ?_)
  refine ct_aload C hl 0 rfl dX2_init_12 ?_
  refine ct_bipush C dX2_init_13 (by decide) ?_
  refine ct_newa (aty := .int) (t := 0) (n := 8) C rfl ac_int (by decide) rfl rfl rfl (by decide) (by decide) (by omega) (by omega) dX2_init_15 hI (fun q2 H hI => ?_)
  refine ct_putF C fc_X2_15 rfl rfl dX2_init_17 hI (fun H locs hI => ?_)
  refine ct_aload C hl 0 rfl dX2_init_20 ?_
  refine ct_bipush C dX2_init_21 (by decide) ?_
  refine ct_newa (aty := .int) (t := 0) (n := 8) C rfl ac_int (by decide) rfl rfl rfl (by decide) (by decide) (by omega) (by omega) dX2_init_23 hI (fun q3 H hI => ?_)
  refine ct_putF C fc_X2_18 rfl rfl dX2_init_25 hI (fun H locs hI => ?_)
  refine ct_aload C hl 0 rfl dX2_init_28 ?_
  refine ct_bipush C dX2_init_29 (by decide) ?_
  refine ct_newa (aty := .int) (t := 0) (n := 8) C rfl ac_int (by decide) rfl rfl rfl (by decide) (by decide) (by omega) (by omega) dX2_init_31 hI (fun q4 H hI => ?_)
  refine ct_putF C fc_X2_21 rfl rfl dX2_init_33 hI (fun H locs hI => ?_)
  refine ct_aload C hl 0 rfl dX2_init_36 ?_
  refine ct_bipush C dX2_init_37 (by decide) ?_
  refine ct_newa (aty := .int) (t := 0) (n := 12) C rfl ac_int (by decide) rfl rfl rfl (by decide) (by decide) (by omega) (by omega) dX2_init_39 hI (fun q5 H hI => ?_)
  refine ct_putF C fc_X2_24 rfl rfl dX2_init_41 hI (fun H locs hI => ?_)
  refine ct_aload C hl 0 rfl dX2_init_44 ?_
  refine ct_bipush C dX2_init_45 (by decide) ?_
  refine ct_newa (aty := .int) (t := 0) (n := 12) C rfl ac_int (by decide) rfl rfl rfl (by decide) (by decide) (by omega) (by omega) dX2_init_47 hI (fun q6 H hI => ?_)
  refine ct_putF C fc_X2_27 rfl rfl dX2_init_49 hI (fun H locs hI => ?_)
  have hI : CtI g A s.heap h0 2 [.int (iI 0), .int (iI 0), .int (iI 0), .int (iI 0), .ref q1, .ref q2, .ref q3, .ref q4, .ref q5, .ref q6, .null, .null, .null, .null, .null, .null, .null, .null, .null, .null] _ H locs := hI
  refine ct_aload C hl 0 rfl dX2_init_52 ?_
  refine ct_bipush C dX2_init_53 (by decide) ?_
  refine ct_newa (aty := .int) (t := 0) (n := 12) C rfl ac_int (by decide) rfl rfl rfl (by decide) (by decide) (by omega) (by omega) dX2_init_55 hI (fun q7 H hI => ?_)
  refine ct_putF C fc_X2_30 rfl rfl dX2_init_57 hI (fun H locs hI => ?_)
  refine ct_aload C hl 0 rfl dX2_init_60 ?_
  refine ct_bipush C dX2_init_61 (by decide) ?_
  refine ct_newa (aty := .int) (t := 0) (n := 12) C rfl ac_int (by decide) rfl rfl rfl (by decide) (by decide) (by omega) (by omega) dX2_init_63 hI (fun q8 H hI => ?_)
  refine ct_putF C fc_X2_33 rfl rfl dX2_init_65 hI (fun H locs hI => ?_)
  refine ct_aload C hl 0 rfl dX2_init_68 ?_
  refine ct_iconst C dX2_init_69 ?_
  refine ct_newa (aty := .int) (t := 0) (n := 4) C rfl ac_int (by decide) rfl rfl rfl (by decide) (by decide) (by omega) (by omega) dX2_init_70 hI (fun q9 H hI => ?_)
  refine ct_putF C fc_X2_36 rfl rfl dX2_init_72 hI (fun H locs hI => ?_)
  refine ct_aload C hl 0 rfl dX2_init_75 ?_
  refine ct_iconst C dX2_init_76 ?_
  refine ct_newa (aty := .int) (t := 0) (n := 4) C rfl ac_int (by decide) rfl rfl rfl (by decide) (by decide) (by omega) (by omega) dX2_init_77 hI (fun q10 H hI => ?_)
  refine ct_putF C fc_X2_39 rfl rfl dX2_init_79 hI (fun H locs hI => ?_)
  refine ct_aload C hl 0 rfl dX2_init_82 ?_
  refine ct_iconst C dX2_init_83 ?_
  refine ct_newa (aty := .int) (t := 0) (n := 4) C rfl ac_int (by decide) rfl rfl rfl (by decide) (by decide) (by omega) (by omega) dX2_init_84 hI (fun q11 H hI => ?_)
  refine ct_putF C fc_X2_42 rfl rfl dX2_init_86 hI (fun H locs hI => ?_)
  refine ct_aload C hl 0 rfl dX2_init_89 ?_
  refine ct_iconst C dX2_init_90 ?_
  refine ct_newa (aty := .int) (t := 0) (n := 4) C rfl ac_int (by decide) rfl rfl rfl (by decide) (by decide) (by omega) (by omega) dX2_init_91 hI (fun q12 H hI => ?_)
  refine ct_putF C fc_X2_45 rfl rfl dX2_init_93 hI (fun H locs hI => ?_)
  have hI : CtI g A s.heap h0 2 [.int (iI 0), .int (iI 0), .int (iI 0), .int (iI 0), .ref q1, .ref q2, .ref q3, .ref q4, .ref q5, .ref q6, .ref q7, .ref q8, .ref q9, .ref q10, .ref q11, .ref q12, .null, .null, .null, .null] _ H locs := hI
  refine ct_aload C hl 0 rfl dX2_init_96 ?_
  refine ct_iconst C dX2_init_97 ?_
  refine ct_newa (aty := .int) (t := 0) (n := 4) C rfl ac_int (by decide) rfl rfl rfl (by decide) (by decide) (by omega) (by omega) dX2_init_98 hI (fun q13 H hI => ?_)
  refine ct_putF C fc_X2_48 rfl rfl dX2_init_100 hI (fun H locs hI => ?_)
  refine ct_aload C hl 0 rfl dX2_init_103 ?_
  refine ct_iconst C dX2_init_104 ?_
  refine ct_newa (aty := .int) (t := 0) (n := 4) C rfl ac_int (by decide) rfl rfl rfl (by decide) (by decide) (by omega) (by omega) dX2_init_105 hI (fun q14 H hI => ?_)
  refine ct_putF C fc_X2_51 rfl rfl dX2_init_107 hI (fun H locs hI => ?_)
  refine ct_aload C hl 0 rfl dX2_init_110 ?_
  refine ct_iconst C dX2_init_111 ?_
  refine ct_newa (aty := .int) (t := 0) (n := 4) C rfl ac_int (by decide) rfl rfl rfl (by decide) (by decide) (by omega) (by omega) dX2_init_112 hI (fun q15 H hI => ?_)
  refine ct_putF C fc_X2_54 rfl rfl dX2_init_114 hI (fun H locs hI => ?_)
  refine ct_aload C hl 0 rfl dX2_init_117 ?_
  refine ct_iconst C dX2_init_118 ?_
  refine ct_newa (aty := .int) (t := 0) (n := 4) C rfl ac_int (by decide) rfl rfl rfl (by decide) (by decide) (by omega) (by omega) dX2_init_119 hI (fun q16 H hI => ?_)
  refine ct_putF C fc_X2_57 rfl rfl dX2_init_121 hI (fun H locs hI => ?_)
  have hI : CtI g A s.heap h0 2 [.int (iI 0), .int (iI 0), .int (iI 0), .int (iI 0), .ref q1, .ref q2, .ref q3, .ref q4, .ref q5, .ref q6, .ref q7, .ref q8, .ref q9, .ref q10, .ref q11, .ref q12, .ref q13, .ref q14, .ref q15, .ref q16] _ H locs := hI
  refine W.widen (k := 16) (n := 112) (by omega) (by omega) ?_
  rcases hcb with rfl | rfl
  · exact hret (fun k => [h0, q1, q2, q3, q4, q5, q6, q7, q8, q9, q10, q11, q12, q13, q14, q15, q16].getD (k - 3) 0) 124 H locs ls rfl hI.1 hI.2.1 hI.2.2.1 dX2_init_124
  · exact hret (fun k => [h0, q1, q2, q3, q4, q5, q6, q7, q8, q9, q10, q11, q12, q13, q14, q15, q16].getD (k - 20) 0) 124 H locs ls rfl hI.1 hI.2.1 hI.2.2.1 dX2_init_124
theorem c_X2_init (cb : Nat) (hcb : cb = 3 ∨ cb = 20) : CtMet yX2_init cX2_init 1 2 cb 17 16 112 1 20 mm0 := ct_met (by decide) rfl (by decide) rfl (r_X2_init cb hcb)
set_option maxHeartbeats 4000000 in
set_option maxRecDepth 100000 in
theorem r_X3_init : CtRun RX3 cX3_init 1 3 1 2 1 500 1 20 mm0 := by
  intro p l e R s m args below meth c0 g A h0 ls Q C hl hI hfr hlo hmc hms hret
  have hI : CtI g A s.heap h0 3 [.null, .int (iI 0), .int (iI 0), .int (iI 0), .int (iI 0), .int (iI 0), .int (iI 0)] [] s.heap [] := hI
  refine ct_aload C hl 0 rfl dX3_init_0 ?_
  refine ct_obj C hl.1 oi_X3 (by omega) (by omega) (Nat.le_of_ble_eq_true rfl) dX3_init_1 ?_
  refine ct_aload C hl 0 rfl dX3_init_4 ?_
  refine ct_sipush C dX3_init_5 (by decide) ?_
  refine ct_newa (aty := .byte) (t := 1) (n := 500) C rfl ac_byte (by decide) rfl rfl rfl (by decide) (by decide) (by omega) (by omega) dX3_init_8 hI (fun q1 H hI => ?_)
  refine ct_putF C fc_X3_9 rfl rfl dX3_init_10 hI (fun H locs hI => ?_)
  refine ct_aload C hl 0 rfl dX3_init_13 ?_
  refine ct_iconst C dX3_init_14 ?_
  refine ct_put C fp_X3_15 rfl rfl dX3_init_15 hI (fun H locs hI => ?_)
  refine ct_aload C hl 0 rfl dX3_init_18 ?_
  refine ct_iconst C dX3_init_19 ?_
  refine ct_put C fp_X3_19 rfl rfl dX3_init_20 hI (fun H locs hI => ?_)
  refine ct_aload C hl 0 rfl dX3_init_23 ?_
  refine ct_iconst C dX3_init_24 ?_
  refine ct_put C fp_X3_22 rfl rfl dX3_init_25 hI (fun H locs hI => ?_)
  refine ct_aload C hl 0 rfl dX3_init_28 ?_
  refine ct_iconst C dX3_init_29 ?_
  refine ct_put C fp_X3_25 rfl rfl dX3_init_30 hI (fun H locs hI => ?_)
  refine ct_aload C hl 0 rfl dX3_init_33 ?_
  refine ct_iconst C dX3_init_34 ?_
  refine ct_put C fp_X3_28 rfl rfl dX3_init_35 hI (fun H locs hI => ?_)
  have hI : CtI g A s.heap h0 3 [.ref q1, .int (iI (0)), .int (iI (0)), .int (iI (-1)), .int (iI (0)), .int (iI (0)), .int (iI 0)] _ H locs := hI
  refine ct_aload C hl 0 rfl dX3_init_38 ?_
  refine ct_iconst C dX3_init_39 ?_
  refine ct_put C fp_X3_31 rfl rfl dX3_init_40 hI (fun H locs hI => ?_)
  have hI : CtI g A s.heap h0 3 [.ref q1, .int (iI (0)), .int (iI (0)), .int (iI (-1)), .int (iI (0)), .int (iI (0)), .int (iI (0))] _ H locs := hI
  refine W.widen (k := 1) (n := 500) (by omega) (by omega) ?_
  exact hret (fun k => [h0, q1].getD (k - 1) 0) 43 H locs ls rfl hI.1 hI.2.1 hI.2.2.1 dX3_init_43
theorem c_X3_init : CtMet yX3_init cX3_init 1 3 1 2 1 500 1 20 mm0 := ct_met (by decide) rfl (by decide) rfl r_X3_init
set_option maxHeartbeats 4000000 in
set_option maxRecDepth 100000 in
theorem r_X4_init : CtRun RX4 cX4_init 1 4 72 5 4 3080 1 20 mm0 := by
  intro p l e R s m args below meth c0 g A h0 ls Q C hl hI hfr hlo hmc hms hret
  have hI : CtI g A s.heap h0 4 [.null, .null, .null, .null] [] s.heap [] := hI
  refine ct_aload C hl 0 rfl dX4_init_0 ?_
  refine ct_obj C hl.1 oi_X4 (by omega) (by omega) (Nat.le_of_ble_eq_true rfl) dX4_init_1 ?_
  refine ct_aload C hl 0 rfl dX4_init_4 ?_
  refine ct_iconst C dX4_init_5 ?_
  refine ct_newa (aty := .int) (t := 0) (n := 4) C rfl ac_int (by decide) rfl rfl rfl (by decide) (by decide) (by omega) (by omega) dX4_init_6 hI (fun q1 H hI => ?_)
  refine ct_putF C fc_X4_9 rfl rfl dX4_init_8 hI (fun H locs hI => ?_)
  refine ct_aload C hl 0 rfl dX4_init_11 ?_
  refine ct_iconst C dX4_init_12 ?_
  refine ct_newa (aty := .int) (t := 0) (n := 4) C rfl ac_int (by decide) rfl rfl rfl (by decide) (by decide) (by omega) (by omega) dX4_init_13 hI (fun q2 H hI => ?_)
  refine ct_putF C fc_X4_15 rfl rfl dX4_init_15 hI (fun H locs hI => ?_)
  refine ct_aload C hl 0 rfl dX4_init_18 ?_
  refine ct_sipush C dX4_init_19 (by decide) ?_
  refine ct_newa (aty := .int) (t := 0) (n := 1024) C rfl ac_int (by decide) rfl rfl rfl (by decide) (by decide) (by omega) (by omega) dX4_init_22 hI (fun q3 H hI => ?_)
  refine ct_putF C fc_X4_18 rfl rfl dX4_init_24 hI (fun H locs hI => ?_)
  refine ct_aload C hl 0 rfl dX4_init_27 ?_
  refine ct_sipush C dX4_init_28 (by decide) ?_
  refine ct_newa (aty := .int) (t := 0) (n := 2048) C rfl ac_int (by decide) rfl rfl rfl (by decide) (by decide) (by omega) (by omega) dX4_init_31 hI (fun q4 H hI => ?_)
  refine ct_putF C fc_X4_21 rfl rfl dX4_init_33 hI (fun H locs hI => ?_)
  have hI : CtI g A s.heap h0 4 [.ref q1, .ref q2, .ref q3, .ref q4] _ H locs := hI
  refine W.widen (k := 4) (n := 3080) (by omega) (by omega) ?_
  exact hret (fun k => [h0, q1, q2, q3, q4].getD (k - 72) 0) 36 H locs ls rfl hI.1 hI.2.1 hI.2.2.1 dX4_init_36
theorem c_X4_init : CtMet yX4_init cX4_init 1 4 72 5 4 3080 1 20 mm0 := ct_met (by decide) rfl (by decide) rfl r_X4_init
set_option maxHeartbeats 4000000 in
set_option maxRecDepth 100000 in
theorem r_X5_init (cb : Nat) (hcb : cb = 37 ∨ cb = 47 ∨ cb = 56) : CtRun RX5 cX5_init 1 5 cb 9 8 432 1 20 mm0 := by
  intro p l e R s m args below meth c0 g A h0 ls Q C hl hI hfr hlo hmc hms hret
  have hI : CtI g A s.heap h0 5 [.int (iI 0), .int (iI 0), .int (iI 0), .int (iI 0), .int (iI 0), .int (iI 0), .int (iI 0), .null, .null, .null, .null, .null, .null, .null, .null] [] s.heap [] := hI
  refine ct_aload C hl 0 rfl dX5_init_0 ?_
  refine ct_obj C hl.1 oi_X5 (by omega) (by omega) (Nat.le_of_ble_eq_true rfl) dX5_init_1 ?_
  refine ct_aload C hl 0 rfl dX5_init_4 ?_
  refine ct_bipush C dX5_init_5 (by decide) ?_
  refine ct_newa (aty := .int) (t := 0) (n := 12) C rfl ac_int (by decide) rfl rfl rfl (by decide) (by decide) (by omega) (by omega) dX5_init_7 hI (fun q1 H hI => ?_)
  refine ct_putF C fc_X5_9 rfl rfl dX5_init_9 hI (fun H locs hI => ?_)
  refine ct_aload C hl 0 rfl dX5_init_12 ?_
  refine ct_iconst C dX5_init_13 ?_
  refine ct_newa (aty := .int) (t := 0) (n := 4) C rfl ac_int (by decide) rfl rfl rfl (by decide) (by decide) (by omega) (by omega) dX5_init_14 hI (fun q2 H hI => ?_)
  refine ct_putF C fc_X5_15 rfl rfl dX5_init_16 hI (fun H locs hI => ?_)
  refine ct_aload C hl 0 rfl dX5_init_19 ?_
  refine ct_iconst C dX5_init_20 ?_
  refine ct_newa (aty := .int) (t := 0) (n := 4) C rfl ac_int (by decide) rfl rfl rfl (by decide) (by decide) (by omega) (by omega) dX5_init_21 hI (fun q3 H hI => ?_)
  refine ct_putF C fc_X5_18 rfl rfl dX5_init_23 hI (fun H locs hI => ?_)
  refine ct_aload C hl 0 rfl dX5_init_26 ?_
  refine ct_iconst C dX5_init_27 ?_
  refine ct_newa (aty := .int) (t := 0) (n := 4) C rfl ac_int (by decide) rfl rfl rfl (by decide) (by decide) (by omega) (by omega) dX5_init_28 hI (fun q4 H hI => ?_)
  refine ct_putF C fc_X5_21 rfl rfl dX5_init_30 hI (fun H locs hI => ?_)
  refine ct_aload C hl 0 rfl dX5_init_33 ?_
  refine ct_iconst C dX5_init_34 ?_
  refine ct_newa (aty := .int) (t := 0) (n := 4) C rfl ac_int (by decide) rfl rfl rfl (by decide) (by decide) (by omega) (by omega) dX5_init_35 hI (fun q5 H hI => ?_)
  refine ct_putF C fc_X5_24 rfl rfl dX5_init_37 hI (fun H locs hI => ?_)
  refine ct_aload C hl 0 rfl dX5_init_40 ?_
  refine ct_iconst C dX5_init_41 ?_
  refine ct_newa (aty := .int) (t := 0) (n := 4) C rfl ac_int (by decide) rfl rfl rfl (by decide) (by decide) (by omega) (by omega) dX5_init_42 hI (fun q6 H hI => ?_)
  refine ct_putF C fc_X5_27 rfl rfl dX5_init_44 hI (fun H locs hI => ?_)
  have hI : CtI g A s.heap h0 5 [.int (iI 0), .int (iI 0), .int (iI 0), .int (iI 0), .int (iI 0), .int (iI 0), .int (iI 0), .ref q1, .ref q2, .ref q3, .ref q4, .ref q5, .ref q6, .null, .null] _ H locs := hI
  refine ct_aload C hl 0 rfl dX5_init_47 ?_
  refine ct_sipush C dX5_init_48 (by decide) ?_
  refine ct_newa (aty := .int) (t := 0) (n := 200) C rfl ac_int (by decide) rfl rfl rfl (by decide) (by decide) (by omega) (by omega) dX5_init_51 hI (fun q7 H hI => ?_)
  refine ct_putF C fc_X5_30 rfl rfl dX5_init_53 hI (fun H locs hI => ?_)
  refine ct_aload C hl 0 rfl dX5_init_56 ?_
  refine ct_sipush C dX5_init_57 (by decide) ?_
  refine ct_newa (aty := .int) (t := 0) (n := 200) C rfl ac_int (by decide) rfl rfl rfl (by decide) (by decide) (by omega) (by omega) dX5_init_60 hI (fun q8 H hI => ?_)
  refine ct_putF C fc_X5_33 rfl rfl dX5_init_62 hI (fun H locs hI => ?_)
  have hI : CtI g A s.heap h0 5 [.int (iI 0), .int (iI 0), .int (iI 0), .int (iI 0), .int (iI 0), .int (iI 0), .int (iI 0), .ref q1, .ref q2, .ref q3, .ref q4, .ref q5, .ref q6, .ref q7, .ref q8] _ H locs := hI
  refine W.widen (k := 8) (n := 432) (by omega) (by omega) ?_
  rcases hcb with rfl | rfl | rfl
  · exact hret (fun k => [h0, q1, q2, q3, q4, q5, q6, q7, q8].getD (k - 37) 0) 65 H locs ls rfl hI.1 hI.2.1 hI.2.2.1 dX5_init_65
  · exact hret (fun k => [h0, q1, q2, q3, q4, q5, q6, q7, q8].getD (k - 47) 0) 65 H locs ls rfl hI.1 hI.2.1 hI.2.2.1 dX5_init_65
  · exact hret (fun k => [h0, q1, q2, q3, q4, q5, q6, q7, q8].getD (k - 56) 0) 65 H locs ls rfl hI.1 hI.2.1 hI.2.2.1 dX5_init_65
theorem c_X5_init (cb : Nat) (hcb : cb = 37 ∨ cb = 47 ∨ cb = 56) : CtMet yX5_init cX5_init 1 5 cb 9 8 432 1 20 mm0 := ct_met (by decide) rfl (by decide) rfl (r_X5_init cb hcb)
set_option maxHeartbeats 4000000 in
set_option maxRecDepth 100000 in
theorem r_X6_init : CtRun RX6 cX6_init 1 6 69 3 2 76 1 20 mm0 := by
  intro p l e R s m args below meth c0 g A h0 ls Q C hl hI hfr hlo hmc hms hret
  have hI : CtI g A s.heap h0 6 [.null, .null, .int (iI 0)] [] s.heap [] := hI
  refine ct_aload C hl 0 rfl dX6_init_0 ?_
  refine ct_obj C hl.1 oi_X6 (by omega) (by omega) (Nat.le_of_ble_eq_true rfl) dX6_init_1 ?_
  refine ct_aload C hl 0 rfl dX6_init_4 ?_
  refine ct_bipush C dX6_init_5 (by decide) ?_
  refine ct_newa (aty := .int) (t := 0) (n := 12) C rfl ac_int (by decide) rfl rfl rfl (by decide) (by decide) (by omega) (by omega) dX6_init_7 hI (fun q1 H hI => ?_)
  refine ct_putF C fc_X6_9 rfl rfl dX6_init_9 hI (fun H locs hI => ?_)
  refine ct_aload C hl 0 rfl dX6_init_12 ?_
  refine ct_bipush C dX6_init_13 (by decide) ?_
  refine ct_newa (aty := .int) (t := 0) (n := 64) C rfl ac_int (by decide) rfl rfl rfl (by decide) (by decide) (by omega) (by omega) dX6_init_15 hI (fun q2 H hI => ?_)
  refine ct_putF C fc_X6_15 rfl rfl dX6_init_17 hI (fun H locs hI => ?_)
  refine ct_aload C hl 0 rfl dX6_init_20 ?_
  refine ct_iconst C dX6_init_21 ?_
  refine ct_put C fp_X6_18 rfl rfl dX6_init_22 hI (fun H locs hI => ?_)
  have hI : CtI g A s.heap h0 6 [.ref q1, .ref q2, .int (iI (0))] _ H locs := hI
  refine W.widen (k := 2) (n := 76) (by omega) (by omega) ?_
  exact hret (fun k => [h0, q1, q2].getD (k - 69) 0) 25 H locs ls rfl hI.1 hI.2.1 hI.2.2.1 dX6_init_25
theorem c_X6_init : CtMet yX6_init cX6_init 1 6 69 3 2 76 1 20 mm0 := ct_met (by decide) rfl (by decide) rfl r_X6_init
