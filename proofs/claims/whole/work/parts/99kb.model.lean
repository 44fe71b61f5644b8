/-! the reference's constructor -/
set_option maxHeartbeats 1000000 in
theorem g8_0 {p : Program} {l : Launch} {e : Env} {R : Room} {s : State} {m : MethodId} {args : Array Value} {below : List Frame} {meth : Method} {c : Code} {g : Geo} {A : Nat → Prop} {H0 H : Heap} {locs : List Loc} {cells slots : Nat} {Q : State → Prop} {ls : Array Slot} {h0 : Nat} {fs : List Value} {ws : va_W} (C : Ct RX8 cX8_init 1 p s m args meth c g A H0) (hl : lv_has ls 1 [(0, .ref h0)]) (hc : cells + 9 ≤ R.cells) (hs : slots + 80 ≤ R.slots) (hI : CtI g A H0 h0 8 fs ws H locs) (kk : ∀ (q1 q2 q3 q4 q5 q6 q7 q8 q9 : Nat) (H : Heap) (locs : List Loc), CtI g A H0 h0 8 (((((((((fs.set 1 (.ref q1)).set 2 (.ref q2)).set 3 (.ref q3)).set 5 (.ref q4)).set 6 (.ref q5)).set 7 (.ref q6)).set 8 (.ref q7)).set 10 (.ref q8)).set 11 (.ref q9)) (ws ++ [(q1, zar g 0 8), (q2, zar g 0 8), (q3, zar g 0 8), (q4, zar g 0 12), (q5, zar g 0 12), (q6, zar g 0 12), (q7, zar g 0 12), (q8, zar g 0 4), (q9, zar g 0 4)]) H locs → W p l e R s m args below meth c H locs (cells + 1 + 1 + 1 + 1 + 1 + 1 + 1 + 1 + 1) (slots + 8 + 8 + 8 + 12 + 12 + 12 + 12 + 4 + 4) Q (F0 m 74 ls [])) : W p l e R s m args below meth c H locs cells slots Q (F0 m 4 ls []) := by
  refine ct_aload C hl 0 rfl dX8_init_4 ?_
  refine ct_bipush C dX8_init_5 (by decide) ?_
  refine ct_newa (aty := .int) (t := 0) (n := 8) C rfl ac_int (by decide) rfl rfl rfl (by decide) (by decide) (by omega) (by omega) dX8_init_7 hI (fun q1 H hI => ?_)
  refine ct_putF C fc_X8_7 rfl rfl dX8_init_9 hI (fun H locs hI => ?_)
  refine ct_aload C hl 0 rfl dX8_init_12 ?_
  refine ct_bipush C dX8_init_13 (by decide) ?_
  refine ct_newa (aty := .int) (t := 0) (n := 8) C rfl ac_int (by decide) rfl rfl rfl (by decide) (by decide) (by omega) (by omega) dX8_init_15 hI (fun q2 H hI => ?_)
  refine ct_putF C fc_X8_13 rfl rfl dX8_init_17 hI (fun H locs hI => ?_)
  refine ct_aload C hl 0 rfl dX8_init_20 ?_
  refine ct_bipush C dX8_init_21 (by decide) ?_
  refine ct_newa (aty := .int) (t := 0) (n := 8) C rfl ac_int (by decide) rfl rfl rfl (by decide) (by decide) (by omega) (by omega) dX8_init_23 hI (fun q3 H hI => ?_)
  refine ct_putF C fc_X8_16 rfl rfl dX8_init_25 hI (fun H locs hI => ?_)
  refine ct_aload C hl 0 rfl dX8_init_28 ?_
  refine ct_bipush C dX8_init_29 (by decide) ?_
  refine ct_newa (aty := .int) (t := 0) (n := 12) C rfl ac_int (by decide) rfl rfl rfl (by decide) (by decide) (by omega) (by omega) dX8_init_31 hI (fun q4 H hI => ?_)
  refine ct_putF C fc_X8_19 rfl rfl dX8_init_33 hI (fun H locs hI => ?_)
  refine ct_aload C hl 0 rfl dX8_init_36 ?_
  refine ct_bipush C dX8_init_37 (by decide) ?_
  refine ct_newa (aty := .int) (t := 0) (n := 12) C rfl ac_int (by decide) rfl rfl rfl (by decide) (by decide) (by omega) (by omega) dX8_init_39 hI (fun q5 H hI => ?_)
  refine ct_putF C fc_X8_22 rfl rfl dX8_init_41 hI (fun H locs hI => ?_)
  refine ct_aload C hl 0 rfl dX8_init_44 ?_
  refine ct_bipush C dX8_init_45 (by decide) ?_
  refine ct_newa (aty := .int) (t := 0) (n := 12) C rfl ac_int (by decide) rfl rfl rfl (by decide) (by decide) (by omega) (by omega) dX8_init_47 hI (fun q6 H hI => ?_)
  refine ct_putF C fc_X8_25 rfl rfl dX8_init_49 hI (fun H locs hI => ?_)
  refine ct_aload C hl 0 rfl dX8_init_52 ?_
  refine ct_bipush C dX8_init_53 (by decide) ?_
  refine ct_newa (aty := .int) (t := 0) (n := 12) C rfl ac_int (by decide) rfl rfl rfl (by decide) (by decide) (by omega) (by omega) dX8_init_55 hI (fun q7 H hI => ?_)
  refine ct_putF C fc_X8_28 rfl rfl dX8_init_57 hI (fun H locs hI => ?_)
  refine ct_aload C hl 0 rfl dX8_init_60 ?_
  refine ct_iconst C dX8_init_61 ?_
  refine ct_newa (aty := .int) (t := 0) (n := 4) C rfl ac_int (by decide) rfl rfl rfl (by decide) (by decide) (by omega) (by omega) dX8_init_62 hI (fun q8 H hI => ?_)
  refine ct_putF C fc_X8_31 rfl rfl dX8_init_64 hI (fun H locs hI => ?_)
  refine ct_aload C hl 0 rfl dX8_init_67 ?_
  refine ct_iconst C dX8_init_68 ?_
  refine ct_newa (aty := .int) (t := 0) (n := 4) C rfl ac_int (by decide) rfl rfl rfl (by decide) (by decide) (by omega) (by omega) dX8_init_69 hI (fun q9 H hI => ?_)
  refine ct_putF C fc_X8_34 rfl rfl dX8_init_71 hI (fun H locs hI => ?_)
  try simp only [List.append_assoc, List.cons_append, List.nil_append] at hI
  exact kk q1 q2 q3 q4 q5 q6 q7 q8 q9 _ _ hI
set_option maxHeartbeats 1000000 in
theorem g8_1 {p : Program} {l : Launch} {e : Env} {R : Room} {s : State} {m : MethodId} {args : Array Value} {below : List Frame} {meth : Method} {c : Code} {g : Geo} {A : Nat → Prop} {H0 H : Heap} {locs : List Loc} {cells slots : Nat} {Q : State → Prop} {ls : Array Slot} {h0 : Nat} {fs : List Value} {ws : va_W} (C : Ct RX8 cX8_init 1 p s m args meth c g A H0) (hl : lv_has ls 1 [(0, .ref h0)]) (hc : cells + 9 ≤ R.cells) (hs : slots + 60 ≤ R.slots) (hI : CtI g A H0 h0 8 fs ws H locs) (kk : ∀ (q1 q2 q3 q4 q5 q6 q7 q8 q9 : Nat) (H : Heap) (locs : List Loc), CtI g A H0 h0 8 (((((((((fs.set 12 (.ref q1)).set 14 (.ref q2)).set 15 (.ref q3)).set 16 (.ref q4)).set 17 (.ref q5)).set 18 (.ref q6)).set 19 (.ref q7)).set 20 (.ref q8)).set 21 (.ref q9)) (ws ++ [(q1, zar g 0 4), (q2, zar g 0 4), (q3, zar g 0 4), (q4, zar g 0 4), (q5, zar g 0 4), (q6, zar g 0 4), (q7, zar g 0 12), (q8, zar g 2 12), (q9, zar g 2 12)]) H locs → W p l e R s m args below meth c H locs (cells + 1 + 1 + 1 + 1 + 1 + 1 + 1 + 1 + 1) (slots + 4 + 4 + 4 + 4 + 4 + 4 + 12 + 12 + 12) Q (F0 m 140 ls [])) : W p l e R s m args below meth c H locs cells slots Q (F0 m 74 ls []) := by
  refine ct_aload C hl 0 rfl dX8_init_74 ?_
  refine ct_iconst C dX8_init_75 ?_
  refine ct_newa (aty := .int) (t := 0) (n := 4) C rfl ac_int (by decide) rfl rfl rfl (by decide) (by decide) (by omega) (by omega) dX8_init_76 hI (fun q1 H hI => ?_)
  refine ct_putF C fc_X8_37 rfl rfl dX8_init_78 hI (fun H locs hI => ?_)
  refine ct_aload C hl 0 rfl dX8_init_81 ?_
  refine ct_iconst C dX8_init_82 ?_
  refine ct_newa (aty := .int) (t := 0) (n := 4) C rfl ac_int (by decide) rfl rfl rfl (by decide) (by decide) (by omega) (by omega) dX8_init_83 hI (fun q2 H hI => ?_)
  refine ct_putF C fc_X8_40 rfl rfl dX8_init_85 hI (fun H locs hI => ?_)
  refine ct_aload C hl 0 rfl dX8_init_88 ?_
  refine ct_iconst C dX8_init_89 ?_
  refine ct_newa (aty := .int) (t := 0) (n := 4) C rfl ac_int (by decide) rfl rfl rfl (by decide) (by decide) (by omega) (by omega) dX8_init_90 hI (fun q3 H hI => ?_)
  refine ct_putF C fc_X8_43 rfl rfl dX8_init_92 hI (fun H locs hI => ?_)
  refine ct_aload C hl 0 rfl dX8_init_95 ?_
  refine ct_iconst C dX8_init_96 ?_
  refine ct_newa (aty := .int) (t := 0) (n := 4) C rfl ac_int (by decide) rfl rfl rfl (by decide) (by decide) (by omega) (by omega) dX8_init_97 hI (fun q4 H hI => ?_)
  refine ct_putF C fc_X8_46 rfl rfl dX8_init_99 hI (fun H locs hI => ?_)
  refine ct_aload C hl 0 rfl dX8_init_102 ?_
  refine ct_iconst C dX8_init_103 ?_
  refine ct_newa (aty := .int) (t := 0) (n := 4) C rfl ac_int (by decide) rfl rfl rfl (by decide) (by decide) (by omega) (by omega) dX8_init_104 hI (fun q5 H hI => ?_)
  refine ct_putF C fc_X8_49 rfl rfl dX8_init_106 hI (fun H locs hI => ?_)
  refine ct_aload C hl 0 rfl dX8_init_109 ?_
  refine ct_iconst C dX8_init_110 ?_
  refine ct_newa (aty := .int) (t := 0) (n := 4) C rfl ac_int (by decide) rfl rfl rfl (by decide) (by decide) (by omega) (by omega) dX8_init_111 hI (fun q6 H hI => ?_)
  refine ct_putF C fc_X8_52 rfl rfl dX8_init_113 hI (fun H locs hI => ?_)
  refine ct_aload C hl 0 rfl dX8_init_116 ?_
  refine ct_bipush C dX8_init_117 (by decide) ?_
  refine ct_newa (aty := .int) (t := 0) (n := 12) C rfl ac_int (by decide) rfl rfl rfl (by decide) (by decide) (by omega) (by omega) dX8_init_119 hI (fun q7 H hI => ?_)
  refine ct_putF C fc_X8_55 rfl rfl dX8_init_121 hI (fun H locs hI => ?_)
  refine ct_aload C hl 0 rfl dX8_init_124 ?_
  refine ct_bipush C dX8_init_125 (by decide) ?_
  refine ct_newa (aty := .boolean) (t := 2) (n := 12) C rfl ac_boolean (by decide) rfl rfl rfl (by decide) (by decide) (by omega) (by omega) dX8_init_127 hI (fun q8 H hI => ?_)
  refine ct_putF C fc_X8_58 rfl rfl dX8_init_129 hI (fun H locs hI => ?_)
  refine ct_aload C hl 0 rfl dX8_init_132 ?_
  refine ct_bipush C dX8_init_133 (by decide) ?_
  refine ct_newa (aty := .boolean) (t := 2) (n := 12) C rfl ac_boolean (by decide) rfl rfl rfl (by decide) (by decide) (by omega) (by omega) dX8_init_135 hI (fun q9 H hI => ?_)
  refine ct_putF C fc_X8_62 rfl rfl dX8_init_137 hI (fun H locs hI => ?_)
  try simp only [List.append_assoc, List.cons_append, List.nil_append] at hI
  exact kk q1 q2 q3 q4 q5 q6 q7 q8 q9 _ _ hI
set_option maxHeartbeats 1000000 in
theorem g8_2 {p : Program} {l : Launch} {e : Env} {R : Room} {s : State} {m : MethodId} {args : Array Value} {below : List Frame} {meth : Method} {c : Code} {g : Geo} {A : Nat → Prop} {H0 H : Heap} {locs : List Loc} {cells slots : Nat} {Q : State → Prop} {ls : Array Slot} {h0 : Nat} {fs : List Value} {ws : va_W} (C : Ct RX8 cX8_init 1 p s m args meth c g A H0) (hl : lv_has ls 1 [(0, .ref h0)]) (hc : cells + 9 ≤ R.cells) (hs : slots + 428 ≤ R.slots) (hI : CtI g A H0 h0 8 fs ws H locs) (kk : ∀ (q1 q2 q3 q4 q5 q6 q7 q8 q9 : Nat) (H : Heap) (locs : List Loc), CtI g A H0 h0 8 (((((((((fs.set 22 (.ref q1)).set 23 (.ref q2)).set 24 (.ref q3)).set 25 (.ref q4)).set 26 (.ref q5)).set 27 (.ref q6)).set 28 (.ref q7)).set 32 (.ref q8)).set 33 (.ref q9)) (ws ++ [(q1, zar g 0 4), (q2, zar g 0 4), (q3, zar g 0 4), (q4, zar g 0 4), (q5, zar g 0 4), (q6, zar g 0 4), (q7, zar g 2 4), (q8, zar g 0 200), (q9, zar g 0 200)]) H locs → W p l e R s m args below meth c H locs (cells + 1 + 1 + 1 + 1 + 1 + 1 + 1 + 1 + 1) (slots + 4 + 4 + 4 + 4 + 4 + 4 + 4 + 200 + 200) Q (F0 m 207 ls [])) : W p l e R s m args below meth c H locs cells slots Q (F0 m 140 ls []) := by
  refine ct_aload C hl 0 rfl dX8_init_140 ?_
  refine ct_iconst C dX8_init_141 ?_
  refine ct_newa (aty := .int) (t := 0) (n := 4) C rfl ac_int (by decide) rfl rfl rfl (by decide) (by decide) (by omega) (by omega) dX8_init_142 hI (fun q1 H hI => ?_)
  refine ct_putF C fc_X8_65 rfl rfl dX8_init_144 hI (fun H locs hI => ?_)
  refine ct_aload C hl 0 rfl dX8_init_147 ?_
  refine ct_iconst C dX8_init_148 ?_
  refine ct_newa (aty := .int) (t := 0) (n := 4) C rfl ac_int (by decide) rfl rfl rfl (by decide) (by decide) (by omega) (by omega) dX8_init_149 hI (fun q2 H hI => ?_)
  refine ct_putF C fc_X8_68 rfl rfl dX8_init_151 hI (fun H locs hI => ?_)
  refine ct_aload C hl 0 rfl dX8_init_154 ?_
  refine ct_iconst C dX8_init_155 ?_
  refine ct_newa (aty := .int) (t := 0) (n := 4) C rfl ac_int (by decide) rfl rfl rfl (by decide) (by decide) (by omega) (by omega) dX8_init_156 hI (fun q3 H hI => ?_)
  refine ct_putF C fc_X8_71 rfl rfl dX8_init_158 hI (fun H locs hI => ?_)
  refine ct_aload C hl 0 rfl dX8_init_161 ?_
  refine ct_iconst C dX8_init_162 ?_
  refine ct_newa (aty := .int) (t := 0) (n := 4) C rfl ac_int (by decide) rfl rfl rfl (by decide) (by decide) (by omega) (by omega) dX8_init_163 hI (fun q4 H hI => ?_)
  refine ct_putF C fc_X8_74 rfl rfl dX8_init_165 hI (fun H locs hI => ?_)
  refine ct_aload C hl 0 rfl dX8_init_168 ?_
  refine ct_iconst C dX8_init_169 ?_
  refine ct_newa (aty := .int) (t := 0) (n := 4) C rfl ac_int (by decide) rfl rfl rfl (by decide) (by decide) (by omega) (by omega) dX8_init_170 hI (fun q5 H hI => ?_)
  refine ct_putF C fc_X8_77 rfl rfl dX8_init_172 hI (fun H locs hI => ?_)
  refine ct_aload C hl 0 rfl dX8_init_175 ?_
  refine ct_iconst C dX8_init_176 ?_
  refine ct_newa (aty := .int) (t := 0) (n := 4) C rfl ac_int (by decide) rfl rfl rfl (by decide) (by decide) (by omega) (by omega) dX8_init_177 hI (fun q6 H hI => ?_)
  refine ct_putF C fc_X8_80 rfl rfl dX8_init_179 hI (fun H locs hI => ?_)
  refine ct_aload C hl 0 rfl dX8_init_182 ?_
  refine ct_iconst C dX8_init_183 ?_
  refine ct_newa (aty := .boolean) (t := 2) (n := 4) C rfl ac_boolean (by decide) rfl rfl rfl (by decide) (by decide) (by omega) (by omega) dX8_init_184 hI (fun q7 H hI => ?_)
  refine ct_putF C fc_X8_83 rfl rfl dX8_init_186 hI (fun H locs hI => ?_)
  refine ct_aload C hl 0 rfl dX8_init_189 ?_
  refine ct_sipush C dX8_init_190 (by decide) ?_
  refine ct_newa (aty := .int) (t := 0) (n := 200) C rfl ac_int (by decide) rfl rfl rfl (by decide) (by decide) (by omega) (by omega) dX8_init_193 hI (fun q8 H hI => ?_)
  refine ct_putF C fc_X8_86 rfl rfl dX8_init_195 hI (fun H locs hI => ?_)
  refine ct_aload C hl 0 rfl dX8_init_198 ?_
  refine ct_sipush C dX8_init_199 (by decide) ?_
  refine ct_newa (aty := .int) (t := 0) (n := 200) C rfl ac_int (by decide) rfl rfl rfl (by decide) (by decide) (by omega) (by omega) dX8_init_202 hI (fun q9 H hI => ?_)
  refine ct_putF C fc_X8_89 rfl rfl dX8_init_204 hI (fun H locs hI => ?_)
  try simp only [List.append_assoc, List.cons_append, List.nil_append] at hI
  exact kk q1 q2 q3 q4 q5 q6 q7 q8 q9 _ _ hI
set_option maxHeartbeats 1000000 in
theorem g8_3 {p : Program} {l : Launch} {e : Env} {R : Room} {s : State} {m : MethodId} {args : Array Value} {below : List Frame} {meth : Method} {c : Code} {g : Geo} {A : Nat → Prop} {H0 H : Heap} {locs : List Loc} {cells slots : Nat} {Q : State → Prop} {ls : Array Slot} {h0 : Nat} {fs : List Value} {ws : va_W} (C : Ct RX8 cX8_init 1 p s m args meth c g A H0) (hl : lv_has ls 1 [(0, .ref h0)]) (hc : cells + 8 ≤ R.cells) (hs : slots + 572 ≤ R.slots) (hI : CtI g A H0 h0 8 fs ws H locs) (kk : ∀ (q1 q2 q3 q4 q5 q6 q7 q8 : Nat) (H : Heap) (locs : List Loc), CtI g A H0 h0 8 (((((((((fs.set 35 (.ref q1)).set 37 (.int (iI (-1)))).set 44 (.ref q2)).set 45 (.ref q3)).set 46 (.ref q4)).set 48 (.ref q5)).set 49 (.ref q6)).set 50 (.ref q7)).set 51 (.ref q8)) (ws ++ [(q1, zar g 0 500), (q2, zar g 0 8), (q3, zar g 0 8), (q4, zar g 0 8), (q5, zar g 0 12), (q6, zar g 0 12), (q7, zar g 0 12), (q8, zar g 0 12)]) H locs → W p l e R s m args below meth c H locs (cells + 1 + 1 + 1 + 1 + 1 + 1 + 1 + 1) (slots + 500 + 8 + 8 + 8 + 12 + 12 + 12 + 12) Q (F0 m 277 ls [])) : W p l e R s m args below meth c H locs cells slots Q (F0 m 207 ls []) := by
  refine ct_aload C hl 0 rfl dX8_init_207 ?_
  refine ct_sipush C dX8_init_208 (by decide) ?_
  refine ct_newa (aty := .int) (t := 0) (n := 500) C rfl ac_int (by decide) rfl rfl rfl (by decide) (by decide) (by omega) (by omega) dX8_init_211 hI (fun q1 H hI => ?_)
  refine ct_putF C fc_X8_92 rfl rfl dX8_init_213 hI (fun H locs hI => ?_)
  refine ct_aload C hl 0 rfl dX8_init_216 ?_
  refine ct_iconst C dX8_init_217 ?_
  refine ct_put C fp_X8_95 rfl rfl dX8_init_218 hI (fun H locs hI => ?_)
  refine ct_aload C hl 0 rfl dX8_init_221 ?_
  refine ct_bipush C dX8_init_222 (by decide) ?_
  refine ct_newa (aty := .int) (t := 0) (n := 8) C rfl ac_int (by decide) rfl rfl rfl (by decide) (by decide) (by omega) (by omega) dX8_init_224 hI (fun q2 H hI => ?_)
  refine ct_putF C fc_X8_99 rfl rfl dX8_init_226 hI (fun H locs hI => ?_)
  refine ct_aload C hl 0 rfl dX8_init_229 ?_
  refine ct_bipush C dX8_init_230 (by decide) ?_
  refine ct_newa (aty := .int) (t := 0) (n := 8) C rfl ac_int (by decide) rfl rfl rfl (by decide) (by decide) (by omega) (by omega) dX8_init_232 hI (fun q3 H hI => ?_)
  refine ct_putF C fc_X8_102 rfl rfl dX8_init_234 hI (fun H locs hI => ?_)
  refine ct_aload C hl 0 rfl dX8_init_237 ?_
  refine ct_bipush C dX8_init_238 (by decide) ?_
  refine ct_newa (aty := .int) (t := 0) (n := 8) C rfl ac_int (by decide) rfl rfl rfl (by decide) (by decide) (by omega) (by omega) dX8_init_240 hI (fun q4 H hI => ?_)
  refine ct_putF C fc_X8_105 rfl rfl dX8_init_242 hI (fun H locs hI => ?_)
  refine ct_aload C hl 0 rfl dX8_init_245 ?_
  refine ct_bipush C dX8_init_246 (by decide) ?_
  refine ct_newa (aty := .int) (t := 0) (n := 12) C rfl ac_int (by decide) rfl rfl rfl (by decide) (by decide) (by omega) (by omega) dX8_init_248 hI (fun q5 H hI => ?_)
  refine ct_putF C fc_X8_108 rfl rfl dX8_init_250 hI (fun H locs hI => ?_)
  refine ct_aload C hl 0 rfl dX8_init_253 ?_
  refine ct_bipush C dX8_init_254 (by decide) ?_
  refine ct_newa (aty := .int) (t := 0) (n := 12) C rfl ac_int (by decide) rfl rfl rfl (by decide) (by decide) (by omega) (by omega) dX8_init_256 hI (fun q6 H hI => ?_)
  refine ct_putF C fc_X8_111 rfl rfl dX8_init_258 hI (fun H locs hI => ?_)
  refine ct_aload C hl 0 rfl dX8_init_261 ?_
  refine ct_bipush C dX8_init_262 (by decide) ?_
  refine ct_newa (aty := .int) (t := 0) (n := 12) C rfl ac_int (by decide) rfl rfl rfl (by decide) (by decide) (by omega) (by omega) dX8_init_264 hI (fun q7 H hI => ?_)
  refine ct_putF C fc_X8_114 rfl rfl dX8_init_266 hI (fun H locs hI => ?_)
  refine ct_aload C hl 0 rfl dX8_init_269 ?_
  refine ct_bipush C dX8_init_270 (by decide) ?_
  refine ct_newa (aty := .int) (t := 0) (n := 12) C rfl ac_int (by decide) rfl rfl rfl (by decide) (by decide) (by omega) (by omega) dX8_init_272 hI (fun q8 H hI => ?_)
  refine ct_putF C fc_X8_117 rfl rfl dX8_init_274 hI (fun H locs hI => ?_)
  try simp only [List.append_assoc, List.cons_append, List.nil_append] at hI
  exact kk q1 q2 q3 q4 q5 q6 q7 q8 _ _ hI
set_option maxHeartbeats 1000000 in
theorem g8_4 {p : Program} {l : Launch} {e : Env} {R : Room} {s : State} {m : MethodId} {args : Array Value} {below : List Frame} {meth : Method} {c : Code} {g : Geo} {A : Nat → Prop} {H0 H : Heap} {locs : List Loc} {cells slots : Nat} {Q : State → Prop} {ls : Array Slot} {h0 : Nat} {fs : List Value} {ws : va_W} (C : Ct RX8 cX8_init 1 p s m args meth c g A H0) (hl : lv_has ls 1 [(0, .ref h0)]) (hc : cells + 9 ≤ R.cells) (hs : slots + 40 ≤ R.slots) (hI : CtI g A H0 h0 8 fs ws H locs) (kk : ∀ (q1 q2 q3 q4 q5 q6 q7 q8 q9 : Nat) (H : Heap) (locs : List Loc), CtI g A H0 h0 8 (((((((((fs.set 53 (.ref q1)).set 54 (.ref q2)).set 55 (.ref q3)).set 57 (.ref q4)).set 58 (.ref q5)).set 59 (.ref q6)).set 60 (.ref q7)).set 61 (.ref q8)).set 62 (.ref q9)) (ws ++ [(q1, zar g 0 4), (q2, zar g 0 4), (q3, zar g 0 4), (q4, zar g 0 4), (q5, zar g 0 4), (q6, zar g 0 4), (q7, zar g 0 4), (q8, zar g 0 4), (q9, zar g 0 8)]) H locs → W p l e R s m args below meth c H locs (cells + 1 + 1 + 1 + 1 + 1 + 1 + 1 + 1 + 1) (slots + 4 + 4 + 4 + 4 + 4 + 4 + 4 + 4 + 8) Q (F0 m 341 ls [])) : W p l e R s m args below meth c H locs cells slots Q (F0 m 277 ls []) := by
  refine ct_aload C hl 0 rfl dX8_init_277 ?_
  refine ct_iconst C dX8_init_278 ?_
  refine ct_newa (aty := .int) (t := 0) (n := 4) C rfl ac_int (by decide) rfl rfl rfl (by decide) (by decide) (by omega) (by omega) dX8_init_279 hI (fun q1 H hI => ?_)
  refine ct_putF C fc_X8_120 rfl rfl dX8_init_281 hI (fun H locs hI => ?_)
  refine ct_aload C hl 0 rfl dX8_init_284 ?_
  refine ct_iconst C dX8_init_285 ?_
  refine ct_newa (aty := .int) (t := 0) (n := 4) C rfl ac_int (by decide) rfl rfl rfl (by decide) (by decide) (by omega) (by omega) dX8_init_286 hI (fun q2 H hI => ?_)
  refine ct_putF C fc_X8_123 rfl rfl dX8_init_288 hI (fun H locs hI => ?_)
  refine ct_aload C hl 0 rfl dX8_init_291 ?_
  refine ct_iconst C dX8_init_292 ?_
  refine ct_newa (aty := .int) (t := 0) (n := 4) C rfl ac_int (by decide) rfl rfl rfl (by decide) (by decide) (by omega) (by omega) dX8_init_293 hI (fun q3 H hI => ?_)
  refine ct_putF C fc_X8_126 rfl rfl dX8_init_295 hI (fun H locs hI => ?_)
  refine ct_aload C hl 0 rfl dX8_init_298 ?_
  refine ct_iconst C dX8_init_299 ?_
  refine ct_newa (aty := .int) (t := 0) (n := 4) C rfl ac_int (by decide) rfl rfl rfl (by decide) (by decide) (by omega) (by omega) dX8_init_300 hI (fun q4 H hI => ?_)
  refine ct_putF C fc_X8_129 rfl rfl dX8_init_302 hI (fun H locs hI => ?_)
  refine ct_aload C hl 0 rfl dX8_init_305 ?_
  refine ct_iconst C dX8_init_306 ?_
  refine ct_newa (aty := .int) (t := 0) (n := 4) C rfl ac_int (by decide) rfl rfl rfl (by decide) (by decide) (by omega) (by omega) dX8_init_307 hI (fun q5 H hI => ?_)
  refine ct_putF C fc_X8_132 rfl rfl dX8_init_309 hI (fun H locs hI => ?_)
  refine ct_aload C hl 0 rfl dX8_init_312 ?_
  refine ct_iconst C dX8_init_313 ?_
  refine ct_newa (aty := .int) (t := 0) (n := 4) C rfl ac_int (by decide) rfl rfl rfl (by decide) (by decide) (by omega) (by omega) dX8_init_314 hI (fun q6 H hI => ?_)
  refine ct_putF C fc_X8_135 rfl rfl dX8_init_316 hI (fun H locs hI => ?_)
  refine ct_aload C hl 0 rfl dX8_init_319 ?_
  refine ct_iconst C dX8_init_320 ?_
  refine ct_newa (aty := .int) (t := 0) (n := 4) C rfl ac_int (by decide) rfl rfl rfl (by decide) (by decide) (by omega) (by omega) dX8_init_321 hI (fun q7 H hI => ?_)
  refine ct_putF C fc_X8_138 rfl rfl dX8_init_323 hI (fun H locs hI => ?_)
  refine ct_aload C hl 0 rfl dX8_init_326 ?_
  refine ct_iconst C dX8_init_327 ?_
  refine ct_newa (aty := .int) (t := 0) (n := 4) C rfl ac_int (by decide) rfl rfl rfl (by decide) (by decide) (by omega) (by omega) dX8_init_328 hI (fun q8 H hI => ?_)
  refine ct_putF C fc_X8_141 rfl rfl dX8_init_330 hI (fun H locs hI => ?_)
  refine ct_aload C hl 0 rfl dX8_init_333 ?_
  refine ct_bipush C dX8_init_334 (by decide) ?_
  refine ct_newa (aty := .int) (t := 0) (n := 8) C rfl ac_int (by decide) rfl rfl rfl (by decide) (by decide) (by omega) (by omega) dX8_init_336 hI (fun q9 H hI => ?_)
  refine ct_putF C fc_X8_144 rfl rfl dX8_init_338 hI (fun H locs hI => ?_)
  try simp only [List.append_assoc, List.cons_append, List.nil_append] at hI
  exact kk q1 q2 q3 q4 q5 q6 q7 q8 q9 _ _ hI
set_option maxHeartbeats 1000000 in
theorem g8_5 {p : Program} {l : Launch} {e : Env} {R : Room} {s : State} {m : MethodId} {args : Array Value} {below : List Frame} {meth : Method} {c : Code} {g : Geo} {A : Nat → Prop} {H0 H : Heap} {locs : List Loc} {cells slots : Nat} {Q : State → Prop} {ls : Array Slot} {h0 : Nat} {fs : List Value} {ws : va_W} (C : Ct RX8 cX8_init 1 p s m args meth c g A H0) (hl : lv_has ls 1 [(0, .ref h0)]) (hc : cells + 9 ≤ R.cells) (hs : slots + 1844 ≤ R.slots) (hI : CtI g A H0 h0 8 fs ws H locs) (kk : ∀ (q1 q2 q3 q4 q5 q6 q7 q8 q9 : Nat) (H : Heap) (locs : List Loc), CtI g A H0 h0 8 (((((((((fs.set 63 (.ref q1)).set 64 (.ref q2)).set 65 (.ref q3)).set 66 (.ref q4)).set 67 (.ref q5)).set 69 (.ref q6)).set 70 (.ref q7)).set 71 (.ref q8)).set 72 (.ref q9)) (ws ++ [(q1, zar g 0 648), (q2, zar g 0 64), (q3, zar g 0 4), (q4, zar g 0 4), (q5, zar g 0 64), (q6, zar g 0 20), (q7, zar g 0 20), (q8, zar g 0 20), (q9, zar g 0 1000)]) H locs → W p l e R s m args below meth c H locs (cells + 1 + 1 + 1 + 1 + 1 + 1 + 1 + 1 + 1) (slots + 648 + 64 + 4 + 4 + 64 + 20 + 20 + 20 + 1000) Q (F0 m 413 ls [])) : W p l e R s m args below meth c H locs cells slots Q (F0 m 341 ls []) := by
  refine ct_aload C hl 0 rfl dX8_init_341 ?_
  refine ct_sipush C dX8_init_342 (by decide) ?_
  refine ct_newa (aty := .int) (t := 0) (n := 648) C rfl ac_int (by decide) rfl rfl rfl (by decide) (by decide) (by omega) (by omega) dX8_init_345 hI (fun q1 H hI => ?_)
  refine ct_putF C fc_X8_147 rfl rfl dX8_init_347 hI (fun H locs hI => ?_)
  refine ct_aload C hl 0 rfl dX8_init_350 ?_
  refine ct_bipush C dX8_init_351 (by decide) ?_
  refine ct_newa (aty := .int) (t := 0) (n := 64) C rfl ac_int (by decide) rfl rfl rfl (by decide) (by decide) (by omega) (by omega) dX8_init_353 hI (fun q2 H hI => ?_)
  refine ct_putF C fc_X8_150 rfl rfl dX8_init_355 hI (fun H locs hI => ?_)
  refine ct_aload C hl 0 rfl dX8_init_358 ?_
  refine ct_iconst C dX8_init_359 ?_
  refine ct_newa (aty := .int) (t := 0) (n := 4) C rfl ac_int (by decide) rfl rfl rfl (by decide) (by decide) (by omega) (by omega) dX8_init_360 hI (fun q3 H hI => ?_)
  refine ct_putF C fc_X8_153 rfl rfl dX8_init_362 hI (fun H locs hI => ?_)
  refine ct_aload C hl 0 rfl dX8_init_365 ?_
  refine ct_iconst C dX8_init_366 ?_
  refine ct_newa (aty := .int) (t := 0) (n := 4) C rfl ac_int (by decide) rfl rfl rfl (by decide) (by decide) (by omega) (by omega) dX8_init_367 hI (fun q4 H hI => ?_)
  refine ct_putF C fc_X8_156 rfl rfl dX8_init_369 hI (fun H locs hI => ?_)
  refine ct_aload C hl 0 rfl dX8_init_372 ?_
  refine ct_bipush C dX8_init_373 (by decide) ?_
  refine ct_newa (aty := .int) (t := 0) (n := 64) C rfl ac_int (by decide) rfl rfl rfl (by decide) (by decide) (by omega) (by omega) dX8_init_375 hI (fun q5 H hI => ?_)
  refine ct_putF C fc_X8_159 rfl rfl dX8_init_377 hI (fun H locs hI => ?_)
  refine ct_aload C hl 0 rfl dX8_init_380 ?_
  refine ct_bipush C dX8_init_381 (by decide) ?_
  refine ct_newa (aty := .int) (t := 0) (n := 20) C rfl ac_int (by decide) rfl rfl rfl (by decide) (by decide) (by omega) (by omega) dX8_init_383 hI (fun q6 H hI => ?_)
  refine ct_putF C fc_X8_162 rfl rfl dX8_init_385 hI (fun H locs hI => ?_)
  refine ct_aload C hl 0 rfl dX8_init_388 ?_
  refine ct_bipush C dX8_init_389 (by decide) ?_
  refine ct_newa (aty := .int) (t := 0) (n := 20) C rfl ac_int (by decide) rfl rfl rfl (by decide) (by decide) (by omega) (by omega) dX8_init_391 hI (fun q7 H hI => ?_)
  refine ct_putF C fc_X8_165 rfl rfl dX8_init_393 hI (fun H locs hI => ?_)
  refine ct_aload C hl 0 rfl dX8_init_396 ?_
  refine ct_bipush C dX8_init_397 (by decide) ?_
  refine ct_newa (aty := .int) (t := 0) (n := 20) C rfl ac_int (by decide) rfl rfl rfl (by decide) (by decide) (by omega) (by omega) dX8_init_399 hI (fun q8 H hI => ?_)
  refine ct_putF C fc_X8_168 rfl rfl dX8_init_401 hI (fun H locs hI => ?_)
  refine ct_aload C hl 0 rfl dX8_init_404 ?_
  refine ct_sipush C dX8_init_405 (by decide) ?_
  refine ct_newa (aty := .int) (t := 0) (n := 1000) C rfl ac_int (by decide) rfl rfl rfl (by decide) (by decide) (by omega) (by omega) dX8_init_408 hI (fun q9 H hI => ?_)
  refine ct_putF C fc_X8_171 rfl rfl dX8_init_410 hI (fun H locs hI => ?_)
  try simp only [List.append_assoc, List.cons_append, List.nil_append] at hI
  exact kk q1 q2 q3 q4 q5 q6 q7 q8 q9 _ _ hI
set_option maxHeartbeats 1000000 in
theorem g8_6 {p : Program} {l : Launch} {e : Env} {R : Room} {s : State} {m : MethodId} {args : Array Value} {below : List Frame} {meth : Method} {c : Code} {g : Geo} {A : Nat → Prop} {H0 H : Heap} {locs : List Loc} {cells slots : Nat} {Q : State → Prop} {ls : Array Slot} {h0 : Nat} {fs : List Value} {ws : va_W} (C : Ct RX8 cX8_init 1 p s m args meth c g A H0) (hl : lv_has ls 1 [(0, .ref h0)]) (hc : cells + 1 ≤ R.cells) (hs : slots + 2 ≤ R.slots) (hI : CtI g A H0 h0 8 fs ws H locs) (kk : ∀ (q1 : Nat) (H : Heap) (locs : List Loc), CtI g A H0 h0 8 ((fs.set 73 (.ref q1)).set 0 (.int (iI (0)))) (ws ++ [(q1, zar g 2 2)]) H locs → W p l e R s m args below meth c H locs (cells + 1) (slots + 2) Q (F0 m 425 ls [])) : W p l e R s m args below meth c H locs cells slots Q (F0 m 413 ls []) := by
  refine ct_aload C hl 0 rfl dX8_init_413 ?_
  refine ct_iconst C dX8_init_414 ?_
  refine ct_newa (aty := .boolean) (t := 2) (n := 2) C rfl ac_boolean (by decide) rfl rfl rfl (by decide) (by decide) (by omega) (by omega) dX8_init_415 hI (fun q1 H hI => ?_)
  refine ct_putF C fc_X8_174 rfl rfl dX8_init_417 hI (fun H locs hI => ?_)
  refine ct_aload C hl 0 rfl dX8_init_420 ?_
  refine ct_iconst C dX8_init_421 ?_
  refine ct_put C fp_X8_177 rfl rfl dX8_init_422 hI (fun H locs hI => ?_)
  try simp only [List.append_assoc, List.cons_append, List.nil_append] at hI
  exact kk q1 _ _ hI
