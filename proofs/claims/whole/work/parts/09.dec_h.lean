theorem dX8_sumWith_142 : decode cX8_sumWith 142 = .ok (.iaload, 1) := by decide +kernel
theorem dX8_sumWith_143 : decode cX8_sumWith 143 = .ok (.aload_n 0, 1) := by decide +kernel
theorem dX8_sumWith_144 : decode cX8_sumWith 144 = .ok (.getfield 159, 3) := by decide +kernel
theorem dX8_sumWith_147 : decode cX8_sumWith 147 = .ok (.bipush 8, 2) := by decide +kernel
theorem dX8_sumWith_149 : decode cX8_sumWith 149 = .ok (.iload_n 3, 1) := by decide +kernel
theorem dX8_sumWith_150 : decode cX8_sumWith 150 = .ok (.imul, 1) := by decide +kernel
theorem dX8_sumWith_151 : decode cX8_sumWith 151 = .ok (.iload 5, 2) := by decide +kernel
theorem dX8_sumWith_153 : decode cX8_sumWith 153 = .ok (.iadd, 1) := by decide +kernel
theorem dX8_sumWith_154 : decode cX8_sumWith 154 = .ok (.iaload, 1) := by decide +kernel
theorem dX8_sumWith_155 : decode cX8_sumWith 155 = .ok (.iadd, 1) := by decide +kernel
theorem dX8_sumWith_156 : decode cX8_sumWith 156 = .ok (.istore 6, 2) := by decide +kernel
theorem dX8_sumWith_158 : decode cX8_sumWith 158 = .ok (.aload_n 0, 1) := by decide +kernel
theorem dX8_sumWith_159 : decode cX8_sumWith 159 = .ok (.getfield 159, 3) := by decide +kernel
theorem dX8_sumWith_162 : decode cX8_sumWith 162 = .ok (.bipush 8, 2) := by decide +kernel
theorem dX8_sumWith_164 : decode cX8_sumWith 164 = .ok (.iload 4, 2) := by decide +kernel
theorem dX8_sumWith_166 : decode cX8_sumWith 166 = .ok (.imul, 1) := by decide +kernel
theorem dX8_sumWith_167 : decode cX8_sumWith 167 = .ok (.iload 5, 2) := by decide +kernel
theorem dX8_sumWith_169 : decode cX8_sumWith 169 = .ok (.iadd, 1) := by decide +kernel
theorem dX8_sumWith_170 : decode cX8_sumWith 170 = .ok (.iload 6, 2) := by decide +kernel
theorem dX8_sumWith_172 : decode cX8_sumWith 172 = .ok (.aload_n 0, 1) := by decide +kernel
theorem dX8_sumWith_173 : decode cX8_sumWith 173 = .ok (.getfield 159, 3) := by decide +kernel
theorem dX8_sumWith_176 : decode cX8_sumWith 176 = .ok (.bipush 8, 2) := by decide +kernel
theorem dX8_sumWith_178 : decode cX8_sumWith 178 = .ok (.iload 4, 2) := by decide +kernel
theorem dX8_sumWith_180 : decode cX8_sumWith 180 = .ok (.imul, 1) := by decide +kernel
theorem dX8_sumWith_181 : decode cX8_sumWith 181 = .ok (.iload 5, 2) := by decide +kernel
theorem dX8_sumWith_183 : decode cX8_sumWith 183 = .ok (.iadd, 1) := by decide +kernel
theorem dX8_sumWith_184 : decode cX8_sumWith 184 = .ok (.iaload, 1) := by decide +kernel
theorem dX8_sumWith_185 : decode cX8_sumWith 185 = .ok (.if_icmp .ge 8, 3) := by decide +kernel
theorem dX8_sumWith_188 : decode cX8_sumWith 188 = .ok (.iload 6, 2) := by decide +kernel
theorem dX8_sumWith_190 : decode cX8_sumWith 190 = .ok (.goto 16, 3) := by decide +kernel
theorem dX8_sumWith_193 : decode cX8_sumWith 193 = .ok (.aload_n 0, 1) := by decide +kernel
theorem dX8_sumWith_194 : decode cX8_sumWith 194 = .ok (.getfield 159, 3) := by decide +kernel
theorem dX8_sumWith_197 : decode cX8_sumWith 197 = .ok (.bipush 8, 2) := by decide +kernel
theorem dX8_sumWith_199 : decode cX8_sumWith 199 = .ok (.iload 4, 2) := by decide +kernel
theorem dX8_sumWith_201 : decode cX8_sumWith 201 = .ok (.imul, 1) := by decide +kernel
theorem dX8_sumWith_202 : decode cX8_sumWith 202 = .ok (.iload 5, 2) := by decide +kernel
theorem dX8_sumWith_204 : decode cX8_sumWith 204 = .ok (.iadd, 1) := by decide +kernel
theorem dX8_sumWith_205 : decode cX8_sumWith 205 = .ok (.iaload, 1) := by decide +kernel
theorem dX8_sumWith_206 : decode cX8_sumWith 206 = .ok (.iastore, 1) := by decide +kernel
theorem dX8_sumWith_207 : decode cX8_sumWith 207 = .ok (.iinc 5 1, 3) := by decide +kernel
theorem dX8_sumWith_210 : decode cX8_sumWith 210 = .ok (.goto (-88), 3) := by decide +kernel
theorem dX8_sumWith_213 : decode cX8_sumWith 213 = .ok (.iinc 4 1, 3) := by decide +kernel
theorem dX8_sumWith_216 : decode cX8_sumWith 216 = .ok (.goto (-106), 3) := by decide +kernel
theorem dX8_sumWith_219 : decode cX8_sumWith 219 = .ok (.iinc 3 1, 3) := by decide +kernel
theorem dX8_sumWith_222 : decode cX8_sumWith 222 = .ok (.goto (-123), 3) := by decide +kernel
theorem dX8_sumWith_225 : decode cX8_sumWith 225 = .ok (.iconst 0, 1) := by decide +kernel
theorem dX8_sumWith_226 : decode cX8_sumWith 226 = .ok (.istore_n 3, 1) := by decide +kernel
theorem dX8_sumWith_227 : decode cX8_sumWith 227 = .ok (.iconst 0, 1) := by decide +kernel
theorem dX8_sumWith_228 : decode cX8_sumWith 228 = .ok (.istore 4, 2) := by decide +kernel
theorem dX8_sumWith_230 : decode cX8_sumWith 230 = .ok (.iload 4, 2) := by decide +kernel
theorem dX8_sumWith_232 : decode cX8_sumWith 232 = .ok (.aload_n 0, 1) := by decide +kernel
theorem dX8_sumWith_233 : decode cX8_sumWith 233 = .ok (.getfield 177, 3) := by decide +kernel
theorem dX8_sumWith_236 : decode cX8_sumWith 236 = .ok (.if_icmp .ge 46, 3) := by decide +kernel
theorem dX8_sumWith_239 : decode cX8_sumWith 239 = .ok (.iload 4, 2) := by decide +kernel
theorem dX8_sumWith_241 : decode cX8_sumWith 241 = .ok (.iconst 1, 1) := by decide +kernel
theorem dX8_sumWith_242 : decode cX8_sumWith 242 = .ok (.iadd, 1) := by decide +kernel
theorem dX8_sumWith_243 : decode cX8_sumWith 243 = .ok (.istore 5, 2) := by decide +kernel
theorem dX8_sumWith_245 : decode cX8_sumWith 245 = .ok (.iload 5, 2) := by decide +kernel
theorem dX8_sumWith_247 : decode cX8_sumWith 247 = .ok (.aload_n 0, 1) := by decide +kernel
theorem dX8_sumWith_248 : decode cX8_sumWith 248 = .ok (.getfield 177, 3) := by decide +kernel
theorem dX8_sumWith_251 : decode cX8_sumWith 251 = .ok (.if_icmp .ge 25, 3) := by decide +kernel
theorem dX8_sumWith_254 : decode cX8_sumWith 254 = .ok (.iload_n 3, 1) := by decide +kernel
theorem dX8_sumWith_255 : decode cX8_sumWith 255 = .ok (.aload_n 0, 1) := by decide +kernel
theorem dX8_sumWith_256 : decode cX8_sumWith 256 = .ok (.getfield 159, 3) := by decide +kernel
theorem dX8_sumWith_259 : decode cX8_sumWith 259 = .ok (.bipush 8, 2) := by decide +kernel
theorem dX8_sumWith_261 : decode cX8_sumWith 261 = .ok (.iload 4, 2) := by decide +kernel
theorem dX8_sumWith_263 : decode cX8_sumWith 263 = .ok (.imul, 1) := by decide +kernel
theorem dX8_sumWith_264 : decode cX8_sumWith 264 = .ok (.iload 5, 2) := by decide +kernel
theorem dX8_sumWith_266 : decode cX8_sumWith 266 = .ok (.iadd, 1) := by decide +kernel
theorem dX8_sumWith_267 : decode cX8_sumWith 267 = .ok (.iaload, 1) := by decide +kernel
theorem dX8_sumWith_268 : decode cX8_sumWith 268 = .ok (.iadd, 1) := by decide +kernel
theorem dX8_sumWith_269 : decode cX8_sumWith 269 = .ok (.istore_n 3, 1) := by decide +kernel
theorem dX8_sumWith_270 : decode cX8_sumWith 270 = .ok (.iinc 5 1, 3) := by decide +kernel
theorem dX8_sumWith_273 : decode cX8_sumWith 273 = .ok (.goto (-28), 3) := by decide +kernel
theorem dX8_sumWith_276 : decode cX8_sumWith 276 = .ok (.iinc 4 1, 3) := by decide +kernel
theorem dX8_sumWith_279 : decode cX8_sumWith 279 = .ok (.goto (-49), 3) := by decide +kernel
theorem dX8_sumWith_282 : decode cX8_sumWith 282 = .ok (.iload_n 3, 1) := by decide +kernel
theorem dX8_sumWith_283 : decode cX8_sumWith 283 = .ok (.ireturn, 1) := by decide +kernel
theorem dX8_shorten_0 : decode cX8_shorten 0 = .ok (.aload_n 0, 1) := by decide +kernel
theorem dX8_shorten_1 : decode cX8_shorten 1 = .ok (.getfield 159, 3) := by decide +kernel
theorem dX8_shorten_4 : decode cX8_shorten 4 = .ok (.bipush 8, 2) := by decide +kernel
theorem dX8_shorten_6 : decode cX8_shorten 6 = .ok (.iload_n 1, 1) := by decide +kernel
theorem dX8_shorten_7 : decode cX8_shorten 7 = .ok (.imul, 1) := by decide +kernel
theorem dX8_shorten_8 : decode cX8_shorten 8 = .ok (.iload_n 2, 1) := by decide +kernel
theorem dX8_shorten_9 : decode cX8_shorten 9 = .ok (.iadd, 1) := by decide +kernel
theorem dX8_shorten_10 : decode cX8_shorten 10 = .ok (.iload_n 3, 1) := by decide +kernel
theorem dX8_shorten_11 : decode cX8_shorten 11 = .ok (.aload_n 0, 1) := by decide +kernel
theorem dX8_shorten_12 : decode cX8_shorten 12 = .ok (.getfield 159, 3) := by decide +kernel
theorem dX8_shorten_15 : decode cX8_shorten 15 = .ok (.bipush 8, 2) := by decide +kernel
theorem dX8_shorten_17 : decode cX8_shorten 17 = .ok (.iload_n 1, 1) := by decide +kernel
theorem dX8_shorten_18 : decode cX8_shorten 18 = .ok (.imul, 1) := by decide +kernel
theorem dX8_shorten_19 : decode cX8_shorten 19 = .ok (.iload_n 2, 1) := by decide +kernel
theorem dX8_shorten_20 : decode cX8_shorten 20 = .ok (.iadd, 1) := by decide +kernel
theorem dX8_shorten_21 : decode cX8_shorten 21 = .ok (.iaload, 1) := by decide +kernel
theorem dX8_shorten_22 : decode cX8_shorten 22 = .ok (.if_icmp .ge 7, 3) := by decide +kernel
theorem dX8_shorten_25 : decode cX8_shorten 25 = .ok (.iload_n 3, 1) := by decide +kernel
theorem dX8_shorten_26 : decode cX8_shorten 26 = .ok (.goto 14, 3) := by decide +kernel
theorem dX8_shorten_29 : decode cX8_shorten 29 = .ok (.aload_n 0, 1) := by decide +kernel
theorem dX8_shorten_30 : decode cX8_shorten 30 = .ok (.getfield 159, 3) := by decide +kernel
theorem dX8_shorten_33 : decode cX8_shorten 33 = .ok (.bipush 8, 2) := by decide +kernel
theorem dX8_shorten_35 : decode cX8_shorten 35 = .ok (.iload_n 1, 1) := by decide +kernel
theorem dX8_shorten_36 : decode cX8_shorten 36 = .ok (.imul, 1) := by decide +kernel
theorem dX8_shorten_37 : decode cX8_shorten 37 = .ok (.iload_n 2, 1) := by decide +kernel
theorem dX8_shorten_38 : decode cX8_shorten 38 = .ok (.iadd, 1) := by decide +kernel
theorem dX8_shorten_39 : decode cX8_shorten 39 = .ok (.iaload, 1) := by decide +kernel
theorem dX8_shorten_40 : decode cX8_shorten 40 = .ok (.iastore, 1) := by decide +kernel
theorem dX8_shorten_41 : decode cX8_shorten 41 = .ok (.aload_n 0, 1) := by decide +kernel
theorem dX8_shorten_42 : decode cX8_shorten 42 = .ok (.getfield 159, 3) := by decide +kernel
theorem dX8_shorten_45 : decode cX8_shorten 45 = .ok (.bipush 8, 2) := by decide +kernel
theorem dX8_shorten_47 : decode cX8_shorten 47 = .ok (.iload_n 2, 1) := by decide +kernel
theorem dX8_shorten_48 : decode cX8_shorten 48 = .ok (.imul, 1) := by decide +kernel
theorem dX8_shorten_49 : decode cX8_shorten 49 = .ok (.iload_n 1, 1) := by decide +kernel
theorem dX8_shorten_50 : decode cX8_shorten 50 = .ok (.iadd, 1) := by decide +kernel
theorem dX8_shorten_51 : decode cX8_shorten 51 = .ok (.aload_n 0, 1) := by decide +kernel
theorem dX8_shorten_52 : decode cX8_shorten 52 = .ok (.getfield 159, 3) := by decide +kernel
theorem dX8_shorten_55 : decode cX8_shorten 55 = .ok (.bipush 8, 2) := by decide +kernel
theorem dX8_shorten_57 : decode cX8_shorten 57 = .ok (.iload_n 1, 1) := by decide +kernel
theorem dX8_shorten_58 : decode cX8_shorten 58 = .ok (.imul, 1) := by decide +kernel
theorem dX8_shorten_59 : decode cX8_shorten 59 = .ok (.iload_n 2, 1) := by decide +kernel
theorem dX8_shorten_60 : decode cX8_shorten 60 = .ok (.iadd, 1) := by decide +kernel
theorem dX8_shorten_61 : decode cX8_shorten 61 = .ok (.iaload, 1) := by decide +kernel
theorem dX8_shorten_62 : decode cX8_shorten 62 = .ok (.iastore, 1) := by decide +kernel
theorem dX8_shorten_63 : decode cX8_shorten 63 = .ok (.return_, 1) := by decide +kernel
theorem dX8_hasWhole_0 : decode cX8_hasWhole 0 = .ok (.iconst 0, 1) := by decide +kernel
theorem dX8_hasWhole_1 : decode cX8_hasWhole 1 = .ok (.istore_n 3, 1) := by decide +kernel
theorem dX8_hasWhole_2 : decode cX8_hasWhole 2 = .ok (.iconst 0, 1) := by decide +kernel
theorem dX8_hasWhole_3 : decode cX8_hasWhole 3 = .ok (.istore 4, 2) := by decide +kernel
theorem dX8_hasWhole_5 : decode cX8_hasWhole 5 = .ok (.iload 4, 2) := by decide +kernel
theorem dX8_hasWhole_7 : decode cX8_hasWhole 7 = .ok (.aload_n 0, 1) := by decide +kernel
theorem dX8_hasWhole_8 : decode cX8_hasWhole 8 = .ok (.getfield 184, 3) := by decide +kernel
theorem dX8_hasWhole_11 : decode cX8_hasWhole 11 = .ok (.if_icmp .ge 40, 3) := by decide +kernel
theorem dX8_hasWhole_14 : decode cX8_hasWhole 14 = .ok (.iload_n 3, 1) := by decide +kernel
theorem dX8_hasWhole_15 : decode cX8_hasWhole 15 = .ok (.ifCond .ne 24, 3) := by decide +kernel
theorem dX8_hasWhole_18 : decode cX8_hasWhole 18 = .ok (.aload_n 0, 1) := by decide +kernel
theorem dX8_hasWhole_19 : decode cX8_hasWhole 19 = .ok (.getfield 62, 3) := by decide +kernel
theorem dX8_hasWhole_22 : decode cX8_hasWhole 22 = .ok (.iload 4, 2) := by decide +kernel
theorem dX8_hasWhole_24 : decode cX8_hasWhole 24 = .ok (.baload, 1) := by decide +kernel
theorem dX8_hasWhole_25 : decode cX8_hasWhole 25 = .ok (.ifCond .ne 18, 3) := by decide +kernel
theorem dX8_hasWhole_28 : decode cX8_hasWhole 28 = .ok (.aload_n 0, 1) := by decide +kernel
theorem dX8_hasWhole_29 : decode cX8_hasWhole 29 = .ok (.iload 4, 2) := by decide +kernel
theorem dX8_hasWhole_31 : decode cX8_hasWhole 31 = .ok (.iload_n 1, 1) := by decide +kernel
theorem dX8_hasWhole_32 : decode cX8_hasWhole 32 = .ok (.invokevirtual 349, 3) := by decide +kernel
theorem dX8_hasWhole_35 : decode cX8_hasWhole 35 = .ok (.iload_n 2, 1) := by decide +kernel
theorem dX8_hasWhole_36 : decode cX8_hasWhole 36 = .ok (.if_icmp .ne 7, 3) := by decide +kernel
theorem dX8_hasWhole_39 : decode cX8_hasWhole 39 = .ok (.iconst 1, 1) := by decide +kernel
theorem dX8_hasWhole_40 : decode cX8_hasWhole 40 = .ok (.goto 4, 3) := by decide +kernel
theorem dX8_hasWhole_43 : decode cX8_hasWhole 43 = .ok (.iconst 0, 1) := by decide +kernel
theorem dX8_hasWhole_44 : decode cX8_hasWhole 44 = .ok (.istore_n 3, 1) := by decide +kernel
theorem dX8_hasWhole_45 : decode cX8_hasWhole 45 = .ok (.iinc 4 1, 3) := by decide +kernel
theorem dX8_hasWhole_48 : decode cX8_hasWhole 48 = .ok (.goto (-43), 3) := by decide +kernel
theorem dX8_hasWhole_51 : decode cX8_hasWhole 51 = .ok (.iload_n 3, 1) := by decide +kernel
theorem dX8_hasWhole_52 : decode cX8_hasWhole 52 = .ok (.ireturn, 1) := by decide +kernel
theorem dX8_newRope_0 : decode cX8_newRope 0 = .ok (.iload_n 1, 1) := by decide +kernel
theorem dX8_newRope_1 : decode cX8_newRope 1 = .ok (.i2l, 1) := by decide +kernel
theorem dX8_newRope_2 : decode cX8_newRope 2 = .ok (.lconst 0, 1) := by decide +kernel
theorem dX8_newRope_3 : decode cX8_newRope 3 = .ok (.ldc2_w 439, 3) := by decide +kernel
theorem dX8_newRope_6 : decode cX8_newRope 6 = .ok (.invokestatic 180, 3) := by decide +kernel
theorem dX8_newRope_9 : decode cX8_newRope 9 = .ok (.ifCond .ne 6, 3) := by decide +kernel
theorem dX8_newRope_12 : decode cX8_newRope 12 = .ok (.ldc 204, 2) := by decide +kernel
theorem dX8_newRope_14 : decode cX8_newRope 14 = .ok (.ireturn, 1) := by decide +kernel
theorem dX8_newRope_15 : decode cX8_newRope 15 = .ok (.iconst (-1), 1) := by decide +kernel
theorem dX8_newRope_16 : decode cX8_newRope 16 = .ok (.istore_n 2, 1) := by decide +kernel
theorem dX8_newRope_17 : decode cX8_newRope 17 = .ok (.iconst 0, 1) := by decide +kernel
theorem dX8_newRope_18 : decode cX8_newRope 18 = .ok (.istore_n 3, 1) := by decide +kernel
theorem dX8_newRope_19 : decode cX8_newRope 19 = .ok (.iconst 0, 1) := by decide +kernel
theorem dX8_newRope_20 : decode cX8_newRope 20 = .ok (.istore 4, 2) := by decide +kernel
theorem dX8_newRope_22 : decode cX8_newRope 22 = .ok (.iload 4, 2) := by decide +kernel
theorem dX8_newRope_24 : decode cX8_newRope 24 = .ok (.aload_n 0, 1) := by decide +kernel
theorem dX8_newRope_25 : decode cX8_newRope 25 = .ok (.getfield 177, 3) := by decide +kernel
theorem dX8_newRope_28 : decode cX8_newRope 28 = .ok (.if_icmp .ge 117, 3) := by decide +kernel
theorem dX8_newRope_31 : decode cX8_newRope 31 = .ok (.iload 4, 2) := by decide +kernel
theorem dX8_newRope_33 : decode cX8_newRope 33 = .ok (.iconst 1, 1) := by decide +kernel
theorem dX8_newRope_34 : decode cX8_newRope 34 = .ok (.iadd, 1) := by decide +kernel
theorem dX8_newRope_35 : decode cX8_newRope 35 = .ok (.istore 5, 2) := by decide +kernel
theorem dX8_newRope_37 : decode cX8_newRope 37 = .ok (.iload 5, 2) := by decide +kernel
theorem dX8_newRope_39 : decode cX8_newRope 39 = .ok (.aload_n 0, 1) := by decide +kernel
theorem dX8_newRope_40 : decode cX8_newRope 40 = .ok (.getfield 177, 3) := by decide +kernel
theorem dX8_newRope_43 : decode cX8_newRope 43 = .ok (.if_icmp .ge 96, 3) := by decide +kernel
theorem dX8_newRope_46 : decode cX8_newRope 46 = .ok (.aload_n 0, 1) := by decide +kernel
theorem dX8_newRope_47 : decode cX8_newRope 47 = .ok (.iload 4, 2) := by decide +kernel
theorem dX8_newRope_49 : decode cX8_newRope 49 = .ok (.iload 5, 2) := by decide +kernel
theorem dX8_newRope_51 : decode cX8_newRope 51 = .ok (.invokevirtual 441, 3) := by decide +kernel
theorem dX8_newRope_54 : decode cX8_newRope 54 = .ok (.ifCond .ne 79, 3) := by decide +kernel
theorem dX8_newRope_57 : decode cX8_newRope 57 = .ok (.aload_n 0, 1) := by decide +kernel
theorem dX8_newRope_58 : decode cX8_newRope 58 = .ok (.iload 4, 2) := by decide +kernel
theorem dX8_newRope_60 : decode cX8_newRope 60 = .ok (.iload 5, 2) := by decide +kernel
theorem dX8_newRope_62 : decode cX8_newRope 62 = .ok (.invokevirtual 436, 3) := by decide +kernel
theorem dX8_newRope_65 : decode cX8_newRope 65 = .ok (.i2l, 1) := by decide +kernel
theorem dX8_newRope_66 : decode cX8_newRope 66 = .ok (.lconst 1, 1) := by decide +kernel
theorem dX8_newRope_67 : decode cX8_newRope 67 = .ok (.ldc2_w 368, 3) := by decide +kernel
theorem dX8_newRope_70 : decode cX8_newRope 70 = .ok (.invokestatic 180, 3) := by decide +kernel
theorem dX8_newRope_73 : decode cX8_newRope 73 = .ok (.ifCond .eq 60, 3) := by decide +kernel
theorem dX8_newRope_76 : decode cX8_newRope 76 = .ok (.aload_n 0, 1) := by decide +kernel
theorem dX8_newRope_77 : decode cX8_newRope 77 = .ok (.iload 4, 2) := by decide +kernel
theorem dX8_newRope_79 : decode cX8_newRope 79 = .ok (.iload 5, 2) := by decide +kernel
theorem dX8_newRope_81 : decode cX8_newRope 81 = .ok (.invokevirtual 444, 3) := by decide +kernel
theorem dX8_newRope_84 : decode cX8_newRope 84 = .ok (.istore 6, 2) := by decide +kernel
theorem dX8_newRope_86 : decode cX8_newRope 86 = .ok (.iload_n 2, 1) := by decide +kernel
theorem dX8_newRope_87 : decode cX8_newRope 87 = .ok (.ifCond .lt 9, 3) := by decide +kernel
theorem dX8_newRope_90 : decode cX8_newRope 90 = .ok (.iload 6, 2) := by decide +kernel
theorem dX8_newRope_92 : decode cX8_newRope 92 = .ok (.iload_n 3, 1) := by decide +kernel
theorem dX8_newRope_93 : decode cX8_newRope 93 = .ok (.if_icmp .ge 7, 3) := by decide +kernel
theorem dX8_newRope_96 : decode cX8_newRope 96 = .ok (.iconst 1, 1) := by decide +kernel
theorem dX8_newRope_97 : decode cX8_newRope 97 = .ok (.goto 4, 3) := by decide +kernel
theorem dX8_newRope_100 : decode cX8_newRope 100 = .ok (.iconst 0, 1) := by decide +kernel
theorem dX8_newRope_101 : decode cX8_newRope 101 = .ok (.istore 7, 2) := by decide +kernel
theorem dX8_newRope_103 : decode cX8_newRope 103 = .ok (.iload 7, 2) := by decide +kernel
theorem dX8_newRope_105 : decode cX8_newRope 105 = .ok (.ifCond .eq 14, 3) := by decide +kernel
theorem dX8_newRope_108 : decode cX8_newRope 108 = .ok (.bipush 8, 2) := by decide +kernel
theorem dX8_newRope_110 : decode cX8_newRope 110 = .ok (.iload 4, 2) := by decide +kernel
theorem dX8_newRope_112 : decode cX8_newRope 112 = .ok (.imul, 1) := by decide +kernel
theorem dX8_newRope_113 : decode cX8_newRope 113 = .ok (.iload 5, 2) := by decide +kernel
theorem dX8_newRope_115 : decode cX8_newRope 115 = .ok (.iadd, 1) := by decide +kernel
theorem dX8_newRope_116 : decode cX8_newRope 116 = .ok (.goto 4, 3) := by decide +kernel
theorem dX8_newRope_119 : decode cX8_newRope 119 = .ok (.iload_n 2, 1) := by decide +kernel
theorem dX8_newRope_120 : decode cX8_newRope 120 = .ok (.istore_n 2, 1) := by decide +kernel
theorem dX8_newRope_121 : decode cX8_newRope 121 = .ok (.iload 7, 2) := by decide +kernel
theorem dX8_newRope_123 : decode cX8_newRope 123 = .ok (.ifCond .eq 8, 3) := by decide +kernel
theorem dX8_newRope_126 : decode cX8_newRope 126 = .ok (.iload 6, 2) := by decide +kernel
theorem dX8_newRope_128 : decode cX8_newRope 128 = .ok (.goto 4, 3) := by decide +kernel
theorem dX8_newRope_131 : decode cX8_newRope 131 = .ok (.iload_n 3, 1) := by decide +kernel
theorem dX8_newRope_132 : decode cX8_newRope 132 = .ok (.istore_n 3, 1) := by decide +kernel
theorem dX8_newRope_133 : decode cX8_newRope 133 = .ok (.iinc 5 1, 3) := by decide +kernel
theorem dX8_newRope_136 : decode cX8_newRope 136 = .ok (.goto (-99), 3) := by decide +kernel
theorem dX8_newRope_139 : decode cX8_newRope 139 = .ok (.iinc 4 1, 3) := by decide +kernel
theorem dX8_newRope_142 : decode cX8_newRope 142 = .ok (.goto (-120), 3) := by decide +kernel
theorem dX8_newRope_145 : decode cX8_newRope 145 = .ok (.iload_n 2, 1) := by decide +kernel
theorem dX8_newRope_146 : decode cX8_newRope 146 = .ok (.ifCond .ge 7, 3) := by decide +kernel
theorem dX8_newRope_149 : decode cX8_newRope 149 = .ok (.iconst (-1), 1) := by decide +kernel
theorem dX8_newRope_150 : decode cX8_newRope 150 = .ok (.goto 27, 3) := by decide +kernel
theorem dX8_newRope_153 : decode cX8_newRope 153 = .ok (.iload_n 1, 1) := by decide +kernel
theorem dX8_newRope_154 : decode cX8_newRope 154 = .ok (.ifCond .ne 10, 3) := by decide +kernel
theorem dX8_newRope_157 : decode cX8_newRope 157 = .ok (.iload_n 2, 1) := by decide +kernel
theorem dX8_newRope_158 : decode cX8_newRope 158 = .ok (.bipush 8, 2) := by decide +kernel
theorem dX8_newRope_160 : decode cX8_newRope 160 = .ok (.idiv, 1) := by decide +kernel
theorem dX8_newRope_161 : decode cX8_newRope 161 = .ok (.goto 16, 3) := by decide +kernel
theorem dX8_newRope_164 : decode cX8_newRope 164 = .ok (.iload_n 1, 1) := by decide +kernel
theorem dX8_newRope_165 : decode cX8_newRope 165 = .ok (.iconst 1, 1) := by decide +kernel
theorem dX8_newRope_166 : decode cX8_newRope 166 = .ok (.if_icmp .ne 10, 3) := by decide +kernel
theorem dX8_newRope_169 : decode cX8_newRope 169 = .ok (.iload_n 2, 1) := by decide +kernel
theorem dX8_newRope_170 : decode cX8_newRope 170 = .ok (.bipush 8, 2) := by decide +kernel
theorem dX8_newRope_172 : decode cX8_newRope 172 = .ok (.irem, 1) := by decide +kernel
theorem dX8_newRope_173 : decode cX8_newRope 173 = .ok (.goto 4, 3) := by decide +kernel
theorem dX8_newRope_176 : decode cX8_newRope 176 = .ok (.iload_n 3, 1) := by decide +kernel
theorem dX8_newRope_177 : decode cX8_newRope 177 = .ok (.ireturn, 1) := by decide +kernel
theorem dX8_oddsOf_0 : decode cX8_oddsOf 0 = .ok (.bipush 100, 2) := by decide +kernel
theorem dX8_oddsOf_2 : decode cX8_oddsOf 2 = .ok (.aload_n 0, 1) := by decide +kernel
theorem dX8_oddsOf_3 : decode cX8_oddsOf 3 = .ok (.iload_n 1, 1) := by decide +kernel
theorem dX8_oddsOf_4 : decode cX8_oddsOf 4 = .ok (.iload_n 2, 1) := by decide +kernel
theorem dX8_oddsOf_5 : decode cX8_oddsOf 5 = .ok (.invokevirtual 436, 3) := by decide +kernel
theorem dX8_oddsOf_8 : decode cX8_oddsOf 8 = .ok (.isub, 1) := by decide +kernel
theorem dX8_oddsOf_9 : decode cX8_oddsOf 9 = .ok (.iload_n 3, 1) := by decide +kernel
theorem dX8_oddsOf_10 : decode cX8_oddsOf 10 = .ok (.isub, 1) := by decide +kernel
theorem dX8_oddsOf_11 : decode cX8_oddsOf 11 = .ok (.istore 4, 2) := by decide +kernel
theorem dX8_oddsOf_13 : decode cX8_oddsOf 13 = .ok (.iload 4, 2) := by decide +kernel
theorem dX8_oddsOf_15 : decode cX8_oddsOf 15 = .ok (.ifCond .ge 7, 3) := by decide +kernel
theorem dX8_oddsOf_18 : decode cX8_oddsOf 18 = .ok (.iconst 0, 1) := by decide +kernel
theorem dX8_oddsOf_19 : decode cX8_oddsOf 19 = .ok (.goto 5, 3) := by decide +kernel
theorem dX8_oddsOf_22 : decode cX8_oddsOf 22 = .ok (.iload 4, 2) := by decide +kernel
theorem dX8_oddsOf_24 : decode cX8_oddsOf 24 = .ok (.ireturn, 1) := by decide +kernel
theorem dX8_areTwo_0 : decode cX8_areTwo 0 = .ok (.aload_n 0, 1) := by decide +kernel
theorem dX8_areTwo_1 : decode cX8_areTwo 1 = .ok (.iload_n 1, 1) := by decide +kernel
theorem dX8_areTwo_2 : decode cX8_areTwo 2 = .ok (.invokevirtual 312, 3) := by decide +kernel
theorem dX8_areTwo_5 : decode cX8_areTwo 5 = .ok (.ifCond .eq 20, 3) := by decide +kernel
theorem dX8_areTwo_8 : decode cX8_areTwo 8 = .ok (.aload_n 0, 1) := by decide +kernel
theorem dX8_areTwo_9 : decode cX8_areTwo 9 = .ok (.iload_n 2, 1) := by decide +kernel
theorem dX8_areTwo_10 : decode cX8_areTwo 10 = .ok (.invokevirtual 312, 3) := by decide +kernel
theorem dX8_areTwo_13 : decode cX8_areTwo 13 = .ok (.ifCond .eq 12, 3) := by decide +kernel
theorem dX8_areTwo_16 : decode cX8_areTwo 16 = .ok (.iload_n 1, 1) := by decide +kernel
theorem dX8_areTwo_17 : decode cX8_areTwo 17 = .ok (.iload_n 2, 1) := by decide +kernel
theorem dX8_areTwo_18 : decode cX8_areTwo 18 = .ok (.if_icmp .eq 7, 3) := by decide +kernel
theorem dX8_areTwo_21 : decode cX8_areTwo 21 = .ok (.iconst 1, 1) := by decide +kernel
theorem dX8_areTwo_22 : decode cX8_areTwo 22 = .ok (.goto 4, 3) := by decide +kernel
theorem dX8_areTwo_25 : decode cX8_areTwo 25 = .ok (.iconst 0, 1) := by decide +kernel
theorem dX8_areTwo_26 : decode cX8_areTwo 26 = .ok (.ireturn, 1) := by decide +kernel
theorem dX8_odds_0 : decode cX8_odds 0 = .ok (.aload_n 0, 1) := by decide +kernel
theorem dX8_odds_1 : decode cX8_odds 1 = .ok (.iload_n 1, 1) := by decide +kernel
theorem dX8_odds_2 : decode cX8_odds 2 = .ok (.iload_n 2, 1) := by decide +kernel
theorem dX8_odds_3 : decode cX8_odds 3 = .ok (.invokevirtual 447, 3) := by decide +kernel
theorem dX8_odds_6 : decode cX8_odds 6 = .ok (.ifCond .ne 7, 3) := by decide +kernel
theorem dX8_odds_9 : decode cX8_odds 9 = .ok (.ldc_w 316, 3) := by decide +kernel
theorem dX8_odds_12 : decode cX8_odds 12 = .ok (.ireturn, 1) := by decide +kernel
theorem dX8_odds_13 : decode cX8_odds 13 = .ok (.iload_n 3, 1) := by decide +kernel
theorem dX8_odds_14 : decode cX8_odds 14 = .ok (.i2l, 1) := by decide +kernel
theorem dX8_odds_15 : decode cX8_odds 15 = .ok (.lconst 0, 1) := by decide +kernel
theorem dX8_odds_16 : decode cX8_odds 16 = .ok (.ldc2_w 368, 3) := by decide +kernel
theorem dX8_odds_19 : decode cX8_odds 19 = .ok (.invokestatic 180, 3) := by decide +kernel
theorem dX8_odds_22 : decode cX8_odds 22 = .ok (.ifCond .eq 13, 3) := by decide +kernel
theorem dX8_odds_25 : decode cX8_odds 25 = .ok (.aload_n 0, 1) := by decide +kernel
theorem dX8_odds_26 : decode cX8_odds 26 = .ok (.iload_n 1, 1) := by decide +kernel
theorem dX8_odds_27 : decode cX8_odds 27 = .ok (.iload_n 2, 1) := by decide +kernel
theorem dX8_odds_28 : decode cX8_odds 28 = .ok (.iload_n 3, 1) := by decide +kernel
theorem dX8_odds_29 : decode cX8_odds 29 = .ok (.invokevirtual 450, 3) := by decide +kernel
theorem dX8_odds_32 : decode cX8_odds 32 = .ok (.goto 5, 3) := by decide +kernel
theorem dX8_odds_35 : decode cX8_odds 35 = .ok (.ldc 204, 2) := by decide +kernel
theorem dX8_odds_37 : decode cX8_odds 37 = .ok (.ireturn, 1) := by decide +kernel
theorem dX8_pays_0 : decode cX8_pays 0 = .ok (.aload_n 0, 1) := by decide +kernel
theorem dX8_pays_1 : decode cX8_pays 1 = .ok (.iload_n 1, 1) := by decide +kernel
theorem dX8_pays_2 : decode cX8_pays 2 = .ok (.invokevirtual 336, 3) := by decide +kernel
theorem dX8_pays_5 : decode cX8_pays 5 = .ok (.ifCond .eq 21, 3) := by decide +kernel
theorem dX8_pays_8 : decode cX8_pays 8 = .ok (.aload_n 0, 1) := by decide +kernel
theorem dX8_pays_9 : decode cX8_pays 9 = .ok (.iload_n 2, 1) := by decide +kernel
theorem dX8_pays_10 : decode cX8_pays 10 = .ok (.invokevirtual 330, 3) := by decide +kernel
theorem dX8_pays_13 : decode cX8_pays 13 = .ok (.ifCond .eq 13, 3) := by decide +kernel
theorem dX8_pays_16 : decode cX8_pays 16 = .ok (.aload_n 0, 1) := by decide +kernel
theorem dX8_pays_17 : decode cX8_pays 17 = .ok (.iload_n 3, 1) := by decide +kernel
theorem dX8_pays_18 : decode cX8_pays 18 = .ok (.iload 4, 2) := by decide +kernel
theorem dX8_pays_20 : decode cX8_pays 20 = .ok (.invokevirtual 447, 3) := by decide +kernel
theorem dX8_pays_23 : decode cX8_pays 23 = .ok (.ifCond .ne 7, 3) := by decide +kernel
theorem dX8_pays_26 : decode cX8_pays 26 = .ok (.ldc_w 316, 3) := by decide +kernel
theorem dX8_pays_29 : decode cX8_pays 29 = .ok (.ireturn, 1) := by decide +kernel
theorem dX8_pays_30 : decode cX8_pays 30 = .ok (.iload 5, 2) := by decide +kernel
theorem dX8_pays_32 : decode cX8_pays 32 = .ok (.i2l, 1) := by decide +kernel
theorem dX8_pays_33 : decode cX8_pays 33 = .ok (.lconst 0, 1) := by decide +kernel
theorem dX8_pays_34 : decode cX8_pays 34 = .ok (.ldc2_w 368, 3) := by decide +kernel
theorem dX8_pays_37 : decode cX8_pays 37 = .ok (.invokestatic 180, 3) := by decide +kernel
theorem dX8_pays_40 : decode cX8_pays 40 = .ok (.ifCond .eq 16, 3) := by decide +kernel
theorem dX8_pays_43 : decode cX8_pays 43 = .ok (.iload 6, 2) := by decide +kernel
theorem dX8_pays_45 : decode cX8_pays 45 = .ok (.i2l, 1) := by decide +kernel
theorem dX8_pays_46 : decode cX8_pays 46 = .ok (.lconst 0, 1) := by decide +kernel
theorem dX8_pays_47 : decode cX8_pays 47 = .ok (.ldc2_w 368, 3) := by decide +kernel
theorem dX8_pays_50 : decode cX8_pays 50 = .ok (.invokestatic 180, 3) := by decide +kernel
theorem dX8_pays_53 : decode cX8_pays 53 = .ok (.ifCond .ne 6, 3) := by decide +kernel
theorem dX8_pays_56 : decode cX8_pays 56 = .ok (.ldc 204, 2) := by decide +kernel
theorem dX8_pays_58 : decode cX8_pays 58 = .ok (.ireturn, 1) := by decide +kernel
theorem dX8_pays_59 : decode cX8_pays 59 = .ok (.aload_n 0, 1) := by decide +kernel
theorem dX8_pays_60 : decode cX8_pays 60 = .ok (.iload_n 3, 1) := by decide +kernel
theorem dX8_pays_61 : decode cX8_pays 61 = .ok (.iload 4, 2) := by decide +kernel
theorem dX8_pays_63 : decode cX8_pays 63 = .ok (.iload 5, 2) := by decide +kernel
theorem dX8_pays_65 : decode cX8_pays 65 = .ok (.invokevirtual 450, 3) := by decide +kernel
theorem dX8_pays_68 : decode cX8_pays 68 = .ok (.istore 7, 2) := by decide +kernel
theorem dX8_pays_70 : decode cX8_pays 70 = .ok (.aload_n 0, 1) := by decide +kernel
theorem dX8_pays_71 : decode cX8_pays 71 = .ok (.iload_n 2, 1) := by decide +kernel
theorem dX8_pays_72 : decode cX8_pays 72 = .ok (.iload_n 3, 1) := by decide +kernel
theorem dX8_pays_73 : decode cX8_pays 73 = .ok (.iload 4, 2) := by decide +kernel
theorem dX8_pays_75 : decode cX8_pays 75 = .ok (.iconst 0, 1) := by decide +kernel
theorem dX8_pays_76 : decode cX8_pays 76 = .ok (.invokevirtual 393, 3) := by decide +kernel
theorem dX8_pays_79 : decode cX8_pays 79 = .ok (.istore 8, 2) := by decide +kernel
theorem dX8_pays_81 : decode cX8_pays 81 = .ok (.iload 8, 2) := by decide +kernel
theorem dX8_pays_83 : decode cX8_pays 83 = .ok (.ifCond .ge 14, 3) := by decide +kernel
theorem dX8_pays_86 : decode cX8_pays 86 = .ok (.iload 7, 2) := by decide +kernel
theorem dX8_pays_88 : decode cX8_pays 88 = .ok (.ifCond .le 7, 3) := by decide +kernel
theorem dX8_pays_91 : decode cX8_pays 91 = .ok (.iconst 1, 1) := by decide +kernel
theorem dX8_pays_92 : decode cX8_pays 92 = .ok (.goto 4, 3) := by decide +kernel
theorem dX8_pays_95 : decode cX8_pays 95 = .ok (.iconst 0, 1) := by decide +kernel
theorem dX8_pays_96 : decode cX8_pays 96 = .ok (.ireturn, 1) := by decide +kernel
theorem dX8_pays_97 : decode cX8_pays 97 = .ok (.aload_n 0, 1) := by decide +kernel
theorem dX8_pays_98 : decode cX8_pays 98 = .ok (.getfield 49, 3) := by decide +kernel
theorem dX8_pays_101 : decode cX8_pays 101 = .ok (.iload_n 1, 1) := by decide +kernel
theorem dX8_pays_102 : decode cX8_pays 102 = .ok (.iaload, 1) := by decide +kernel
theorem dX8_pays_103 : decode cX8_pays 103 = .ok (.bipush 100, 2) := by decide +kernel
theorem dX8_pays_105 : decode cX8_pays 105 = .ok (.iload 7, 2) := by decide +kernel
theorem dX8_pays_107 : decode cX8_pays 107 = .ok (.isub, 1) := by decide +kernel
theorem dX8_pays_108 : decode cX8_pays 108 = .ok (.imul, 1) := by decide +kernel
theorem dX8_pays_109 : decode cX8_pays 109 = .ok (.bipush 100, 2) := by decide +kernel
theorem dX8_pays_111 : decode cX8_pays 111 = .ok (.idiv, 1) := by decide +kernel
theorem dX8_pays_112 : decode cX8_pays 112 = .ok (.iload 8, 2) := by decide +kernel
theorem dX8_pays_114 : decode cX8_pays 114 = .ok (.iload 6, 2) := by decide +kernel
theorem dX8_pays_116 : decode cX8_pays 116 = .ok (.imul, 1) := by decide +kernel
theorem dX8_pays_117 : decode cX8_pays 117 = .ok (.if_icmp .ge 7, 3) := by decide +kernel
theorem dX8_pays_120 : decode cX8_pays 120 = .ok (.iconst 1, 1) := by decide +kernel
theorem dX8_pays_121 : decode cX8_pays 121 = .ok (.goto 4, 3) := by decide +kernel
theorem dX8_pays_124 : decode cX8_pays 124 = .ok (.iconst 0, 1) := by decide +kernel
theorem dX8_pays_125 : decode cX8_pays 125 = .ok (.ireturn, 1) := by decide +kernel
theorem dX8_see_0 : decode cX8_see 0 = .ok (.aload_n 0, 1) := by decide +kernel
theorem dX8_see_1 : decode cX8_see 1 = .ok (.iload_n 1, 1) := by decide +kernel
theorem dX8_see_2 : decode cX8_see 2 = .ok (.invokevirtual 330, 3) := by decide +kernel
theorem dX8_see_5 : decode cX8_see 5 = .ok (.ifCond .eq 11, 3) := by decide +kernel
theorem dX8_see_8 : decode cX8_see 8 = .ok (.aload_n 0, 1) := by decide +kernel
theorem dX8_see_9 : decode cX8_see 9 = .ok (.iload_n 2, 1) := by decide +kernel
theorem dX8_see_10 : decode cX8_see 10 = .ok (.invokevirtual 312, 3) := by decide +kernel
theorem dX8_see_13 : decode cX8_see 13 = .ok (.ifCond .ne 7, 3) := by decide +kernel
theorem dX8_see_16 : decode cX8_see 16 = .ok (.ldc_w 316, 3) := by decide +kernel
theorem dX8_see_19 : decode cX8_see 19 = .ok (.ireturn, 1) := by decide +kernel
theorem dX8_see_20 : decode cX8_see 20 = .ok (.iload_n 3, 1) := by decide +kernel
theorem dX8_see_21 : decode cX8_see 21 = .ok (.i2l, 1) := by decide +kernel
theorem dX8_see_22 : decode cX8_see 22 = .ok (.lconst 0, 1) := by decide +kernel
theorem dX8_see_23 : decode cX8_see 23 = .ok (.ldc2_w 454, 3) := by decide +kernel
theorem dX8_see_26 : decode cX8_see 26 = .ok (.invokestatic 180, 3) := by decide +kernel
theorem dX8_see_29 : decode cX8_see 29 = .ok (.ifCond .ne 6, 3) := by decide +kernel
theorem dX8_see_32 : decode cX8_see 32 = .ok (.ldc 204, 2) := by decide +kernel
theorem dX8_see_34 : decode cX8_see 34 = .ok (.ireturn, 1) := by decide +kernel
theorem dX8_see_35 : decode cX8_see 35 = .ok (.aload_n 0, 1) := by decide +kernel
theorem dX8_see_36 : decode cX8_see 36 = .ok (.getfield 300, 3) := by decide +kernel
theorem dX8_see_39 : decode cX8_see 39 = .ok (.bipush 20, 2) := by decide +kernel
theorem dX8_see_41 : decode cX8_see 41 = .ok (.if_icmp .ne 6, 3) := by decide +kernel
theorem dX8_see_44 : decode cX8_see 44 = .ok (.ldc 208, 2) := by decide +kernel
theorem dX8_see_46 : decode cX8_see 46 = .ok (.ireturn, 1) := by decide +kernel
theorem dX8_see_47 : decode cX8_see 47 = .ok (.aload_n 0, 1) := by decide +kernel
theorem dX8_see_48 : decode cX8_see 48 = .ok (.getfield 162, 3) := by decide +kernel
theorem dX8_see_51 : decode cX8_see 51 = .ok (.aload_n 0, 1) := by decide +kernel
theorem dX8_see_52 : decode cX8_see 52 = .ok (.getfield 300, 3) := by decide +kernel
theorem dX8_see_55 : decode cX8_see 55 = .ok (.iload_n 1, 1) := by decide +kernel
theorem dX8_see_56 : decode cX8_see 56 = .ok (.iastore, 1) := by decide +kernel
theorem dX8_see_57 : decode cX8_see 57 = .ok (.aload_n 0, 1) := by decide +kernel
theorem dX8_see_58 : decode cX8_see 58 = .ok (.getfield 165, 3) := by decide +kernel
theorem dX8_see_61 : decode cX8_see 61 = .ok (.aload_n 0, 1) := by decide +kernel
theorem dX8_see_62 : decode cX8_see 62 = .ok (.getfield 300, 3) := by decide +kernel
theorem dX8_see_65 : decode cX8_see 65 = .ok (.iload_n 2, 1) := by decide +kernel
theorem dX8_see_66 : decode cX8_see 66 = .ok (.iastore, 1) := by decide +kernel
theorem dX8_see_67 : decode cX8_see 67 = .ok (.aload_n 0, 1) := by decide +kernel
theorem dX8_see_68 : decode cX8_see 68 = .ok (.getfield 168, 3) := by decide +kernel
theorem dX8_see_71 : decode cX8_see 71 = .ok (.aload_n 0, 1) := by decide +kernel
theorem dX8_see_72 : decode cX8_see 72 = .ok (.getfield 300, 3) := by decide +kernel
theorem dX8_see_75 : decode cX8_see 75 = .ok (.iload_n 3, 1) := by decide +kernel
theorem dX8_see_76 : decode cX8_see 76 = .ok (.iastore, 1) := by decide +kernel
theorem dX8_see_77 : decode cX8_see 77 = .ok (.aload_n 0, 1) := by decide +kernel
theorem dX8_see_78 : decode cX8_see 78 = .ok (.dup, 1) := by decide +kernel
theorem dX8_see_79 : decode cX8_see 79 = .ok (.getfield 300, 3) := by decide +kernel
theorem dX8_see_82 : decode cX8_see 82 = .ok (.iconst 1, 1) := by decide +kernel
theorem dX8_see_83 : decode cX8_see 83 = .ok (.iadd, 1) := by decide +kernel
theorem dX8_see_84 : decode cX8_see 84 = .ok (.putfield 300, 3) := by decide +kernel
theorem dX8_see_87 : decode cX8_see 87 = .ok (.aload_n 0, 1) := by decide +kernel
theorem dX8_see_88 : decode cX8_see 88 = .ok (.getfield 300, 3) := by decide +kernel
theorem dX8_see_91 : decode cX8_see 91 = .ok (.ireturn, 1) := by decide +kernel
theorem dX8_forget_0 : decode cX8_forget 0 = .ok (.aload_n 0, 1) := by decide +kernel
theorem dX8_forget_1 : decode cX8_forget 1 = .ok (.getfield 300, 3) := by decide +kernel
theorem dX8_forget_4 : decode cX8_forget 4 = .ok (.istore_n 1, 1) := by decide +kernel
theorem dX8_forget_5 : decode cX8_forget 5 = .ok (.aload_n 0, 1) := by decide +kernel
theorem dX8_forget_6 : decode cX8_forget 6 = .ok (.iconst 0, 1) := by decide +kernel
theorem dX8_forget_7 : decode cX8_forget 7 = .ok (.putfield 300, 3) := by decide +kernel
theorem dX8_forget_10 : decode cX8_forget 10 = .ok (.iload_n 1, 1) := by decide +kernel
theorem dX8_forget_11 : decode cX8_forget 11 = .ok (.ireturn, 1) := by decide +kernel
theorem dX8_canCome_0 : decode cX8_canCome 0 = .ok (.aload_n 0, 1) := by decide +kernel
theorem dX8_canCome_1 : decode cX8_canCome 1 = .ok (.iload_n 1, 1) := by decide +kernel
theorem dX8_canCome_2 : decode cX8_canCome 2 = .ok (.iload_n 2, 1) := by decide +kernel
theorem dX8_canCome_3 : decode cX8_canCome 3 = .ok (.iload_n 3, 1) := by decide +kernel
theorem dX8_canCome_4 : decode cX8_canCome 4 = .ok (.iconst 1, 1) := by decide +kernel
theorem dX8_canCome_5 : decode cX8_canCome 5 = .ok (.invokevirtual 393, 3) := by decide +kernel
theorem dX8_canCome_8 : decode cX8_canCome 8 = .ok (.istore 5, 2) := by decide +kernel
theorem dX8_canCome_10 : decode cX8_canCome 10 = .ok (.iload 5, 2) := by decide +kernel
theorem dX8_canCome_12 : decode cX8_canCome 12 = .ok (.ifCond .lt 14, 3) := by decide +kernel
theorem dX8_canCome_15 : decode cX8_canCome 15 = .ok (.iload 5, 2) := by decide +kernel
theorem dX8_canCome_17 : decode cX8_canCome 17 = .ok (.iload 4, 2) := by decide +kernel
theorem dX8_canCome_19 : decode cX8_canCome 19 = .ok (.if_icmp .gt 7, 3) := by decide +kernel
theorem dX8_canCome_22 : decode cX8_canCome 22 = .ok (.iconst 1, 1) := by decide +kernel
theorem dX8_canCome_23 : decode cX8_canCome 23 = .ok (.goto 4, 3) := by decide +kernel
theorem dX8_canCome_26 : decode cX8_canCome 26 = .ok (.iconst 0, 1) := by decide +kernel
theorem dX8_canCome_27 : decode cX8_canCome 27 = .ok (.ireturn, 1) := by decide +kernel
theorem dX8_couldBe_0 : decode cX8_couldBe 0 = .ok (.iconst (-1), 1) := by decide +kernel
theorem dX8_couldBe_1 : decode cX8_couldBe 1 = .ok (.istore 4, 2) := by decide +kernel
theorem dX8_couldBe_3 : decode cX8_couldBe 3 = .ok (.iconst (-1), 1) := by decide +kernel
theorem dX8_couldBe_4 : decode cX8_couldBe 4 = .ok (.istore 5, 2) := by decide +kernel
theorem dX8_couldBe_6 : decode cX8_couldBe 6 = .ok (.iconst 0, 1) := by decide +kernel
theorem dX8_couldBe_7 : decode cX8_couldBe 7 = .ok (.istore 6, 2) := by decide +kernel
theorem dX8_couldBe_9 : decode cX8_couldBe 9 = .ok (.iload 6, 2) := by decide +kernel
theorem dX8_couldBe_11 : decode cX8_couldBe 11 = .ok (.aload_n 0, 1) := by decide +kernel
theorem dX8_couldBe_12 : decode cX8_couldBe 12 = .ok (.getfield 300, 3) := by decide +kernel
theorem dX8_couldBe_15 : decode cX8_couldBe 15 = .ok (.if_icmp .ge 107, 3) := by decide +kernel
theorem dX8_couldBe_18 : decode cX8_couldBe 18 = .ok (.aload_n 0, 1) := by decide +kernel
theorem dX8_couldBe_19 : decode cX8_couldBe 19 = .ok (.getfield 162, 3) := by decide +kernel
theorem dX8_couldBe_22 : decode cX8_couldBe 22 = .ok (.iload 6, 2) := by decide +kernel
theorem dX8_couldBe_24 : decode cX8_couldBe 24 = .ok (.iaload, 1) := by decide +kernel
theorem dX8_couldBe_25 : decode cX8_couldBe 25 = .ok (.iload_n 1, 1) := by decide +kernel
theorem dX8_couldBe_26 : decode cX8_couldBe 26 = .ok (.if_icmp .ne 48, 3) := by decide +kernel
theorem dX8_couldBe_29 : decode cX8_couldBe 29 = .ok (.aload_n 0, 1) := by decide +kernel
theorem dX8_couldBe_30 : decode cX8_couldBe 30 = .ok (.getfield 168, 3) := by decide +kernel
theorem dX8_couldBe_33 : decode cX8_couldBe 33 = .ok (.iload 6, 2) := by decide +kernel
theorem dX8_couldBe_35 : decode cX8_couldBe 35 = .ok (.iaload, 1) := by decide +kernel
theorem dX8_couldBe_36 : decode cX8_couldBe 36 = .ok (.iload_n 3, 1) := by decide +kernel
theorem dX8_couldBe_37 : decode cX8_couldBe 37 = .ok (.if_icmp .gt 37, 3) := by decide +kernel
theorem dX8_couldBe_40 : decode cX8_couldBe 40 = .ok (.iload 4, 2) := by decide +kernel
theorem dX8_couldBe_42 : decode cX8_couldBe 42 = .ok (.ifCond .lt 20, 3) := by decide +kernel
theorem dX8_couldBe_45 : decode cX8_couldBe 45 = .ok (.aload_n 0, 1) := by decide +kernel
theorem dX8_couldBe_46 : decode cX8_couldBe 46 = .ok (.getfield 168, 3) := by decide +kernel
theorem dX8_couldBe_49 : decode cX8_couldBe 49 = .ok (.iload 6, 2) := by decide +kernel
theorem dX8_couldBe_51 : decode cX8_couldBe 51 = .ok (.iaload, 1) := by decide +kernel
theorem dX8_couldBe_52 : decode cX8_couldBe 52 = .ok (.aload_n 0, 1) := by decide +kernel
theorem dX8_couldBe_53 : decode cX8_couldBe 53 = .ok (.getfield 168, 3) := by decide +kernel
theorem dX8_couldBe_56 : decode cX8_couldBe 56 = .ok (.iload 4, 2) := by decide +kernel
theorem dX8_couldBe_58 : decode cX8_couldBe 58 = .ok (.iaload, 1) := by decide +kernel
theorem dX8_couldBe_59 : decode cX8_couldBe 59 = .ok (.if_icmp .lt 8, 3) := by decide +kernel
theorem dX8_couldBe_62 : decode cX8_couldBe 62 = .ok (.iload 6, 2) := by decide +kernel
theorem dX8_couldBe_64 : decode cX8_couldBe 64 = .ok (.goto 5, 3) := by decide +kernel
theorem dX8_couldBe_67 : decode cX8_couldBe 67 = .ok (.iload 4, 2) := by decide +kernel
theorem dX8_couldBe_69 : decode cX8_couldBe 69 = .ok (.istore 4, 2) := by decide +kernel
theorem dX8_couldBe_71 : decode cX8_couldBe 71 = .ok (.goto 45, 3) := by decide +kernel
theorem dX8_couldBe_74 : decode cX8_couldBe 74 = .ok (.aload_n 0, 1) := by decide +kernel
theorem dX8_couldBe_75 : decode cX8_couldBe 75 = .ok (.getfield 162, 3) := by decide +kernel
theorem dX8_couldBe_78 : decode cX8_couldBe 78 = .ok (.iload 6, 2) := by decide +kernel
theorem dX8_couldBe_80 : decode cX8_couldBe 80 = .ok (.iaload, 1) := by decide +kernel
theorem dX8_couldBe_81 : decode cX8_couldBe 81 = .ok (.iload_n 1, 1) := by decide +kernel
theorem dX8_couldBe_82 : decode cX8_couldBe 82 = .ok (.if_icmp .ne 34, 3) := by decide +kernel
theorem dX8_couldBe_85 : decode cX8_couldBe 85 = .ok (.iload 5, 2) := by decide +kernel
theorem dX8_couldBe_87 : decode cX8_couldBe 87 = .ok (.ifCond .lt 20, 3) := by decide +kernel
theorem dX8_couldBe_90 : decode cX8_couldBe 90 = .ok (.aload_n 0, 1) := by decide +kernel
theorem dX8_couldBe_91 : decode cX8_couldBe 91 = .ok (.getfield 168, 3) := by decide +kernel
theorem dX8_couldBe_94 : decode cX8_couldBe 94 = .ok (.iload 6, 2) := by decide +kernel
theorem dX8_couldBe_96 : decode cX8_couldBe 96 = .ok (.iaload, 1) := by decide +kernel
theorem dX8_couldBe_97 : decode cX8_couldBe 97 = .ok (.aload_n 0, 1) := by decide +kernel
theorem dX8_couldBe_98 : decode cX8_couldBe 98 = .ok (.getfield 168, 3) := by decide +kernel
theorem dX8_couldBe_101 : decode cX8_couldBe 101 = .ok (.iload 5, 2) := by decide +kernel
theorem dX8_couldBe_103 : decode cX8_couldBe 103 = .ok (.iaload, 1) := by decide +kernel
theorem dX8_couldBe_104 : decode cX8_couldBe 104 = .ok (.if_icmp .ge 8, 3) := by decide +kernel
theorem dX8_couldBe_107 : decode cX8_couldBe 107 = .ok (.iload 6, 2) := by decide +kernel
theorem dX8_couldBe_109 : decode cX8_couldBe 109 = .ok (.goto 5, 3) := by decide +kernel
theorem dX8_couldBe_112 : decode cX8_couldBe 112 = .ok (.iload 5, 2) := by decide +kernel
theorem dX8_couldBe_114 : decode cX8_couldBe 114 = .ok (.istore 5, 2) := by decide +kernel
theorem dX8_couldBe_116 : decode cX8_couldBe 116 = .ok (.iinc 6 1, 3) := by decide +kernel
theorem dX8_couldBe_119 : decode cX8_couldBe 119 = .ok (.goto (-110), 3) := by decide +kernel
theorem dX8_couldBe_122 : decode cX8_couldBe 122 = .ok (.aload_n 0, 1) := by decide +kernel
theorem dX8_couldBe_123 : decode cX8_couldBe 123 = .ok (.iload_n 1, 1) := by decide +kernel
theorem dX8_couldBe_124 : decode cX8_couldBe 124 = .ok (.iload 4, 2) := by decide +kernel
theorem dX8_couldBe_126 : decode cX8_couldBe 126 = .ok (.ifCond .ge 12, 3) := by decide +kernel
theorem dX8_couldBe_129 : decode cX8_couldBe 129 = .ok (.aload_n 0, 1) := by decide +kernel
theorem dX8_couldBe_130 : decode cX8_couldBe 130 = .ok (.getfield 31, 3) := by decide +kernel
theorem dX8_couldBe_133 : decode cX8_couldBe 133 = .ok (.iload_n 1, 1) := by decide +kernel
theorem dX8_couldBe_134 : decode cX8_couldBe 134 = .ok (.iaload, 1) := by decide +kernel
theorem dX8_couldBe_135 : decode cX8_couldBe 135 = .ok (.goto 10, 3) := by decide +kernel
theorem dX8_couldBe_138 : decode cX8_couldBe 138 = .ok (.aload_n 0, 1) := by decide +kernel
theorem dX8_couldBe_139 : decode cX8_couldBe 139 = .ok (.getfield 165, 3) := by decide +kernel
theorem dX8_couldBe_142 : decode cX8_couldBe 142 = .ok (.iload 4, 2) := by decide +kernel
theorem dX8_couldBe_144 : decode cX8_couldBe 144 = .ok (.iaload, 1) := by decide +kernel
theorem dX8_couldBe_145 : decode cX8_couldBe 145 = .ok (.iload_n 2, 1) := by decide +kernel
theorem dX8_couldBe_146 : decode cX8_couldBe 146 = .ok (.iload 4, 2) := by decide +kernel
theorem dX8_couldBe_148 : decode cX8_couldBe 148 = .ok (.ifCond .ge 7, 3) := by decide +kernel
theorem dX8_couldBe_151 : decode cX8_couldBe 151 = .ok (.iload_n 3, 1) := by decide +kernel
theorem dX8_couldBe_152 : decode cX8_couldBe 152 = .ok (.goto 12, 3) := by decide +kernel
theorem dX8_couldBe_155 : decode cX8_couldBe 155 = .ok (.iload_n 3, 1) := by decide +kernel
theorem dX8_couldBe_156 : decode cX8_couldBe 156 = .ok (.aload_n 0, 1) := by decide +kernel
theorem dX8_couldBe_157 : decode cX8_couldBe 157 = .ok (.getfield 168, 3) := by decide +kernel
theorem dX8_couldBe_160 : decode cX8_couldBe 160 = .ok (.iload 4, 2) := by decide +kernel
theorem dX8_couldBe_162 : decode cX8_couldBe 162 = .ok (.iaload, 1) := by decide +kernel
theorem dX8_couldBe_163 : decode cX8_couldBe 163 = .ok (.isub, 1) := by decide +kernel
theorem dX8_couldBe_164 : decode cX8_couldBe 164 = .ok (.invokevirtual 456, 3) := by decide +kernel
theorem dX8_couldBe_167 : decode cX8_couldBe 167 = .ok (.istore 6, 2) := by decide +kernel
theorem dX8_couldBe_169 : decode cX8_couldBe 169 = .ok (.iload 6, 2) := by decide +kernel
theorem dX8_couldBe_171 : decode cX8_couldBe 171 = .ok (.ifCond .eq 37, 3) := by decide +kernel
theorem dX8_couldBe_174 : decode cX8_couldBe 174 = .ok (.iload 5, 2) := by decide +kernel
theorem dX8_couldBe_176 : decode cX8_couldBe 176 = .ok (.ifCond .lt 28, 3) := by decide +kernel
theorem dX8_couldBe_179 : decode cX8_couldBe 179 = .ok (.aload_n 0, 1) := by decide +kernel
theorem dX8_couldBe_180 : decode cX8_couldBe 180 = .ok (.iload_n 1, 1) := by decide +kernel
theorem dX8_couldBe_181 : decode cX8_couldBe 181 = .ok (.iload_n 2, 1) := by decide +kernel
theorem dX8_couldBe_182 : decode cX8_couldBe 182 = .ok (.aload_n 0, 1) := by decide +kernel
theorem dX8_couldBe_183 : decode cX8_couldBe 183 = .ok (.getfield 165, 3) := by decide +kernel
theorem dX8_couldBe_186 : decode cX8_couldBe 186 = .ok (.iload 5, 2) := by decide +kernel
theorem dX8_couldBe_188 : decode cX8_couldBe 188 = .ok (.iaload, 1) := by decide +kernel
theorem dX8_couldBe_189 : decode cX8_couldBe 189 = .ok (.aload_n 0, 1) := by decide +kernel
theorem dX8_couldBe_190 : decode cX8_couldBe 190 = .ok (.getfield 168, 3) := by decide +kernel
theorem dX8_couldBe_193 : decode cX8_couldBe 193 = .ok (.iload 5, 2) := by decide +kernel
theorem dX8_couldBe_195 : decode cX8_couldBe 195 = .ok (.iaload, 1) := by decide +kernel
theorem dX8_couldBe_196 : decode cX8_couldBe 196 = .ok (.iload_n 3, 1) := by decide +kernel
theorem dX8_couldBe_197 : decode cX8_couldBe 197 = .ok (.isub, 1) := by decide +kernel
theorem dX8_couldBe_198 : decode cX8_couldBe 198 = .ok (.invokevirtual 456, 3) := by decide +kernel
theorem dX8_couldBe_201 : decode cX8_couldBe 201 = .ok (.ifCond .eq 7, 3) := by decide +kernel
theorem dX8_couldBe_204 : decode cX8_couldBe 204 = .ok (.iconst 1, 1) := by decide +kernel
theorem dX8_couldBe_205 : decode cX8_couldBe 205 = .ok (.goto 4, 3) := by decide +kernel
theorem dX8_couldBe_208 : decode cX8_couldBe 208 = .ok (.iconst 0, 1) := by decide +kernel
theorem dX8_couldBe_209 : decode cX8_couldBe 209 = .ok (.ireturn, 1) := by decide +kernel
theorem dX8_who_0 : decode cX8_who 0 = .ok (.aload_n 0, 1) := by decide +kernel
theorem dX8_who_1 : decode cX8_who 1 = .ok (.iload_n 1, 1) := by decide +kernel
theorem dX8_who_2 : decode cX8_who 2 = .ok (.invokevirtual 312, 3) := by decide +kernel
theorem dX8_who_5 : decode cX8_who 5 = .ok (.ifCond .ne 7, 3) := by decide +kernel
theorem dX8_who_8 : decode cX8_who 8 = .ok (.ldc_w 316, 3) := by decide +kernel
theorem dX8_who_11 : decode cX8_who 11 = .ok (.ireturn, 1) := by decide +kernel
theorem dX8_who_12 : decode cX8_who 12 = .ok (.iload_n 2, 1) := by decide +kernel
theorem dX8_who_13 : decode cX8_who 13 = .ok (.i2l, 1) := by decide +kernel
theorem dX8_who_14 : decode cX8_who 14 = .ok (.lconst 0, 1) := by decide +kernel
theorem dX8_who_15 : decode cX8_who 15 = .ok (.ldc2_w 454, 3) := by decide +kernel
theorem dX8_who_18 : decode cX8_who 18 = .ok (.invokestatic 180, 3) := by decide +kernel
theorem dX8_who_21 : decode cX8_who 21 = .ok (.ifCond .ne 6, 3) := by decide +kernel
theorem dX8_who_24 : decode cX8_who 24 = .ok (.ldc 204, 2) := by decide +kernel
theorem dX8_who_26 : decode cX8_who 26 = .ok (.ireturn, 1) := by decide +kernel
theorem dX8_who_27 : decode cX8_who 27 = .ok (.iconst 0, 1) := by decide +kernel
theorem dX8_who_28 : decode cX8_who 28 = .ok (.istore_n 3, 1) := by decide +kernel
theorem dX8_who_29 : decode cX8_who 29 = .ok (.iconst 0, 1) := by decide +kernel
theorem dX8_who_30 : decode cX8_who 30 = .ok (.istore 4, 2) := by decide +kernel
theorem dX8_who_32 : decode cX8_who 32 = .ok (.iload 4, 2) := by decide +kernel
theorem dX8_who_34 : decode cX8_who 34 = .ok (.aload_n 0, 1) := by decide +kernel
theorem dX8_who_35 : decode cX8_who 35 = .ok (.getfield 187, 3) := by decide +kernel
theorem dX8_who_38 : decode cX8_who 38 = .ok (.if_icmp .ge 31, 3) := by decide +kernel
theorem dX8_who_41 : decode cX8_who 41 = .ok (.iload_n 3, 1) := by decide +kernel
theorem dX8_who_42 : decode cX8_who 42 = .ok (.aload_n 0, 1) := by decide +kernel
theorem dX8_who_43 : decode cX8_who 43 = .ok (.iload 4, 2) := by decide +kernel
theorem dX8_who_45 : decode cX8_who 45 = .ok (.iload_n 1, 1) := by decide +kernel
theorem dX8_who_46 : decode cX8_who 46 = .ok (.iload_n 2, 1) := by decide +kernel
theorem dX8_who_47 : decode cX8_who 47 = .ok (.invokevirtual 460, 3) := by decide +kernel
theorem dX8_who_50 : decode cX8_who 50 = .ok (.ifCond .eq 10, 3) := by decide +kernel
theorem dX8_who_53 : decode cX8_who 53 = .ok (.iconst 1, 1) := by decide +kernel
theorem dX8_who_54 : decode cX8_who 54 = .ok (.iload 4, 2) := by decide +kernel
theorem dX8_who_56 : decode cX8_who 56 = .ok (.ishl, 1) := by decide +kernel
theorem dX8_who_57 : decode cX8_who 57 = .ok (.goto 4, 3) := by decide +kernel
theorem dX8_who_60 : decode cX8_who 60 = .ok (.iconst 0, 1) := by decide +kernel
theorem dX8_who_61 : decode cX8_who 61 = .ok (.ior, 1) := by decide +kernel
theorem dX8_who_62 : decode cX8_who 62 = .ok (.istore_n 3, 1) := by decide +kernel
theorem dX8_who_63 : decode cX8_who 63 = .ok (.iinc 4 1, 3) := by decide +kernel
theorem dX8_who_66 : decode cX8_who 66 = .ok (.goto (-34), 3) := by decide +kernel
theorem dX8_who_69 : decode cX8_who 69 = .ok (.iload_n 3, 1) := by decide +kernel
theorem dX8_who_70 : decode cX8_who 70 = .ok (.ireturn, 1) := by decide +kernel
theorem dX8_judge_0 : decode cX8_judge 0 = .ok (.iconst 0, 1) := by decide +kernel
theorem dX8_judge_1 : decode cX8_judge 1 = .ok (.istore_n 1, 1) := by decide +kernel
theorem dX8_judge_2 : decode cX8_judge 2 = .ok (.iload_n 1, 1) := by decide +kernel
theorem dX8_judge_3 : decode cX8_judge 3 = .ok (.aload_n 0, 1) := by decide +kernel
theorem dX8_judge_4 : decode cX8_judge 4 = .ok (.getfield 300, 3) := by decide +kernel
theorem dX8_judge_7 : decode cX8_judge 7 = .ok (.if_icmp .ge 121, 3) := by decide +kernel
theorem dX8_judge_10 : decode cX8_judge 10 = .ok (.aload_n 0, 1) := by decide +kernel
theorem dX8_judge_11 : decode cX8_judge 11 = .ok (.getfield 162, 3) := by decide +kernel
theorem dX8_judge_14 : decode cX8_judge 14 = .ok (.iload_n 1, 1) := by decide +kernel
theorem dX8_judge_15 : decode cX8_judge 15 = .ok (.iaload, 1) := by decide +kernel
theorem dX8_judge_16 : decode cX8_judge 16 = .ok (.istore_n 2, 1) := by decide +kernel
theorem dX8_judge_17 : decode cX8_judge 17 = .ok (.iconst (-1), 1) := by decide +kernel
theorem dX8_judge_18 : decode cX8_judge 18 = .ok (.istore_n 3, 1) := by decide +kernel
theorem dX8_judge_19 : decode cX8_judge 19 = .ok (.iconst 0, 1) := by decide +kernel
theorem dX8_judge_20 : decode cX8_judge 20 = .ok (.istore 4, 2) := by decide +kernel
theorem dX8_judge_22 : decode cX8_judge 22 = .ok (.iload 4, 2) := by decide +kernel
theorem dX8_judge_24 : decode cX8_judge 24 = .ok (.iload_n 1, 1) := by decide +kernel
theorem dX8_judge_25 : decode cX8_judge 25 = .ok (.if_icmp .ge 27, 3) := by decide +kernel
theorem dX8_judge_28 : decode cX8_judge 28 = .ok (.aload_n 0, 1) := by decide +kernel
theorem dX8_judge_29 : decode cX8_judge 29 = .ok (.getfield 162, 3) := by decide +kernel
theorem dX8_judge_32 : decode cX8_judge 32 = .ok (.iload 4, 2) := by decide +kernel
theorem dX8_judge_34 : decode cX8_judge 34 = .ok (.iaload, 1) := by decide +kernel
theorem dX8_judge_35 : decode cX8_judge 35 = .ok (.iload_n 2, 1) := by decide +kernel
theorem dX8_judge_36 : decode cX8_judge 36 = .ok (.if_icmp .ne 8, 3) := by decide +kernel
theorem dX8_judge_39 : decode cX8_judge 39 = .ok (.iload 4, 2) := by decide +kernel
theorem dX8_judge_41 : decode cX8_judge 41 = .ok (.goto 4, 3) := by decide +kernel
theorem dX8_judge_44 : decode cX8_judge 44 = .ok (.iload_n 3, 1) := by decide +kernel
theorem dX8_judge_45 : decode cX8_judge 45 = .ok (.istore_n 3, 1) := by decide +kernel
theorem dX8_judge_46 : decode cX8_judge 46 = .ok (.iinc 4 1, 3) := by decide +kernel
theorem dX8_judge_49 : decode cX8_judge 49 = .ok (.goto (-27), 3) := by decide +kernel
theorem dX8_judge_52 : decode cX8_judge 52 = .ok (.iload_n 3, 1) := by decide +kernel
theorem dX8_judge_53 : decode cX8_judge 53 = .ok (.ifCond .ge 12, 3) := by decide +kernel
theorem dX8_judge_56 : decode cX8_judge 56 = .ok (.aload_n 0, 1) := by decide +kernel
theorem dX8_judge_57 : decode cX8_judge 57 = .ok (.getfield 168, 3) := by decide +kernel
theorem dX8_judge_60 : decode cX8_judge 60 = .ok (.iload_n 1, 1) := by decide +kernel
theorem dX8_judge_61 : decode cX8_judge 61 = .ok (.iaload, 1) := by decide +kernel
theorem dX8_judge_62 : decode cX8_judge 62 = .ok (.goto 16, 3) := by decide +kernel
theorem dX8_judge_65 : decode cX8_judge 65 = .ok (.aload_n 0, 1) := by decide +kernel
theorem dX8_judge_66 : decode cX8_judge 66 = .ok (.getfield 168, 3) := by decide +kernel
theorem dX8_judge_69 : decode cX8_judge 69 = .ok (.iload_n 1, 1) := by decide +kernel
theorem dX8_judge_70 : decode cX8_judge 70 = .ok (.iaload, 1) := by decide +kernel
theorem dX8_judge_71 : decode cX8_judge 71 = .ok (.aload_n 0, 1) := by decide +kernel
theorem dX8_judge_72 : decode cX8_judge 72 = .ok (.getfield 168, 3) := by decide +kernel
theorem dX8_judge_75 : decode cX8_judge 75 = .ok (.iload_n 3, 1) := by decide +kernel
theorem dX8_judge_76 : decode cX8_judge 76 = .ok (.iaload, 1) := by decide +kernel
theorem dX8_judge_77 : decode cX8_judge 77 = .ok (.isub, 1) := by decide +kernel
theorem dX8_judge_78 : decode cX8_judge 78 = .ok (.istore 4, 2) := by decide +kernel
theorem dX8_judge_80 : decode cX8_judge 80 = .ok (.iload 4, 2) := by decide +kernel
theorem dX8_judge_82 : decode cX8_judge 82 = .ok (.ifCond .lt 38, 3) := by decide +kernel
theorem dX8_judge_85 : decode cX8_judge 85 = .ok (.aload_n 0, 1) := by decide +kernel
theorem dX8_judge_86 : decode cX8_judge 86 = .ok (.iload_n 2, 1) := by decide +kernel
theorem dX8_judge_87 : decode cX8_judge 87 = .ok (.iload_n 3, 1) := by decide +kernel
theorem dX8_judge_88 : decode cX8_judge 88 = .ok (.ifCond .ge 12, 3) := by decide +kernel
theorem dX8_judge_91 : decode cX8_judge 91 = .ok (.aload_n 0, 1) := by decide +kernel
theorem dX8_judge_92 : decode cX8_judge 92 = .ok (.getfield 31, 3) := by decide +kernel
theorem dX8_judge_95 : decode cX8_judge 95 = .ok (.iload_n 2, 1) := by decide +kernel
theorem dX8_judge_96 : decode cX8_judge 96 = .ok (.iaload, 1) := by decide +kernel
theorem dX8_judge_97 : decode cX8_judge 97 = .ok (.goto 9, 3) := by decide +kernel
theorem dX8_judge_100 : decode cX8_judge 100 = .ok (.aload_n 0, 1) := by decide +kernel
theorem dX8_judge_101 : decode cX8_judge 101 = .ok (.getfield 165, 3) := by decide +kernel
theorem dX8_judge_104 : decode cX8_judge 104 = .ok (.iload_n 3, 1) := by decide +kernel
theorem dX8_judge_105 : decode cX8_judge 105 = .ok (.iaload, 1) := by decide +kernel
theorem dX8_judge_106 : decode cX8_judge 106 = .ok (.aload_n 0, 1) := by decide +kernel
theorem dX8_judge_107 : decode cX8_judge 107 = .ok (.getfield 165, 3) := by decide +kernel
theorem dX8_judge_110 : decode cX8_judge 110 = .ok (.iload_n 1, 1) := by decide +kernel
theorem dX8_judge_111 : decode cX8_judge 111 = .ok (.iaload, 1) := by decide +kernel
theorem dX8_judge_112 : decode cX8_judge 112 = .ok (.iload 4, 2) := by decide +kernel
theorem dX8_judge_114 : decode cX8_judge 114 = .ok (.invokevirtual 456, 3) := by decide +kernel
theorem dX8_judge_117 : decode cX8_judge 117 = .ok (.ifCond .ne 5, 3) := by decide +kernel
theorem dX8_judge_120 : decode cX8_judge 120 = .ok (.iload_n 1, 1) := by decide +kernel
theorem dX8_judge_121 : decode cX8_judge 121 = .ok (.ireturn, 1) := by decide +kernel
theorem dX8_judge_122 : decode cX8_judge 122 = .ok (.iinc 1 1, 3) := by decide +kernel
theorem dX8_judge_125 : decode cX8_judge 125 = .ok (.goto (-123), 3) := by decide +kernel
theorem dX8_judge_128 : decode cX8_judge 128 = .ok (.iconst (-1), 1) := by decide +kernel
theorem dX8_judge_129 : decode cX8_judge 129 = .ok (.ireturn, 1) := by decide +kernel
theorem dX8_seed_0 : decode cX8_seed 0 = .ok (.iload_n 1, 1) := by decide +kernel
theorem dX8_seed_1 : decode cX8_seed 1 = .ok (.ifCond .ge 6, 3) := by decide +kernel
theorem dX8_seed_4 : decode cX8_seed 4 = .ok (.ldc 204, 2) := by decide +kernel
theorem dX8_seed_6 : decode cX8_seed 6 = .ok (.ireturn, 1) := by decide +kernel
theorem dX8_seed_7 : decode cX8_seed 7 = .ok (.aload_n 0, 1) := by decide +kernel
theorem dX8_seed_8 : decode cX8_seed 8 = .ok (.getfield 373, 3) := by decide +kernel
theorem dX8_seed_11 : decode cX8_seed 11 = .ok (.istore_n 2, 1) := by decide +kernel
theorem dX8_seed_12 : decode cX8_seed 12 = .ok (.aload_n 0, 1) := by decide +kernel
theorem dX8_seed_13 : decode cX8_seed 13 = .ok (.iload_n 1, 1) := by decide +kernel
theorem dX8_seed_14 : decode cX8_seed 14 = .ok (.putfield 373, 3) := by decide +kernel
theorem dX8_seed_17 : decode cX8_seed 17 = .ok (.iload_n 2, 1) := by decide +kernel
theorem dX8_seed_18 : decode cX8_seed 18 = .ok (.ireturn, 1) := by decide +kernel
theorem dX8_keep_0 : decode cX8_keep 0 = .ok (.iload_n 1, 1) := by decide +kernel
theorem dX8_keep_1 : decode cX8_keep 1 = .ok (.i2l, 1) := by decide +kernel
theorem dX8_keep_2 : decode cX8_keep 2 = .ok (.lconst 0, 1) := by decide +kernel
theorem dX8_keep_3 : decode cX8_keep 3 = .ok (.lconst 1, 1) := by decide +kernel
theorem dX8_keep_4 : decode cX8_keep 4 = .ok (.invokestatic 180, 3) := by decide +kernel
theorem dX8_keep_7 : decode cX8_keep 7 = .ok (.ifCond .ne 7, 3) := by decide +kernel
theorem dX8_keep_10 : decode cX8_keep 10 = .ok (.ldc_w 316, 3) := by decide +kernel
theorem dX8_keep_13 : decode cX8_keep 13 = .ok (.ireturn, 1) := by decide +kernel
theorem dX8_keep_14 : decode cX8_keep 14 = .ok (.sipush 500, 3) := by decide +kernel
theorem dX8_keep_17 : decode cX8_keep 17 = .ok (.iload_n 1, 1) := by decide +kernel
theorem dX8_keep_18 : decode cX8_keep 18 = .ok (.imul, 1) := by decide +kernel
theorem dX8_keep_19 : decode cX8_keep 19 = .ok (.istore_n 2, 1) := by decide +kernel
theorem dX8_keep_20 : decode cX8_keep 20 = .ok (.iconst 0, 1) := by decide +kernel
theorem dX8_keep_21 : decode cX8_keep 21 = .ok (.istore_n 3, 1) := by decide +kernel
theorem dX8_keep_22 : decode cX8_keep 22 = .ok (.iload_n 3, 1) := by decide +kernel
theorem dX8_keep_23 : decode cX8_keep 23 = .ok (.bipush 12, 2) := by decide +kernel
theorem dX8_keep_25 : decode cX8_keep 25 = .ok (.if_icmp .ge 63, 3) := by decide +kernel
theorem dX8_keep_28 : decode cX8_keep 28 = .ok (.aload_n 0, 1) := by decide +kernel
theorem dX8_keep_29 : decode cX8_keep 29 = .ok (.getfield 171, 3) := by decide +kernel
theorem dX8_keep_32 : decode cX8_keep 32 = .ok (.iload_n 2, 1) := by decide +kernel
theorem dX8_keep_33 : decode cX8_keep 33 = .ok (.iload_n 3, 1) := by decide +kernel
theorem dX8_keep_34 : decode cX8_keep 34 = .ok (.iadd, 1) := by decide +kernel
theorem dX8_keep_35 : decode cX8_keep 35 = .ok (.aload_n 0, 1) := by decide +kernel
theorem dX8_keep_36 : decode cX8_keep 36 = .ok (.getfield 55, 3) := by decide +kernel
theorem dX8_keep_39 : decode cX8_keep 39 = .ok (.iload_n 3, 1) := by decide +kernel
theorem dX8_keep_40 : decode cX8_keep 40 = .ok (.iaload, 1) := by decide +kernel
theorem dX8_keep_41 : decode cX8_keep 41 = .ok (.iastore, 1) := by decide +kernel
theorem dX8_keep_42 : decode cX8_keep 42 = .ok (.aload_n 0, 1) := by decide +kernel
theorem dX8_keep_43 : decode cX8_keep 43 = .ok (.getfield 171, 3) := by decide +kernel
theorem dX8_keep_46 : decode cX8_keep 46 = .ok (.iload_n 2, 1) := by decide +kernel
theorem dX8_keep_47 : decode cX8_keep 47 = .ok (.bipush 12, 2) := by decide +kernel
theorem dX8_keep_49 : decode cX8_keep 49 = .ok (.iadd, 1) := by decide +kernel
theorem dX8_keep_50 : decode cX8_keep 50 = .ok (.iload_n 3, 1) := by decide +kernel
theorem dX8_keep_51 : decode cX8_keep 51 = .ok (.iadd, 1) := by decide +kernel
theorem dX8_keep_52 : decode cX8_keep 52 = .ok (.aload_n 0, 1) := by decide +kernel
theorem dX8_keep_53 : decode cX8_keep 53 = .ok (.getfield 58, 3) := by decide +kernel
theorem dX8_keep_56 : decode cX8_keep 56 = .ok (.iload_n 3, 1) := by decide +kernel
theorem dX8_keep_57 : decode cX8_keep 57 = .ok (.baload, 1) := by decide +kernel
theorem dX8_keep_58 : decode cX8_keep 58 = .ok (.ifCond .eq 7, 3) := by decide +kernel
theorem dX8_keep_61 : decode cX8_keep 61 = .ok (.iconst 1, 1) := by decide +kernel
theorem dX8_keep_62 : decode cX8_keep 62 = .ok (.goto 4, 3) := by decide +kernel
theorem dX8_keep_65 : decode cX8_keep 65 = .ok (.iconst 0, 1) := by decide +kernel
theorem dX8_keep_66 : decode cX8_keep 66 = .ok (.aload_n 0, 1) := by decide +kernel
theorem dX8_keep_67 : decode cX8_keep 67 = .ok (.getfield 62, 3) := by decide +kernel
theorem dX8_keep_70 : decode cX8_keep 70 = .ok (.iload_n 3, 1) := by decide +kernel
theorem dX8_keep_71 : decode cX8_keep 71 = .ok (.baload, 1) := by decide +kernel
theorem dX8_keep_72 : decode cX8_keep 72 = .ok (.ifCond .eq 7, 3) := by decide +kernel
theorem dX8_keep_75 : decode cX8_keep 75 = .ok (.iconst 2, 1) := by decide +kernel
theorem dX8_keep_76 : decode cX8_keep 76 = .ok (.goto 4, 3) := by decide +kernel
theorem dX8_keep_79 : decode cX8_keep 79 = .ok (.iconst 0, 1) := by decide +kernel
theorem dX8_keep_80 : decode cX8_keep 80 = .ok (.iadd, 1) := by decide +kernel
theorem dX8_keep_81 : decode cX8_keep 81 = .ok (.iastore, 1) := by decide +kernel
theorem dX8_keep_82 : decode cX8_keep 82 = .ok (.iinc 3 1, 3) := by decide +kernel
theorem dX8_keep_85 : decode cX8_keep 85 = .ok (.goto (-63), 3) := by decide +kernel
theorem dX8_keep_88 : decode cX8_keep 88 = .ok (.iconst 0, 1) := by decide +kernel
theorem dX8_keep_89 : decode cX8_keep 89 = .ok (.istore_n 3, 1) := by decide +kernel
theorem dX8_keep_90 : decode cX8_keep 90 = .ok (.iload_n 3, 1) := by decide +kernel
theorem dX8_keep_91 : decode cX8_keep 91 = .ok (.iconst 4, 1) := by decide +kernel
theorem dX8_keep_92 : decode cX8_keep 92 = .ok (.if_icmp .ge 136, 3) := by decide +kernel
theorem dX8_keep_95 : decode cX8_keep 95 = .ok (.aload_n 0, 1) := by decide +kernel
theorem dX8_keep_96 : decode cX8_keep 96 = .ok (.getfield 171, 3) := by decide +kernel
theorem dX8_keep_99 : decode cX8_keep 99 = .ok (.iload_n 2, 1) := by decide +kernel
theorem dX8_keep_100 : decode cX8_keep 100 = .ok (.bipush 24, 2) := by decide +kernel
theorem dX8_keep_102 : decode cX8_keep 102 = .ok (.iadd, 1) := by decide +kernel
theorem dX8_keep_103 : decode cX8_keep 103 = .ok (.iload_n 3, 1) := by decide +kernel
theorem dX8_keep_104 : decode cX8_keep 104 = .ok (.iadd, 1) := by decide +kernel
theorem dX8_keep_105 : decode cX8_keep 105 = .ok (.aload_n 0, 1) := by decide +kernel
theorem dX8_keep_106 : decode cX8_keep 106 = .ok (.getfield 65, 3) := by decide +kernel
theorem dX8_keep_109 : decode cX8_keep 109 = .ok (.iload_n 3, 1) := by decide +kernel
theorem dX8_keep_110 : decode cX8_keep 110 = .ok (.iaload, 1) := by decide +kernel
theorem dX8_keep_111 : decode cX8_keep 111 = .ok (.iastore, 1) := by decide +kernel
theorem dX8_keep_112 : decode cX8_keep 112 = .ok (.aload_n 0, 1) := by decide +kernel
theorem dX8_keep_113 : decode cX8_keep 113 = .ok (.getfield 171, 3) := by decide +kernel
theorem dX8_keep_116 : decode cX8_keep 116 = .ok (.iload_n 2, 1) := by decide +kernel
theorem dX8_keep_117 : decode cX8_keep 117 = .ok (.bipush 28, 2) := by decide +kernel
theorem dX8_keep_119 : decode cX8_keep 119 = .ok (.iadd, 1) := by decide +kernel
theorem dX8_keep_120 : decode cX8_keep 120 = .ok (.iload_n 3, 1) := by decide +kernel
theorem dX8_keep_121 : decode cX8_keep 121 = .ok (.iadd, 1) := by decide +kernel
theorem dX8_keep_122 : decode cX8_keep 122 = .ok (.aload_n 0, 1) := by decide +kernel
theorem dX8_keep_123 : decode cX8_keep 123 = .ok (.getfield 68, 3) := by decide +kernel
theorem dX8_keep_126 : decode cX8_keep 126 = .ok (.iload_n 3, 1) := by decide +kernel
theorem dX8_keep_127 : decode cX8_keep 127 = .ok (.iaload, 1) := by decide +kernel
theorem dX8_keep_128 : decode cX8_keep 128 = .ok (.iastore, 1) := by decide +kernel
theorem dX8_keep_129 : decode cX8_keep 129 = .ok (.aload_n 0, 1) := by decide +kernel
theorem dX8_keep_130 : decode cX8_keep 130 = .ok (.getfield 171, 3) := by decide +kernel
theorem dX8_keep_133 : decode cX8_keep 133 = .ok (.iload_n 2, 1) := by decide +kernel
theorem dX8_keep_134 : decode cX8_keep 134 = .ok (.bipush 32, 2) := by decide +kernel
theorem dX8_keep_136 : decode cX8_keep 136 = .ok (.iadd, 1) := by decide +kernel
theorem dX8_keep_137 : decode cX8_keep 137 = .ok (.iload_n 3, 1) := by decide +kernel
theorem dX8_keep_138 : decode cX8_keep 138 = .ok (.iadd, 1) := by decide +kernel
theorem dX8_keep_139 : decode cX8_keep 139 = .ok (.aload_n 0, 1) := by decide +kernel
theorem dX8_keep_140 : decode cX8_keep 140 = .ok (.getfield 71, 3) := by decide +kernel
theorem dX8_keep_143 : decode cX8_keep 143 = .ok (.iload_n 3, 1) := by decide +kernel
theorem dX8_keep_144 : decode cX8_keep 144 = .ok (.iaload, 1) := by decide +kernel
theorem dX8_keep_145 : decode cX8_keep 145 = .ok (.iastore, 1) := by decide +kernel
theorem dX8_keep_146 : decode cX8_keep 146 = .ok (.aload_n 0, 1) := by decide +kernel
theorem dX8_keep_147 : decode cX8_keep 147 = .ok (.getfield 171, 3) := by decide +kernel
theorem dX8_keep_150 : decode cX8_keep 150 = .ok (.iload_n 2, 1) := by decide +kernel
theorem dX8_keep_151 : decode cX8_keep 151 = .ok (.bipush 36, 2) := by decide +kernel
theorem dX8_keep_153 : decode cX8_keep 153 = .ok (.iadd, 1) := by decide +kernel
theorem dX8_keep_154 : decode cX8_keep 154 = .ok (.iload_n 3, 1) := by decide +kernel
theorem dX8_keep_155 : decode cX8_keep 155 = .ok (.iadd, 1) := by decide +kernel
theorem dX8_keep_156 : decode cX8_keep 156 = .ok (.aload_n 0, 1) := by decide +kernel
theorem dX8_keep_157 : decode cX8_keep 157 = .ok (.getfield 74, 3) := by decide +kernel
theorem dX8_keep_160 : decode cX8_keep 160 = .ok (.iload_n 3, 1) := by decide +kernel
theorem dX8_keep_161 : decode cX8_keep 161 = .ok (.iaload, 1) := by decide +kernel
theorem dX8_keep_162 : decode cX8_keep 162 = .ok (.iastore, 1) := by decide +kernel
theorem dX8_keep_163 : decode cX8_keep 163 = .ok (.aload_n 0, 1) := by decide +kernel
theorem dX8_keep_164 : decode cX8_keep 164 = .ok (.getfield 171, 3) := by decide +kernel
theorem dX8_keep_167 : decode cX8_keep 167 = .ok (.iload_n 2, 1) := by decide +kernel
theorem dX8_keep_168 : decode cX8_keep 168 = .ok (.bipush 40, 2) := by decide +kernel
theorem dX8_keep_170 : decode cX8_keep 170 = .ok (.iadd, 1) := by decide +kernel
theorem dX8_keep_171 : decode cX8_keep 171 = .ok (.iload_n 3, 1) := by decide +kernel
theorem dX8_keep_172 : decode cX8_keep 172 = .ok (.iadd, 1) := by decide +kernel
theorem dX8_keep_173 : decode cX8_keep 173 = .ok (.aload_n 0, 1) := by decide +kernel
theorem dX8_keep_174 : decode cX8_keep 174 = .ok (.getfield 77, 3) := by decide +kernel
theorem dX8_keep_177 : decode cX8_keep 177 = .ok (.iload_n 3, 1) := by decide +kernel
theorem dX8_keep_178 : decode cX8_keep 178 = .ok (.iaload, 1) := by decide +kernel
theorem dX8_keep_179 : decode cX8_keep 179 = .ok (.iastore, 1) := by decide +kernel
theorem dX8_keep_180 : decode cX8_keep 180 = .ok (.aload_n 0, 1) := by decide +kernel
theorem dX8_keep_181 : decode cX8_keep 181 = .ok (.getfield 171, 3) := by decide +kernel
theorem dX8_keep_184 : decode cX8_keep 184 = .ok (.iload_n 2, 1) := by decide +kernel
theorem dX8_keep_185 : decode cX8_keep 185 = .ok (.bipush 44, 2) := by decide +kernel
theorem dX8_keep_187 : decode cX8_keep 187 = .ok (.iadd, 1) := by decide +kernel
theorem dX8_keep_188 : decode cX8_keep 188 = .ok (.iload_n 3, 1) := by decide +kernel
theorem dX8_keep_189 : decode cX8_keep 189 = .ok (.iadd, 1) := by decide +kernel
theorem dX8_keep_190 : decode cX8_keep 190 = .ok (.aload_n 0, 1) := by decide +kernel
theorem dX8_keep_191 : decode cX8_keep 191 = .ok (.getfield 80, 3) := by decide +kernel
theorem dX8_keep_194 : decode cX8_keep 194 = .ok (.iload_n 3, 1) := by decide +kernel
theorem dX8_keep_195 : decode cX8_keep 195 = .ok (.iaload, 1) := by decide +kernel
theorem dX8_keep_196 : decode cX8_keep 196 = .ok (.iastore, 1) := by decide +kernel
theorem dX8_keep_197 : decode cX8_keep 197 = .ok (.aload_n 0, 1) := by decide +kernel
theorem dX8_keep_198 : decode cX8_keep 198 = .ok (.getfield 171, 3) := by decide +kernel
theorem dX8_keep_201 : decode cX8_keep 201 = .ok (.iload_n 2, 1) := by decide +kernel
theorem dX8_keep_202 : decode cX8_keep 202 = .ok (.bipush 48, 2) := by decide +kernel
theorem dX8_keep_204 : decode cX8_keep 204 = .ok (.iadd, 1) := by decide +kernel
theorem dX8_keep_205 : decode cX8_keep 205 = .ok (.iload_n 3, 1) := by decide +kernel
theorem dX8_keep_206 : decode cX8_keep 206 = .ok (.iadd, 1) := by decide +kernel
theorem dX8_keep_207 : decode cX8_keep 207 = .ok (.aload_n 0, 1) := by decide +kernel
theorem dX8_keep_208 : decode cX8_keep 208 = .ok (.getfield 83, 3) := by decide +kernel
theorem dX8_keep_211 : decode cX8_keep 211 = .ok (.iload_n 3, 1) := by decide +kernel
theorem dX8_keep_212 : decode cX8_keep 212 = .ok (.baload, 1) := by decide +kernel
theorem dX8_keep_213 : decode cX8_keep 213 = .ok (.ifCond .eq 7, 3) := by decide +kernel
theorem dX8_keep_216 : decode cX8_keep 216 = .ok (.iconst 1, 1) := by decide +kernel
theorem dX8_keep_217 : decode cX8_keep 217 = .ok (.goto 4, 3) := by decide +kernel
theorem dX8_keep_220 : decode cX8_keep 220 = .ok (.iconst 0, 1) := by decide +kernel
theorem dX8_keep_221 : decode cX8_keep 221 = .ok (.iastore, 1) := by decide +kernel
theorem dX8_keep_222 : decode cX8_keep 222 = .ok (.iinc 3 1, 3) := by decide +kernel
theorem dX8_keep_225 : decode cX8_keep 225 = .ok (.goto (-135), 3) := by decide +kernel
theorem dX8_keep_228 : decode cX8_keep 228 = .ok (.aload_n 0, 1) := by decide +kernel
theorem dX8_keep_229 : decode cX8_keep 229 = .ok (.getfield 171, 3) := by decide +kernel
theorem dX8_keep_232 : decode cX8_keep 232 = .ok (.iload_n 2, 1) := by decide +kernel
theorem dX8_keep_233 : decode cX8_keep 233 = .ok (.bipush 52, 2) := by decide +kernel
theorem dX8_keep_235 : decode cX8_keep 235 = .ok (.iadd, 1) := by decide +kernel
theorem dX8_keep_236 : decode cX8_keep 236 = .ok (.aload_n 0, 1) := by decide +kernel
theorem dX8_keep_237 : decode cX8_keep 237 = .ok (.getfield 193, 3) := by decide +kernel
theorem dX8_keep_240 : decode cX8_keep 240 = .ok (.iastore, 1) := by decide +kernel
theorem dX8_keep_241 : decode cX8_keep 241 = .ok (.aload_n 0, 1) := by decide +kernel
theorem dX8_keep_242 : decode cX8_keep 242 = .ok (.getfield 171, 3) := by decide +kernel
theorem dX8_keep_245 : decode cX8_keep 245 = .ok (.iload_n 2, 1) := by decide +kernel
theorem dX8_keep_246 : decode cX8_keep 246 = .ok (.bipush 53, 2) := by decide +kernel
theorem dX8_keep_248 : decode cX8_keep 248 = .ok (.iadd, 1) := by decide +kernel
theorem dX8_keep_249 : decode cX8_keep 249 = .ok (.aload_n 0, 1) := by decide +kernel
theorem dX8_keep_250 : decode cX8_keep 250 = .ok (.getfield 196, 3) := by decide +kernel
theorem dX8_keep_253 : decode cX8_keep 253 = .ok (.iastore, 1) := by decide +kernel
theorem dX8_keep_254 : decode cX8_keep 254 = .ok (.aload_n 0, 1) := by decide +kernel
theorem dX8_keep_255 : decode cX8_keep 255 = .ok (.getfield 171, 3) := by decide +kernel
theorem dX8_keep_258 : decode cX8_keep 258 = .ok (.iload_n 2, 1) := by decide +kernel
theorem dX8_keep_259 : decode cX8_keep 259 = .ok (.bipush 54, 2) := by decide +kernel
theorem dX8_keep_261 : decode cX8_keep 261 = .ok (.iadd, 1) := by decide +kernel
theorem dX8_keep_262 : decode cX8_keep 262 = .ok (.aload_n 0, 1) := by decide +kernel
theorem dX8_keep_263 : decode cX8_keep 263 = .ok (.getfield 199, 3) := by decide +kernel
theorem dX8_keep_266 : decode cX8_keep 266 = .ok (.iastore, 1) := by decide +kernel
theorem dX8_keep_267 : decode cX8_keep 267 = .ok (.aload_n 0, 1) := by decide +kernel
theorem dX8_keep_268 : decode cX8_keep 268 = .ok (.getfield 171, 3) := by decide +kernel
theorem dX8_keep_271 : decode cX8_keep 271 = .ok (.iload_n 2, 1) := by decide +kernel
theorem dX8_keep_272 : decode cX8_keep 272 = .ok (.bipush 55, 2) := by decide +kernel
theorem dX8_keep_274 : decode cX8_keep 274 = .ok (.iadd, 1) := by decide +kernel
theorem dX8_keep_275 : decode cX8_keep 275 = .ok (.aload_n 0, 1) := by decide +kernel
theorem dX8_keep_276 : decode cX8_keep 276 = .ok (.getfield 373, 3) := by decide +kernel
theorem dX8_keep_279 : decode cX8_keep 279 = .ok (.iastore, 1) := by decide +kernel
theorem dX8_keep_280 : decode cX8_keep 280 = .ok (.iconst 0, 1) := by decide +kernel
theorem dX8_keep_281 : decode cX8_keep 281 = .ok (.istore_n 3, 1) := by decide +kernel
theorem dX8_keep_282 : decode cX8_keep 282 = .ok (.iload_n 3, 1) := by decide +kernel
theorem dX8_keep_283 : decode cX8_keep 283 = .ok (.sipush 200, 3) := by decide +kernel
theorem dX8_keep_286 : decode cX8_keep 286 = .ok (.if_icmp .ge 44, 3) := by decide +kernel
theorem dX8_keep_289 : decode cX8_keep 289 = .ok (.aload_n 0, 1) := by decide +kernel
theorem dX8_keep_290 : decode cX8_keep 290 = .ok (.getfield 171, 3) := by decide +kernel
theorem dX8_keep_293 : decode cX8_keep 293 = .ok (.iload_n 2, 1) := by decide +kernel
theorem dX8_keep_294 : decode cX8_keep 294 = .ok (.bipush 56, 2) := by decide +kernel
theorem dX8_keep_296 : decode cX8_keep 296 = .ok (.iadd, 1) := by decide +kernel
theorem dX8_keep_297 : decode cX8_keep 297 = .ok (.iload_n 3, 1) := by decide +kernel
theorem dX8_keep_298 : decode cX8_keep 298 = .ok (.iadd, 1) := by decide +kernel
theorem dX8_keep_299 : decode cX8_keep 299 = .ok (.aload_n 0, 1) := by decide +kernel
theorem dX8_keep_300 : decode cX8_keep 300 = .ok (.getfield 86, 3) := by decide +kernel
theorem dX8_keep_303 : decode cX8_keep 303 = .ok (.iload_n 3, 1) := by decide +kernel
theorem dX8_keep_304 : decode cX8_keep 304 = .ok (.iaload, 1) := by decide +kernel
theorem dX8_keep_305 : decode cX8_keep 305 = .ok (.iastore, 1) := by decide +kernel
theorem dX8_keep_306 : decode cX8_keep 306 = .ok (.aload_n 0, 1) := by decide +kernel
theorem dX8_keep_307 : decode cX8_keep 307 = .ok (.getfield 171, 3) := by decide +kernel
theorem dX8_keep_310 : decode cX8_keep 310 = .ok (.iload_n 2, 1) := by decide +kernel
theorem dX8_keep_311 : decode cX8_keep 311 = .ok (.sipush 256, 3) := by decide +kernel
theorem dX8_keep_314 : decode cX8_keep 314 = .ok (.iadd, 1) := by decide +kernel
theorem dX8_keep_315 : decode cX8_keep 315 = .ok (.iload_n 3, 1) := by decide +kernel
theorem dX8_keep_316 : decode cX8_keep 316 = .ok (.iadd, 1) := by decide +kernel
theorem dX8_keep_317 : decode cX8_keep 317 = .ok (.aload_n 0, 1) := by decide +kernel
theorem dX8_keep_318 : decode cX8_keep 318 = .ok (.getfield 89, 3) := by decide +kernel
theorem dX8_keep_321 : decode cX8_keep 321 = .ok (.iload_n 3, 1) := by decide +kernel
theorem dX8_keep_322 : decode cX8_keep 322 = .ok (.iaload, 1) := by decide +kernel
theorem dX8_keep_323 : decode cX8_keep 323 = .ok (.iastore, 1) := by decide +kernel
theorem dX8_keep_324 : decode cX8_keep 324 = .ok (.iinc 3 1, 3) := by decide +kernel
theorem dX8_keep_327 : decode cX8_keep 327 = .ok (.goto (-45), 3) := by decide +kernel
theorem dX8_keep_330 : decode cX8_keep 330 = .ok (.aload_n 0, 1) := by decide +kernel
theorem dX8_keep_331 : decode cX8_keep 331 = .ok (.getfield 174, 3) := by decide +kernel
theorem dX8_keep_334 : decode cX8_keep 334 = .ok (.iload_n 1, 1) := by decide +kernel
theorem dX8_keep_335 : decode cX8_keep 335 = .ok (.iconst 1, 1) := by decide +kernel
theorem dX8_keep_336 : decode cX8_keep 336 = .ok (.bastore, 1) := by decide +kernel
theorem dX8_keep_337 : decode cX8_keep 337 = .ok (.iconst 1, 1) := by decide +kernel
theorem dX8_keep_338 : decode cX8_keep 338 = .ok (.ireturn, 1) := by decide +kernel
theorem dX8_goBack_0 : decode cX8_goBack 0 = .ok (.iload_n 1, 1) := by decide +kernel
theorem dX8_goBack_1 : decode cX8_goBack 1 = .ok (.i2l, 1) := by decide +kernel
theorem dX8_goBack_2 : decode cX8_goBack 2 = .ok (.lconst 0, 1) := by decide +kernel
theorem dX8_goBack_3 : decode cX8_goBack 3 = .ok (.lconst 1, 1) := by decide +kernel
theorem dX8_goBack_4 : decode cX8_goBack 4 = .ok (.invokestatic 180, 3) := by decide +kernel
theorem dX8_goBack_7 : decode cX8_goBack 7 = .ok (.ifCond .ne 7, 3) := by decide +kernel
theorem dX8_goBack_10 : decode cX8_goBack 10 = .ok (.ldc_w 316, 3) := by decide +kernel
theorem dX8_goBack_13 : decode cX8_goBack 13 = .ok (.ireturn, 1) := by decide +kernel
theorem dX8_goBack_14 : decode cX8_goBack 14 = .ok (.aload_n 0, 1) := by decide +kernel
theorem dX8_goBack_15 : decode cX8_goBack 15 = .ok (.getfield 174, 3) := by decide +kernel
theorem dX8_goBack_18 : decode cX8_goBack 18 = .ok (.iload_n 1, 1) := by decide +kernel
theorem dX8_goBack_19 : decode cX8_goBack 19 = .ok (.baload, 1) := by decide +kernel
theorem dX8_goBack_20 : decode cX8_goBack 20 = .ok (.ifCond .ne 7, 3) := by decide +kernel
theorem dX8_goBack_23 : decode cX8_goBack 23 = .ok (.ldc_w 356, 3) := by decide +kernel
theorem dX8_goBack_26 : decode cX8_goBack 26 = .ok (.ireturn, 1) := by decide +kernel
theorem dX8_goBack_27 : decode cX8_goBack 27 = .ok (.sipush 500, 3) := by decide +kernel
theorem dX8_goBack_30 : decode cX8_goBack 30 = .ok (.iload_n 1, 1) := by decide +kernel
theorem dX8_goBack_31 : decode cX8_goBack 31 = .ok (.imul, 1) := by decide +kernel
theorem dX8_goBack_32 : decode cX8_goBack 32 = .ok (.istore_n 2, 1) := by decide +kernel
theorem dX8_goBack_33 : decode cX8_goBack 33 = .ok (.iconst 0, 1) := by decide +kernel
theorem dX8_goBack_34 : decode cX8_goBack 34 = .ok (.istore_n 3, 1) := by decide +kernel
theorem dX8_goBack_35 : decode cX8_goBack 35 = .ok (.iload_n 3, 1) := by decide +kernel
theorem dX8_goBack_36 : decode cX8_goBack 36 = .ok (.bipush 12, 2) := by decide +kernel
theorem dX8_goBack_38 : decode cX8_goBack 38 = .ok (.if_icmp .ge 77, 3) := by decide +kernel
theorem dX8_goBack_41 : decode cX8_goBack 41 = .ok (.aload_n 0, 1) := by decide +kernel
theorem dX8_goBack_42 : decode cX8_goBack 42 = .ok (.getfield 55, 3) := by decide +kernel
theorem dX8_goBack_45 : decode cX8_goBack 45 = .ok (.iload_n 3, 1) := by decide +kernel
theorem dX8_goBack_46 : decode cX8_goBack 46 = .ok (.aload_n 0, 1) := by decide +kernel
theorem dX8_goBack_47 : decode cX8_goBack 47 = .ok (.getfield 171, 3) := by decide +kernel
theorem dX8_goBack_50 : decode cX8_goBack 50 = .ok (.iload_n 2, 1) := by decide +kernel
theorem dX8_goBack_51 : decode cX8_goBack 51 = .ok (.iload_n 3, 1) := by decide +kernel
theorem dX8_goBack_52 : decode cX8_goBack 52 = .ok (.iadd, 1) := by decide +kernel
theorem dX8_goBack_53 : decode cX8_goBack 53 = .ok (.iaload, 1) := by decide +kernel
theorem dX8_goBack_54 : decode cX8_goBack 54 = .ok (.iastore, 1) := by decide +kernel
theorem dX8_goBack_55 : decode cX8_goBack 55 = .ok (.aload_n 0, 1) := by decide +kernel
theorem dX8_goBack_56 : decode cX8_goBack 56 = .ok (.getfield 58, 3) := by decide +kernel
theorem dX8_goBack_59 : decode cX8_goBack 59 = .ok (.iload_n 3, 1) := by decide +kernel
theorem dX8_goBack_60 : decode cX8_goBack 60 = .ok (.aload_n 0, 1) := by decide +kernel
theorem dX8_goBack_61 : decode cX8_goBack 61 = .ok (.getfield 171, 3) := by decide +kernel
theorem dX8_goBack_64 : decode cX8_goBack 64 = .ok (.iload_n 2, 1) := by decide +kernel
theorem dX8_goBack_65 : decode cX8_goBack 65 = .ok (.bipush 12, 2) := by decide +kernel
theorem dX8_goBack_67 : decode cX8_goBack 67 = .ok (.iadd, 1) := by decide +kernel
theorem dX8_goBack_68 : decode cX8_goBack 68 = .ok (.iload_n 3, 1) := by decide +kernel
theorem dX8_goBack_69 : decode cX8_goBack 69 = .ok (.iadd, 1) := by decide +kernel
theorem dX8_goBack_70 : decode cX8_goBack 70 = .ok (.iaload, 1) := by decide +kernel
theorem dX8_goBack_71 : decode cX8_goBack 71 = .ok (.iconst 2, 1) := by decide +kernel
theorem dX8_goBack_72 : decode cX8_goBack 72 = .ok (.irem, 1) := by decide +kernel
theorem dX8_goBack_73 : decode cX8_goBack 73 = .ok (.iconst 1, 1) := by decide +kernel
theorem dX8_goBack_74 : decode cX8_goBack 74 = .ok (.if_icmp .ne 7, 3) := by decide +kernel
theorem dX8_goBack_77 : decode cX8_goBack 77 = .ok (.iconst 1, 1) := by decide +kernel
theorem dX8_goBack_78 : decode cX8_goBack 78 = .ok (.goto 4, 3) := by decide +kernel
theorem dX8_goBack_81 : decode cX8_goBack 81 = .ok (.iconst 0, 1) := by decide +kernel
theorem dX8_goBack_82 : decode cX8_goBack 82 = .ok (.bastore, 1) := by decide +kernel
theorem dX8_goBack_83 : decode cX8_goBack 83 = .ok (.aload_n 0, 1) := by decide +kernel
theorem dX8_goBack_84 : decode cX8_goBack 84 = .ok (.getfield 62, 3) := by decide +kernel
theorem dX8_goBack_87 : decode cX8_goBack 87 = .ok (.iload_n 3, 1) := by decide +kernel
theorem dX8_goBack_88 : decode cX8_goBack 88 = .ok (.aload_n 0, 1) := by decide +kernel
theorem dX8_goBack_89 : decode cX8_goBack 89 = .ok (.getfield 171, 3) := by decide +kernel
theorem dX8_goBack_92 : decode cX8_goBack 92 = .ok (.iload_n 2, 1) := by decide +kernel
theorem dX8_goBack_93 : decode cX8_goBack 93 = .ok (.bipush 12, 2) := by decide +kernel
theorem dX8_goBack_95 : decode cX8_goBack 95 = .ok (.iadd, 1) := by decide +kernel
theorem dX8_goBack_96 : decode cX8_goBack 96 = .ok (.iload_n 3, 1) := by decide +kernel
theorem dX8_goBack_97 : decode cX8_goBack 97 = .ok (.iadd, 1) := by decide +kernel
theorem dX8_goBack_98 : decode cX8_goBack 98 = .ok (.iaload, 1) := by decide +kernel
theorem dX8_goBack_99 : decode cX8_goBack 99 = .ok (.iconst 1, 1) := by decide +kernel
theorem dX8_goBack_100 : decode cX8_goBack 100 = .ok (.if_icmp .le 7, 3) := by decide +kernel
theorem dX8_goBack_103 : decode cX8_goBack 103 = .ok (.iconst 1, 1) := by decide +kernel
theorem dX8_goBack_104 : decode cX8_goBack 104 = .ok (.goto 4, 3) := by decide +kernel
theorem dX8_goBack_107 : decode cX8_goBack 107 = .ok (.iconst 0, 1) := by decide +kernel
theorem dX8_goBack_108 : decode cX8_goBack 108 = .ok (.bastore, 1) := by decide +kernel
theorem dX8_goBack_109 : decode cX8_goBack 109 = .ok (.iinc 3 1, 3) := by decide +kernel
theorem dX8_goBack_112 : decode cX8_goBack 112 = .ok (.goto (-77), 3) := by decide +kernel
theorem dX8_goBack_115 : decode cX8_goBack 115 = .ok (.iconst 0, 1) := by decide +kernel
theorem dX8_goBack_116 : decode cX8_goBack 116 = .ok (.istore_n 3, 1) := by decide +kernel
theorem dX8_goBack_117 : decode cX8_goBack 117 = .ok (.iload_n 3, 1) := by decide +kernel
theorem dX8_goBack_118 : decode cX8_goBack 118 = .ok (.iconst 4, 1) := by decide +kernel
theorem dX8_goBack_119 : decode cX8_goBack 119 = .ok (.if_icmp .ge 137, 3) := by decide +kernel
theorem dX8_goBack_122 : decode cX8_goBack 122 = .ok (.aload_n 0, 1) := by decide +kernel
theorem dX8_goBack_123 : decode cX8_goBack 123 = .ok (.getfield 65, 3) := by decide +kernel
theorem dX8_goBack_126 : decode cX8_goBack 126 = .ok (.iload_n 3, 1) := by decide +kernel
theorem dX8_goBack_127 : decode cX8_goBack 127 = .ok (.aload_n 0, 1) := by decide +kernel
theorem dX8_goBack_128 : decode cX8_goBack 128 = .ok (.getfield 171, 3) := by decide +kernel
theorem dX8_goBack_131 : decode cX8_goBack 131 = .ok (.iload_n 2, 1) := by decide +kernel
theorem dX8_goBack_132 : decode cX8_goBack 132 = .ok (.bipush 24, 2) := by decide +kernel
theorem dX8_goBack_134 : decode cX8_goBack 134 = .ok (.iadd, 1) := by decide +kernel
theorem dX8_goBack_135 : decode cX8_goBack 135 = .ok (.iload_n 3, 1) := by decide +kernel
theorem dX8_goBack_136 : decode cX8_goBack 136 = .ok (.iadd, 1) := by decide +kernel
theorem dX8_goBack_137 : decode cX8_goBack 137 = .ok (.iaload, 1) := by decide +kernel
theorem dX8_goBack_138 : decode cX8_goBack 138 = .ok (.iastore, 1) := by decide +kernel
theorem dX8_goBack_139 : decode cX8_goBack 139 = .ok (.aload_n 0, 1) := by decide +kernel
theorem dX8_goBack_140 : decode cX8_goBack 140 = .ok (.getfield 68, 3) := by decide +kernel
theorem dX8_goBack_143 : decode cX8_goBack 143 = .ok (.iload_n 3, 1) := by decide +kernel
theorem dX8_goBack_144 : decode cX8_goBack 144 = .ok (.aload_n 0, 1) := by decide +kernel
theorem dX8_goBack_145 : decode cX8_goBack 145 = .ok (.getfield 171, 3) := by decide +kernel
theorem dX8_goBack_148 : decode cX8_goBack 148 = .ok (.iload_n 2, 1) := by decide +kernel
theorem dX8_goBack_149 : decode cX8_goBack 149 = .ok (.bipush 28, 2) := by decide +kernel
theorem dX8_goBack_151 : decode cX8_goBack 151 = .ok (.iadd, 1) := by decide +kernel
theorem dX8_goBack_152 : decode cX8_goBack 152 = .ok (.iload_n 3, 1) := by decide +kernel
theorem dX8_goBack_153 : decode cX8_goBack 153 = .ok (.iadd, 1) := by decide +kernel
theorem dX8_goBack_154 : decode cX8_goBack 154 = .ok (.iaload, 1) := by decide +kernel
theorem dX8_goBack_155 : decode cX8_goBack 155 = .ok (.iastore, 1) := by decide +kernel
theorem dX8_goBack_156 : decode cX8_goBack 156 = .ok (.aload_n 0, 1) := by decide +kernel
theorem dX8_goBack_157 : decode cX8_goBack 157 = .ok (.getfield 71, 3) := by decide +kernel
theorem dX8_goBack_160 : decode cX8_goBack 160 = .ok (.iload_n 3, 1) := by decide +kernel
theorem dX8_goBack_161 : decode cX8_goBack 161 = .ok (.aload_n 0, 1) := by decide +kernel
theorem dX8_goBack_162 : decode cX8_goBack 162 = .ok (.getfield 171, 3) := by decide +kernel
theorem dX8_goBack_165 : decode cX8_goBack 165 = .ok (.iload_n 2, 1) := by decide +kernel
theorem dX8_goBack_166 : decode cX8_goBack 166 = .ok (.bipush 32, 2) := by decide +kernel
theorem dX8_goBack_168 : decode cX8_goBack 168 = .ok (.iadd, 1) := by decide +kernel
theorem dX8_goBack_169 : decode cX8_goBack 169 = .ok (.iload_n 3, 1) := by decide +kernel
theorem dX8_goBack_170 : decode cX8_goBack 170 = .ok (.iadd, 1) := by decide +kernel
theorem dX8_goBack_171 : decode cX8_goBack 171 = .ok (.iaload, 1) := by decide +kernel
theorem dX8_goBack_172 : decode cX8_goBack 172 = .ok (.iastore, 1) := by decide +kernel
theorem dX8_goBack_173 : decode cX8_goBack 173 = .ok (.aload_n 0, 1) := by decide +kernel
theorem dX8_goBack_174 : decode cX8_goBack 174 = .ok (.getfield 74, 3) := by decide +kernel
theorem dX8_goBack_177 : decode cX8_goBack 177 = .ok (.iload_n 3, 1) := by decide +kernel
theorem dX8_goBack_178 : decode cX8_goBack 178 = .ok (.aload_n 0, 1) := by decide +kernel
theorem dX8_goBack_179 : decode cX8_goBack 179 = .ok (.getfield 171, 3) := by decide +kernel
theorem dX8_goBack_182 : decode cX8_goBack 182 = .ok (.iload_n 2, 1) := by decide +kernel
theorem dX8_goBack_183 : decode cX8_goBack 183 = .ok (.bipush 36, 2) := by decide +kernel
theorem dX8_goBack_185 : decode cX8_goBack 185 = .ok (.iadd, 1) := by decide +kernel
theorem dX8_goBack_186 : decode cX8_goBack 186 = .ok (.iload_n 3, 1) := by decide +kernel
theorem dX8_goBack_187 : decode cX8_goBack 187 = .ok (.iadd, 1) := by decide +kernel
theorem dX8_goBack_188 : decode cX8_goBack 188 = .ok (.iaload, 1) := by decide +kernel
theorem dX8_goBack_189 : decode cX8_goBack 189 = .ok (.iastore, 1) := by decide +kernel
theorem dX8_goBack_190 : decode cX8_goBack 190 = .ok (.aload_n 0, 1) := by decide +kernel
theorem dX8_goBack_191 : decode cX8_goBack 191 = .ok (.getfield 77, 3) := by decide +kernel
theorem dX8_goBack_194 : decode cX8_goBack 194 = .ok (.iload_n 3, 1) := by decide +kernel
theorem dX8_goBack_195 : decode cX8_goBack 195 = .ok (.aload_n 0, 1) := by decide +kernel
theorem dX8_goBack_196 : decode cX8_goBack 196 = .ok (.getfield 171, 3) := by decide +kernel
theorem dX8_goBack_199 : decode cX8_goBack 199 = .ok (.iload_n 2, 1) := by decide +kernel
theorem dX8_goBack_200 : decode cX8_goBack 200 = .ok (.bipush 40, 2) := by decide +kernel
theorem dX8_goBack_202 : decode cX8_goBack 202 = .ok (.iadd, 1) := by decide +kernel
theorem dX8_goBack_203 : decode cX8_goBack 203 = .ok (.iload_n 3, 1) := by decide +kernel
theorem dX8_goBack_204 : decode cX8_goBack 204 = .ok (.iadd, 1) := by decide +kernel
theorem dX8_goBack_205 : decode cX8_goBack 205 = .ok (.iaload, 1) := by decide +kernel
theorem dX8_goBack_206 : decode cX8_goBack 206 = .ok (.iastore, 1) := by decide +kernel
theorem dX8_goBack_207 : decode cX8_goBack 207 = .ok (.aload_n 0, 1) := by decide +kernel
theorem dX8_goBack_208 : decode cX8_goBack 208 = .ok (.getfield 80, 3) := by decide +kernel
theorem dX8_goBack_211 : decode cX8_goBack 211 = .ok (.iload_n 3, 1) := by decide +kernel
theorem dX8_goBack_212 : decode cX8_goBack 212 = .ok (.aload_n 0, 1) := by decide +kernel
theorem dX8_goBack_213 : decode cX8_goBack 213 = .ok (.getfield 171, 3) := by decide +kernel
theorem dX8_goBack_216 : decode cX8_goBack 216 = .ok (.iload_n 2, 1) := by decide +kernel
theorem dX8_goBack_217 : decode cX8_goBack 217 = .ok (.bipush 44, 2) := by decide +kernel
theorem dX8_goBack_219 : decode cX8_goBack 219 = .ok (.iadd, 1) := by decide +kernel
theorem dX8_goBack_220 : decode cX8_goBack 220 = .ok (.iload_n 3, 1) := by decide +kernel
theorem dX8_goBack_221 : decode cX8_goBack 221 = .ok (.iadd, 1) := by decide +kernel
theorem dX8_goBack_222 : decode cX8_goBack 222 = .ok (.iaload, 1) := by decide +kernel
theorem dX8_goBack_223 : decode cX8_goBack 223 = .ok (.iastore, 1) := by decide +kernel
theorem dX8_goBack_224 : decode cX8_goBack 224 = .ok (.aload_n 0, 1) := by decide +kernel
theorem dX8_goBack_225 : decode cX8_goBack 225 = .ok (.getfield 83, 3) := by decide +kernel
theorem dX8_goBack_228 : decode cX8_goBack 228 = .ok (.iload_n 3, 1) := by decide +kernel
theorem dX8_goBack_229 : decode cX8_goBack 229 = .ok (.aload_n 0, 1) := by decide +kernel
theorem dX8_goBack_230 : decode cX8_goBack 230 = .ok (.getfield 171, 3) := by decide +kernel
theorem dX8_goBack_233 : decode cX8_goBack 233 = .ok (.iload_n 2, 1) := by decide +kernel
theorem dX8_goBack_234 : decode cX8_goBack 234 = .ok (.bipush 48, 2) := by decide +kernel
theorem dX8_goBack_236 : decode cX8_goBack 236 = .ok (.iadd, 1) := by decide +kernel
theorem dX8_goBack_237 : decode cX8_goBack 237 = .ok (.iload_n 3, 1) := by decide +kernel
theorem dX8_goBack_238 : decode cX8_goBack 238 = .ok (.iadd, 1) := by decide +kernel
theorem dX8_goBack_239 : decode cX8_goBack 239 = .ok (.iaload, 1) := by decide +kernel
theorem dX8_goBack_240 : decode cX8_goBack 240 = .ok (.iconst 1, 1) := by decide +kernel
theorem dX8_goBack_241 : decode cX8_goBack 241 = .ok (.if_icmp .ne 7, 3) := by decide +kernel
theorem dX8_goBack_244 : decode cX8_goBack 244 = .ok (.iconst 1, 1) := by decide +kernel
theorem dX8_goBack_245 : decode cX8_goBack 245 = .ok (.goto 4, 3) := by decide +kernel
theorem dX8_goBack_248 : decode cX8_goBack 248 = .ok (.iconst 0, 1) := by decide +kernel
theorem dX8_goBack_249 : decode cX8_goBack 249 = .ok (.bastore, 1) := by decide +kernel
theorem dX8_goBack_250 : decode cX8_goBack 250 = .ok (.iinc 3 1, 3) := by decide +kernel
theorem dX8_goBack_253 : decode cX8_goBack 253 = .ok (.goto (-136), 3) := by decide +kernel
theorem dX8_goBack_256 : decode cX8_goBack 256 = .ok (.aload_n 0, 1) := by decide +kernel
theorem dX8_goBack_257 : decode cX8_goBack 257 = .ok (.aload_n 0, 1) := by decide +kernel
theorem dX8_goBack_258 : decode cX8_goBack 258 = .ok (.getfield 171, 3) := by decide +kernel
theorem dX8_goBack_261 : decode cX8_goBack 261 = .ok (.iload_n 2, 1) := by decide +kernel
theorem dX8_goBack_262 : decode cX8_goBack 262 = .ok (.bipush 52, 2) := by decide +kernel
theorem dX8_goBack_264 : decode cX8_goBack 264 = .ok (.iadd, 1) := by decide +kernel
theorem dX8_goBack_265 : decode cX8_goBack 265 = .ok (.iaload, 1) := by decide +kernel
theorem dX8_goBack_266 : decode cX8_goBack 266 = .ok (.putfield 193, 3) := by decide +kernel
theorem dX8_goBack_269 : decode cX8_goBack 269 = .ok (.aload_n 0, 1) := by decide +kernel
theorem dX8_goBack_270 : decode cX8_goBack 270 = .ok (.aload_n 0, 1) := by decide +kernel
theorem dX8_goBack_271 : decode cX8_goBack 271 = .ok (.getfield 171, 3) := by decide +kernel
theorem dX8_goBack_274 : decode cX8_goBack 274 = .ok (.iload_n 2, 1) := by decide +kernel
theorem dX8_goBack_275 : decode cX8_goBack 275 = .ok (.bipush 53, 2) := by decide +kernel
theorem dX8_goBack_277 : decode cX8_goBack 277 = .ok (.iadd, 1) := by decide +kernel
theorem dX8_goBack_278 : decode cX8_goBack 278 = .ok (.iaload, 1) := by decide +kernel
theorem dX8_goBack_279 : decode cX8_goBack 279 = .ok (.putfield 196, 3) := by decide +kernel
theorem dX8_goBack_282 : decode cX8_goBack 282 = .ok (.aload_n 0, 1) := by decide +kernel
theorem dX8_goBack_283 : decode cX8_goBack 283 = .ok (.aload_n 0, 1) := by decide +kernel
theorem dX8_goBack_284 : decode cX8_goBack 284 = .ok (.getfield 171, 3) := by decide +kernel
theorem dX8_goBack_287 : decode cX8_goBack 287 = .ok (.iload_n 2, 1) := by decide +kernel
theorem dX8_goBack_288 : decode cX8_goBack 288 = .ok (.bipush 54, 2) := by decide +kernel
theorem dX8_goBack_290 : decode cX8_goBack 290 = .ok (.iadd, 1) := by decide +kernel
theorem dX8_goBack_291 : decode cX8_goBack 291 = .ok (.iaload, 1) := by decide +kernel
theorem dX8_goBack_292 : decode cX8_goBack 292 = .ok (.putfield 199, 3) := by decide +kernel
theorem dX8_goBack_295 : decode cX8_goBack 295 = .ok (.aload_n 0, 1) := by decide +kernel
theorem dX8_goBack_296 : decode cX8_goBack 296 = .ok (.aload_n 0, 1) := by decide +kernel
theorem dX8_goBack_297 : decode cX8_goBack 297 = .ok (.getfield 171, 3) := by decide +kernel
theorem dX8_goBack_300 : decode cX8_goBack 300 = .ok (.iload_n 2, 1) := by decide +kernel
theorem dX8_goBack_301 : decode cX8_goBack 301 = .ok (.bipush 55, 2) := by decide +kernel
theorem dX8_goBack_303 : decode cX8_goBack 303 = .ok (.iadd, 1) := by decide +kernel
theorem dX8_goBack_304 : decode cX8_goBack 304 = .ok (.iaload, 1) := by decide +kernel
theorem dX8_goBack_305 : decode cX8_goBack 305 = .ok (.putfield 373, 3) := by decide +kernel
theorem dX8_goBack_308 : decode cX8_goBack 308 = .ok (.iconst 0, 1) := by decide +kernel
theorem dX8_goBack_309 : decode cX8_goBack 309 = .ok (.istore_n 3, 1) := by decide +kernel
theorem dX8_goBack_310 : decode cX8_goBack 310 = .ok (.iload_n 3, 1) := by decide +kernel
theorem dX8_goBack_311 : decode cX8_goBack 311 = .ok (.sipush 200, 3) := by decide +kernel
theorem dX8_goBack_314 : decode cX8_goBack 314 = .ok (.if_icmp .ge 44, 3) := by decide +kernel
theorem dX8_goBack_317 : decode cX8_goBack 317 = .ok (.aload_n 0, 1) := by decide +kernel
theorem dX8_goBack_318 : decode cX8_goBack 318 = .ok (.getfield 86, 3) := by decide +kernel
theorem dX8_goBack_321 : decode cX8_goBack 321 = .ok (.iload_n 3, 1) := by decide +kernel
theorem dX8_goBack_322 : decode cX8_goBack 322 = .ok (.aload_n 0, 1) := by decide +kernel
theorem dX8_goBack_323 : decode cX8_goBack 323 = .ok (.getfield 171, 3) := by decide +kernel
theorem dX8_goBack_326 : decode cX8_goBack 326 = .ok (.iload_n 2, 1) := by decide +kernel
theorem dX8_goBack_327 : decode cX8_goBack 327 = .ok (.bipush 56, 2) := by decide +kernel
theorem dX8_goBack_329 : decode cX8_goBack 329 = .ok (.iadd, 1) := by decide +kernel
theorem dX8_goBack_330 : decode cX8_goBack 330 = .ok (.iload_n 3, 1) := by decide +kernel
theorem dX8_goBack_331 : decode cX8_goBack 331 = .ok (.iadd, 1) := by decide +kernel
theorem dX8_goBack_332 : decode cX8_goBack 332 = .ok (.iaload, 1) := by decide +kernel
theorem dX8_goBack_333 : decode cX8_goBack 333 = .ok (.iastore, 1) := by decide +kernel
theorem dX8_goBack_334 : decode cX8_goBack 334 = .ok (.aload_n 0, 1) := by decide +kernel
theorem dX8_goBack_335 : decode cX8_goBack 335 = .ok (.getfield 89, 3) := by decide +kernel
theorem dX8_goBack_338 : decode cX8_goBack 338 = .ok (.iload_n 3, 1) := by decide +kernel
theorem dX8_goBack_339 : decode cX8_goBack 339 = .ok (.aload_n 0, 1) := by decide +kernel
theorem dX8_goBack_340 : decode cX8_goBack 340 = .ok (.getfield 171, 3) := by decide +kernel
theorem dX8_goBack_343 : decode cX8_goBack 343 = .ok (.iload_n 2, 1) := by decide +kernel
theorem dX8_goBack_344 : decode cX8_goBack 344 = .ok (.sipush 256, 3) := by decide +kernel
theorem dX8_goBack_347 : decode cX8_goBack 347 = .ok (.iadd, 1) := by decide +kernel
theorem dX8_goBack_348 : decode cX8_goBack 348 = .ok (.iload_n 3, 1) := by decide +kernel
theorem dX8_goBack_349 : decode cX8_goBack 349 = .ok (.iadd, 1) := by decide +kernel
theorem dX8_goBack_350 : decode cX8_goBack 350 = .ok (.iaload, 1) := by decide +kernel
theorem dX8_goBack_351 : decode cX8_goBack 351 = .ok (.iastore, 1) := by decide +kernel
theorem dX8_goBack_352 : decode cX8_goBack 352 = .ok (.iinc 3 1, 3) := by decide +kernel
theorem dX8_goBack_355 : decode cX8_goBack 355 = .ok (.goto (-45), 3) := by decide +kernel
theorem dX8_goBack_358 : decode cX8_goBack 358 = .ok (.iconst 1, 1) := by decide +kernel
theorem dX8_goBack_359 : decode cX8_goBack 359 = .ok (.ireturn, 1) := by decide +kernel
