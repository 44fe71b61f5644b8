theorem dX8_town_52 : decode cX8_town 52 = .ok (.iconst 0, 1) := by decide +kernel
theorem dX8_town_53 : decode cX8_town 53 = .ok (.putfield 205, 3) := by decide +kernel
theorem dX8_town_56 : decode cX8_town 56 = .ok (.iload_n 1, 1) := by decide +kernel
theorem dX8_town_57 : decode cX8_town 57 = .ok (.ifCond .le 8, 3) := by decide +kernel
theorem dX8_town_60 : decode cX8_town 60 = .ok (.bipush (-10), 2) := by decide +kernel
theorem dX8_town_62 : decode cX8_town 62 = .ok (.iload_n 1, 1) := by decide +kernel
theorem dX8_town_63 : decode cX8_town 63 = .ok (.isub, 1) := by decide +kernel
theorem dX8_town_64 : decode cX8_town 64 = .ok (.ireturn, 1) := by decide +kernel
theorem dX8_town_65 : decode cX8_town 65 = .ok (.aload_n 0, 1) := by decide +kernel
theorem dX8_town_66 : decode cX8_town 66 = .ok (.aload_n 0, 1) := by decide +kernel
theorem dX8_town_67 : decode cX8_town 67 = .ok (.getfield 254, 3) := by decide +kernel
theorem dX8_town_70 : decode cX8_town 70 = .ok (.putfield 177, 3) := by decide +kernel
theorem dX8_town_73 : decode cX8_town 73 = .ok (.aload_n 0, 1) := by decide +kernel
theorem dX8_town_74 : decode cX8_town 74 = .ok (.aload_n 0, 1) := by decide +kernel
theorem dX8_town_75 : decode cX8_town 75 = .ok (.getfield 261, 3) := by decide +kernel
theorem dX8_town_78 : decode cX8_town 78 = .ok (.putfield 184, 3) := by decide +kernel
theorem dX8_town_81 : decode cX8_town 81 = .ok (.aload_n 0, 1) := by decide +kernel
theorem dX8_town_82 : decode cX8_town 82 = .ok (.aload_n 0, 1) := by decide +kernel
theorem dX8_town_83 : decode cX8_town 83 = .ok (.getfield 268, 3) := by decide +kernel
theorem dX8_town_86 : decode cX8_town 86 = .ok (.putfield 187, 3) := by decide +kernel
theorem dX8_town_89 : decode cX8_town 89 = .ok (.aload_n 0, 1) := by decide +kernel
theorem dX8_town_90 : decode cX8_town 90 = .ok (.aload_n 0, 1) := by decide +kernel
theorem dX8_town_91 : decode cX8_town 91 = .ok (.getfield 271, 3) := by decide +kernel
theorem dX8_town_94 : decode cX8_town 94 = .ok (.putfield 190, 3) := by decide +kernel
theorem dX8_town_97 : decode cX8_town 97 = .ok (.iconst 0, 1) := by decide +kernel
theorem dX8_town_98 : decode cX8_town 98 = .ok (.istore_n 2, 1) := by decide +kernel
theorem dX8_town_99 : decode cX8_town 99 = .ok (.iload_n 2, 1) := by decide +kernel
theorem dX8_town_100 : decode cX8_town 100 = .ok (.bipush 12, 2) := by decide +kernel
theorem dX8_town_102 : decode cX8_town 102 = .ok (.if_icmp .ge 57, 3) := by decide +kernel
theorem dX8_town_105 : decode cX8_town 105 = .ok (.aload_n 0, 1) := by decide +kernel
theorem dX8_town_106 : decode cX8_town 106 = .ok (.getfield 19, 3) := by decide +kernel
theorem dX8_town_109 : decode cX8_town 109 = .ok (.iload_n 2, 1) := by decide +kernel
theorem dX8_town_110 : decode cX8_town 110 = .ok (.aload_n 0, 1) := by decide +kernel
theorem dX8_town_111 : decode cX8_town 111 = .ok (.getfield 108, 3) := by decide +kernel
theorem dX8_town_114 : decode cX8_town 114 = .ok (.iload_n 2, 1) := by decide +kernel
theorem dX8_town_115 : decode cX8_town 115 = .ok (.iaload, 1) := by decide +kernel
theorem dX8_town_116 : decode cX8_town 116 = .ok (.iastore, 1) := by decide +kernel
theorem dX8_town_117 : decode cX8_town 117 = .ok (.aload_n 0, 1) := by decide +kernel
theorem dX8_town_118 : decode cX8_town 118 = .ok (.getfield 22, 3) := by decide +kernel
theorem dX8_town_121 : decode cX8_town 121 = .ok (.iload_n 2, 1) := by decide +kernel
theorem dX8_town_122 : decode cX8_town 122 = .ok (.aload_n 0, 1) := by decide +kernel
theorem dX8_town_123 : decode cX8_town 123 = .ok (.getfield 111, 3) := by decide +kernel
theorem dX8_town_126 : decode cX8_town 126 = .ok (.iload_n 2, 1) := by decide +kernel
theorem dX8_town_127 : decode cX8_town 127 = .ok (.iaload, 1) := by decide +kernel
theorem dX8_town_128 : decode cX8_town 128 = .ok (.iastore, 1) := by decide +kernel
theorem dX8_town_129 : decode cX8_town 129 = .ok (.aload_n 0, 1) := by decide +kernel
theorem dX8_town_130 : decode cX8_town 130 = .ok (.getfield 25, 3) := by decide +kernel
theorem dX8_town_133 : decode cX8_town 133 = .ok (.iload_n 2, 1) := by decide +kernel
theorem dX8_town_134 : decode cX8_town 134 = .ok (.aload_n 0, 1) := by decide +kernel
theorem dX8_town_135 : decode cX8_town 135 = .ok (.getfield 114, 3) := by decide +kernel
theorem dX8_town_138 : decode cX8_town 138 = .ok (.iload_n 2, 1) := by decide +kernel
theorem dX8_town_139 : decode cX8_town 139 = .ok (.iaload, 1) := by decide +kernel
theorem dX8_town_140 : decode cX8_town 140 = .ok (.iastore, 1) := by decide +kernel
theorem dX8_town_141 : decode cX8_town 141 = .ok (.aload_n 0, 1) := by decide +kernel
theorem dX8_town_142 : decode cX8_town 142 = .ok (.getfield 28, 3) := by decide +kernel
theorem dX8_town_145 : decode cX8_town 145 = .ok (.iload_n 2, 1) := by decide +kernel
theorem dX8_town_146 : decode cX8_town 146 = .ok (.aload_n 0, 1) := by decide +kernel
theorem dX8_town_147 : decode cX8_town 147 = .ok (.getfield 117, 3) := by decide +kernel
theorem dX8_town_150 : decode cX8_town 150 = .ok (.iload_n 2, 1) := by decide +kernel
theorem dX8_town_151 : decode cX8_town 151 = .ok (.iaload, 1) := by decide +kernel
theorem dX8_town_152 : decode cX8_town 152 = .ok (.iastore, 1) := by decide +kernel
theorem dX8_town_153 : decode cX8_town 153 = .ok (.iinc 2 1, 3) := by decide +kernel
theorem dX8_town_156 : decode cX8_town 156 = .ok (.goto (-57), 3) := by decide +kernel
theorem dX8_town_159 : decode cX8_town 159 = .ok (.iconst 0, 1) := by decide +kernel
theorem dX8_town_160 : decode cX8_town 160 = .ok (.istore_n 2, 1) := by decide +kernel
theorem dX8_town_161 : decode cX8_town 161 = .ok (.iload_n 2, 1) := by decide +kernel
theorem dX8_town_162 : decode cX8_town 162 = .ok (.bipush 8, 2) := by decide +kernel
theorem dX8_town_164 : decode cX8_town 164 = .ok (.if_icmp .ge 45, 3) := by decide +kernel
theorem dX8_town_167 : decode cX8_town 167 = .ok (.aload_n 0, 1) := by decide +kernel
theorem dX8_town_168 : decode cX8_town 168 = .ok (.getfield 7, 3) := by decide +kernel
theorem dX8_town_171 : decode cX8_town 171 = .ok (.iload_n 2, 1) := by decide +kernel
theorem dX8_town_172 : decode cX8_town 172 = .ok (.aload_n 0, 1) := by decide +kernel
theorem dX8_town_173 : decode cX8_town 173 = .ok (.getfield 99, 3) := by decide +kernel
theorem dX8_town_176 : decode cX8_town 176 = .ok (.iload_n 2, 1) := by decide +kernel
theorem dX8_town_177 : decode cX8_town 177 = .ok (.iaload, 1) := by decide +kernel
theorem dX8_town_178 : decode cX8_town 178 = .ok (.iastore, 1) := by decide +kernel
theorem dX8_town_179 : decode cX8_town 179 = .ok (.aload_n 0, 1) := by decide +kernel
theorem dX8_town_180 : decode cX8_town 180 = .ok (.getfield 13, 3) := by decide +kernel
theorem dX8_town_183 : decode cX8_town 183 = .ok (.iload_n 2, 1) := by decide +kernel
theorem dX8_town_184 : decode cX8_town 184 = .ok (.aload_n 0, 1) := by decide +kernel
theorem dX8_town_185 : decode cX8_town 185 = .ok (.getfield 102, 3) := by decide +kernel
theorem dX8_town_188 : decode cX8_town 188 = .ok (.iload_n 2, 1) := by decide +kernel
theorem dX8_town_189 : decode cX8_town 189 = .ok (.iaload, 1) := by decide +kernel
theorem dX8_town_190 : decode cX8_town 190 = .ok (.iastore, 1) := by decide +kernel
theorem dX8_town_191 : decode cX8_town 191 = .ok (.aload_n 0, 1) := by decide +kernel
theorem dX8_town_192 : decode cX8_town 192 = .ok (.getfield 16, 3) := by decide +kernel
theorem dX8_town_195 : decode cX8_town 195 = .ok (.iload_n 2, 1) := by decide +kernel
theorem dX8_town_196 : decode cX8_town 196 = .ok (.aload_n 0, 1) := by decide +kernel
theorem dX8_town_197 : decode cX8_town 197 = .ok (.getfield 105, 3) := by decide +kernel
theorem dX8_town_200 : decode cX8_town 200 = .ok (.iload_n 2, 1) := by decide +kernel
theorem dX8_town_201 : decode cX8_town 201 = .ok (.iaload, 1) := by decide +kernel
theorem dX8_town_202 : decode cX8_town 202 = .ok (.iastore, 1) := by decide +kernel
theorem dX8_town_203 : decode cX8_town 203 = .ok (.iinc 2 1, 3) := by decide +kernel
theorem dX8_town_206 : decode cX8_town 206 = .ok (.goto (-45), 3) := by decide +kernel
theorem dX8_town_209 : decode cX8_town 209 = .ok (.iconst 0, 1) := by decide +kernel
theorem dX8_town_210 : decode cX8_town 210 = .ok (.istore_n 2, 1) := by decide +kernel
theorem dX8_town_211 : decode cX8_town 211 = .ok (.iload_n 2, 1) := by decide +kernel
theorem dX8_town_212 : decode cX8_town 212 = .ok (.iconst 4, 1) := by decide +kernel
theorem dX8_town_213 : decode cX8_town 213 = .ok (.if_icmp .ge 105, 3) := by decide +kernel
theorem dX8_town_216 : decode cX8_town 216 = .ok (.aload_n 0, 1) := by decide +kernel
theorem dX8_town_217 : decode cX8_town 217 = .ok (.getfield 31, 3) := by decide +kernel
theorem dX8_town_220 : decode cX8_town 220 = .ok (.iload_n 2, 1) := by decide +kernel
theorem dX8_town_221 : decode cX8_town 221 = .ok (.aload_n 0, 1) := by decide +kernel
theorem dX8_town_222 : decode cX8_town 222 = .ok (.getfield 120, 3) := by decide +kernel
theorem dX8_town_225 : decode cX8_town 225 = .ok (.iload_n 2, 1) := by decide +kernel
theorem dX8_town_226 : decode cX8_town 226 = .ok (.iaload, 1) := by decide +kernel
theorem dX8_town_227 : decode cX8_town 227 = .ok (.iastore, 1) := by decide +kernel
theorem dX8_town_228 : decode cX8_town 228 = .ok (.aload_n 0, 1) := by decide +kernel
theorem dX8_town_229 : decode cX8_town 229 = .ok (.getfield 34, 3) := by decide +kernel
theorem dX8_town_232 : decode cX8_town 232 = .ok (.iload_n 2, 1) := by decide +kernel
theorem dX8_town_233 : decode cX8_town 233 = .ok (.aload_n 0, 1) := by decide +kernel
theorem dX8_town_234 : decode cX8_town 234 = .ok (.getfield 123, 3) := by decide +kernel
theorem dX8_town_237 : decode cX8_town 237 = .ok (.iload_n 2, 1) := by decide +kernel
theorem dX8_town_238 : decode cX8_town 238 = .ok (.iaload, 1) := by decide +kernel
theorem dX8_town_239 : decode cX8_town 239 = .ok (.iastore, 1) := by decide +kernel
theorem dX8_town_240 : decode cX8_town 240 = .ok (.aload_n 0, 1) := by decide +kernel
theorem dX8_town_241 : decode cX8_town 241 = .ok (.getfield 37, 3) := by decide +kernel
theorem dX8_town_244 : decode cX8_town 244 = .ok (.iload_n 2, 1) := by decide +kernel
theorem dX8_town_245 : decode cX8_town 245 = .ok (.aload_n 0, 1) := by decide +kernel
theorem dX8_town_246 : decode cX8_town 246 = .ok (.getfield 126, 3) := by decide +kernel
theorem dX8_town_249 : decode cX8_town 249 = .ok (.iload_n 2, 1) := by decide +kernel
theorem dX8_town_250 : decode cX8_town 250 = .ok (.iaload, 1) := by decide +kernel
theorem dX8_town_251 : decode cX8_town 251 = .ok (.iastore, 1) := by decide +kernel
theorem dX8_town_252 : decode cX8_town 252 = .ok (.aload_n 0, 1) := by decide +kernel
theorem dX8_town_253 : decode cX8_town 253 = .ok (.getfield 40, 3) := by decide +kernel
theorem dX8_town_256 : decode cX8_town 256 = .ok (.iload_n 2, 1) := by decide +kernel
theorem dX8_town_257 : decode cX8_town 257 = .ok (.aload_n 0, 1) := by decide +kernel
theorem dX8_town_258 : decode cX8_town 258 = .ok (.getfield 129, 3) := by decide +kernel
theorem dX8_town_261 : decode cX8_town 261 = .ok (.iload_n 2, 1) := by decide +kernel
theorem dX8_town_262 : decode cX8_town 262 = .ok (.iaload, 1) := by decide +kernel
theorem dX8_town_263 : decode cX8_town 263 = .ok (.iastore, 1) := by decide +kernel
theorem dX8_town_264 : decode cX8_town 264 = .ok (.aload_n 0, 1) := by decide +kernel
theorem dX8_town_265 : decode cX8_town 265 = .ok (.getfield 43, 3) := by decide +kernel
theorem dX8_town_268 : decode cX8_town 268 = .ok (.iload_n 2, 1) := by decide +kernel
theorem dX8_town_269 : decode cX8_town 269 = .ok (.aload_n 0, 1) := by decide +kernel
theorem dX8_town_270 : decode cX8_town 270 = .ok (.getfield 132, 3) := by decide +kernel
theorem dX8_town_273 : decode cX8_town 273 = .ok (.iload_n 2, 1) := by decide +kernel
theorem dX8_town_274 : decode cX8_town 274 = .ok (.iaload, 1) := by decide +kernel
theorem dX8_town_275 : decode cX8_town 275 = .ok (.iastore, 1) := by decide +kernel
theorem dX8_town_276 : decode cX8_town 276 = .ok (.aload_n 0, 1) := by decide +kernel
theorem dX8_town_277 : decode cX8_town 277 = .ok (.getfield 46, 3) := by decide +kernel
theorem dX8_town_280 : decode cX8_town 280 = .ok (.iload_n 2, 1) := by decide +kernel
theorem dX8_town_281 : decode cX8_town 281 = .ok (.aload_n 0, 1) := by decide +kernel
theorem dX8_town_282 : decode cX8_town 282 = .ok (.getfield 135, 3) := by decide +kernel
theorem dX8_town_285 : decode cX8_town 285 = .ok (.iload_n 2, 1) := by decide +kernel
theorem dX8_town_286 : decode cX8_town 286 = .ok (.iaload, 1) := by decide +kernel
theorem dX8_town_287 : decode cX8_town 287 = .ok (.iastore, 1) := by decide +kernel
theorem dX8_town_288 : decode cX8_town 288 = .ok (.aload_n 0, 1) := by decide +kernel
theorem dX8_town_289 : decode cX8_town 289 = .ok (.getfield 49, 3) := by decide +kernel
theorem dX8_town_292 : decode cX8_town 292 = .ok (.iload_n 2, 1) := by decide +kernel
theorem dX8_town_293 : decode cX8_town 293 = .ok (.aload_n 0, 1) := by decide +kernel
theorem dX8_town_294 : decode cX8_town 294 = .ok (.getfield 138, 3) := by decide +kernel
theorem dX8_town_297 : decode cX8_town 297 = .ok (.iload_n 2, 1) := by decide +kernel
theorem dX8_town_298 : decode cX8_town 298 = .ok (.iaload, 1) := by decide +kernel
theorem dX8_town_299 : decode cX8_town 299 = .ok (.iastore, 1) := by decide +kernel
theorem dX8_town_300 : decode cX8_town 300 = .ok (.aload_n 0, 1) := by decide +kernel
theorem dX8_town_301 : decode cX8_town 301 = .ok (.getfield 52, 3) := by decide +kernel
theorem dX8_town_304 : decode cX8_town 304 = .ok (.iload_n 2, 1) := by decide +kernel
theorem dX8_town_305 : decode cX8_town 305 = .ok (.aload_n 0, 1) := by decide +kernel
theorem dX8_town_306 : decode cX8_town 306 = .ok (.getfield 141, 3) := by decide +kernel
theorem dX8_town_309 : decode cX8_town 309 = .ok (.iload_n 2, 1) := by decide +kernel
theorem dX8_town_310 : decode cX8_town 310 = .ok (.iaload, 1) := by decide +kernel
theorem dX8_town_311 : decode cX8_town 311 = .ok (.iastore, 1) := by decide +kernel
theorem dX8_town_312 : decode cX8_town 312 = .ok (.iinc 2 1, 3) := by decide +kernel
theorem dX8_town_315 : decode cX8_town 315 = .ok (.goto (-104), 3) := by decide +kernel
theorem dX8_town_318 : decode cX8_town 318 = .ok (.aload_n 0, 1) := by decide +kernel
theorem dX8_town_319 : decode cX8_town 319 = .ok (.iconst 0, 1) := by decide +kernel
theorem dX8_town_320 : decode cX8_town 320 = .ok (.putfield 300, 3) := by decide +kernel
theorem dX8_town_323 : decode cX8_town 323 = .ok (.aload_n 0, 1) := by decide +kernel
theorem dX8_town_324 : decode cX8_town 324 = .ok (.getfield 174, 3) := by decide +kernel
theorem dX8_town_327 : decode cX8_town 327 = .ok (.iconst 0, 1) := by decide +kernel
theorem dX8_town_328 : decode cX8_town 328 = .ok (.iconst 0, 1) := by decide +kernel
theorem dX8_town_329 : decode cX8_town 329 = .ok (.bastore, 1) := by decide +kernel
theorem dX8_town_330 : decode cX8_town 330 = .ok (.aload_n 0, 1) := by decide +kernel
theorem dX8_town_331 : decode cX8_town 331 = .ok (.getfield 174, 3) := by decide +kernel
theorem dX8_town_334 : decode cX8_town 334 = .ok (.iconst 1, 1) := by decide +kernel
theorem dX8_town_335 : decode cX8_town 335 = .ok (.iconst 0, 1) := by decide +kernel
theorem dX8_town_336 : decode cX8_town 336 = .ok (.bastore, 1) := by decide +kernel
theorem dX8_town_337 : decode cX8_town 337 = .ok (.aload_n 0, 1) := by decide +kernel
theorem dX8_town_338 : decode cX8_town 338 = .ok (.invokevirtual 303, 3) := by decide +kernel
theorem dX8_town_341 : decode cX8_town 341 = .ok (.aload_n 0, 1) := by decide +kernel
theorem dX8_town_342 : decode cX8_town 342 = .ok (.getfield 177, 3) := by decide +kernel
theorem dX8_town_345 : decode cX8_town 345 = .ok (.ireturn, 1) := by decide +kernel
theorem dX8_fault_0 : decode cX8_fault 0 = .ok (.aload_n 0, 1) := by decide +kernel
theorem dX8_fault_1 : decode cX8_fault 1 = .ok (.getfield 95, 3) := by decide +kernel
theorem dX8_fault_4 : decode cX8_fault 4 = .ok (.ireturn, 1) := by decide +kernel
theorem dX8_doneSet_0 : decode cX8_doneSet 0 = .ok (.iconst 0, 1) := by decide +kernel
theorem dX8_doneSet_1 : decode cX8_doneSet 1 = .ok (.istore_n 1, 1) := by decide +kernel
theorem dX8_doneSet_2 : decode cX8_doneSet 2 = .ok (.iconst 0, 1) := by decide +kernel
theorem dX8_doneSet_3 : decode cX8_doneSet 3 = .ok (.istore_n 2, 1) := by decide +kernel
theorem dX8_doneSet_4 : decode cX8_doneSet 4 = .ok (.iload_n 2, 1) := by decide +kernel
theorem dX8_doneSet_5 : decode cX8_doneSet 5 = .ok (.aload_n 0, 1) := by decide +kernel
theorem dX8_doneSet_6 : decode cX8_doneSet 6 = .ok (.getfield 190, 3) := by decide +kernel
theorem dX8_doneSet_9 : decode cX8_doneSet 9 = .ok (.if_icmp .ge 28, 3) := by decide +kernel
theorem dX8_doneSet_12 : decode cX8_doneSet 12 = .ok (.iload_n 1, 1) := by decide +kernel
theorem dX8_doneSet_13 : decode cX8_doneSet 13 = .ok (.aload_n 0, 1) := by decide +kernel
theorem dX8_doneSet_14 : decode cX8_doneSet 14 = .ok (.getfield 83, 3) := by decide +kernel
theorem dX8_doneSet_17 : decode cX8_doneSet 17 = .ok (.iload_n 2, 1) := by decide +kernel
theorem dX8_doneSet_18 : decode cX8_doneSet 18 = .ok (.baload, 1) := by decide +kernel
theorem dX8_doneSet_19 : decode cX8_doneSet 19 = .ok (.ifCond .eq 9, 3) := by decide +kernel
theorem dX8_doneSet_22 : decode cX8_doneSet 22 = .ok (.iconst 1, 1) := by decide +kernel
theorem dX8_doneSet_23 : decode cX8_doneSet 23 = .ok (.iload_n 2, 1) := by decide +kernel
theorem dX8_doneSet_24 : decode cX8_doneSet 24 = .ok (.ishl, 1) := by decide +kernel
theorem dX8_doneSet_25 : decode cX8_doneSet 25 = .ok (.goto 4, 3) := by decide +kernel
theorem dX8_doneSet_28 : decode cX8_doneSet 28 = .ok (.iconst 0, 1) := by decide +kernel
theorem dX8_doneSet_29 : decode cX8_doneSet 29 = .ok (.ior, 1) := by decide +kernel
theorem dX8_doneSet_30 : decode cX8_doneSet 30 = .ok (.istore_n 1, 1) := by decide +kernel
theorem dX8_doneSet_31 : decode cX8_doneSet 31 = .ok (.iinc 2 1, 3) := by decide +kernel
theorem dX8_doneSet_34 : decode cX8_doneSet 34 = .ok (.goto (-30), 3) := by decide +kernel
theorem dX8_doneSet_37 : decode cX8_doneSet 37 = .ok (.iload_n 1, 1) := by decide +kernel
theorem dX8_doneSet_38 : decode cX8_doneSet 38 = .ok (.ireturn, 1) := by decide +kernel
theorem dX8_wholeSet_0 : decode cX8_wholeSet 0 = .ok (.iconst 0, 1) := by decide +kernel
theorem dX8_wholeSet_1 : decode cX8_wholeSet 1 = .ok (.istore_n 1, 1) := by decide +kernel
theorem dX8_wholeSet_2 : decode cX8_wholeSet 2 = .ok (.iconst 0, 1) := by decide +kernel
theorem dX8_wholeSet_3 : decode cX8_wholeSet 3 = .ok (.istore_n 2, 1) := by decide +kernel
theorem dX8_wholeSet_4 : decode cX8_wholeSet 4 = .ok (.iload_n 2, 1) := by decide +kernel
theorem dX8_wholeSet_5 : decode cX8_wholeSet 5 = .ok (.aload_n 0, 1) := by decide +kernel
theorem dX8_wholeSet_6 : decode cX8_wholeSet 6 = .ok (.getfield 184, 3) := by decide +kernel
theorem dX8_wholeSet_9 : decode cX8_wholeSet 9 = .ok (.if_icmp .ge 28, 3) := by decide +kernel
theorem dX8_wholeSet_12 : decode cX8_wholeSet 12 = .ok (.iload_n 1, 1) := by decide +kernel
theorem dX8_wholeSet_13 : decode cX8_wholeSet 13 = .ok (.aload_n 0, 1) := by decide +kernel
theorem dX8_wholeSet_14 : decode cX8_wholeSet 14 = .ok (.getfield 62, 3) := by decide +kernel
theorem dX8_wholeSet_17 : decode cX8_wholeSet 17 = .ok (.iload_n 2, 1) := by decide +kernel
theorem dX8_wholeSet_18 : decode cX8_wholeSet 18 = .ok (.baload, 1) := by decide +kernel
theorem dX8_wholeSet_19 : decode cX8_wholeSet 19 = .ok (.ifCond .eq 7, 3) := by decide +kernel
theorem dX8_wholeSet_22 : decode cX8_wholeSet 22 = .ok (.iconst 0, 1) := by decide +kernel
theorem dX8_wholeSet_23 : decode cX8_wholeSet 23 = .ok (.goto 6, 3) := by decide +kernel
theorem dX8_wholeSet_26 : decode cX8_wholeSet 26 = .ok (.iconst 1, 1) := by decide +kernel
theorem dX8_wholeSet_27 : decode cX8_wholeSet 27 = .ok (.iload_n 2, 1) := by decide +kernel
theorem dX8_wholeSet_28 : decode cX8_wholeSet 28 = .ok (.ishl, 1) := by decide +kernel
theorem dX8_wholeSet_29 : decode cX8_wholeSet 29 = .ok (.ior, 1) := by decide +kernel
theorem dX8_wholeSet_30 : decode cX8_wholeSet 30 = .ok (.istore_n 1, 1) := by decide +kernel
theorem dX8_wholeSet_31 : decode cX8_wholeSet 31 = .ok (.iinc 2 1, 3) := by decide +kernel
theorem dX8_wholeSet_34 : decode cX8_wholeSet 34 = .ok (.goto (-30), 3) := by decide +kernel
theorem dX8_wholeSet_37 : decode cX8_wholeSet 37 = .ok (.iload_n 1, 1) := by decide +kernel
theorem dX8_wholeSet_38 : decode cX8_wholeSet 38 = .ok (.ireturn, 1) := by decide +kernel
theorem dX8_told_0 : decode cX8_told 0 = .ok (.iload_n 1, 1) := by decide +kernel
theorem dX8_told_1 : decode cX8_told 1 = .ok (.tableswitch 114 0 10 #[59, 64, 69, 74, 79, 84, 89, 94, 99, 104, 109], 59) := by decide +kernel
theorem dX8_told_60 : decode cX8_told 60 = .ok (.aload_n 0, 1) := by decide +kernel
theorem dX8_told_61 : decode cX8_told 61 = .ok (.getfield 177, 3) := by decide +kernel
theorem dX8_told_64 : decode cX8_told 64 = .ok (.ireturn, 1) := by decide +kernel
theorem dX8_told_65 : decode cX8_told 65 = .ok (.aload_n 0, 1) := by decide +kernel
theorem dX8_told_66 : decode cX8_told 66 = .ok (.getfield 184, 3) := by decide +kernel
theorem dX8_told_69 : decode cX8_told 69 = .ok (.ireturn, 1) := by decide +kernel
theorem dX8_told_70 : decode cX8_told 70 = .ok (.aload_n 0, 1) := by decide +kernel
theorem dX8_told_71 : decode cX8_told 71 = .ok (.getfield 187, 3) := by decide +kernel
theorem dX8_told_74 : decode cX8_told 74 = .ok (.ireturn, 1) := by decide +kernel
theorem dX8_told_75 : decode cX8_told 75 = .ok (.aload_n 0, 1) := by decide +kernel
theorem dX8_told_76 : decode cX8_told 76 = .ok (.getfield 190, 3) := by decide +kernel
theorem dX8_told_79 : decode cX8_told 79 = .ok (.ireturn, 1) := by decide +kernel
theorem dX8_told_80 : decode cX8_told 80 = .ok (.aload_n 0, 1) := by decide +kernel
theorem dX8_told_81 : decode cX8_told 81 = .ok (.getfield 205, 3) := by decide +kernel
theorem dX8_told_84 : decode cX8_told 84 = .ok (.ireturn, 1) := by decide +kernel
theorem dX8_told_85 : decode cX8_told 85 = .ok (.aload_n 0, 1) := by decide +kernel
theorem dX8_told_86 : decode cX8_told 86 = .ok (.getfield 193, 3) := by decide +kernel
theorem dX8_told_89 : decode cX8_told 89 = .ok (.ireturn, 1) := by decide +kernel
theorem dX8_told_90 : decode cX8_told 90 = .ok (.aload_n 0, 1) := by decide +kernel
theorem dX8_told_91 : decode cX8_told 91 = .ok (.getfield 196, 3) := by decide +kernel
theorem dX8_told_94 : decode cX8_told 94 = .ok (.ireturn, 1) := by decide +kernel
theorem dX8_told_95 : decode cX8_told 95 = .ok (.aload_n 0, 1) := by decide +kernel
theorem dX8_told_96 : decode cX8_told 96 = .ok (.invokevirtual 306, 3) := by decide +kernel
theorem dX8_told_99 : decode cX8_told 99 = .ok (.ireturn, 1) := by decide +kernel
theorem dX8_told_100 : decode cX8_told 100 = .ok (.aload_n 0, 1) := by decide +kernel
theorem dX8_told_101 : decode cX8_told 101 = .ok (.getfield 199, 3) := by decide +kernel
theorem dX8_told_104 : decode cX8_told 104 = .ok (.ireturn, 1) := by decide +kernel
theorem dX8_told_105 : decode cX8_told 105 = .ok (.aload_n 0, 1) := by decide +kernel
theorem dX8_told_106 : decode cX8_told 106 = .ok (.getfield 300, 3) := by decide +kernel
theorem dX8_told_109 : decode cX8_told 109 = .ok (.ireturn, 1) := by decide +kernel
theorem dX8_told_110 : decode cX8_told 110 = .ok (.aload_n 0, 1) := by decide +kernel
theorem dX8_told_111 : decode cX8_told 111 = .ok (.invokevirtual 309, 3) := by decide +kernel
theorem dX8_told_114 : decode cX8_told 114 = .ok (.ireturn, 1) := by decide +kernel
theorem dX8_told_115 : decode cX8_told 115 = .ok (.ldc 204, 2) := by decide +kernel
theorem dX8_told_117 : decode cX8_told 117 = .ok (.ireturn, 1) := by decide +kernel
theorem dX8_boysAt_0 : decode cX8_boysAt 0 = .ok (.iconst 0, 1) := by decide +kernel
theorem dX8_boysAt_1 : decode cX8_boysAt 1 = .ok (.istore_n 2, 1) := by decide +kernel
theorem dX8_boysAt_2 : decode cX8_boysAt 2 = .ok (.iconst 0, 1) := by decide +kernel
theorem dX8_boysAt_3 : decode cX8_boysAt 3 = .ok (.istore_n 3, 1) := by decide +kernel
theorem dX8_boysAt_4 : decode cX8_boysAt 4 = .ok (.iload_n 3, 1) := by decide +kernel
theorem dX8_boysAt_5 : decode cX8_boysAt 5 = .ok (.aload_n 0, 1) := by decide +kernel
theorem dX8_boysAt_6 : decode cX8_boysAt 6 = .ok (.getfield 187, 3) := by decide +kernel
theorem dX8_boysAt_9 : decode cX8_boysAt 9 = .ok (.if_icmp .ge 29, 3) := by decide +kernel
theorem dX8_boysAt_12 : decode cX8_boysAt 12 = .ok (.iload_n 2, 1) := by decide +kernel
theorem dX8_boysAt_13 : decode cX8_boysAt 13 = .ok (.aload_n 0, 1) := by decide +kernel
theorem dX8_boysAt_14 : decode cX8_boysAt 14 = .ok (.getfield 65, 3) := by decide +kernel
theorem dX8_boysAt_17 : decode cX8_boysAt 17 = .ok (.iload_n 3, 1) := by decide +kernel
theorem dX8_boysAt_18 : decode cX8_boysAt 18 = .ok (.iaload, 1) := by decide +kernel
theorem dX8_boysAt_19 : decode cX8_boysAt 19 = .ok (.iload_n 1, 1) := by decide +kernel
theorem dX8_boysAt_20 : decode cX8_boysAt 20 = .ok (.if_icmp .ne 9, 3) := by decide +kernel
theorem dX8_boysAt_23 : decode cX8_boysAt 23 = .ok (.iconst 1, 1) := by decide +kernel
theorem dX8_boysAt_24 : decode cX8_boysAt 24 = .ok (.iload_n 3, 1) := by decide +kernel
theorem dX8_boysAt_25 : decode cX8_boysAt 25 = .ok (.ishl, 1) := by decide +kernel
theorem dX8_boysAt_26 : decode cX8_boysAt 26 = .ok (.goto 4, 3) := by decide +kernel
theorem dX8_boysAt_29 : decode cX8_boysAt 29 = .ok (.iconst 0, 1) := by decide +kernel
theorem dX8_boysAt_30 : decode cX8_boysAt 30 = .ok (.ior, 1) := by decide +kernel
theorem dX8_boysAt_31 : decode cX8_boysAt 31 = .ok (.istore_n 2, 1) := by decide +kernel
theorem dX8_boysAt_32 : decode cX8_boysAt 32 = .ok (.iinc 3 1, 3) := by decide +kernel
theorem dX8_boysAt_35 : decode cX8_boysAt 35 = .ok (.goto (-31), 3) := by decide +kernel
theorem dX8_boysAt_38 : decode cX8_boysAt 38 = .ok (.iload_n 2, 1) := by decide +kernel
theorem dX8_boysAt_39 : decode cX8_boysAt 39 = .ok (.ireturn, 1) := by decide +kernel
theorem dX8_loadsAt_0 : decode cX8_loadsAt 0 = .ok (.iconst 0, 1) := by decide +kernel
theorem dX8_loadsAt_1 : decode cX8_loadsAt 1 = .ok (.istore_n 2, 1) := by decide +kernel
theorem dX8_loadsAt_2 : decode cX8_loadsAt 2 = .ok (.iconst 0, 1) := by decide +kernel
theorem dX8_loadsAt_3 : decode cX8_loadsAt 3 = .ok (.istore_n 3, 1) := by decide +kernel
theorem dX8_loadsAt_4 : decode cX8_loadsAt 4 = .ok (.iload_n 3, 1) := by decide +kernel
theorem dX8_loadsAt_5 : decode cX8_loadsAt 5 = .ok (.aload_n 0, 1) := by decide +kernel
theorem dX8_loadsAt_6 : decode cX8_loadsAt 6 = .ok (.getfield 190, 3) := by decide +kernel
theorem dX8_loadsAt_9 : decode cX8_loadsAt 9 = .ok (.if_icmp .ge 29, 3) := by decide +kernel
theorem dX8_loadsAt_12 : decode cX8_loadsAt 12 = .ok (.iload_n 2, 1) := by decide +kernel
theorem dX8_loadsAt_13 : decode cX8_loadsAt 13 = .ok (.aload_n 0, 1) := by decide +kernel
theorem dX8_loadsAt_14 : decode cX8_loadsAt 14 = .ok (.getfield 77, 3) := by decide +kernel
theorem dX8_loadsAt_17 : decode cX8_loadsAt 17 = .ok (.iload_n 3, 1) := by decide +kernel
theorem dX8_loadsAt_18 : decode cX8_loadsAt 18 = .ok (.iaload, 1) := by decide +kernel
theorem dX8_loadsAt_19 : decode cX8_loadsAt 19 = .ok (.iload_n 1, 1) := by decide +kernel
theorem dX8_loadsAt_20 : decode cX8_loadsAt 20 = .ok (.if_icmp .ne 9, 3) := by decide +kernel
theorem dX8_loadsAt_23 : decode cX8_loadsAt 23 = .ok (.iconst 1, 1) := by decide +kernel
theorem dX8_loadsAt_24 : decode cX8_loadsAt 24 = .ok (.iload_n 3, 1) := by decide +kernel
theorem dX8_loadsAt_25 : decode cX8_loadsAt 25 = .ok (.ishl, 1) := by decide +kernel
theorem dX8_loadsAt_26 : decode cX8_loadsAt 26 = .ok (.goto 4, 3) := by decide +kernel
theorem dX8_loadsAt_29 : decode cX8_loadsAt 29 = .ok (.iconst 0, 1) := by decide +kernel
theorem dX8_loadsAt_30 : decode cX8_loadsAt 30 = .ok (.ior, 1) := by decide +kernel
theorem dX8_loadsAt_31 : decode cX8_loadsAt 31 = .ok (.istore_n 2, 1) := by decide +kernel
theorem dX8_loadsAt_32 : decode cX8_loadsAt 32 = .ok (.iinc 3 1, 3) := by decide +kernel
theorem dX8_loadsAt_35 : decode cX8_loadsAt 35 = .ok (.goto (-31), 3) := by decide +kernel
theorem dX8_loadsAt_38 : decode cX8_loadsAt 38 = .ok (.iload_n 2, 1) := by decide +kernel
theorem dX8_loadsAt_39 : decode cX8_loadsAt 39 = .ok (.ireturn, 1) := by decide +kernel
theorem dX8_pole_0 : decode cX8_pole 0 = .ok (.aload_n 0, 1) := by decide +kernel
theorem dX8_pole_1 : decode cX8_pole 1 = .ok (.iload_n 1, 1) := by decide +kernel
theorem dX8_pole_2 : decode cX8_pole 2 = .ok (.invokevirtual 312, 3) := by decide +kernel
theorem dX8_pole_5 : decode cX8_pole 5 = .ok (.ifCond .ne 7, 3) := by decide +kernel
theorem dX8_pole_8 : decode cX8_pole 8 = .ok (.ldc_w 316, 3) := by decide +kernel
theorem dX8_pole_11 : decode cX8_pole 11 = .ok (.ireturn, 1) := by decide +kernel
theorem dX8_pole_12 : decode cX8_pole 12 = .ok (.iload_n 2, 1) := by decide +kernel
theorem dX8_pole_13 : decode cX8_pole 13 = .ok (.tableswitch 68 0 4 #[35, 42, 49, 56, 62], 35) := by decide +kernel
theorem dX8_pole_48 : decode cX8_pole 48 = .ok (.aload_n 0, 1) := by decide +kernel
theorem dX8_pole_49 : decode cX8_pole 49 = .ok (.getfield 7, 3) := by decide +kernel
theorem dX8_pole_52 : decode cX8_pole 52 = .ok (.iload_n 1, 1) := by decide +kernel
theorem dX8_pole_53 : decode cX8_pole 53 = .ok (.iaload, 1) := by decide +kernel
theorem dX8_pole_54 : decode cX8_pole 54 = .ok (.ireturn, 1) := by decide +kernel
theorem dX8_pole_55 : decode cX8_pole 55 = .ok (.aload_n 0, 1) := by decide +kernel
theorem dX8_pole_56 : decode cX8_pole 56 = .ok (.getfield 13, 3) := by decide +kernel
theorem dX8_pole_59 : decode cX8_pole 59 = .ok (.iload_n 1, 1) := by decide +kernel
theorem dX8_pole_60 : decode cX8_pole 60 = .ok (.iaload, 1) := by decide +kernel
theorem dX8_pole_61 : decode cX8_pole 61 = .ok (.ireturn, 1) := by decide +kernel
theorem dX8_pole_62 : decode cX8_pole 62 = .ok (.aload_n 0, 1) := by decide +kernel
theorem dX8_pole_63 : decode cX8_pole 63 = .ok (.getfield 16, 3) := by decide +kernel
theorem dX8_pole_66 : decode cX8_pole 66 = .ok (.iload_n 1, 1) := by decide +kernel
theorem dX8_pole_67 : decode cX8_pole 67 = .ok (.iaload, 1) := by decide +kernel
theorem dX8_pole_68 : decode cX8_pole 68 = .ok (.ireturn, 1) := by decide +kernel
theorem dX8_pole_69 : decode cX8_pole 69 = .ok (.aload_n 0, 1) := by decide +kernel
theorem dX8_pole_70 : decode cX8_pole 70 = .ok (.iload_n 1, 1) := by decide +kernel
theorem dX8_pole_71 : decode cX8_pole 71 = .ok (.invokevirtual 317, 3) := by decide +kernel
theorem dX8_pole_74 : decode cX8_pole 74 = .ok (.ireturn, 1) := by decide +kernel
theorem dX8_pole_75 : decode cX8_pole 75 = .ok (.aload_n 0, 1) := by decide +kernel
theorem dX8_pole_76 : decode cX8_pole 76 = .ok (.iload_n 1, 1) := by decide +kernel
theorem dX8_pole_77 : decode cX8_pole 77 = .ok (.invokevirtual 321, 3) := by decide +kernel
theorem dX8_pole_80 : decode cX8_pole 80 = .ok (.ireturn, 1) := by decide +kernel
theorem dX8_pole_81 : decode cX8_pole 81 = .ok (.ldc 204, 2) := by decide +kernel
theorem dX8_pole_83 : decode cX8_pole 83 = .ok (.ireturn, 1) := by decide +kernel
theorem dX8_onRope_0 : decode cX8_onRope 0 = .ok (.iconst (-1), 1) := by decide +kernel
theorem dX8_onRope_1 : decode cX8_onRope 1 = .ok (.istore_n 2, 1) := by decide +kernel
theorem dX8_onRope_2 : decode cX8_onRope 2 = .ok (.iconst 0, 1) := by decide +kernel
theorem dX8_onRope_3 : decode cX8_onRope 3 = .ok (.istore_n 3, 1) := by decide +kernel
theorem dX8_onRope_4 : decode cX8_onRope 4 = .ok (.iload_n 3, 1) := by decide +kernel
theorem dX8_onRope_5 : decode cX8_onRope 5 = .ok (.aload_n 0, 1) := by decide +kernel
theorem dX8_onRope_6 : decode cX8_onRope 6 = .ok (.getfield 187, 3) := by decide +kernel
theorem dX8_onRope_9 : decode cX8_onRope 9 = .ok (.if_icmp .ge 25, 3) := by decide +kernel
theorem dX8_onRope_12 : decode cX8_onRope 12 = .ok (.aload_n 0, 1) := by decide +kernel
theorem dX8_onRope_13 : decode cX8_onRope 13 = .ok (.getfield 68, 3) := by decide +kernel
theorem dX8_onRope_16 : decode cX8_onRope 16 = .ok (.iload_n 3, 1) := by decide +kernel
theorem dX8_onRope_17 : decode cX8_onRope 17 = .ok (.iaload, 1) := by decide +kernel
theorem dX8_onRope_18 : decode cX8_onRope 18 = .ok (.iload_n 1, 1) := by decide +kernel
theorem dX8_onRope_19 : decode cX8_onRope 19 = .ok (.if_icmp .ne 7, 3) := by decide +kernel
theorem dX8_onRope_22 : decode cX8_onRope 22 = .ok (.iload_n 3, 1) := by decide +kernel
theorem dX8_onRope_23 : decode cX8_onRope 23 = .ok (.goto 4, 3) := by decide +kernel
theorem dX8_onRope_26 : decode cX8_onRope 26 = .ok (.iload_n 2, 1) := by decide +kernel
theorem dX8_onRope_27 : decode cX8_onRope 27 = .ok (.istore_n 2, 1) := by decide +kernel
theorem dX8_onRope_28 : decode cX8_onRope 28 = .ok (.iinc 3 1, 3) := by decide +kernel
theorem dX8_onRope_31 : decode cX8_onRope 31 = .ok (.goto (-27), 3) := by decide +kernel
theorem dX8_onRope_34 : decode cX8_onRope 34 = .ok (.iload_n 2, 1) := by decide +kernel
theorem dX8_onRope_35 : decode cX8_onRope 35 = .ok (.ireturn, 1) := by decide +kernel
theorem dX8_rope_0 : decode cX8_rope 0 = .ok (.aload_n 0, 1) := by decide +kernel
theorem dX8_rope_1 : decode cX8_rope 1 = .ok (.iload_n 1, 1) := by decide +kernel
theorem dX8_rope_2 : decode cX8_rope 2 = .ok (.invokevirtual 324, 3) := by decide +kernel
theorem dX8_rope_5 : decode cX8_rope 5 = .ok (.ifCond .ne 7, 3) := by decide +kernel
theorem dX8_rope_8 : decode cX8_rope 8 = .ok (.ldc_w 316, 3) := by decide +kernel
theorem dX8_rope_11 : decode cX8_rope 11 = .ok (.ireturn, 1) := by decide +kernel
theorem dX8_rope_12 : decode cX8_rope 12 = .ok (.iload_n 2, 1) := by decide +kernel
theorem dX8_rope_13 : decode cX8_rope 13 = .ok (.tableswitch 118 0 7 #[47, 54, 61, 68, 75, 82, 97, 112], 47) := by decide +kernel
theorem dX8_rope_60 : decode cX8_rope 60 = .ok (.aload_n 0, 1) := by decide +kernel
theorem dX8_rope_61 : decode cX8_rope 61 = .ok (.getfield 19, 3) := by decide +kernel
theorem dX8_rope_64 : decode cX8_rope 64 = .ok (.iload_n 1, 1) := by decide +kernel
theorem dX8_rope_65 : decode cX8_rope 65 = .ok (.iaload, 1) := by decide +kernel
theorem dX8_rope_66 : decode cX8_rope 66 = .ok (.ireturn, 1) := by decide +kernel
theorem dX8_rope_67 : decode cX8_rope 67 = .ok (.aload_n 0, 1) := by decide +kernel
theorem dX8_rope_68 : decode cX8_rope 68 = .ok (.getfield 22, 3) := by decide +kernel
theorem dX8_rope_71 : decode cX8_rope 71 = .ok (.iload_n 1, 1) := by decide +kernel
theorem dX8_rope_72 : decode cX8_rope 72 = .ok (.iaload, 1) := by decide +kernel
theorem dX8_rope_73 : decode cX8_rope 73 = .ok (.ireturn, 1) := by decide +kernel
theorem dX8_rope_74 : decode cX8_rope 74 = .ok (.aload_n 0, 1) := by decide +kernel
theorem dX8_rope_75 : decode cX8_rope 75 = .ok (.getfield 25, 3) := by decide +kernel
theorem dX8_rope_78 : decode cX8_rope 78 = .ok (.iload_n 1, 1) := by decide +kernel
theorem dX8_rope_79 : decode cX8_rope 79 = .ok (.iaload, 1) := by decide +kernel
theorem dX8_rope_80 : decode cX8_rope 80 = .ok (.ireturn, 1) := by decide +kernel
theorem dX8_rope_81 : decode cX8_rope 81 = .ok (.aload_n 0, 1) := by decide +kernel
theorem dX8_rope_82 : decode cX8_rope 82 = .ok (.getfield 28, 3) := by decide +kernel
theorem dX8_rope_85 : decode cX8_rope 85 = .ok (.iload_n 1, 1) := by decide +kernel
theorem dX8_rope_86 : decode cX8_rope 86 = .ok (.iaload, 1) := by decide +kernel
theorem dX8_rope_87 : decode cX8_rope 87 = .ok (.ireturn, 1) := by decide +kernel
theorem dX8_rope_88 : decode cX8_rope 88 = .ok (.aload_n 0, 1) := by decide +kernel
theorem dX8_rope_89 : decode cX8_rope 89 = .ok (.getfield 55, 3) := by decide +kernel
theorem dX8_rope_92 : decode cX8_rope 92 = .ok (.iload_n 1, 1) := by decide +kernel
theorem dX8_rope_93 : decode cX8_rope 93 = .ok (.iaload, 1) := by decide +kernel
theorem dX8_rope_94 : decode cX8_rope 94 = .ok (.ireturn, 1) := by decide +kernel
theorem dX8_rope_95 : decode cX8_rope 95 = .ok (.aload_n 0, 1) := by decide +kernel
theorem dX8_rope_96 : decode cX8_rope 96 = .ok (.getfield 58, 3) := by decide +kernel
theorem dX8_rope_99 : decode cX8_rope 99 = .ok (.iload_n 1, 1) := by decide +kernel
theorem dX8_rope_100 : decode cX8_rope 100 = .ok (.baload, 1) := by decide +kernel
theorem dX8_rope_101 : decode cX8_rope 101 = .ok (.ifCond .eq 7, 3) := by decide +kernel
theorem dX8_rope_104 : decode cX8_rope 104 = .ok (.iconst 1, 1) := by decide +kernel
theorem dX8_rope_105 : decode cX8_rope 105 = .ok (.goto 4, 3) := by decide +kernel
theorem dX8_rope_108 : decode cX8_rope 108 = .ok (.iconst 0, 1) := by decide +kernel
theorem dX8_rope_109 : decode cX8_rope 109 = .ok (.ireturn, 1) := by decide +kernel
theorem dX8_rope_110 : decode cX8_rope 110 = .ok (.aload_n 0, 1) := by decide +kernel
theorem dX8_rope_111 : decode cX8_rope 111 = .ok (.getfield 62, 3) := by decide +kernel
theorem dX8_rope_114 : decode cX8_rope 114 = .ok (.iload_n 1, 1) := by decide +kernel
theorem dX8_rope_115 : decode cX8_rope 115 = .ok (.baload, 1) := by decide +kernel
theorem dX8_rope_116 : decode cX8_rope 116 = .ok (.ifCond .eq 7, 3) := by decide +kernel
theorem dX8_rope_119 : decode cX8_rope 119 = .ok (.iconst 0, 1) := by decide +kernel
theorem dX8_rope_120 : decode cX8_rope 120 = .ok (.goto 4, 3) := by decide +kernel
theorem dX8_rope_123 : decode cX8_rope 123 = .ok (.iconst 1, 1) := by decide +kernel
theorem dX8_rope_124 : decode cX8_rope 124 = .ok (.ireturn, 1) := by decide +kernel
theorem dX8_rope_125 : decode cX8_rope 125 = .ok (.aload_n 0, 1) := by decide +kernel
theorem dX8_rope_126 : decode cX8_rope 126 = .ok (.iload_n 1, 1) := by decide +kernel
theorem dX8_rope_127 : decode cX8_rope 127 = .ok (.invokevirtual 327, 3) := by decide +kernel
theorem dX8_rope_130 : decode cX8_rope 130 = .ok (.ireturn, 1) := by decide +kernel
theorem dX8_rope_131 : decode cX8_rope 131 = .ok (.ldc 204, 2) := by decide +kernel
theorem dX8_rope_133 : decode cX8_rope 133 = .ok (.ireturn, 1) := by decide +kernel
theorem dX8_carriedBy_0 : decode cX8_carriedBy 0 = .ok (.iconst 0, 1) := by decide +kernel
theorem dX8_carriedBy_1 : decode cX8_carriedBy 1 = .ok (.istore_n 2, 1) := by decide +kernel
theorem dX8_carriedBy_2 : decode cX8_carriedBy 2 = .ok (.iconst 0, 1) := by decide +kernel
theorem dX8_carriedBy_3 : decode cX8_carriedBy 3 = .ok (.istore_n 3, 1) := by decide +kernel
theorem dX8_carriedBy_4 : decode cX8_carriedBy 4 = .ok (.iload_n 3, 1) := by decide +kernel
theorem dX8_carriedBy_5 : decode cX8_carriedBy 5 = .ok (.aload_n 0, 1) := by decide +kernel
theorem dX8_carriedBy_6 : decode cX8_carriedBy 6 = .ok (.getfield 190, 3) := by decide +kernel
theorem dX8_carriedBy_9 : decode cX8_carriedBy 9 = .ok (.if_icmp .ge 29, 3) := by decide +kernel
theorem dX8_carriedBy_12 : decode cX8_carriedBy 12 = .ok (.iload_n 2, 1) := by decide +kernel
theorem dX8_carriedBy_13 : decode cX8_carriedBy 13 = .ok (.aload_n 0, 1) := by decide +kernel
theorem dX8_carriedBy_14 : decode cX8_carriedBy 14 = .ok (.getfield 80, 3) := by decide +kernel
theorem dX8_carriedBy_17 : decode cX8_carriedBy 17 = .ok (.iload_n 3, 1) := by decide +kernel
theorem dX8_carriedBy_18 : decode cX8_carriedBy 18 = .ok (.iaload, 1) := by decide +kernel
theorem dX8_carriedBy_19 : decode cX8_carriedBy 19 = .ok (.iload_n 1, 1) := by decide +kernel
theorem dX8_carriedBy_20 : decode cX8_carriedBy 20 = .ok (.if_icmp .ne 9, 3) := by decide +kernel
theorem dX8_carriedBy_23 : decode cX8_carriedBy 23 = .ok (.iconst 1, 1) := by decide +kernel
theorem dX8_carriedBy_24 : decode cX8_carriedBy 24 = .ok (.iload_n 3, 1) := by decide +kernel
theorem dX8_carriedBy_25 : decode cX8_carriedBy 25 = .ok (.ishl, 1) := by decide +kernel
theorem dX8_carriedBy_26 : decode cX8_carriedBy 26 = .ok (.goto 4, 3) := by decide +kernel
theorem dX8_carriedBy_29 : decode cX8_carriedBy 29 = .ok (.iconst 0, 1) := by decide +kernel
theorem dX8_carriedBy_30 : decode cX8_carriedBy 30 = .ok (.ior, 1) := by decide +kernel
theorem dX8_carriedBy_31 : decode cX8_carriedBy 31 = .ok (.istore_n 2, 1) := by decide +kernel
theorem dX8_carriedBy_32 : decode cX8_carriedBy 32 = .ok (.iinc 3 1, 3) := by decide +kernel
theorem dX8_carriedBy_35 : decode cX8_carriedBy 35 = .ok (.goto (-31), 3) := by decide +kernel
theorem dX8_carriedBy_38 : decode cX8_carriedBy 38 = .ok (.iload_n 2, 1) := by decide +kernel
theorem dX8_carriedBy_39 : decode cX8_carriedBy 39 = .ok (.ireturn, 1) := by decide +kernel
theorem dX8_boy_0 : decode cX8_boy 0 = .ok (.aload_n 0, 1) := by decide +kernel
theorem dX8_boy_1 : decode cX8_boy 1 = .ok (.iload_n 1, 1) := by decide +kernel
theorem dX8_boy_2 : decode cX8_boy 2 = .ok (.invokevirtual 330, 3) := by decide +kernel
theorem dX8_boy_5 : decode cX8_boy 5 = .ok (.ifCond .ne 7, 3) := by decide +kernel
theorem dX8_boy_8 : decode cX8_boy 8 = .ok (.ldc_w 316, 3) := by decide +kernel
theorem dX8_boy_11 : decode cX8_boy 11 = .ok (.ireturn, 1) := by decide +kernel
theorem dX8_boy_12 : decode cX8_boy 12 = .ok (.iload_n 2, 1) := by decide +kernel
theorem dX8_boy_13 : decode cX8_boy 13 = .ok (.tableswitch 80 0 5 #[39, 46, 53, 60, 67, 74], 39) := by decide +kernel
theorem dX8_boy_52 : decode cX8_boy 52 = .ok (.aload_n 0, 1) := by decide +kernel
theorem dX8_boy_53 : decode cX8_boy 53 = .ok (.getfield 65, 3) := by decide +kernel
theorem dX8_boy_56 : decode cX8_boy 56 = .ok (.iload_n 1, 1) := by decide +kernel
theorem dX8_boy_57 : decode cX8_boy 57 = .ok (.iaload, 1) := by decide +kernel
theorem dX8_boy_58 : decode cX8_boy 58 = .ok (.ireturn, 1) := by decide +kernel
theorem dX8_boy_59 : decode cX8_boy 59 = .ok (.aload_n 0, 1) := by decide +kernel
theorem dX8_boy_60 : decode cX8_boy 60 = .ok (.getfield 68, 3) := by decide +kernel
theorem dX8_boy_63 : decode cX8_boy 63 = .ok (.iload_n 1, 1) := by decide +kernel
theorem dX8_boy_64 : decode cX8_boy 64 = .ok (.iaload, 1) := by decide +kernel
theorem dX8_boy_65 : decode cX8_boy 65 = .ok (.ireturn, 1) := by decide +kernel
theorem dX8_boy_66 : decode cX8_boy 66 = .ok (.aload_n 0, 1) := by decide +kernel
theorem dX8_boy_67 : decode cX8_boy 67 = .ok (.getfield 74, 3) := by decide +kernel
theorem dX8_boy_70 : decode cX8_boy 70 = .ok (.iload_n 1, 1) := by decide +kernel
theorem dX8_boy_71 : decode cX8_boy 71 = .ok (.iaload, 1) := by decide +kernel
theorem dX8_boy_72 : decode cX8_boy 72 = .ok (.ireturn, 1) := by decide +kernel
theorem dX8_boy_73 : decode cX8_boy 73 = .ok (.aload_n 0, 1) := by decide +kernel
theorem dX8_boy_74 : decode cX8_boy 74 = .ok (.getfield 34, 3) := by decide +kernel
theorem dX8_boy_77 : decode cX8_boy 77 = .ok (.iload_n 1, 1) := by decide +kernel
theorem dX8_boy_78 : decode cX8_boy 78 = .ok (.iaload, 1) := by decide +kernel
theorem dX8_boy_79 : decode cX8_boy 79 = .ok (.ireturn, 1) := by decide +kernel
theorem dX8_boy_80 : decode cX8_boy 80 = .ok (.aload_n 0, 1) := by decide +kernel
theorem dX8_boy_81 : decode cX8_boy 81 = .ok (.getfield 37, 3) := by decide +kernel
theorem dX8_boy_84 : decode cX8_boy 84 = .ok (.iload_n 1, 1) := by decide +kernel
theorem dX8_boy_85 : decode cX8_boy 85 = .ok (.iaload, 1) := by decide +kernel
theorem dX8_boy_86 : decode cX8_boy 86 = .ok (.ireturn, 1) := by decide +kernel
theorem dX8_boy_87 : decode cX8_boy 87 = .ok (.aload_n 0, 1) := by decide +kernel
theorem dX8_boy_88 : decode cX8_boy 88 = .ok (.iload_n 1, 1) := by decide +kernel
theorem dX8_boy_89 : decode cX8_boy 89 = .ok (.invokevirtual 333, 3) := by decide +kernel
theorem dX8_boy_92 : decode cX8_boy 92 = .ok (.ireturn, 1) := by decide +kernel
theorem dX8_boy_93 : decode cX8_boy 93 = .ok (.ldc 204, 2) := by decide +kernel
theorem dX8_boy_95 : decode cX8_boy 95 = .ok (.ireturn, 1) := by decide +kernel
theorem dX8_load_0 : decode cX8_load 0 = .ok (.aload_n 0, 1) := by decide +kernel
theorem dX8_load_1 : decode cX8_load 1 = .ok (.iload_n 1, 1) := by decide +kernel
theorem dX8_load_2 : decode cX8_load 2 = .ok (.invokevirtual 336, 3) := by decide +kernel
theorem dX8_load_5 : decode cX8_load 5 = .ok (.ifCond .ne 7, 3) := by decide +kernel
theorem dX8_load_8 : decode cX8_load 8 = .ok (.ldc_w 316, 3) := by decide +kernel
theorem dX8_load_11 : decode cX8_load 11 = .ok (.ireturn, 1) := by decide +kernel
theorem dX8_load_12 : decode cX8_load 12 = .ok (.iload_n 2, 1) := by decide +kernel
theorem dX8_load_13 : decode cX8_load 13 = .ok (.tableswitch 100 0 6 #[43, 50, 57, 64, 71, 78, 85], 43) := by decide +kernel
theorem dX8_load_56 : decode cX8_load 56 = .ok (.aload_n 0, 1) := by decide +kernel
theorem dX8_load_57 : decode cX8_load 57 = .ok (.getfield 77, 3) := by decide +kernel
theorem dX8_load_60 : decode cX8_load 60 = .ok (.iload_n 1, 1) := by decide +kernel
theorem dX8_load_61 : decode cX8_load 61 = .ok (.iaload, 1) := by decide +kernel
theorem dX8_load_62 : decode cX8_load 62 = .ok (.ireturn, 1) := by decide +kernel
theorem dX8_load_63 : decode cX8_load 63 = .ok (.aload_n 0, 1) := by decide +kernel
theorem dX8_load_64 : decode cX8_load 64 = .ok (.getfield 43, 3) := by decide +kernel
theorem dX8_load_67 : decode cX8_load 67 = .ok (.iload_n 1, 1) := by decide +kernel
theorem dX8_load_68 : decode cX8_load 68 = .ok (.iaload, 1) := by decide +kernel
theorem dX8_load_69 : decode cX8_load 69 = .ok (.ireturn, 1) := by decide +kernel
theorem dX8_load_70 : decode cX8_load 70 = .ok (.aload_n 0, 1) := by decide +kernel
theorem dX8_load_71 : decode cX8_load 71 = .ok (.getfield 46, 3) := by decide +kernel
theorem dX8_load_74 : decode cX8_load 74 = .ok (.iload_n 1, 1) := by decide +kernel
theorem dX8_load_75 : decode cX8_load 75 = .ok (.iaload, 1) := by decide +kernel
theorem dX8_load_76 : decode cX8_load 76 = .ok (.ireturn, 1) := by decide +kernel
theorem dX8_load_77 : decode cX8_load 77 = .ok (.aload_n 0, 1) := by decide +kernel
theorem dX8_load_78 : decode cX8_load 78 = .ok (.getfield 49, 3) := by decide +kernel
theorem dX8_load_81 : decode cX8_load 81 = .ok (.iload_n 1, 1) := by decide +kernel
theorem dX8_load_82 : decode cX8_load 82 = .ok (.iaload, 1) := by decide +kernel
theorem dX8_load_83 : decode cX8_load 83 = .ok (.ireturn, 1) := by decide +kernel
theorem dX8_load_84 : decode cX8_load 84 = .ok (.aload_n 0, 1) := by decide +kernel
theorem dX8_load_85 : decode cX8_load 85 = .ok (.getfield 52, 3) := by decide +kernel
theorem dX8_load_88 : decode cX8_load 88 = .ok (.iload_n 1, 1) := by decide +kernel
theorem dX8_load_89 : decode cX8_load 89 = .ok (.iaload, 1) := by decide +kernel
theorem dX8_load_90 : decode cX8_load 90 = .ok (.ireturn, 1) := by decide +kernel
theorem dX8_load_91 : decode cX8_load 91 = .ok (.aload_n 0, 1) := by decide +kernel
theorem dX8_load_92 : decode cX8_load 92 = .ok (.getfield 80, 3) := by decide +kernel
theorem dX8_load_95 : decode cX8_load 95 = .ok (.iload_n 1, 1) := by decide +kernel
theorem dX8_load_96 : decode cX8_load 96 = .ok (.iaload, 1) := by decide +kernel
theorem dX8_load_97 : decode cX8_load 97 = .ok (.ireturn, 1) := by decide +kernel
theorem dX8_load_98 : decode cX8_load 98 = .ok (.aload_n 0, 1) := by decide +kernel
theorem dX8_load_99 : decode cX8_load 99 = .ok (.getfield 83, 3) := by decide +kernel
theorem dX8_load_102 : decode cX8_load 102 = .ok (.iload_n 1, 1) := by decide +kernel
theorem dX8_load_103 : decode cX8_load 103 = .ok (.baload, 1) := by decide +kernel
theorem dX8_load_104 : decode cX8_load 104 = .ok (.ifCond .eq 7, 3) := by decide +kernel
theorem dX8_load_107 : decode cX8_load 107 = .ok (.iconst 1, 1) := by decide +kernel
theorem dX8_load_108 : decode cX8_load 108 = .ok (.goto 4, 3) := by decide +kernel
theorem dX8_load_111 : decode cX8_load 111 = .ok (.iconst 0, 1) := by decide +kernel
theorem dX8_load_112 : decode cX8_load 112 = .ok (.ireturn, 1) := by decide +kernel
theorem dX8_load_113 : decode cX8_load 113 = .ok (.ldc 204, 2) := by decide +kernel
theorem dX8_load_115 : decode cX8_load 115 = .ok (.ireturn, 1) := by decide +kernel
theorem dX8_poundsOf_0 : decode cX8_poundsOf 0 = .ok (.aload_n 0, 1) := by decide +kernel
theorem dX8_poundsOf_1 : decode cX8_poundsOf 1 = .ok (.getfield 34, 3) := by decide +kernel
theorem dX8_poundsOf_4 : decode cX8_poundsOf 4 = .ok (.iload_n 1, 1) := by decide +kernel
theorem dX8_poundsOf_5 : decode cX8_poundsOf 5 = .ok (.iaload, 1) := by decide +kernel
theorem dX8_poundsOf_6 : decode cX8_poundsOf 6 = .ok (.istore_n 3, 1) := by decide +kernel
theorem dX8_poundsOf_7 : decode cX8_poundsOf 7 = .ok (.iconst 0, 1) := by decide +kernel
theorem dX8_poundsOf_8 : decode cX8_poundsOf 8 = .ok (.istore 4, 2) := by decide +kernel
theorem dX8_poundsOf_10 : decode cX8_poundsOf 10 = .ok (.iload 4, 2) := by decide +kernel
theorem dX8_poundsOf_12 : decode cX8_poundsOf 12 = .ok (.aload_n 0, 1) := by decide +kernel
theorem dX8_poundsOf_13 : decode cX8_poundsOf 13 = .ok (.getfield 190, 3) := by decide +kernel
theorem dX8_poundsOf_16 : decode cX8_poundsOf 16 = .ok (.if_icmp .ge 32, 3) := by decide +kernel
theorem dX8_poundsOf_19 : decode cX8_poundsOf 19 = .ok (.iload_n 3, 1) := by decide +kernel
theorem dX8_poundsOf_20 : decode cX8_poundsOf 20 = .ok (.iload_n 2, 1) := by decide +kernel
theorem dX8_poundsOf_21 : decode cX8_poundsOf 21 = .ok (.iload 4, 2) := by decide +kernel
theorem dX8_poundsOf_23 : decode cX8_poundsOf 23 = .ok (.invokestatic 339, 3) := by decide +kernel
theorem dX8_poundsOf_26 : decode cX8_poundsOf 26 = .ok (.ifCond .eq 13, 3) := by decide +kernel
theorem dX8_poundsOf_29 : decode cX8_poundsOf 29 = .ok (.aload_n 0, 1) := by decide +kernel
theorem dX8_poundsOf_30 : decode cX8_poundsOf 30 = .ok (.getfield 46, 3) := by decide +kernel
theorem dX8_poundsOf_33 : decode cX8_poundsOf 33 = .ok (.iload 4, 2) := by decide +kernel
theorem dX8_poundsOf_35 : decode cX8_poundsOf 35 = .ok (.iaload, 1) := by decide +kernel
theorem dX8_poundsOf_36 : decode cX8_poundsOf 36 = .ok (.goto 4, 3) := by decide +kernel
theorem dX8_poundsOf_39 : decode cX8_poundsOf 39 = .ok (.iconst 0, 1) := by decide +kernel
theorem dX8_poundsOf_40 : decode cX8_poundsOf 40 = .ok (.iadd, 1) := by decide +kernel
theorem dX8_poundsOf_41 : decode cX8_poundsOf 41 = .ok (.istore_n 3, 1) := by decide +kernel
theorem dX8_poundsOf_42 : decode cX8_poundsOf 42 = .ok (.iinc 4 1, 3) := by decide +kernel
theorem dX8_poundsOf_45 : decode cX8_poundsOf 45 = .ok (.goto (-35), 3) := by decide +kernel
theorem dX8_poundsOf_48 : decode cX8_poundsOf 48 = .ok (.iload_n 3, 1) := by decide +kernel
theorem dX8_poundsOf_49 : decode cX8_poundsOf 49 = .ok (.ireturn, 1) := by decide +kernel
theorem dX8_hasKind_0 : decode cX8_hasKind 0 = .ok (.iconst 0, 1) := by decide +kernel
theorem dX8_hasKind_1 : decode cX8_hasKind 1 = .ok (.istore_n 3, 1) := by decide +kernel
theorem dX8_hasKind_2 : decode cX8_hasKind 2 = .ok (.iconst 0, 1) := by decide +kernel
theorem dX8_hasKind_3 : decode cX8_hasKind 3 = .ok (.istore 4, 2) := by decide +kernel
theorem dX8_hasKind_5 : decode cX8_hasKind 5 = .ok (.iload 4, 2) := by decide +kernel
theorem dX8_hasKind_7 : decode cX8_hasKind 7 = .ok (.aload_n 0, 1) := by decide +kernel
theorem dX8_hasKind_8 : decode cX8_hasKind 8 = .ok (.getfield 190, 3) := by decide +kernel
theorem dX8_hasKind_11 : decode cX8_hasKind 11 = .ok (.if_icmp .ge 39, 3) := by decide +kernel
theorem dX8_hasKind_14 : decode cX8_hasKind 14 = .ok (.iload_n 3, 1) := by decide +kernel
theorem dX8_hasKind_15 : decode cX8_hasKind 15 = .ok (.ifCond .ne 23, 3) := by decide +kernel
theorem dX8_hasKind_18 : decode cX8_hasKind 18 = .ok (.iload_n 1, 1) := by decide +kernel
theorem dX8_hasKind_19 : decode cX8_hasKind 19 = .ok (.iload 4, 2) := by decide +kernel
theorem dX8_hasKind_21 : decode cX8_hasKind 21 = .ok (.invokestatic 339, 3) := by decide +kernel
theorem dX8_hasKind_24 : decode cX8_hasKind 24 = .ok (.ifCond .eq 18, 3) := by decide +kernel
theorem dX8_hasKind_27 : decode cX8_hasKind 27 = .ok (.aload_n 0, 1) := by decide +kernel
theorem dX8_hasKind_28 : decode cX8_hasKind 28 = .ok (.getfield 52, 3) := by decide +kernel
theorem dX8_hasKind_31 : decode cX8_hasKind 31 = .ok (.iload 4, 2) := by decide +kernel
theorem dX8_hasKind_33 : decode cX8_hasKind 33 = .ok (.iaload, 1) := by decide +kernel
theorem dX8_hasKind_34 : decode cX8_hasKind 34 = .ok (.iload_n 2, 1) := by decide +kernel
theorem dX8_hasKind_35 : decode cX8_hasKind 35 = .ok (.if_icmp .ne 7, 3) := by decide +kernel
theorem dX8_hasKind_38 : decode cX8_hasKind 38 = .ok (.iconst 1, 1) := by decide +kernel
theorem dX8_hasKind_39 : decode cX8_hasKind 39 = .ok (.goto 4, 3) := by decide +kernel
theorem dX8_hasKind_42 : decode cX8_hasKind 42 = .ok (.iconst 0, 1) := by decide +kernel
theorem dX8_hasKind_43 : decode cX8_hasKind 43 = .ok (.istore_n 3, 1) := by decide +kernel
theorem dX8_hasKind_44 : decode cX8_hasKind 44 = .ok (.iinc 4 1, 3) := by decide +kernel
theorem dX8_hasKind_47 : decode cX8_hasKind 47 = .ok (.goto (-42), 3) := by decide +kernel
theorem dX8_hasKind_50 : decode cX8_hasKind 50 = .ok (.iload_n 3, 1) := by decide +kernel
theorem dX8_hasKind_51 : decode cX8_hasKind 51 = .ok (.ireturn, 1) := by decide +kernel
theorem dX8_mayRope_0 : decode cX8_mayRope 0 = .ok (.aload_n 0, 1) := by decide +kernel
theorem dX8_mayRope_1 : decode cX8_mayRope 1 = .ok (.getfield 62, 3) := by decide +kernel
theorem dX8_mayRope_4 : decode cX8_mayRope 4 = .ok (.iload_n 2, 1) := by decide +kernel
theorem dX8_mayRope_5 : decode cX8_mayRope 5 = .ok (.baload, 1) := by decide +kernel
theorem dX8_mayRope_6 : decode cX8_mayRope 6 = .ok (.ifCond .ne 42, 3) := by decide +kernel
theorem dX8_mayRope_9 : decode cX8_mayRope 9 = .ok (.aload_n 0, 1) := by decide +kernel
theorem dX8_mayRope_10 : decode cX8_mayRope 10 = .ok (.iload_n 1, 1) := by decide +kernel
theorem dX8_mayRope_11 : decode cX8_mayRope 11 = .ok (.iload_n 3, 1) := by decide +kernel
theorem dX8_mayRope_12 : decode cX8_mayRope 12 = .ok (.invokevirtual 343, 3) := by decide +kernel
theorem dX8_mayRope_15 : decode cX8_mayRope 15 = .ok (.aload_n 0, 1) := by decide +kernel
theorem dX8_mayRope_16 : decode cX8_mayRope 16 = .ok (.getfield 28, 3) := by decide +kernel
theorem dX8_mayRope_19 : decode cX8_mayRope 19 = .ok (.iload_n 2, 1) := by decide +kernel
theorem dX8_mayRope_20 : decode cX8_mayRope 20 = .ok (.iaload, 1) := by decide +kernel
theorem dX8_mayRope_21 : decode cX8_mayRope 21 = .ok (.if_icmp .gt 27, 3) := by decide +kernel
theorem dX8_mayRope_24 : decode cX8_mayRope 24 = .ok (.aload_n 0, 1) := by decide +kernel
theorem dX8_mayRope_25 : decode cX8_mayRope 25 = .ok (.getfield 25, 3) := by decide +kernel
theorem dX8_mayRope_28 : decode cX8_mayRope 28 = .ok (.iload_n 2, 1) := by decide +kernel
theorem dX8_mayRope_29 : decode cX8_mayRope 29 = .ok (.iaload, 1) := by decide +kernel
theorem dX8_mayRope_30 : decode cX8_mayRope 30 = .ok (.bipush 20, 2) := by decide +kernel
theorem dX8_mayRope_32 : decode cX8_mayRope 32 = .ok (.if_icmp .ge 12, 3) := by decide +kernel
theorem dX8_mayRope_35 : decode cX8_mayRope 35 = .ok (.aload_n 0, 1) := by decide +kernel
theorem dX8_mayRope_36 : decode cX8_mayRope 36 = .ok (.iload_n 3, 1) := by decide +kernel
theorem dX8_mayRope_37 : decode cX8_mayRope 37 = .ok (.iconst 3, 1) := by decide +kernel
theorem dX8_mayRope_38 : decode cX8_mayRope 38 = .ok (.invokevirtual 346, 3) := by decide +kernel
theorem dX8_mayRope_41 : decode cX8_mayRope 41 = .ok (.ifCond .ne 7, 3) := by decide +kernel
theorem dX8_mayRope_44 : decode cX8_mayRope 44 = .ok (.iconst 1, 1) := by decide +kernel
theorem dX8_mayRope_45 : decode cX8_mayRope 45 = .ok (.goto 4, 3) := by decide +kernel
theorem dX8_mayRope_48 : decode cX8_mayRope 48 = .ok (.iconst 0, 1) := by decide +kernel
theorem dX8_mayRope_49 : decode cX8_mayRope 49 = .ok (.ireturn, 1) := by decide +kernel
theorem dX8_minutesOn_0 : decode cX8_minutesOn 0 = .ok (.aload_n 0, 1) := by decide +kernel
theorem dX8_minutesOn_1 : decode cX8_minutesOn 1 = .ok (.getfield 25, 3) := by decide +kernel
theorem dX8_minutesOn_4 : decode cX8_minutesOn 4 = .ok (.iload_n 2, 1) := by decide +kernel
theorem dX8_minutesOn_5 : decode cX8_minutesOn 5 = .ok (.iaload, 1) := by decide +kernel
theorem dX8_minutesOn_6 : decode cX8_minutesOn 6 = .ok (.aload_n 0, 1) := by decide +kernel
theorem dX8_minutesOn_7 : decode cX8_minutesOn 7 = .ok (.getfield 37, 3) := by decide +kernel
theorem dX8_minutesOn_10 : decode cX8_minutesOn 10 = .ok (.iload_n 1, 1) := by decide +kernel
theorem dX8_minutesOn_11 : decode cX8_minutesOn 11 = .ok (.iaload, 1) := by decide +kernel
theorem dX8_minutesOn_12 : decode cX8_minutesOn 12 = .ok (.iadd, 1) := by decide +kernel
theorem dX8_minutesOn_13 : decode cX8_minutesOn 13 = .ok (.iconst 1, 1) := by decide +kernel
theorem dX8_minutesOn_14 : decode cX8_minutesOn 14 = .ok (.isub, 1) := by decide +kernel
theorem dX8_minutesOn_15 : decode cX8_minutesOn 15 = .ok (.aload_n 0, 1) := by decide +kernel
theorem dX8_minutesOn_16 : decode cX8_minutesOn 16 = .ok (.getfield 37, 3) := by decide +kernel
theorem dX8_minutesOn_19 : decode cX8_minutesOn 19 = .ok (.iload_n 1, 1) := by decide +kernel
theorem dX8_minutesOn_20 : decode cX8_minutesOn 20 = .ok (.iaload, 1) := by decide +kernel
theorem dX8_minutesOn_21 : decode cX8_minutesOn 21 = .ok (.idiv, 1) := by decide +kernel
theorem dX8_minutesOn_22 : decode cX8_minutesOn 22 = .ok (.istore 5, 2) := by decide +kernel
theorem dX8_minutesOn_24 : decode cX8_minutesOn 24 = .ok (.iload 5, 2) := by decide +kernel
theorem dX8_minutesOn_26 : decode cX8_minutesOn 26 = .ok (.aload_n 0, 1) := by decide +kernel
theorem dX8_minutesOn_27 : decode cX8_minutesOn 27 = .ok (.iload_n 3, 1) := by decide +kernel
theorem dX8_minutesOn_28 : decode cX8_minutesOn 28 = .ok (.iconst 2, 1) := by decide +kernel
theorem dX8_minutesOn_29 : decode cX8_minutesOn 29 = .ok (.invokevirtual 346, 3) := by decide +kernel
theorem dX8_minutesOn_32 : decode cX8_minutesOn 32 = .ok (.ifCond .ne 7, 3) := by decide +kernel
theorem dX8_minutesOn_35 : decode cX8_minutesOn 35 = .ok (.iconst 0, 1) := by decide +kernel
theorem dX8_minutesOn_36 : decode cX8_minutesOn 36 = .ok (.goto 17, 3) := by decide +kernel
theorem dX8_minutesOn_39 : decode cX8_minutesOn 39 = .ok (.iload 5, 2) := by decide +kernel
theorem dX8_minutesOn_41 : decode cX8_minutesOn 41 = .ok (.iconst 2, 1) := by decide +kernel
theorem dX8_minutesOn_42 : decode cX8_minutesOn 42 = .ok (.if_icmp .ge 7, 3) := by decide +kernel
theorem dX8_minutesOn_45 : decode cX8_minutesOn 45 = .ok (.iconst 1, 1) := by decide +kernel
theorem dX8_minutesOn_46 : decode cX8_minutesOn 46 = .ok (.goto 7, 3) := by decide +kernel
theorem dX8_minutesOn_49 : decode cX8_minutesOn 49 = .ok (.iload 5, 2) := by decide +kernel
theorem dX8_minutesOn_51 : decode cX8_minutesOn 51 = .ok (.iconst 2, 1) := by decide +kernel
theorem dX8_minutesOn_52 : decode cX8_minutesOn 52 = .ok (.idiv, 1) := by decide +kernel
theorem dX8_minutesOn_53 : decode cX8_minutesOn 53 = .ok (.iadd, 1) := by decide +kernel
theorem dX8_minutesOn_54 : decode cX8_minutesOn 54 = .ok (.istore 5, 2) := by decide +kernel
theorem dX8_minutesOn_56 : decode cX8_minutesOn 56 = .ok (.aload_n 0, 1) := by decide +kernel
theorem dX8_minutesOn_57 : decode cX8_minutesOn 57 = .ok (.getfield 58, 3) := by decide +kernel
theorem dX8_minutesOn_60 : decode cX8_minutesOn 60 = .ok (.iload_n 2, 1) := by decide +kernel
theorem dX8_minutesOn_61 : decode cX8_minutesOn 61 = .ok (.baload, 1) := by decide +kernel
theorem dX8_minutesOn_62 : decode cX8_minutesOn 62 = .ok (.ifCond .eq 15, 3) := by decide +kernel
theorem dX8_minutesOn_65 : decode cX8_minutesOn 65 = .ok (.iload 4, 2) := by decide +kernel
theorem dX8_minutesOn_67 : decode cX8_minutesOn 67 = .ok (.ifCond .ne 10, 3) := by decide +kernel
theorem dX8_minutesOn_70 : decode cX8_minutesOn 70 = .ok (.iconst 2, 1) := by decide +kernel
theorem dX8_minutesOn_71 : decode cX8_minutesOn 71 = .ok (.iload 5, 2) := by decide +kernel
theorem dX8_minutesOn_73 : decode cX8_minutesOn 73 = .ok (.imul, 1) := by decide +kernel
theorem dX8_minutesOn_74 : decode cX8_minutesOn 74 = .ok (.goto 5, 3) := by decide +kernel
theorem dX8_minutesOn_77 : decode cX8_minutesOn 77 = .ok (.iload 5, 2) := by decide +kernel
theorem dX8_minutesOn_79 : decode cX8_minutesOn 79 = .ok (.ireturn, 1) := by decide +kernel
theorem dX8_otherEnd_0 : decode cX8_otherEnd 0 = .ok (.aload_n 0, 1) := by decide +kernel
theorem dX8_otherEnd_1 : decode cX8_otherEnd 1 = .ok (.getfield 19, 3) := by decide +kernel
theorem dX8_otherEnd_4 : decode cX8_otherEnd 4 = .ok (.iload_n 1, 1) := by decide +kernel
theorem dX8_otherEnd_5 : decode cX8_otherEnd 5 = .ok (.iaload, 1) := by decide +kernel
theorem dX8_otherEnd_6 : decode cX8_otherEnd 6 = .ok (.iload_n 2, 1) := by decide +kernel
theorem dX8_otherEnd_7 : decode cX8_otherEnd 7 = .ok (.if_icmp .ne 12, 3) := by decide +kernel
theorem dX8_otherEnd_10 : decode cX8_otherEnd 10 = .ok (.aload_n 0, 1) := by decide +kernel
theorem dX8_otherEnd_11 : decode cX8_otherEnd 11 = .ok (.getfield 22, 3) := by decide +kernel
theorem dX8_otherEnd_14 : decode cX8_otherEnd 14 = .ok (.iload_n 1, 1) := by decide +kernel
theorem dX8_otherEnd_15 : decode cX8_otherEnd 15 = .ok (.iaload, 1) := by decide +kernel
theorem dX8_otherEnd_16 : decode cX8_otherEnd 16 = .ok (.goto 23, 3) := by decide +kernel
theorem dX8_otherEnd_19 : decode cX8_otherEnd 19 = .ok (.aload_n 0, 1) := by decide +kernel
theorem dX8_otherEnd_20 : decode cX8_otherEnd 20 = .ok (.getfield 22, 3) := by decide +kernel
theorem dX8_otherEnd_23 : decode cX8_otherEnd 23 = .ok (.iload_n 1, 1) := by decide +kernel
theorem dX8_otherEnd_24 : decode cX8_otherEnd 24 = .ok (.iaload, 1) := by decide +kernel
theorem dX8_otherEnd_25 : decode cX8_otherEnd 25 = .ok (.iload_n 2, 1) := by decide +kernel
theorem dX8_otherEnd_26 : decode cX8_otherEnd 26 = .ok (.if_icmp .ne 12, 3) := by decide +kernel
theorem dX8_otherEnd_29 : decode cX8_otherEnd 29 = .ok (.aload_n 0, 1) := by decide +kernel
theorem dX8_otherEnd_30 : decode cX8_otherEnd 30 = .ok (.getfield 19, 3) := by decide +kernel
theorem dX8_otherEnd_33 : decode cX8_otherEnd 33 = .ok (.iload_n 1, 1) := by decide +kernel
theorem dX8_otherEnd_34 : decode cX8_otherEnd 34 = .ok (.iaload, 1) := by decide +kernel
theorem dX8_otherEnd_35 : decode cX8_otherEnd 35 = .ok (.goto 4, 3) := by decide +kernel
theorem dX8_otherEnd_38 : decode cX8_otherEnd 38 = .ok (.iconst (-1), 1) := by decide +kernel
theorem dX8_otherEnd_39 : decode cX8_otherEnd 39 = .ok (.ireturn, 1) := by decide +kernel
theorem dX8_go_0 : decode cX8_go 0 = .ok (.aload_n 0, 1) := by decide +kernel
theorem dX8_go_1 : decode cX8_go 1 = .ok (.iload_n 1, 1) := by decide +kernel
theorem dX8_go_2 : decode cX8_go 2 = .ok (.invokevirtual 330, 3) := by decide +kernel
theorem dX8_go_5 : decode cX8_go 5 = .ok (.ifCond .eq 11, 3) := by decide +kernel
theorem dX8_go_8 : decode cX8_go 8 = .ok (.aload_n 0, 1) := by decide +kernel
theorem dX8_go_9 : decode cX8_go 9 = .ok (.iload_n 2, 1) := by decide +kernel
theorem dX8_go_10 : decode cX8_go 10 = .ok (.invokevirtual 324, 3) := by decide +kernel
theorem dX8_go_13 : decode cX8_go 13 = .ok (.ifCond .ne 7, 3) := by decide +kernel
theorem dX8_go_16 : decode cX8_go 16 = .ok (.ldc_w 316, 3) := by decide +kernel
theorem dX8_go_19 : decode cX8_go 19 = .ok (.ireturn, 1) := by decide +kernel
theorem dX8_go_20 : decode cX8_go 20 = .ok (.aload_n 0, 1) := by decide +kernel
theorem dX8_go_21 : decode cX8_go 21 = .ok (.iload_n 1, 1) := by decide +kernel
theorem dX8_go_22 : decode cX8_go 22 = .ok (.invokevirtual 333, 3) := by decide +kernel
theorem dX8_go_25 : decode cX8_go 25 = .ok (.istore_n 3, 1) := by decide +kernel
theorem dX8_go_26 : decode cX8_go 26 = .ok (.aload_n 0, 1) := by decide +kernel
theorem dX8_go_27 : decode cX8_go 27 = .ok (.getfield 65, 3) := by decide +kernel
theorem dX8_go_30 : decode cX8_go 30 = .ok (.iload_n 1, 1) := by decide +kernel
theorem dX8_go_31 : decode cX8_go 31 = .ok (.iaload, 1) := by decide +kernel
theorem dX8_go_32 : decode cX8_go 32 = .ok (.ifCond .ge 7, 3) := by decide +kernel
theorem dX8_go_35 : decode cX8_go 35 = .ok (.iconst (-1), 1) := by decide +kernel
theorem dX8_go_36 : decode cX8_go 36 = .ok (.goto 14, 3) := by decide +kernel
theorem dX8_go_39 : decode cX8_go 39 = .ok (.aload_n 0, 1) := by decide +kernel
theorem dX8_go_40 : decode cX8_go 40 = .ok (.iload_n 2, 1) := by decide +kernel
theorem dX8_go_41 : decode cX8_go 41 = .ok (.aload_n 0, 1) := by decide +kernel
theorem dX8_go_42 : decode cX8_go 42 = .ok (.getfield 65, 3) := by decide +kernel
theorem dX8_go_45 : decode cX8_go 45 = .ok (.iload_n 1, 1) := by decide +kernel
theorem dX8_go_46 : decode cX8_go 46 = .ok (.iaload, 1) := by decide +kernel
theorem dX8_go_47 : decode cX8_go 47 = .ok (.invokevirtual 349, 3) := by decide +kernel
theorem dX8_go_50 : decode cX8_go 50 = .ok (.istore 4, 2) := by decide +kernel
theorem dX8_go_52 : decode cX8_go 52 = .ok (.iload 4, 2) := by decide +kernel
theorem dX8_go_54 : decode cX8_go 54 = .ok (.ifCond .lt 21, 3) := by decide +kernel
theorem dX8_go_57 : decode cX8_go 57 = .ok (.aload_n 0, 1) := by decide +kernel
theorem dX8_go_58 : decode cX8_go 58 = .ok (.iload_n 2, 1) := by decide +kernel
theorem dX8_go_59 : decode cX8_go 59 = .ok (.invokevirtual 327, 3) := by decide +kernel
theorem dX8_go_62 : decode cX8_go 62 = .ok (.ifCond .ge 13, 3) := by decide +kernel
theorem dX8_go_65 : decode cX8_go 65 = .ok (.aload_n 0, 1) := by decide +kernel
theorem dX8_go_66 : decode cX8_go 66 = .ok (.iload_n 1, 1) := by decide +kernel
theorem dX8_go_67 : decode cX8_go 67 = .ok (.iload_n 2, 1) := by decide +kernel
theorem dX8_go_68 : decode cX8_go 68 = .ok (.iload_n 3, 1) := by decide +kernel
theorem dX8_go_69 : decode cX8_go 69 = .ok (.invokevirtual 352, 3) := by decide +kernel
theorem dX8_go_72 : decode cX8_go 72 = .ok (.ifCond .ne 7, 3) := by decide +kernel
theorem dX8_go_75 : decode cX8_go 75 = .ok (.ldc_w 356, 3) := by decide +kernel
theorem dX8_go_78 : decode cX8_go 78 = .ok (.ireturn, 1) := by decide +kernel
theorem dX8_go_79 : decode cX8_go 79 = .ok (.aload_n 0, 1) := by decide +kernel
theorem dX8_go_80 : decode cX8_go 80 = .ok (.getfield 65, 3) := by decide +kernel
theorem dX8_go_83 : decode cX8_go 83 = .ok (.iload_n 1, 1) := by decide +kernel
theorem dX8_go_84 : decode cX8_go 84 = .ok (.iconst (-1), 1) := by decide +kernel
theorem dX8_go_85 : decode cX8_go 85 = .ok (.iastore, 1) := by decide +kernel
theorem dX8_go_86 : decode cX8_go 86 = .ok (.aload_n 0, 1) := by decide +kernel
theorem dX8_go_87 : decode cX8_go 87 = .ok (.getfield 68, 3) := by decide +kernel
theorem dX8_go_90 : decode cX8_go 90 = .ok (.iload_n 1, 1) := by decide +kernel
theorem dX8_go_91 : decode cX8_go 91 = .ok (.iload_n 2, 1) := by decide +kernel
theorem dX8_go_92 : decode cX8_go 92 = .ok (.iastore, 1) := by decide +kernel
theorem dX8_go_93 : decode cX8_go 93 = .ok (.aload_n 0, 1) := by decide +kernel
theorem dX8_go_94 : decode cX8_go 94 = .ok (.getfield 71, 3) := by decide +kernel
theorem dX8_go_97 : decode cX8_go 97 = .ok (.iload_n 1, 1) := by decide +kernel
theorem dX8_go_98 : decode cX8_go 98 = .ok (.iload 4, 2) := by decide +kernel
theorem dX8_go_100 : decode cX8_go 100 = .ok (.iastore, 1) := by decide +kernel
theorem dX8_go_101 : decode cX8_go 101 = .ok (.aload_n 0, 1) := by decide +kernel
theorem dX8_go_102 : decode cX8_go 102 = .ok (.getfield 74, 3) := by decide +kernel
theorem dX8_go_105 : decode cX8_go 105 = .ok (.iload_n 1, 1) := by decide +kernel
theorem dX8_go_106 : decode cX8_go 106 = .ok (.aload_n 0, 1) := by decide +kernel
theorem dX8_go_107 : decode cX8_go 107 = .ok (.iload_n 1, 1) := by decide +kernel
theorem dX8_go_108 : decode cX8_go 108 = .ok (.iload_n 2, 1) := by decide +kernel
theorem dX8_go_109 : decode cX8_go 109 = .ok (.iload_n 3, 1) := by decide +kernel
theorem dX8_go_110 : decode cX8_go 110 = .ok (.iconst 0, 1) := by decide +kernel
theorem dX8_go_111 : decode cX8_go 111 = .ok (.invokevirtual 357, 3) := by decide +kernel
theorem dX8_go_114 : decode cX8_go 114 = .ok (.iastore, 1) := by decide +kernel
theorem dX8_go_115 : decode cX8_go 115 = .ok (.aload_n 0, 1) := by decide +kernel
theorem dX8_go_116 : decode cX8_go 116 = .ok (.getfield 199, 3) := by decide +kernel
theorem dX8_go_119 : decode cX8_go 119 = .ok (.sipush 200, 3) := by decide +kernel
theorem dX8_go_122 : decode cX8_go 122 = .ok (.if_icmp .ge 36, 3) := by decide +kernel
theorem dX8_go_125 : decode cX8_go 125 = .ok (.aload_n 0, 1) := by decide +kernel
theorem dX8_go_126 : decode cX8_go 126 = .ok (.getfield 86, 3) := by decide +kernel
theorem dX8_go_129 : decode cX8_go 129 = .ok (.aload_n 0, 1) := by decide +kernel
theorem dX8_go_130 : decode cX8_go 130 = .ok (.getfield 199, 3) := by decide +kernel
theorem dX8_go_133 : decode cX8_go 133 = .ok (.aload_n 0, 1) := by decide +kernel
theorem dX8_go_134 : decode cX8_go 134 = .ok (.getfield 193, 3) := by decide +kernel
theorem dX8_go_137 : decode cX8_go 137 = .ok (.iastore, 1) := by decide +kernel
theorem dX8_go_138 : decode cX8_go 138 = .ok (.aload_n 0, 1) := by decide +kernel
theorem dX8_go_139 : decode cX8_go 139 = .ok (.getfield 89, 3) := by decide +kernel
theorem dX8_go_142 : decode cX8_go 142 = .ok (.aload_n 0, 1) := by decide +kernel
theorem dX8_go_143 : decode cX8_go 143 = .ok (.getfield 199, 3) := by decide +kernel
theorem dX8_go_146 : decode cX8_go 146 = .ok (.iload_n 2, 1) := by decide +kernel
theorem dX8_go_147 : decode cX8_go 147 = .ok (.iastore, 1) := by decide +kernel
theorem dX8_go_148 : decode cX8_go 148 = .ok (.aload_n 0, 1) := by decide +kernel
theorem dX8_go_149 : decode cX8_go 149 = .ok (.dup, 1) := by decide +kernel
theorem dX8_go_150 : decode cX8_go 150 = .ok (.getfield 199, 3) := by decide +kernel
theorem dX8_go_153 : decode cX8_go 153 = .ok (.iconst 1, 1) := by decide +kernel
theorem dX8_go_154 : decode cX8_go 154 = .ok (.iadd, 1) := by decide +kernel
theorem dX8_go_155 : decode cX8_go 155 = .ok (.putfield 199, 3) := by decide +kernel
theorem dX8_go_158 : decode cX8_go 158 = .ok (.aload_n 0, 1) := by decide +kernel
theorem dX8_go_159 : decode cX8_go 159 = .ok (.getfield 74, 3) := by decide +kernel
theorem dX8_go_162 : decode cX8_go 162 = .ok (.iload_n 1, 1) := by decide +kernel
theorem dX8_go_163 : decode cX8_go 163 = .ok (.iaload, 1) := by decide +kernel
theorem dX8_go_164 : decode cX8_go 164 = .ok (.ireturn, 1) := by decide +kernel
theorem dX8_take_0 : decode cX8_take 0 = .ok (.aload_n 0, 1) := by decide +kernel
theorem dX8_take_1 : decode cX8_take 1 = .ok (.iload_n 1, 1) := by decide +kernel
theorem dX8_take_2 : decode cX8_take 2 = .ok (.invokevirtual 330, 3) := by decide +kernel
theorem dX8_take_5 : decode cX8_take 5 = .ok (.ifCond .eq 11, 3) := by decide +kernel
theorem dX8_take_8 : decode cX8_take 8 = .ok (.aload_n 0, 1) := by decide +kernel
theorem dX8_take_9 : decode cX8_take 9 = .ok (.iload_n 2, 1) := by decide +kernel
theorem dX8_take_10 : decode cX8_take 10 = .ok (.invokevirtual 336, 3) := by decide +kernel
theorem dX8_take_13 : decode cX8_take 13 = .ok (.ifCond .ne 7, 3) := by decide +kernel
theorem dX8_take_16 : decode cX8_take 16 = .ok (.ldc_w 316, 3) := by decide +kernel
theorem dX8_take_19 : decode cX8_take 19 = .ok (.ireturn, 1) := by decide +kernel
theorem dX8_take_20 : decode cX8_take 20 = .ok (.aload_n 0, 1) := by decide +kernel
theorem dX8_take_21 : decode cX8_take 21 = .ok (.getfield 65, 3) := by decide +kernel
theorem dX8_take_24 : decode cX8_take 24 = .ok (.iload_n 1, 1) := by decide +kernel
theorem dX8_take_25 : decode cX8_take 25 = .ok (.iaload, 1) := by decide +kernel
theorem dX8_take_26 : decode cX8_take 26 = .ok (.ifCond .lt 30, 3) := by decide +kernel
theorem dX8_take_29 : decode cX8_take 29 = .ok (.aload_n 0, 1) := by decide +kernel
theorem dX8_take_30 : decode cX8_take 30 = .ok (.getfield 77, 3) := by decide +kernel
theorem dX8_take_33 : decode cX8_take 33 = .ok (.iload_n 2, 1) := by decide +kernel
theorem dX8_take_34 : decode cX8_take 34 = .ok (.iaload, 1) := by decide +kernel
theorem dX8_take_35 : decode cX8_take 35 = .ok (.aload_n 0, 1) := by decide +kernel
theorem dX8_take_36 : decode cX8_take 36 = .ok (.getfield 65, 3) := by decide +kernel
theorem dX8_take_39 : decode cX8_take 39 = .ok (.iload_n 1, 1) := by decide +kernel
theorem dX8_take_40 : decode cX8_take 40 = .ok (.iaload, 1) := by decide +kernel
theorem dX8_take_41 : decode cX8_take 41 = .ok (.if_icmp .ne 15, 3) := by decide +kernel
theorem dX8_take_44 : decode cX8_take 44 = .ok (.aload_n 0, 1) := by decide +kernel
theorem dX8_take_45 : decode cX8_take 45 = .ok (.iload_n 1, 1) := by decide +kernel
theorem dX8_take_46 : decode cX8_take 46 = .ok (.invokevirtual 333, 3) := by decide +kernel
theorem dX8_take_49 : decode cX8_take 49 = .ok (.invokestatic 361, 3) := by decide +kernel
theorem dX8_take_52 : decode cX8_take 52 = .ok (.iconst 1, 1) := by decide +kernel
theorem dX8_take_53 : decode cX8_take 53 = .ok (.if_icmp .le 7, 3) := by decide +kernel
theorem dX8_take_56 : decode cX8_take 56 = .ok (.ldc_w 356, 3) := by decide +kernel
theorem dX8_take_59 : decode cX8_take 59 = .ok (.ireturn, 1) := by decide +kernel
theorem dX8_take_60 : decode cX8_take 60 = .ok (.aload_n 0, 1) := by decide +kernel
theorem dX8_take_61 : decode cX8_take 61 = .ok (.getfield 77, 3) := by decide +kernel
theorem dX8_take_64 : decode cX8_take 64 = .ok (.iload_n 2, 1) := by decide +kernel
theorem dX8_take_65 : decode cX8_take 65 = .ok (.iconst (-1), 1) := by decide +kernel
theorem dX8_take_66 : decode cX8_take 66 = .ok (.iastore, 1) := by decide +kernel
theorem dX8_take_67 : decode cX8_take 67 = .ok (.aload_n 0, 1) := by decide +kernel
theorem dX8_take_68 : decode cX8_take 68 = .ok (.getfield 80, 3) := by decide +kernel
theorem dX8_take_71 : decode cX8_take 71 = .ok (.iload_n 2, 1) := by decide +kernel
theorem dX8_take_72 : decode cX8_take 72 = .ok (.iload_n 1, 1) := by decide +kernel
theorem dX8_take_73 : decode cX8_take 73 = .ok (.iastore, 1) := by decide +kernel
theorem dX8_take_74 : decode cX8_take 74 = .ok (.aload_n 0, 1) := by decide +kernel
theorem dX8_take_75 : decode cX8_take 75 = .ok (.iload_n 1, 1) := by decide +kernel
theorem dX8_take_76 : decode cX8_take 76 = .ok (.invokevirtual 333, 3) := by decide +kernel
theorem dX8_take_79 : decode cX8_take 79 = .ok (.invokestatic 361, 3) := by decide +kernel
theorem dX8_take_82 : decode cX8_take 82 = .ok (.ireturn, 1) := by decide +kernel
theorem dX8_lay_0 : decode cX8_lay 0 = .ok (.aload_n 0, 1) := by decide +kernel
theorem dX8_lay_1 : decode cX8_lay 1 = .ok (.iload_n 1, 1) := by decide +kernel
theorem dX8_lay_2 : decode cX8_lay 2 = .ok (.invokevirtual 330, 3) := by decide +kernel
theorem dX8_lay_5 : decode cX8_lay 5 = .ok (.ifCond .eq 11, 3) := by decide +kernel
theorem dX8_lay_8 : decode cX8_lay 8 = .ok (.aload_n 0, 1) := by decide +kernel
theorem dX8_lay_9 : decode cX8_lay 9 = .ok (.iload_n 2, 1) := by decide +kernel
theorem dX8_lay_10 : decode cX8_lay 10 = .ok (.invokevirtual 336, 3) := by decide +kernel
theorem dX8_lay_13 : decode cX8_lay 13 = .ok (.ifCond .ne 7, 3) := by decide +kernel
theorem dX8_lay_16 : decode cX8_lay 16 = .ok (.ldc_w 316, 3) := by decide +kernel
theorem dX8_lay_19 : decode cX8_lay 19 = .ok (.ireturn, 1) := by decide +kernel
theorem dX8_lay_20 : decode cX8_lay 20 = .ok (.aload_n 0, 1) := by decide +kernel
theorem dX8_lay_21 : decode cX8_lay 21 = .ok (.getfield 65, 3) := by decide +kernel
theorem dX8_lay_24 : decode cX8_lay 24 = .ok (.iload_n 1, 1) := by decide +kernel
theorem dX8_lay_25 : decode cX8_lay 25 = .ok (.iaload, 1) := by decide +kernel
theorem dX8_lay_26 : decode cX8_lay 26 = .ok (.ifCond .lt 13, 3) := by decide +kernel
theorem dX8_lay_29 : decode cX8_lay 29 = .ok (.aload_n 0, 1) := by decide +kernel
theorem dX8_lay_30 : decode cX8_lay 30 = .ok (.getfield 80, 3) := by decide +kernel
theorem dX8_lay_33 : decode cX8_lay 33 = .ok (.iload_n 2, 1) := by decide +kernel
theorem dX8_lay_34 : decode cX8_lay 34 = .ok (.iaload, 1) := by decide +kernel
theorem dX8_lay_35 : decode cX8_lay 35 = .ok (.iload_n 1, 1) := by decide +kernel
theorem dX8_lay_36 : decode cX8_lay 36 = .ok (.if_icmp .eq 7, 3) := by decide +kernel
theorem dX8_lay_39 : decode cX8_lay 39 = .ok (.ldc_w 356, 3) := by decide +kernel
theorem dX8_lay_42 : decode cX8_lay 42 = .ok (.ireturn, 1) := by decide +kernel
theorem dX8_lay_43 : decode cX8_lay 43 = .ok (.aload_n 0, 1) := by decide +kernel
theorem dX8_lay_44 : decode cX8_lay 44 = .ok (.getfield 77, 3) := by decide +kernel
theorem dX8_lay_47 : decode cX8_lay 47 = .ok (.iload_n 2, 1) := by decide +kernel
theorem dX8_lay_48 : decode cX8_lay 48 = .ok (.aload_n 0, 1) := by decide +kernel
theorem dX8_lay_49 : decode cX8_lay 49 = .ok (.getfield 65, 3) := by decide +kernel
theorem dX8_lay_52 : decode cX8_lay 52 = .ok (.iload_n 1, 1) := by decide +kernel
theorem dX8_lay_53 : decode cX8_lay 53 = .ok (.iaload, 1) := by decide +kernel
theorem dX8_lay_54 : decode cX8_lay 54 = .ok (.iastore, 1) := by decide +kernel
theorem dX8_lay_55 : decode cX8_lay 55 = .ok (.aload_n 0, 1) := by decide +kernel
theorem dX8_lay_56 : decode cX8_lay 56 = .ok (.getfield 80, 3) := by decide +kernel
theorem dX8_lay_59 : decode cX8_lay 59 = .ok (.iload_n 2, 1) := by decide +kernel
theorem dX8_lay_60 : decode cX8_lay 60 = .ok (.iconst (-1), 1) := by decide +kernel
theorem dX8_lay_61 : decode cX8_lay 61 = .ok (.iastore, 1) := by decide +kernel
theorem dX8_lay_62 : decode cX8_lay 62 = .ok (.aload_n 0, 1) := by decide +kernel
theorem dX8_lay_63 : decode cX8_lay 63 = .ok (.iload_n 1, 1) := by decide +kernel
theorem dX8_lay_64 : decode cX8_lay 64 = .ok (.invokevirtual 333, 3) := by decide +kernel
theorem dX8_lay_67 : decode cX8_lay 67 = .ok (.invokestatic 361, 3) := by decide +kernel
theorem dX8_lay_70 : decode cX8_lay 70 = .ok (.ireturn, 1) := by decide +kernel
theorem dX8_arrive_0 : decode cX8_arrive 0 = .ok (.aload_n 0, 1) := by decide +kernel
theorem dX8_arrive_1 : decode cX8_arrive 1 = .ok (.getfield 68, 3) := by decide +kernel
theorem dX8_arrive_4 : decode cX8_arrive 4 = .ok (.iload_n 1, 1) := by decide +kernel
theorem dX8_arrive_5 : decode cX8_arrive 5 = .ok (.iaload, 1) := by decide +kernel
theorem dX8_arrive_6 : decode cX8_arrive 6 = .ok (.istore_n 2, 1) := by decide +kernel
theorem dX8_arrive_7 : decode cX8_arrive 7 = .ok (.aload_n 0, 1) := by decide +kernel
theorem dX8_arrive_8 : decode cX8_arrive 8 = .ok (.getfield 55, 3) := by decide +kernel
theorem dX8_arrive_11 : decode cX8_arrive 11 = .ok (.iload_n 2, 1) := by decide +kernel
theorem dX8_arrive_12 : decode cX8_arrive 12 = .ok (.dup2, 1) := by decide +kernel
theorem dX8_arrive_13 : decode cX8_arrive 13 = .ok (.iaload, 1) := by decide +kernel
theorem dX8_arrive_14 : decode cX8_arrive 14 = .ok (.aload_n 0, 1) := by decide +kernel
theorem dX8_arrive_15 : decode cX8_arrive 15 = .ok (.iload_n 1, 1) := by decide +kernel
theorem dX8_arrive_16 : decode cX8_arrive 16 = .ok (.aload_n 0, 1) := by decide +kernel
theorem dX8_arrive_17 : decode cX8_arrive 17 = .ok (.iload_n 1, 1) := by decide +kernel
theorem dX8_arrive_18 : decode cX8_arrive 18 = .ok (.invokevirtual 333, 3) := by decide +kernel
theorem dX8_arrive_21 : decode cX8_arrive 21 = .ok (.invokevirtual 343, 3) := by decide +kernel
theorem dX8_arrive_24 : decode cX8_arrive 24 = .ok (.bipush 10, 2) := by decide +kernel
theorem dX8_arrive_26 : decode cX8_arrive 26 = .ok (.idiv, 1) := by decide +kernel
theorem dX8_arrive_27 : decode cX8_arrive 27 = .ok (.iconst 1, 1) := by decide +kernel
theorem dX8_arrive_28 : decode cX8_arrive 28 = .ok (.iadd, 1) := by decide +kernel
theorem dX8_arrive_29 : decode cX8_arrive 29 = .ok (.iadd, 1) := by decide +kernel
theorem dX8_arrive_30 : decode cX8_arrive 30 = .ok (.iastore, 1) := by decide +kernel
theorem dX8_arrive_31 : decode cX8_arrive 31 = .ok (.aload_n 0, 1) := by decide +kernel
theorem dX8_arrive_32 : decode cX8_arrive 32 = .ok (.getfield 62, 3) := by decide +kernel
theorem dX8_arrive_35 : decode cX8_arrive 35 = .ok (.iload_n 2, 1) := by decide +kernel
theorem dX8_arrive_36 : decode cX8_arrive 36 = .ok (.aload_n 0, 1) := by decide +kernel
theorem dX8_arrive_37 : decode cX8_arrive 37 = .ok (.getfield 62, 3) := by decide +kernel
theorem dX8_arrive_40 : decode cX8_arrive 40 = .ok (.iload_n 2, 1) := by decide +kernel
theorem dX8_arrive_41 : decode cX8_arrive 41 = .ok (.baload, 1) := by decide +kernel
theorem dX8_arrive_42 : decode cX8_arrive 42 = .ok (.ifCond .ne 14, 3) := by decide +kernel
theorem dX8_arrive_45 : decode cX8_arrive 45 = .ok (.aload_n 0, 1) := by decide +kernel
theorem dX8_arrive_46 : decode cX8_arrive 46 = .ok (.getfield 55, 3) := by decide +kernel
theorem dX8_arrive_49 : decode cX8_arrive 49 = .ok (.iload_n 2, 1) := by decide +kernel
theorem dX8_arrive_50 : decode cX8_arrive 50 = .ok (.iaload, 1) := by decide +kernel
theorem dX8_arrive_51 : decode cX8_arrive 51 = .ok (.bipush 100, 2) := by decide +kernel
theorem dX8_arrive_53 : decode cX8_arrive 53 = .ok (.if_icmp .lt 7, 3) := by decide +kernel
theorem dX8_arrive_56 : decode cX8_arrive 56 = .ok (.iconst 1, 1) := by decide +kernel
theorem dX8_arrive_57 : decode cX8_arrive 57 = .ok (.goto 4, 3) := by decide +kernel
theorem dX8_arrive_60 : decode cX8_arrive 60 = .ok (.iconst 0, 1) := by decide +kernel
theorem dX8_arrive_61 : decode cX8_arrive 61 = .ok (.bastore, 1) := by decide +kernel
theorem dX8_arrive_62 : decode cX8_arrive 62 = .ok (.aload_n 0, 1) := by decide +kernel
theorem dX8_arrive_63 : decode cX8_arrive 63 = .ok (.getfield 65, 3) := by decide +kernel
theorem dX8_arrive_66 : decode cX8_arrive 66 = .ok (.iload_n 1, 1) := by decide +kernel
theorem dX8_arrive_67 : decode cX8_arrive 67 = .ok (.aload_n 0, 1) := by decide +kernel
theorem dX8_arrive_68 : decode cX8_arrive 68 = .ok (.getfield 71, 3) := by decide +kernel
theorem dX8_arrive_71 : decode cX8_arrive 71 = .ok (.iload_n 1, 1) := by decide +kernel
theorem dX8_arrive_72 : decode cX8_arrive 72 = .ok (.iaload, 1) := by decide +kernel
theorem dX8_arrive_73 : decode cX8_arrive 73 = .ok (.iastore, 1) := by decide +kernel
theorem dX8_arrive_74 : decode cX8_arrive 74 = .ok (.aload_n 0, 1) := by decide +kernel
theorem dX8_arrive_75 : decode cX8_arrive 75 = .ok (.getfield 68, 3) := by decide +kernel
theorem dX8_arrive_78 : decode cX8_arrive 78 = .ok (.iload_n 1, 1) := by decide +kernel
theorem dX8_arrive_79 : decode cX8_arrive 79 = .ok (.iconst (-1), 1) := by decide +kernel
theorem dX8_arrive_80 : decode cX8_arrive 80 = .ok (.iastore, 1) := by decide +kernel
theorem dX8_arrive_81 : decode cX8_arrive 81 = .ok (.aload_n 0, 1) := by decide +kernel
theorem dX8_arrive_82 : decode cX8_arrive 82 = .ok (.getfield 71, 3) := by decide +kernel
theorem dX8_arrive_85 : decode cX8_arrive 85 = .ok (.iload_n 1, 1) := by decide +kernel
theorem dX8_arrive_86 : decode cX8_arrive 86 = .ok (.iconst (-1), 1) := by decide +kernel
theorem dX8_arrive_87 : decode cX8_arrive 87 = .ok (.iastore, 1) := by decide +kernel
theorem dX8_arrive_88 : decode cX8_arrive 88 = .ok (.iconst 0, 1) := by decide +kernel
theorem dX8_arrive_89 : decode cX8_arrive 89 = .ok (.istore_n 3, 1) := by decide +kernel
theorem dX8_arrive_90 : decode cX8_arrive 90 = .ok (.iload_n 3, 1) := by decide +kernel
theorem dX8_arrive_91 : decode cX8_arrive 91 = .ok (.aload_n 0, 1) := by decide +kernel
theorem dX8_arrive_92 : decode cX8_arrive 92 = .ok (.getfield 190, 3) := by decide +kernel
theorem dX8_arrive_95 : decode cX8_arrive 95 = .ok (.if_icmp .ge 86, 3) := by decide +kernel
theorem dX8_arrive_98 : decode cX8_arrive 98 = .ok (.aload_n 0, 1) := by decide +kernel
theorem dX8_arrive_99 : decode cX8_arrive 99 = .ok (.getfield 80, 3) := by decide +kernel
theorem dX8_arrive_102 : decode cX8_arrive 102 = .ok (.iload_n 3, 1) := by decide +kernel
theorem dX8_arrive_103 : decode cX8_arrive 103 = .ok (.iaload, 1) := by decide +kernel
theorem dX8_arrive_104 : decode cX8_arrive 104 = .ok (.iload_n 1, 1) := by decide +kernel
theorem dX8_arrive_105 : decode cX8_arrive 105 = .ok (.if_icmp .ne 70, 3) := by decide +kernel
theorem dX8_arrive_108 : decode cX8_arrive 108 = .ok (.aload_n 0, 1) := by decide +kernel
theorem dX8_arrive_109 : decode cX8_arrive 109 = .ok (.getfield 43, 3) := by decide +kernel
theorem dX8_arrive_112 : decode cX8_arrive 112 = .ok (.iload_n 3, 1) := by decide +kernel
theorem dX8_arrive_113 : decode cX8_arrive 113 = .ok (.iaload, 1) := by decide +kernel
theorem dX8_arrive_114 : decode cX8_arrive 114 = .ok (.aload_n 0, 1) := by decide +kernel
theorem dX8_arrive_115 : decode cX8_arrive 115 = .ok (.getfield 65, 3) := by decide +kernel
theorem dX8_arrive_118 : decode cX8_arrive 118 = .ok (.iload_n 1, 1) := by decide +kernel
theorem dX8_arrive_119 : decode cX8_arrive 119 = .ok (.iaload, 1) := by decide +kernel
theorem dX8_arrive_120 : decode cX8_arrive 120 = .ok (.if_icmp .ne 55, 3) := by decide +kernel
theorem dX8_arrive_123 : decode cX8_arrive 123 = .ok (.aload_n 0, 1) := by decide +kernel
theorem dX8_arrive_124 : decode cX8_arrive 124 = .ok (.getfield 80, 3) := by decide +kernel
theorem dX8_arrive_127 : decode cX8_arrive 127 = .ok (.iload_n 3, 1) := by decide +kernel
theorem dX8_arrive_128 : decode cX8_arrive 128 = .ok (.iconst (-1), 1) := by decide +kernel
theorem dX8_arrive_129 : decode cX8_arrive 129 = .ok (.iastore, 1) := by decide +kernel
theorem dX8_arrive_130 : decode cX8_arrive 130 = .ok (.aload_n 0, 1) := by decide +kernel
theorem dX8_arrive_131 : decode cX8_arrive 131 = .ok (.getfield 83, 3) := by decide +kernel
theorem dX8_arrive_134 : decode cX8_arrive 134 = .ok (.iload_n 3, 1) := by decide +kernel
theorem dX8_arrive_135 : decode cX8_arrive 135 = .ok (.iconst 1, 1) := by decide +kernel
theorem dX8_arrive_136 : decode cX8_arrive 136 = .ok (.bastore, 1) := by decide +kernel
theorem dX8_arrive_137 : decode cX8_arrive 137 = .ok (.aload_n 0, 1) := by decide +kernel
theorem dX8_arrive_138 : decode cX8_arrive 138 = .ok (.dup, 1) := by decide +kernel
theorem dX8_arrive_139 : decode cX8_arrive 139 = .ok (.getfield 196, 3) := by decide +kernel
theorem dX8_arrive_142 : decode cX8_arrive 142 = .ok (.aload_n 0, 1) := by decide +kernel
theorem dX8_arrive_143 : decode cX8_arrive 143 = .ok (.getfield 52, 3) := by decide +kernel
theorem dX8_arrive_146 : decode cX8_arrive 146 = .ok (.iload_n 3, 1) := by decide +kernel
theorem dX8_arrive_147 : decode cX8_arrive 147 = .ok (.iaload, 1) := by decide +kernel
theorem dX8_arrive_148 : decode cX8_arrive 148 = .ok (.iconst 1, 1) := by decide +kernel
theorem dX8_arrive_149 : decode cX8_arrive 149 = .ok (.if_icmp .ne 16, 3) := by decide +kernel
theorem dX8_arrive_152 : decode cX8_arrive 152 = .ok (.aload_n 0, 1) := by decide +kernel
theorem dX8_arrive_153 : decode cX8_arrive 153 = .ok (.getfield 193, 3) := by decide +kernel
theorem dX8_arrive_156 : decode cX8_arrive 156 = .ok (.bipush 60, 2) := by decide +kernel
theorem dX8_arrive_158 : decode cX8_arrive 158 = .ok (.if_icmp .le 7, 3) := by decide +kernel
theorem dX8_arrive_161 : decode cX8_arrive 161 = .ok (.iconst 0, 1) := by decide +kernel
theorem dX8_arrive_162 : decode cX8_arrive 162 = .ok (.goto 9, 3) := by decide +kernel
theorem dX8_arrive_165 : decode cX8_arrive 165 = .ok (.aload_n 0, 1) := by decide +kernel
theorem dX8_arrive_166 : decode cX8_arrive 166 = .ok (.getfield 49, 3) := by decide +kernel
theorem dX8_arrive_169 : decode cX8_arrive 169 = .ok (.iload_n 3, 1) := by decide +kernel
theorem dX8_arrive_170 : decode cX8_arrive 170 = .ok (.iaload, 1) := by decide +kernel
theorem dX8_arrive_171 : decode cX8_arrive 171 = .ok (.iadd, 1) := by decide +kernel
theorem dX8_arrive_172 : decode cX8_arrive 172 = .ok (.putfield 196, 3) := by decide +kernel
theorem dX8_arrive_175 : decode cX8_arrive 175 = .ok (.iinc 3 1, 3) := by decide +kernel
theorem dX8_arrive_178 : decode cX8_arrive 178 = .ok (.goto (-88), 3) := by decide +kernel
theorem dX8_arrive_181 : decode cX8_arrive 181 = .ok (.return_, 1) := by decide +kernel
theorem dX8_minuteNow_0 : decode cX8_minuteNow 0 = .ok (.aload_n 0, 1) := by decide +kernel
theorem dX8_minuteNow_1 : decode cX8_minuteNow 1 = .ok (.dup, 1) := by decide +kernel
theorem dX8_minuteNow_2 : decode cX8_minuteNow 2 = .ok (.getfield 193, 3) := by decide +kernel
theorem dX8_minuteNow_5 : decode cX8_minuteNow 5 = .ok (.iconst 1, 1) := by decide +kernel
theorem dX8_minuteNow_6 : decode cX8_minuteNow 6 = .ok (.iadd, 1) := by decide +kernel
theorem dX8_minuteNow_7 : decode cX8_minuteNow 7 = .ok (.putfield 193, 3) := by decide +kernel
theorem dX8_minuteNow_10 : decode cX8_minuteNow 10 = .ok (.iconst 0, 1) := by decide +kernel
theorem dX8_minuteNow_11 : decode cX8_minuteNow 11 = .ok (.istore_n 1, 1) := by decide +kernel
theorem dX8_minuteNow_12 : decode cX8_minuteNow 12 = .ok (.iload_n 1, 1) := by decide +kernel
theorem dX8_minuteNow_13 : decode cX8_minuteNow 13 = .ok (.aload_n 0, 1) := by decide +kernel
theorem dX8_minuteNow_14 : decode cX8_minuteNow 14 = .ok (.getfield 187, 3) := by decide +kernel
theorem dX8_minuteNow_17 : decode cX8_minuteNow 17 = .ok (.if_icmp .ge 94, 3) := by decide +kernel
theorem dX8_minuteNow_20 : decode cX8_minuteNow 20 = .ok (.aload_n 0, 1) := by decide +kernel
theorem dX8_minuteNow_21 : decode cX8_minuteNow 21 = .ok (.getfield 68, 3) := by decide +kernel
theorem dX8_minuteNow_24 : decode cX8_minuteNow 24 = .ok (.iload_n 1, 1) := by decide +kernel
theorem dX8_minuteNow_25 : decode cX8_minuteNow 25 = .ok (.iaload, 1) := by decide +kernel
theorem dX8_minuteNow_26 : decode cX8_minuteNow 26 = .ok (.ifCond .lt 79, 3) := by decide +kernel
theorem dX8_minuteNow_29 : decode cX8_minuteNow 29 = .ok (.aload_n 0, 1) := by decide +kernel
theorem dX8_minuteNow_30 : decode cX8_minuteNow 30 = .ok (.getfield 74, 3) := by decide +kernel
theorem dX8_minuteNow_33 : decode cX8_minuteNow 33 = .ok (.iload_n 1, 1) := by decide +kernel
theorem dX8_minuteNow_34 : decode cX8_minuteNow 34 = .ok (.dup2, 1) := by decide +kernel
theorem dX8_minuteNow_35 : decode cX8_minuteNow 35 = .ok (.iaload, 1) := by decide +kernel
theorem dX8_minuteNow_36 : decode cX8_minuteNow 36 = .ok (.iconst 1, 1) := by decide +kernel
theorem dX8_minuteNow_37 : decode cX8_minuteNow 37 = .ok (.isub, 1) := by decide +kernel
theorem dX8_minuteNow_38 : decode cX8_minuteNow 38 = .ok (.iastore, 1) := by decide +kernel
theorem dX8_minuteNow_39 : decode cX8_minuteNow 39 = .ok (.aload_n 0, 1) := by decide +kernel
theorem dX8_minuteNow_40 : decode cX8_minuteNow 40 = .ok (.getfield 74, 3) := by decide +kernel
theorem dX8_minuteNow_43 : decode cX8_minuteNow 43 = .ok (.iload_n 1, 1) := by decide +kernel
theorem dX8_minuteNow_44 : decode cX8_minuteNow 44 = .ok (.iaload, 1) := by decide +kernel
theorem dX8_minuteNow_45 : decode cX8_minuteNow 45 = .ok (.ifCond .ne 60, 3) := by decide +kernel
theorem dX8_minuteNow_48 : decode cX8_minuteNow 48 = .ok (.aload_n 0, 1) := by decide +kernel
theorem dX8_minuteNow_49 : decode cX8_minuteNow 49 = .ok (.aload_n 0, 1) := by decide +kernel
theorem dX8_minuteNow_50 : decode cX8_minuteNow 50 = .ok (.getfield 71, 3) := by decide +kernel
theorem dX8_minuteNow_53 : decode cX8_minuteNow 53 = .ok (.iload_n 1, 1) := by decide +kernel
theorem dX8_minuteNow_54 : decode cX8_minuteNow 54 = .ok (.iaload, 1) := by decide +kernel
theorem dX8_minuteNow_55 : decode cX8_minuteNow 55 = .ok (.invokevirtual 317, 3) := by decide +kernel
theorem dX8_minuteNow_58 : decode cX8_minuteNow 58 = .ok (.invokestatic 361, 3) := by decide +kernel
theorem dX8_minuteNow_61 : decode cX8_minuteNow 61 = .ok (.aload_n 0, 1) := by decide +kernel
theorem dX8_minuteNow_62 : decode cX8_minuteNow 62 = .ok (.getfield 16, 3) := by decide +kernel
theorem dX8_minuteNow_65 : decode cX8_minuteNow 65 = .ok (.aload_n 0, 1) := by decide +kernel
theorem dX8_minuteNow_66 : decode cX8_minuteNow 66 = .ok (.getfield 71, 3) := by decide +kernel
theorem dX8_minuteNow_69 : decode cX8_minuteNow 69 = .ok (.iload_n 1, 1) := by decide +kernel
theorem dX8_minuteNow_70 : decode cX8_minuteNow 70 = .ok (.iaload, 1) := by decide +kernel
theorem dX8_minuteNow_71 : decode cX8_minuteNow 71 = .ok (.iaload, 1) := by decide +kernel
theorem dX8_minuteNow_72 : decode cX8_minuteNow 72 = .ok (.if_icmp .ge 7, 3) := by decide +kernel
theorem dX8_minuteNow_75 : decode cX8_minuteNow 75 = .ok (.iconst 1, 1) := by decide +kernel
theorem dX8_minuteNow_76 : decode cX8_minuteNow 76 = .ok (.goto 4, 3) := by decide +kernel
theorem dX8_minuteNow_79 : decode cX8_minuteNow 79 = .ok (.iconst 0, 1) := by decide +kernel
theorem dX8_minuteNow_80 : decode cX8_minuteNow 80 = .ok (.istore_n 2, 1) := by decide +kernel
theorem dX8_minuteNow_81 : decode cX8_minuteNow 81 = .ok (.aload_n 0, 1) := by decide +kernel
theorem dX8_minuteNow_82 : decode cX8_minuteNow 82 = .ok (.getfield 74, 3) := by decide +kernel
theorem dX8_minuteNow_85 : decode cX8_minuteNow 85 = .ok (.iload_n 1, 1) := by decide +kernel
theorem dX8_minuteNow_86 : decode cX8_minuteNow 86 = .ok (.iload_n 2, 1) := by decide +kernel
theorem dX8_minuteNow_87 : decode cX8_minuteNow 87 = .ok (.ifCond .eq 7, 3) := by decide +kernel
theorem dX8_minuteNow_90 : decode cX8_minuteNow 90 = .ok (.iconst 0, 1) := by decide +kernel
theorem dX8_minuteNow_91 : decode cX8_minuteNow 91 = .ok (.goto 4, 3) := by decide +kernel
theorem dX8_minuteNow_94 : decode cX8_minuteNow 94 = .ok (.iconst 1, 1) := by decide +kernel
theorem dX8_minuteNow_95 : decode cX8_minuteNow 95 = .ok (.iastore, 1) := by decide +kernel
theorem dX8_minuteNow_96 : decode cX8_minuteNow 96 = .ok (.iload_n 2, 1) := by decide +kernel
theorem dX8_minuteNow_97 : decode cX8_minuteNow 97 = .ok (.ifCond .eq 8, 3) := by decide +kernel
theorem dX8_minuteNow_100 : decode cX8_minuteNow 100 = .ok (.aload_n 0, 1) := by decide +kernel
theorem dX8_minuteNow_101 : decode cX8_minuteNow 101 = .ok (.iload_n 1, 1) := by decide +kernel
theorem dX8_minuteNow_102 : decode cX8_minuteNow 102 = .ok (.invokevirtual 364, 3) := by decide +kernel
theorem dX8_minuteNow_105 : decode cX8_minuteNow 105 = .ok (.iinc 1 1, 3) := by decide +kernel
theorem dX8_minuteNow_108 : decode cX8_minuteNow 108 = .ok (.goto (-96), 3) := by decide +kernel
theorem dX8_minuteNow_111 : decode cX8_minuteNow 111 = .ok (.return_, 1) := by decide +kernel
theorem dX8_pass_0 : decode cX8_pass 0 = .ok (.iload_n 1, 1) := by decide +kernel
theorem dX8_pass_1 : decode cX8_pass 1 = .ok (.i2l, 1) := by decide +kernel
theorem dX8_pass_2 : decode cX8_pass 2 = .ok (.lconst 1, 1) := by decide +kernel
theorem dX8_pass_3 : decode cX8_pass 3 = .ok (.ldc2_w 368, 3) := by decide +kernel
theorem dX8_pass_6 : decode cX8_pass 6 = .ok (.invokestatic 180, 3) := by decide +kernel
theorem dX8_pass_9 : decode cX8_pass 9 = .ok (.ifCond .ne 6, 3) := by decide +kernel
theorem dX8_pass_12 : decode cX8_pass 12 = .ok (.ldc 204, 2) := by decide +kernel
theorem dX8_pass_14 : decode cX8_pass 14 = .ok (.ireturn, 1) := by decide +kernel
theorem dX8_pass_15 : decode cX8_pass 15 = .ok (.iconst 0, 1) := by decide +kernel
theorem dX8_pass_16 : decode cX8_pass 16 = .ok (.istore_n 2, 1) := by decide +kernel
theorem dX8_pass_17 : decode cX8_pass 17 = .ok (.iload_n 2, 1) := by decide +kernel
theorem dX8_pass_18 : decode cX8_pass 18 = .ok (.iload_n 1, 1) := by decide +kernel
theorem dX8_pass_19 : decode cX8_pass 19 = .ok (.if_icmp .ge 13, 3) := by decide +kernel
theorem dX8_pass_22 : decode cX8_pass 22 = .ok (.aload_n 0, 1) := by decide +kernel
theorem dX8_pass_23 : decode cX8_pass 23 = .ok (.invokevirtual 370, 3) := by decide +kernel
theorem dX8_pass_26 : decode cX8_pass 26 = .ok (.iinc 2 1, 3) := by decide +kernel
theorem dX8_pass_29 : decode cX8_pass 29 = .ok (.goto (-12), 3) := by decide +kernel
theorem dX8_pass_32 : decode cX8_pass 32 = .ok (.aload_n 0, 1) := by decide +kernel
theorem dX8_pass_33 : decode cX8_pass 33 = .ok (.invokevirtual 306, 3) := by decide +kernel
theorem dX8_pass_36 : decode cX8_pass 36 = .ok (.ireturn, 1) := by decide +kernel
theorem dX8_cut_0 : decode cX8_cut 0 = .ok (.aload_n 0, 1) := by decide +kernel
theorem dX8_cut_1 : decode cX8_cut 1 = .ok (.iload_n 1, 1) := by decide +kernel
theorem dX8_cut_2 : decode cX8_cut 2 = .ok (.invokevirtual 324, 3) := by decide +kernel
theorem dX8_cut_5 : decode cX8_cut 5 = .ok (.ifCond .ne 7, 3) := by decide +kernel
theorem dX8_cut_8 : decode cX8_cut 8 = .ok (.ldc_w 316, 3) := by decide +kernel
theorem dX8_cut_11 : decode cX8_cut 11 = .ok (.ireturn, 1) := by decide +kernel
theorem dX8_cut_12 : decode cX8_cut 12 = .ok (.aload_n 0, 1) := by decide +kernel
theorem dX8_cut_13 : decode cX8_cut 13 = .ok (.getfield 62, 3) := by decide +kernel
theorem dX8_cut_16 : decode cX8_cut 16 = .ok (.iload_n 1, 1) := by decide +kernel
theorem dX8_cut_17 : decode cX8_cut 17 = .ok (.baload, 1) := by decide +kernel
theorem dX8_cut_18 : decode cX8_cut 18 = .ok (.ifCond .ne 11, 3) := by decide +kernel
theorem dX8_cut_21 : decode cX8_cut 21 = .ok (.aload_n 0, 1) := by decide +kernel
theorem dX8_cut_22 : decode cX8_cut 22 = .ok (.iload_n 1, 1) := by decide +kernel
theorem dX8_cut_23 : decode cX8_cut 23 = .ok (.invokevirtual 327, 3) := by decide +kernel
theorem dX8_cut_26 : decode cX8_cut 26 = .ok (.ifCond .lt 7, 3) := by decide +kernel
theorem dX8_cut_29 : decode cX8_cut 29 = .ok (.ldc_w 356, 3) := by decide +kernel
theorem dX8_cut_32 : decode cX8_cut 32 = .ok (.ireturn, 1) := by decide +kernel
theorem dX8_cut_33 : decode cX8_cut 33 = .ok (.aload_n 0, 1) := by decide +kernel
theorem dX8_cut_34 : decode cX8_cut 34 = .ok (.getfield 62, 3) := by decide +kernel
theorem dX8_cut_37 : decode cX8_cut 37 = .ok (.iload_n 1, 1) := by decide +kernel
theorem dX8_cut_38 : decode cX8_cut 38 = .ok (.iconst 1, 1) := by decide +kernel
theorem dX8_cut_39 : decode cX8_cut 39 = .ok (.bastore, 1) := by decide +kernel
theorem dX8_cut_40 : decode cX8_cut 40 = .ok (.iconst 1, 1) := by decide +kernel
theorem dX8_cut_41 : decode cX8_cut 41 = .ok (.ireturn, 1) := by decide +kernel
theorem dX8_splice_0 : decode cX8_splice 0 = .ok (.aload_n 0, 1) := by decide +kernel
theorem dX8_splice_1 : decode cX8_splice 1 = .ok (.iload_n 1, 1) := by decide +kernel
theorem dX8_splice_2 : decode cX8_splice 2 = .ok (.invokevirtual 324, 3) := by decide +kernel
theorem dX8_splice_5 : decode cX8_splice 5 = .ok (.ifCond .ne 7, 3) := by decide +kernel
theorem dX8_splice_8 : decode cX8_splice 8 = .ok (.ldc_w 316, 3) := by decide +kernel
theorem dX8_splice_11 : decode cX8_splice 11 = .ok (.ireturn, 1) := by decide +kernel
theorem dX8_splice_12 : decode cX8_splice 12 = .ok (.aload_n 0, 1) := by decide +kernel
theorem dX8_splice_13 : decode cX8_splice 13 = .ok (.getfield 62, 3) := by decide +kernel
theorem dX8_splice_16 : decode cX8_splice 16 = .ok (.iload_n 1, 1) := by decide +kernel
theorem dX8_splice_17 : decode cX8_splice 17 = .ok (.baload, 1) := by decide +kernel
theorem dX8_splice_18 : decode cX8_splice 18 = .ok (.ifCond .ne 7, 3) := by decide +kernel
theorem dX8_splice_21 : decode cX8_splice 21 = .ok (.ldc_w 356, 3) := by decide +kernel
theorem dX8_splice_24 : decode cX8_splice 24 = .ok (.ireturn, 1) := by decide +kernel
theorem dX8_splice_25 : decode cX8_splice 25 = .ok (.aload_n 0, 1) := by decide +kernel
theorem dX8_splice_26 : decode cX8_splice 26 = .ok (.getfield 62, 3) := by decide +kernel
theorem dX8_splice_29 : decode cX8_splice 29 = .ok (.iload_n 1, 1) := by decide +kernel
theorem dX8_splice_30 : decode cX8_splice 30 = .ok (.iconst 0, 1) := by decide +kernel
theorem dX8_splice_31 : decode cX8_splice 31 = .ok (.bastore, 1) := by decide +kernel
theorem dX8_splice_32 : decode cX8_splice 32 = .ok (.aload_n 0, 1) := by decide +kernel
theorem dX8_splice_33 : decode cX8_splice 33 = .ok (.getfield 55, 3) := by decide +kernel
theorem dX8_splice_36 : decode cX8_splice 36 = .ok (.iload_n 1, 1) := by decide +kernel
theorem dX8_splice_37 : decode cX8_splice 37 = .ok (.iconst 0, 1) := by decide +kernel
theorem dX8_splice_38 : decode cX8_splice 38 = .ok (.iastore, 1) := by decide +kernel
theorem dX8_splice_39 : decode cX8_splice 39 = .ok (.iconst 1, 1) := by decide +kernel
theorem dX8_splice_40 : decode cX8_splice 40 = .ok (.ireturn, 1) := by decide +kernel
theorem dX8_wet_0 : decode cX8_wet 0 = .ok (.aload_n 0, 1) := by decide +kernel
theorem dX8_wet_1 : decode cX8_wet 1 = .ok (.iload_n 1, 1) := by decide +kernel
theorem dX8_wet_2 : decode cX8_wet 2 = .ok (.invokevirtual 324, 3) := by decide +kernel
theorem dX8_wet_5 : decode cX8_wet 5 = .ok (.ifCond .ne 7, 3) := by decide +kernel
theorem dX8_wet_8 : decode cX8_wet 8 = .ok (.ldc_w 316, 3) := by decide +kernel
theorem dX8_wet_11 : decode cX8_wet 11 = .ok (.ireturn, 1) := by decide +kernel
theorem dX8_wet_12 : decode cX8_wet 12 = .ok (.aload_n 0, 1) := by decide +kernel
theorem dX8_wet_13 : decode cX8_wet 13 = .ok (.getfield 58, 3) := by decide +kernel
theorem dX8_wet_16 : decode cX8_wet 16 = .ok (.iload_n 1, 1) := by decide +kernel
theorem dX8_wet_17 : decode cX8_wet 17 = .ok (.baload, 1) := by decide +kernel
theorem dX8_wet_18 : decode cX8_wet 18 = .ok (.ifCond .eq 7, 3) := by decide +kernel
theorem dX8_wet_21 : decode cX8_wet 21 = .ok (.iconst 1, 1) := by decide +kernel
theorem dX8_wet_22 : decode cX8_wet 22 = .ok (.goto 4, 3) := by decide +kernel
theorem dX8_wet_25 : decode cX8_wet 25 = .ok (.iconst 0, 1) := by decide +kernel
theorem dX8_wet_26 : decode cX8_wet 26 = .ok (.istore_n 3, 1) := by decide +kernel
theorem dX8_wet_27 : decode cX8_wet 27 = .ok (.aload_n 0, 1) := by decide +kernel
theorem dX8_wet_28 : decode cX8_wet 28 = .ok (.getfield 58, 3) := by decide +kernel
theorem dX8_wet_31 : decode cX8_wet 31 = .ok (.iload_n 1, 1) := by decide +kernel
theorem dX8_wet_32 : decode cX8_wet 32 = .ok (.iload_n 2, 1) := by decide +kernel
theorem dX8_wet_33 : decode cX8_wet 33 = .ok (.bastore, 1) := by decide +kernel
theorem dX8_wet_34 : decode cX8_wet 34 = .ok (.iload_n 3, 1) := by decide +kernel
theorem dX8_wet_35 : decode cX8_wet 35 = .ok (.ireturn, 1) := by decide +kernel
theorem dX8_draw_0 : decode cX8_draw 0 = .ok (.aload_n 0, 1) := by decide +kernel
theorem dX8_draw_1 : decode cX8_draw 1 = .ok (.aload_n 0, 1) := by decide +kernel
theorem dX8_draw_2 : decode cX8_draw 2 = .ok (.getfield 373, 3) := by decide +kernel
theorem dX8_draw_5 : decode cX8_draw 5 = .ok (.i2l, 1) := by decide +kernel
theorem dX8_draw_6 : decode cX8_draw 6 = .ok (.ldc2_w 376, 3) := by decide +kernel
theorem dX8_draw_9 : decode cX8_draw 9 = .ok (.lmul, 1) := by decide +kernel
theorem dX8_draw_10 : decode cX8_draw 10 = .ok (.ldc2_w 378, 3) := by decide +kernel
theorem dX8_draw_13 : decode cX8_draw 13 = .ok (.ladd, 1) := by decide +kernel
theorem dX8_draw_14 : decode cX8_draw 14 = .ok (.ldc2_w 380, 3) := by decide +kernel
theorem dX8_draw_17 : decode cX8_draw 17 = .ok (.lrem, 1) := by decide +kernel
theorem dX8_draw_18 : decode cX8_draw 18 = .ok (.l2i, 1) := by decide +kernel
theorem dX8_draw_19 : decode cX8_draw 19 = .ok (.putfield 373, 3) := by decide +kernel
theorem dX8_draw_22 : decode cX8_draw 22 = .ok (.aload_n 0, 1) := by decide +kernel
theorem dX8_draw_23 : decode cX8_draw 23 = .ok (.getfield 373, 3) := by decide +kernel
theorem dX8_draw_26 : decode cX8_draw 26 = .ok (.ldc_w 382, 3) := by decide +kernel
theorem dX8_draw_29 : decode cX8_draw 29 = .ok (.idiv, 1) := by decide +kernel
theorem dX8_draw_30 : decode cX8_draw 30 = .ok (.iload_n 1, 1) := by decide +kernel
theorem dX8_draw_31 : decode cX8_draw 31 = .ok (.irem, 1) := by decide +kernel
theorem dX8_draw_32 : decode cX8_draw 32 = .ok (.ireturn, 1) := by decide +kernel
theorem dX8_storm_0 : decode cX8_storm 0 = .ok (.iload_n 1, 1) := by decide +kernel
theorem dX8_storm_1 : decode cX8_storm 1 = .ok (.i2l, 1) := by decide +kernel
theorem dX8_storm_2 : decode cX8_storm 2 = .ok (.lconst 0, 1) := by decide +kernel
theorem dX8_storm_3 : decode cX8_storm 3 = .ok (.ldc2_w 383, 3) := by decide +kernel
theorem dX8_storm_6 : decode cX8_storm 6 = .ok (.invokestatic 180, 3) := by decide +kernel
theorem dX8_storm_9 : decode cX8_storm 9 = .ok (.ifCond .ne 6, 3) := by decide +kernel
theorem dX8_storm_12 : decode cX8_storm 12 = .ok (.ldc 204, 2) := by decide +kernel
theorem dX8_storm_14 : decode cX8_storm 14 = .ok (.ireturn, 1) := by decide +kernel
theorem dX8_storm_15 : decode cX8_storm 15 = .ok (.iconst 0, 1) := by decide +kernel
theorem dX8_storm_16 : decode cX8_storm 16 = .ok (.istore_n 2, 1) := by decide +kernel
theorem dX8_storm_17 : decode cX8_storm 17 = .ok (.iconst 0, 1) := by decide +kernel
theorem dX8_storm_18 : decode cX8_storm 18 = .ok (.istore_n 3, 1) := by decide +kernel
theorem dX8_storm_19 : decode cX8_storm 19 = .ok (.iload_n 3, 1) := by decide +kernel
theorem dX8_storm_20 : decode cX8_storm 20 = .ok (.aload_n 0, 1) := by decide +kernel
theorem dX8_storm_21 : decode cX8_storm 21 = .ok (.getfield 184, 3) := by decide +kernel
theorem dX8_storm_24 : decode cX8_storm 24 = .ok (.if_icmp .ge 92, 3) := by decide +kernel
theorem dX8_storm_27 : decode cX8_storm 27 = .ok (.aload_n 0, 1) := by decide +kernel
theorem dX8_storm_28 : decode cX8_storm 28 = .ok (.getfield 62, 3) := by decide +kernel
theorem dX8_storm_31 : decode cX8_storm 31 = .ok (.iload_n 3, 1) := by decide +kernel
