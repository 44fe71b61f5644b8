theorem law_loop {L : Nat} {xs : Nat → Int32} (hL : L ≤ 3584) : ∀ (f N : Nat) (σ : Mem), L ≤ 7 * N + f → 7 * N ≤ L → Sim N σ → EvX (Scr L xs) RL cL_law 4 13 304 (fun v _ => v = some (.int (iI 1))) 18 [some (.ref 3000), some (.ref 0), some (.ref 79), some (.int (iI ((7 * N : Nat) : Int)))] [] σ := by
  intro f
  induction f with
  | zero =>
    intro N σ hf h7 hS
    refine ex_w (fun hR => ?_)
    refine ex_iload_n dL_law_18 rfl ?_
    refine ex_aload_n dL_law_19 rfl ?_
    refine ex_slen dL_law_20 ?_
    refine ex_bipush dL_law_21 (by decide) ?_
    refine ex_isub dL_law_23 ?_
    refine ex_icmp_gt (tgt := 1129) dL_law_24 (by decide) ⟨by omega, by omega⟩ ⟨by omega, by omega⟩ (fun h_24 => ?_) (fun h_24 => ?_)
    · refine ex_iconst dL_law_1129 ?_
      exact ex_ireturn dL_law_1130 rfl
    · exfalso; omega
  | succ f ih =>
    intro N σ hf h7 hS
    refine ex_w (fun hR => ?_)
    refine ex_iload_n dL_law_18 rfl ?_
    refine ex_aload_n dL_law_19 rfl ?_
    refine ex_slen dL_law_20 ?_
    refine ex_bipush dL_law_21 (by decide) ?_
    refine ex_isub dL_law_23 ?_
    refine ex_icmp_gt (tgt := 1129) dL_law_24 (by decide) ⟨by omega, by omega⟩ ⟨by omega, by omega⟩ (fun h_24 => ?_) (fun h_24 => ?_)
    · refine ex_iconst dL_law_1129 ?_
      exact ex_ireturn dL_law_1130 rfl
    · have nxt : ∀ ν, Sim (N + 1) ν → EvX (Scr L xs) RL cL_law 4 13 304 (fun v _ => v = some (.int (iI 1))) 1123 [some (.ref 3000), some (.ref 0), some (.ref 79), some (.int (iI ((7 * N : Nat) : Int)))] [] ν := by
        intro ν hν
        refine ex_w (fun hR => ?_)
        refine ex_iinc dL_law_1123 rfl rfl (by decide) rfl ?_
        refine ex_goto (tgt := 18) dL_law_1126 (by decide) ?_
        have q := ih (N + 1) ν (by omega) (by omega) hν
        rw [show ((7 * (N + 1) : Nat) : Int) = ((7 * N : Nat) : Int) + 7 by omega] at q
        exact q
      refine ex_aload_n dL_law_27 rfl ?_
      refine ex_iload_n dL_law_28 rfl ?_
      refine ex_sld (k := 7 * N) dL_law_29 (by omega) (by omega) ?_
      refine ex_bipush dL_law_30 (by decide) ?_
      refine ex_iand dL_law_32 ?_
      have hz := band_R (xs (7 * N)).toInt 31
      generalize band (xs (7 * N)).toInt 31 = z9 at hz
      by_cases hout : z9 < 0 ∨ 30 < z9
      · exact ex_tableOut (tgt := 1123) dL_law_33 hz hout (by decide) (nxt σ hS.succ)
      have h31 : z9 = 0 ∨ z9 = 1 ∨ z9 = 2 ∨ z9 = 3 ∨ z9 = 4 ∨ z9 = 5 ∨ z9 = 6 ∨ z9 = 7 ∨ z9 = 8 ∨ z9 = 9 ∨ z9 = 10 ∨ z9 = 11 ∨ z9 = 12 ∨ z9 = 13 ∨ z9 = 14 ∨ z9 = 15 ∨ z9 = 16 ∨ z9 = 17 ∨ z9 = 18 ∨ z9 = 19 ∨ z9 = 20 ∨ z9 = 21 ∨ z9 = 22 ∨ z9 = 23 ∨ z9 = 24 ∨ z9 = 25 ∨ z9 = 26 ∨ z9 = 27 ∨ z9 = 28 ∨ z9 = 29 ∨ z9 = 30 := by omega
      rcases h31 with rfl | rfl | rfl | rfl | rfl | rfl | rfl | rfl | rfl | rfl | rfl | rfl | rfl | rfl | rfl | rfl | rfl | rfl | rfl | rfl | rfl | rfl | rfl | rfl | rfl | rfl | rfl | rfl | rfl | rfl | rfl
      · refine ex_tableIn (off := 139) (tgt := 172) dL_law_33 hz (by decide) (by decide) rfl (by decide) ?_
        refine ex_aload_n dL_law_172 rfl ?_
        refine ex_aload_n dL_law_173 rfl ?_
        refine ex_iload_n dL_law_174 rfl ?_
        refine ex_iconst dL_law_175 ?_
        refine ex_iadd dL_law_176 ?_
        refine ex_sld (k := 7 * N + 1) dL_law_177 (by omega) (by omega) ?_
        refine ex_aload_n dL_law_178 rfl ?_
        refine ex_iload_n dL_law_179 rfl ?_
        refine ex_iconst dL_law_180 ?_
        refine ex_iadd dL_law_181 ?_
        refine ex_sld (k := 7 * N + 2) dL_law_182 (by omega) (by omega) ?_
        refine ex_i2l dL_law_183 (inR_of _) ?_
        refine ex_bipush dL_law_184 (by decide) ?_
        refine ex_lshl dL_law_186 rfl ?_
        refine ex_aload_n dL_law_187 rfl ?_
        refine ex_iload_n dL_law_188 rfl ?_
        refine ex_iconst dL_law_189 ?_
        refine ex_iadd dL_law_190 ?_
        refine ex_sld (k := 7 * N + 3) dL_law_191 (by omega) (by omega) ?_
        refine ex_i2l dL_law_192 (inR_of _) ?_
        refine ex_ldc2 (z := 4294967295) dL_law_193 kl_L_13 (by decide) ?_
        refine ex_land dL_law_196 ?_
        refine ex_lor dL_law_197 ?_
        obtain ⟨Ψ, hA, h1⟩ := s_feed hS ((xs (7 * N + 1)).toInt) (inR_of _) (((lI (xs (7 * N + 2)).toInt) <<< ((iI 32).toInt64 &&& 63)) ||| ((lI (xs (7 * N + 3)).toInt) &&& (lI 4294967295)))
        refine ex_callV (c := 0) (ci := 7) (av := [.int (iI (xs (7 * N + 1)).toInt), .long (((lI (xs (7 * N + 2)).toInt) <<< ((iI 32).toInt64 &&& 63)) ||| ((lI (xs (7 * N + 3)).toInt) &&& (lI 4294967295)))]) (rest := []) dL_law_198 kv_L_15 rfl rfl rfl rfl ⟨by decide, by decide⟩ (Nat.le_of_ble_eq_true rfl) hA (fun v τ hv => ?_)
        obtain ⟨z, rfl, Ψ2, hB, h2⟩ := h1 v τ hv
        refine ex_aload_n dL_law_201 rfl ?_
        refine ex_aload_n dL_law_202 rfl ?_
        refine ex_iload_n dL_law_203 rfl ?_
        refine ex_iconst dL_law_204 ?_
        refine ex_iadd dL_law_205 ?_
        refine ex_sld (k := 7 * N + 1) dL_law_206 (by omega) (by omega) ?_
        refine ex_aload_n dL_law_207 rfl ?_
        refine ex_iload_n dL_law_208 rfl ?_
        refine ex_iconst dL_law_209 ?_
        refine ex_iadd dL_law_210 ?_
        refine ex_sld (k := 7 * N + 2) dL_law_211 (by omega) (by omega) ?_
        refine ex_i2l dL_law_212 (inR_of _) ?_
        refine ex_bipush dL_law_213 (by decide) ?_
        refine ex_lshl dL_law_215 rfl ?_
        refine ex_aload_n dL_law_216 rfl ?_
        refine ex_iload_n dL_law_217 rfl ?_
        refine ex_iconst dL_law_218 ?_
        refine ex_iadd dL_law_219 ?_
        refine ex_sld (k := 7 * N + 3) dL_law_220 (by omega) (by omega) ?_
        refine ex_i2l dL_law_221 (inR_of _) ?_
        refine ex_ldc2 (z := 4294967295) dL_law_222 kl_L_13 (by decide) ?_
        refine ex_land dL_law_225 ?_
        refine ex_lor dL_law_226 ?_
        refine ex_callV (c := 79) (ci := 8) (av := [.int (iI (xs (7 * N + 1)).toInt), .long (((lI (xs (7 * N + 2)).toInt) <<< ((iI 32).toInt64 &&& 63)) ||| ((lI (xs (7 * N + 3)).toInt) &&& (lI 4294967295)))]) (rest := [.int (iI z)]) dL_law_227 kv_L_19 rfl rfl rfl rfl ⟨by decide, by decide⟩ (Nat.le_of_ble_eq_true rfl) hB (fun v2 ν hv2 => ?_)
        obtain ⟨rfl, hS2⟩ := h2 v2 ν hv2
        exact ex_same (x := iI z) (tgt := 1123) dL_law_230 (by decide) (nxt ν hS2)
      · refine ex_tableIn (off := 202) (tgt := 235) dL_law_33 hz (by decide) (by decide) rfl (by decide) ?_
        refine ex_aload_n dL_law_235 rfl ?_
        obtain ⟨Ψ, hA, h1⟩ := s_town hS  
        refine ex_callV (c := 0) (ci := 7) (av := []) (rest := []) dL_law_236 kv_L_20 rfl rfl rfl rfl ⟨by decide, by decide⟩ (Nat.le_of_ble_eq_true rfl) hA (fun v τ hv => ?_)
        obtain ⟨z, rfl, Ψ2, hB, h2⟩ := h1 v τ hv
        refine ex_aload_n dL_law_239 rfl ?_
        refine ex_callV (c := 79) (ci := 8) (av := []) (rest := [.int (iI z)]) dL_law_240 kv_L_24 rfl rfl rfl rfl ⟨by decide, by decide⟩ (Nat.le_of_ble_eq_true rfl) hB (fun v2 ν hv2 => ?_)
        obtain ⟨rfl, hS2⟩ := h2 v2 ν hv2
        exact ex_same (x := iI z) (tgt := 1123) dL_law_243 (by decide) (nxt ν hS2)
      · refine ex_tableIn (off := 215) (tgt := 248) dL_law_33 hz (by decide) (by decide) rfl (by decide) ?_
        refine ex_aload_n dL_law_248 rfl ?_
        obtain ⟨Ψ, hA, h1⟩ := s_fault hS  
        refine ex_callV (c := 0) (ci := 7) (av := []) (rest := []) dL_law_249 kv_L_25 rfl rfl rfl rfl ⟨by decide, by decide⟩ (Nat.le_of_ble_eq_true rfl) hA (fun v τ hv => ?_)
        obtain ⟨z, rfl, Ψ2, hB, h2⟩ := h1 v τ hv
        refine ex_aload_n dL_law_252 rfl ?_
        refine ex_callV (c := 79) (ci := 8) (av := []) (rest := [.int (iI z)]) dL_law_253 kv_L_28 rfl rfl rfl rfl ⟨by decide, by decide⟩ (Nat.le_of_ble_eq_true rfl) hB (fun v2 ν hv2 => ?_)
        obtain ⟨rfl, hS2⟩ := h2 v2 ν hv2
        exact ex_same (x := iI z) (tgt := 1123) dL_law_256 (by decide) (nxt ν hS2)
      · refine ex_tableIn (off := 228) (tgt := 261) dL_law_33 hz (by decide) (by decide) rfl (by decide) ?_
        refine ex_aload_n dL_law_261 rfl ?_
        refine ex_aload_n dL_law_262 rfl ?_
        refine ex_iload_n dL_law_263 rfl ?_
        refine ex_iconst dL_law_264 ?_
        refine ex_iadd dL_law_265 ?_
        refine ex_sld (k := 7 * N + 1) dL_law_266 (by omega) (by omega) ?_
        obtain ⟨Ψ, hA, h1⟩ := s_told hS ((xs (7 * N + 1)).toInt) (inR_of _)
        refine ex_callV (c := 0) (ci := 7) (av := [.int (iI (xs (7 * N + 1)).toInt)]) (rest := []) dL_law_267 kv_L_29 rfl rfl rfl rfl ⟨by decide, by decide⟩ (Nat.le_of_ble_eq_true rfl) hA (fun v τ hv => ?_)
        obtain ⟨z, rfl, Ψ2, hB, h2⟩ := h1 v τ hv
        refine ex_aload_n dL_law_270 rfl ?_
        refine ex_aload_n dL_law_271 rfl ?_
        refine ex_iload_n dL_law_272 rfl ?_
        refine ex_iconst dL_law_273 ?_
        refine ex_iadd dL_law_274 ?_
        refine ex_sld (k := 7 * N + 1) dL_law_275 (by omega) (by omega) ?_
        refine ex_callV (c := 79) (ci := 8) (av := [.int (iI (xs (7 * N + 1)).toInt)]) (rest := [.int (iI z)]) dL_law_276 kv_L_33 rfl rfl rfl rfl ⟨by decide, by decide⟩ (Nat.le_of_ble_eq_true rfl) hB (fun v2 ν hv2 => ?_)
        obtain ⟨rfl, hS2⟩ := h2 v2 ν hv2
        exact ex_same (x := iI z) (tgt := 1123) dL_law_279 (by decide) (nxt ν hS2)
      · refine ex_tableIn (off := 251) (tgt := 284) dL_law_33 hz (by decide) (by decide) rfl (by decide) ?_
        refine ex_aload_n dL_law_284 rfl ?_
        refine ex_aload_n dL_law_285 rfl ?_
        refine ex_iload_n dL_law_286 rfl ?_
        refine ex_iconst dL_law_287 ?_
        refine ex_iadd dL_law_288 ?_
        refine ex_sld (k := 7 * N + 1) dL_law_289 (by omega) (by omega) ?_
        refine ex_aload_n dL_law_290 rfl ?_
        refine ex_iload_n dL_law_291 rfl ?_
        refine ex_iconst dL_law_292 ?_
        refine ex_iadd dL_law_293 ?_
        refine ex_sld (k := 7 * N + 2) dL_law_294 (by omega) (by omega) ?_
        obtain ⟨Ψ, hA, h1⟩ := s_pole hS ((xs (7 * N + 1)).toInt) ((xs (7 * N + 2)).toInt) (inR_of _) (inR_of _)
        refine ex_callV (c := 0) (ci := 7) (av := [.int (iI (xs (7 * N + 1)).toInt), .int (iI (xs (7 * N + 2)).toInt)]) (rest := []) dL_law_295 kv_L_34 rfl rfl rfl rfl ⟨by decide, by decide⟩ (Nat.le_of_ble_eq_true rfl) hA (fun v τ hv => ?_)
        obtain ⟨z, rfl, Ψ2, hB, h2⟩ := h1 v τ hv
        refine ex_aload_n dL_law_298 rfl ?_
        refine ex_aload_n dL_law_299 rfl ?_
        refine ex_iload_n dL_law_300 rfl ?_
        refine ex_iconst dL_law_301 ?_
        refine ex_iadd dL_law_302 ?_
        refine ex_sld (k := 7 * N + 1) dL_law_303 (by omega) (by omega) ?_
        refine ex_aload_n dL_law_304 rfl ?_
        refine ex_iload_n dL_law_305 rfl ?_
        refine ex_iconst dL_law_306 ?_
        refine ex_iadd dL_law_307 ?_
        refine ex_sld (k := 7 * N + 2) dL_law_308 (by omega) (by omega) ?_
        refine ex_callV (c := 79) (ci := 8) (av := [.int (iI (xs (7 * N + 1)).toInt), .int (iI (xs (7 * N + 2)).toInt)]) (rest := [.int (iI z)]) dL_law_309 kv_L_38 rfl rfl rfl rfl ⟨by decide, by decide⟩ (Nat.le_of_ble_eq_true rfl) hB (fun v2 ν hv2 => ?_)
        obtain ⟨rfl, hS2⟩ := h2 v2 ν hv2
        exact ex_same (x := iI z) (tgt := 1123) dL_law_312 (by decide) (nxt ν hS2)
      · refine ex_tableIn (off := 284) (tgt := 317) dL_law_33 hz (by decide) (by decide) rfl (by decide) ?_
        refine ex_aload_n dL_law_317 rfl ?_
        refine ex_aload_n dL_law_318 rfl ?_
        refine ex_iload_n dL_law_319 rfl ?_
        refine ex_iconst dL_law_320 ?_
        refine ex_iadd dL_law_321 ?_
        refine ex_sld (k := 7 * N + 1) dL_law_322 (by omega) (by omega) ?_
        refine ex_aload_n dL_law_323 rfl ?_
        refine ex_iload_n dL_law_324 rfl ?_
        refine ex_iconst dL_law_325 ?_
        refine ex_iadd dL_law_326 ?_
        refine ex_sld (k := 7 * N + 2) dL_law_327 (by omega) (by omega) ?_
        obtain ⟨Ψ, hA, h1⟩ := s_rope hS ((xs (7 * N + 1)).toInt) ((xs (7 * N + 2)).toInt) (inR_of _) (inR_of _)
        refine ex_callV (c := 0) (ci := 7) (av := [.int (iI (xs (7 * N + 1)).toInt), .int (iI (xs (7 * N + 2)).toInt)]) (rest := []) dL_law_328 kv_L_39 rfl rfl rfl rfl ⟨by decide, by decide⟩ (Nat.le_of_ble_eq_true rfl) hA (fun v τ hv => ?_)
        obtain ⟨z, rfl, Ψ2, hB, h2⟩ := h1 v τ hv
        refine ex_aload_n dL_law_331 rfl ?_
        refine ex_aload_n dL_law_332 rfl ?_
        refine ex_iload_n dL_law_333 rfl ?_
        refine ex_iconst dL_law_334 ?_
        refine ex_iadd dL_law_335 ?_
        refine ex_sld (k := 7 * N + 1) dL_law_336 (by omega) (by omega) ?_
        refine ex_aload_n dL_law_337 rfl ?_
        refine ex_iload_n dL_law_338 rfl ?_
        refine ex_iconst dL_law_339 ?_
        refine ex_iadd dL_law_340 ?_
        refine ex_sld (k := 7 * N + 2) dL_law_341 (by omega) (by omega) ?_
        refine ex_callV (c := 79) (ci := 8) (av := [.int (iI (xs (7 * N + 1)).toInt), .int (iI (xs (7 * N + 2)).toInt)]) (rest := [.int (iI z)]) dL_law_342 kv_L_42 rfl rfl rfl rfl ⟨by decide, by decide⟩ (Nat.le_of_ble_eq_true rfl) hB (fun v2 ν hv2 => ?_)
        obtain ⟨rfl, hS2⟩ := h2 v2 ν hv2
        exact ex_same (x := iI z) (tgt := 1123) dL_law_345 (by decide) (nxt ν hS2)
      · refine ex_tableIn (off := 317) (tgt := 350) dL_law_33 hz (by decide) (by decide) rfl (by decide) ?_
        refine ex_aload_n dL_law_350 rfl ?_
        refine ex_aload_n dL_law_351 rfl ?_
        refine ex_iload_n dL_law_352 rfl ?_
        refine ex_iconst dL_law_353 ?_
        refine ex_iadd dL_law_354 ?_
        refine ex_sld (k := 7 * N + 1) dL_law_355 (by omega) (by omega) ?_
        refine ex_aload_n dL_law_356 rfl ?_
        refine ex_iload_n dL_law_357 rfl ?_
        refine ex_iconst dL_law_358 ?_
        refine ex_iadd dL_law_359 ?_
        refine ex_sld (k := 7 * N + 2) dL_law_360 (by omega) (by omega) ?_
        obtain ⟨Ψ, hA, h1⟩ := s_boy hS ((xs (7 * N + 1)).toInt) ((xs (7 * N + 2)).toInt) (inR_of _) (inR_of _)
        refine ex_callV (c := 0) (ci := 7) (av := [.int (iI (xs (7 * N + 1)).toInt), .int (iI (xs (7 * N + 2)).toInt)]) (rest := []) dL_law_361 kv_L_43 rfl rfl rfl rfl ⟨by decide, by decide⟩ (Nat.le_of_ble_eq_true rfl) hA (fun v τ hv => ?_)
        obtain ⟨z, rfl, Ψ2, hB, h2⟩ := h1 v τ hv
        refine ex_aload_n dL_law_364 rfl ?_
        refine ex_aload_n dL_law_365 rfl ?_
        refine ex_iload_n dL_law_366 rfl ?_
        refine ex_iconst dL_law_367 ?_
        refine ex_iadd dL_law_368 ?_
        refine ex_sld (k := 7 * N + 1) dL_law_369 (by omega) (by omega) ?_
        refine ex_aload_n dL_law_370 rfl ?_
        refine ex_iload_n dL_law_371 rfl ?_
        refine ex_iconst dL_law_372 ?_
        refine ex_iadd dL_law_373 ?_
        refine ex_sld (k := 7 * N + 2) dL_law_374 (by omega) (by omega) ?_
        refine ex_callV (c := 79) (ci := 8) (av := [.int (iI (xs (7 * N + 1)).toInt), .int (iI (xs (7 * N + 2)).toInt)]) (rest := [.int (iI z)]) dL_law_375 kv_L_46 rfl rfl rfl rfl ⟨by decide, by decide⟩ (Nat.le_of_ble_eq_true rfl) hB (fun v2 ν hv2 => ?_)
        obtain ⟨rfl, hS2⟩ := h2 v2 ν hv2
        exact ex_same (x := iI z) (tgt := 1123) dL_law_378 (by decide) (nxt ν hS2)
      · refine ex_tableIn (off := 350) (tgt := 383) dL_law_33 hz (by decide) (by decide) rfl (by decide) ?_
        refine ex_aload_n dL_law_383 rfl ?_
        refine ex_aload_n dL_law_384 rfl ?_
        refine ex_iload_n dL_law_385 rfl ?_
        refine ex_iconst dL_law_386 ?_
        refine ex_iadd dL_law_387 ?_
        refine ex_sld (k := 7 * N + 1) dL_law_388 (by omega) (by omega) ?_
        refine ex_aload_n dL_law_389 rfl ?_
        refine ex_iload_n dL_law_390 rfl ?_
        refine ex_iconst dL_law_391 ?_
        refine ex_iadd dL_law_392 ?_
        refine ex_sld (k := 7 * N + 2) dL_law_393 (by omega) (by omega) ?_
        obtain ⟨Ψ, hA, h1⟩ := s_load hS ((xs (7 * N + 1)).toInt) ((xs (7 * N + 2)).toInt) (inR_of _) (inR_of _)
        refine ex_callV (c := 0) (ci := 7) (av := [.int (iI (xs (7 * N + 1)).toInt), .int (iI (xs (7 * N + 2)).toInt)]) (rest := []) dL_law_394 kv_L_47 rfl rfl rfl rfl ⟨by decide, by decide⟩ (Nat.le_of_ble_eq_true rfl) hA (fun v τ hv => ?_)
        obtain ⟨z, rfl, Ψ2, hB, h2⟩ := h1 v τ hv
        refine ex_aload_n dL_law_397 rfl ?_
        refine ex_aload_n dL_law_398 rfl ?_
        refine ex_iload_n dL_law_399 rfl ?_
        refine ex_iconst dL_law_400 ?_
        refine ex_iadd dL_law_401 ?_
        refine ex_sld (k := 7 * N + 1) dL_law_402 (by omega) (by omega) ?_
        refine ex_aload_n dL_law_403 rfl ?_
        refine ex_iload_n dL_law_404 rfl ?_
        refine ex_iconst dL_law_405 ?_
        refine ex_iadd dL_law_406 ?_
        refine ex_sld (k := 7 * N + 2) dL_law_407 (by omega) (by omega) ?_
        refine ex_callV (c := 79) (ci := 8) (av := [.int (iI (xs (7 * N + 1)).toInt), .int (iI (xs (7 * N + 2)).toInt)]) (rest := [.int (iI z)]) dL_law_408 kv_L_50 rfl rfl rfl rfl ⟨by decide, by decide⟩ (Nat.le_of_ble_eq_true rfl) hB (fun v2 ν hv2 => ?_)
        obtain ⟨rfl, hS2⟩ := h2 v2 ν hv2
        exact ex_same (x := iI z) (tgt := 1123) dL_law_411 (by decide) (nxt ν hS2)
      · refine ex_tableIn (off := 383) (tgt := 416) dL_law_33 hz (by decide) (by decide) rfl (by decide) ?_
        refine ex_aload_n dL_law_416 rfl ?_
        refine ex_aload_n dL_law_417 rfl ?_
        refine ex_iload_n dL_law_418 rfl ?_
        refine ex_iconst dL_law_419 ?_
        refine ex_iadd dL_law_420 ?_
        refine ex_sld (k := 7 * N + 1) dL_law_421 (by omega) (by omega) ?_
        refine ex_aload_n dL_law_422 rfl ?_
        refine ex_iload_n dL_law_423 rfl ?_
        refine ex_iconst dL_law_424 ?_
        refine ex_iadd dL_law_425 ?_
        refine ex_sld (k := 7 * N + 2) dL_law_426 (by omega) (by omega) ?_
        obtain ⟨Ψ, hA, h1⟩ := s_go hS ((xs (7 * N + 1)).toInt) ((xs (7 * N + 2)).toInt) (inR_of _) (inR_of _)
        refine ex_callV (c := 0) (ci := 7) (av := [.int (iI (xs (7 * N + 1)).toInt), .int (iI (xs (7 * N + 2)).toInt)]) (rest := []) dL_law_427 kv_L_51 rfl rfl rfl rfl ⟨by decide, by decide⟩ (Nat.le_of_ble_eq_true rfl) hA (fun v τ hv => ?_)
        obtain ⟨z, rfl, Ψ2, hB, h2⟩ := h1 v τ hv
        refine ex_aload_n dL_law_430 rfl ?_
        refine ex_aload_n dL_law_431 rfl ?_
        refine ex_iload_n dL_law_432 rfl ?_
        refine ex_iconst dL_law_433 ?_
        refine ex_iadd dL_law_434 ?_
        refine ex_sld (k := 7 * N + 1) dL_law_435 (by omega) (by omega) ?_
        refine ex_aload_n dL_law_436 rfl ?_
        refine ex_iload_n dL_law_437 rfl ?_
        refine ex_iconst dL_law_438 ?_
        refine ex_iadd dL_law_439 ?_
        refine ex_sld (k := 7 * N + 2) dL_law_440 (by omega) (by omega) ?_
        refine ex_callV (c := 79) (ci := 8) (av := [.int (iI (xs (7 * N + 1)).toInt), .int (iI (xs (7 * N + 2)).toInt)]) (rest := [.int (iI z)]) dL_law_441 kv_L_54 rfl rfl rfl rfl ⟨by decide, by decide⟩ (Nat.le_of_ble_eq_true rfl) hB (fun v2 ν hv2 => ?_)
        obtain ⟨rfl, hS2⟩ := h2 v2 ν hv2
        exact ex_same (x := iI z) (tgt := 1123) dL_law_444 (by decide) (nxt ν hS2)
      · refine ex_tableIn (off := 416) (tgt := 449) dL_law_33 hz (by decide) (by decide) rfl (by decide) ?_
        refine ex_aload_n dL_law_449 rfl ?_
        refine ex_aload_n dL_law_450 rfl ?_
        refine ex_iload_n dL_law_451 rfl ?_
        refine ex_iconst dL_law_452 ?_
        refine ex_iadd dL_law_453 ?_
        refine ex_sld (k := 7 * N + 1) dL_law_454 (by omega) (by omega) ?_
        refine ex_aload_n dL_law_455 rfl ?_
        refine ex_iload_n dL_law_456 rfl ?_
        refine ex_iconst dL_law_457 ?_
        refine ex_iadd dL_law_458 ?_
        refine ex_sld (k := 7 * N + 2) dL_law_459 (by omega) (by omega) ?_
        obtain ⟨Ψ, hA, h1⟩ := s_take hS ((xs (7 * N + 1)).toInt) ((xs (7 * N + 2)).toInt) (inR_of _) (inR_of _)
        refine ex_callV (c := 0) (ci := 7) (av := [.int (iI (xs (7 * N + 1)).toInt), .int (iI (xs (7 * N + 2)).toInt)]) (rest := []) dL_law_460 kv_L_55 rfl rfl rfl rfl ⟨by decide, by decide⟩ (Nat.le_of_ble_eq_true rfl) hA (fun v τ hv => ?_)
        obtain ⟨z, rfl, Ψ2, hB, h2⟩ := h1 v τ hv
        refine ex_aload_n dL_law_463 rfl ?_
        refine ex_aload_n dL_law_464 rfl ?_
        refine ex_iload_n dL_law_465 rfl ?_
        refine ex_iconst dL_law_466 ?_
        refine ex_iadd dL_law_467 ?_
        refine ex_sld (k := 7 * N + 1) dL_law_468 (by omega) (by omega) ?_
        refine ex_aload_n dL_law_469 rfl ?_
        refine ex_iload_n dL_law_470 rfl ?_
        refine ex_iconst dL_law_471 ?_
        refine ex_iadd dL_law_472 ?_
        refine ex_sld (k := 7 * N + 2) dL_law_473 (by omega) (by omega) ?_
        refine ex_callV (c := 79) (ci := 8) (av := [.int (iI (xs (7 * N + 1)).toInt), .int (iI (xs (7 * N + 2)).toInt)]) (rest := [.int (iI z)]) dL_law_474 kv_L_58 rfl rfl rfl rfl ⟨by decide, by decide⟩ (Nat.le_of_ble_eq_true rfl) hB (fun v2 ν hv2 => ?_)
        obtain ⟨rfl, hS2⟩ := h2 v2 ν hv2
        exact ex_same (x := iI z) (tgt := 1123) dL_law_477 (by decide) (nxt ν hS2)
      · refine ex_tableIn (off := 449) (tgt := 482) dL_law_33 hz (by decide) (by decide) rfl (by decide) ?_
        refine ex_aload_n dL_law_482 rfl ?_
        refine ex_aload_n dL_law_483 rfl ?_
        refine ex_iload_n dL_law_484 rfl ?_
        refine ex_iconst dL_law_485 ?_
        refine ex_iadd dL_law_486 ?_
        refine ex_sld (k := 7 * N + 1) dL_law_487 (by omega) (by omega) ?_
        refine ex_aload_n dL_law_488 rfl ?_
        refine ex_iload_n dL_law_489 rfl ?_
        refine ex_iconst dL_law_490 ?_
        refine ex_iadd dL_law_491 ?_
        refine ex_sld (k := 7 * N + 2) dL_law_492 (by omega) (by omega) ?_
        obtain ⟨Ψ, hA, h1⟩ := s_lay hS ((xs (7 * N + 1)).toInt) ((xs (7 * N + 2)).toInt) (inR_of _) (inR_of _)
        refine ex_callV (c := 0) (ci := 7) (av := [.int (iI (xs (7 * N + 1)).toInt), .int (iI (xs (7 * N + 2)).toInt)]) (rest := []) dL_law_493 kv_L_59 rfl rfl rfl rfl ⟨by decide, by decide⟩ (Nat.le_of_ble_eq_true rfl) hA (fun v τ hv => ?_)
        obtain ⟨z, rfl, Ψ2, hB, h2⟩ := h1 v τ hv
        refine ex_aload_n dL_law_496 rfl ?_
        refine ex_aload_n dL_law_497 rfl ?_
        refine ex_iload_n dL_law_498 rfl ?_
        refine ex_iconst dL_law_499 ?_
        refine ex_iadd dL_law_500 ?_
        refine ex_sld (k := 7 * N + 1) dL_law_501 (by omega) (by omega) ?_
        refine ex_aload_n dL_law_502 rfl ?_
        refine ex_iload_n dL_law_503 rfl ?_
        refine ex_iconst dL_law_504 ?_
        refine ex_iadd dL_law_505 ?_
        refine ex_sld (k := 7 * N + 2) dL_law_506 (by omega) (by omega) ?_
        refine ex_callV (c := 79) (ci := 8) (av := [.int (iI (xs (7 * N + 1)).toInt), .int (iI (xs (7 * N + 2)).toInt)]) (rest := [.int (iI z)]) dL_law_507 kv_L_62 rfl rfl rfl rfl ⟨by decide, by decide⟩ (Nat.le_of_ble_eq_true rfl) hB (fun v2 ν hv2 => ?_)
        obtain ⟨rfl, hS2⟩ := h2 v2 ν hv2
        exact ex_same (x := iI z) (tgt := 1123) dL_law_510 (by decide) (nxt ν hS2)
      · refine ex_tableIn (off := 482) (tgt := 515) dL_law_33 hz (by decide) (by decide) rfl (by decide) ?_
        refine ex_aload_n dL_law_515 rfl ?_
        refine ex_aload_n dL_law_516 rfl ?_
        refine ex_iload_n dL_law_517 rfl ?_
        refine ex_iconst dL_law_518 ?_
        refine ex_iadd dL_law_519 ?_
        refine ex_sld (k := 7 * N + 1) dL_law_520 (by omega) (by omega) ?_
        obtain ⟨Ψ, hA, h1⟩ := s_pass hS ((xs (7 * N + 1)).toInt) (inR_of _) (by omega)
        refine ex_callV (c := 0) (ci := 7) (av := [.int (iI (xs (7 * N + 1)).toInt)]) (rest := []) dL_law_521 kv_L_63 rfl rfl rfl rfl ⟨by decide, by decide⟩ (Nat.le_of_ble_eq_true rfl) hA (fun v τ hv => ?_)
        obtain ⟨z, rfl, Ψ2, hB, h2⟩ := h1 v τ hv
        refine ex_aload_n dL_law_524 rfl ?_
        refine ex_aload_n dL_law_525 rfl ?_
        refine ex_iload_n dL_law_526 rfl ?_
        refine ex_iconst dL_law_527 ?_
        refine ex_iadd dL_law_528 ?_
        refine ex_sld (k := 7 * N + 1) dL_law_529 (by omega) (by omega) ?_
        refine ex_callV (c := 79) (ci := 8) (av := [.int (iI (xs (7 * N + 1)).toInt)]) (rest := [.int (iI z)]) dL_law_530 kv_L_66 rfl rfl rfl rfl ⟨by decide, by decide⟩ (Nat.le_of_ble_eq_true rfl) hB (fun v2 ν hv2 => ?_)
        obtain ⟨rfl, hS2⟩ := h2 v2 ν hv2
        exact ex_same (x := iI z) (tgt := 1123) dL_law_533 (by decide) (nxt ν hS2)
      · refine ex_tableIn (off := 505) (tgt := 538) dL_law_33 hz (by decide) (by decide) rfl (by decide) ?_
        refine ex_aload_n dL_law_538 rfl ?_
        refine ex_aload_n dL_law_539 rfl ?_
        refine ex_iload_n dL_law_540 rfl ?_
        refine ex_iconst dL_law_541 ?_
        refine ex_iadd dL_law_542 ?_
        refine ex_sld (k := 7 * N + 1) dL_law_543 (by omega) (by omega) ?_
        obtain ⟨Ψ, hA, h1⟩ := s_cut hS ((xs (7 * N + 1)).toInt) (inR_of _)
        refine ex_callV (c := 0) (ci := 7) (av := [.int (iI (xs (7 * N + 1)).toInt)]) (rest := []) dL_law_544 kv_L_67 rfl rfl rfl rfl ⟨by decide, by decide⟩ (Nat.le_of_ble_eq_true rfl) hA (fun v τ hv => ?_)
        obtain ⟨z, rfl, Ψ2, hB, h2⟩ := h1 v τ hv
        refine ex_aload_n dL_law_547 rfl ?_
        refine ex_aload_n dL_law_548 rfl ?_
        refine ex_iload_n dL_law_549 rfl ?_
        refine ex_iconst dL_law_550 ?_
        refine ex_iadd dL_law_551 ?_
        refine ex_sld (k := 7 * N + 1) dL_law_552 (by omega) (by omega) ?_
        refine ex_callV (c := 79) (ci := 8) (av := [.int (iI (xs (7 * N + 1)).toInt)]) (rest := [.int (iI z)]) dL_law_553 kv_L_70 rfl rfl rfl rfl ⟨by decide, by decide⟩ (Nat.le_of_ble_eq_true rfl) hB (fun v2 ν hv2 => ?_)
        obtain ⟨rfl, hS2⟩ := h2 v2 ν hv2
        exact ex_same (x := iI z) (tgt := 1123) dL_law_556 (by decide) (nxt ν hS2)
      · refine ex_tableIn (off := 528) (tgt := 561) dL_law_33 hz (by decide) (by decide) rfl (by decide) ?_
        refine ex_aload_n dL_law_561 rfl ?_
        refine ex_aload_n dL_law_562 rfl ?_
        refine ex_iload_n dL_law_563 rfl ?_
        refine ex_iconst dL_law_564 ?_
        refine ex_iadd dL_law_565 ?_
        refine ex_sld (k := 7 * N + 1) dL_law_566 (by omega) (by omega) ?_
        obtain ⟨Ψ, hA, h1⟩ := s_splice hS ((xs (7 * N + 1)).toInt) (inR_of _)
        refine ex_callV (c := 0) (ci := 7) (av := [.int (iI (xs (7 * N + 1)).toInt)]) (rest := []) dL_law_567 kv_L_71 rfl rfl rfl rfl ⟨by decide, by decide⟩ (Nat.le_of_ble_eq_true rfl) hA (fun v τ hv => ?_)
        obtain ⟨z, rfl, Ψ2, hB, h2⟩ := h1 v τ hv
        refine ex_aload_n dL_law_570 rfl ?_
        refine ex_aload_n dL_law_571 rfl ?_
        refine ex_iload_n dL_law_572 rfl ?_
        refine ex_iconst dL_law_573 ?_
        refine ex_iadd dL_law_574 ?_
        refine ex_sld (k := 7 * N + 1) dL_law_575 (by omega) (by omega) ?_
        refine ex_callV (c := 79) (ci := 8) (av := [.int (iI (xs (7 * N + 1)).toInt)]) (rest := [.int (iI z)]) dL_law_576 kv_L_74 rfl rfl rfl rfl ⟨by decide, by decide⟩ (Nat.le_of_ble_eq_true rfl) hB (fun v2 ν hv2 => ?_)
        obtain ⟨rfl, hS2⟩ := h2 v2 ν hv2
        exact ex_same (x := iI z) (tgt := 1123) dL_law_579 (by decide) (nxt ν hS2)
      · refine ex_tableIn (off := 551) (tgt := 584) dL_law_33 hz (by decide) (by decide) rfl (by decide) ?_
        refine ex_aload_n dL_law_584 rfl ?_
        refine ex_aload_n dL_law_585 rfl ?_
        refine ex_iload_n dL_law_586 rfl ?_
        refine ex_iconst dL_law_587 ?_
        refine ex_iadd dL_law_588 ?_
        refine ex_sld (k := 7 * N + 1) dL_law_589 (by omega) (by omega) ?_
        refine ex_aload_n dL_law_590 rfl ?_
        refine ex_iload_n dL_law_591 rfl ?_
        refine ex_iconst dL_law_592 ?_
        refine ex_iadd dL_law_593 ?_
        refine ex_sld (k := 7 * N + 2) dL_law_594 (by omega) (by omega) ?_
        refine ex_if_eq (tgt := 602) dL_law_595 (by decide) (inR_of _) (fun h_595 => ?_) (fun h_595 => ?_)
        · refine ex_iconst dL_law_602 ?_
          obtain ⟨Ψ, hA, h1⟩ := s_wet hS ((xs (7 * N + 1)).toInt) (0) (inR_of _) (by decide) (by decide)
          refine ex_callV (c := 0) (ci := 7) (av := [.int (iI (xs (7 * N + 1)).toInt), .int (iI 0)]) (rest := []) dL_law_603 kv_L_75 rfl rfl rfl rfl ⟨by decide, by decide⟩ (Nat.le_of_ble_eq_true rfl) hA (fun v τ hv => ?_)
          obtain ⟨z, rfl, Ψ2, hB, h2⟩ := h1 v τ hv
          refine ex_aload_n dL_law_606 rfl ?_
          refine ex_aload_n dL_law_607 rfl ?_
          refine ex_iload_n dL_law_608 rfl ?_
          refine ex_iconst dL_law_609 ?_
          refine ex_iadd dL_law_610 ?_
          refine ex_sld (k := 7 * N + 1) dL_law_611 (by omega) (by omega) ?_
          refine ex_aload_n dL_law_612 rfl ?_
          refine ex_iload_n dL_law_613 rfl ?_
          refine ex_iconst dL_law_614 ?_
          refine ex_iadd dL_law_615 ?_
          refine ex_sld (k := 7 * N + 2) dL_law_616 (by omega) (by omega) ?_
          refine ex_if_eq (tgt := 624) dL_law_617 (by decide) (inR_of _) (fun h_617 => ?_) (fun h_617 => ?_)
          · refine ex_iconst dL_law_624 ?_
            refine ex_callV (c := 79) (ci := 8) (av := [.int (iI (xs (7 * N + 1)).toInt), .int (iI 0)]) (rest := [.int (iI z)]) dL_law_625 kv_L_79 rfl rfl rfl rfl ⟨by decide, by decide⟩ (Nat.le_of_ble_eq_true rfl) hB (fun v2 ν hv2 => ?_)
            obtain ⟨rfl, hS2⟩ := h2 v2 ν hv2
            exact ex_same (x := iI z) (tgt := 1123) dL_law_628 (by decide) (nxt ν hS2)
          · exact absurd h_595 h_617
        · refine ex_iconst dL_law_598 ?_
          refine ex_goto (tgt := 603) dL_law_599 (by decide) ?_
          obtain ⟨Ψ, hA, h1⟩ := s_wet hS ((xs (7 * N + 1)).toInt) (1) (inR_of _) (by decide) (by decide)
          refine ex_callV (c := 0) (ci := 7) (av := [.int (iI (xs (7 * N + 1)).toInt), .int (iI 1)]) (rest := []) dL_law_603 kv_L_75 rfl rfl rfl rfl ⟨by decide, by decide⟩ (Nat.le_of_ble_eq_true rfl) hA (fun v τ hv => ?_)
          obtain ⟨z, rfl, Ψ2, hB, h2⟩ := h1 v τ hv
          refine ex_aload_n dL_law_606 rfl ?_
          refine ex_aload_n dL_law_607 rfl ?_
          refine ex_iload_n dL_law_608 rfl ?_
          refine ex_iconst dL_law_609 ?_
          refine ex_iadd dL_law_610 ?_
          refine ex_sld (k := 7 * N + 1) dL_law_611 (by omega) (by omega) ?_
          refine ex_aload_n dL_law_612 rfl ?_
          refine ex_iload_n dL_law_613 rfl ?_
          refine ex_iconst dL_law_614 ?_
          refine ex_iadd dL_law_615 ?_
          refine ex_sld (k := 7 * N + 2) dL_law_616 (by omega) (by omega) ?_
          refine ex_if_eq (tgt := 624) dL_law_617 (by decide) (inR_of _) (fun h_617 => ?_) (fun h_617 => ?_)
          · exact absurd h_617 h_595
          · refine ex_iconst dL_law_620 ?_
            refine ex_goto (tgt := 625) dL_law_621 (by decide) ?_
            refine ex_callV (c := 79) (ci := 8) (av := [.int (iI (xs (7 * N + 1)).toInt), .int (iI 1)]) (rest := [.int (iI z)]) dL_law_625 kv_L_79 rfl rfl rfl rfl ⟨by decide, by decide⟩ (Nat.le_of_ble_eq_true rfl) hB (fun v2 ν hv2 => ?_)
            obtain ⟨rfl, hS2⟩ := h2 v2 ν hv2
            exact ex_same (x := iI z) (tgt := 1123) dL_law_628 (by decide) (nxt ν hS2)
      · refine ex_tableIn (off := 600) (tgt := 633) dL_law_33 hz (by decide) (by decide) rfl (by decide) ?_
        refine ex_aload_n dL_law_633 rfl ?_
        refine ex_aload_n dL_law_634 rfl ?_
        refine ex_iload_n dL_law_635 rfl ?_
        refine ex_iconst dL_law_636 ?_
        refine ex_iadd dL_law_637 ?_
        refine ex_sld (k := 7 * N + 1) dL_law_638 (by omega) (by omega) ?_
        obtain ⟨Ψ, hA, h1⟩ := s_storm hS ((xs (7 * N + 1)).toInt) (inR_of _)
        refine ex_callV (c := 0) (ci := 7) (av := [.int (iI (xs (7 * N + 1)).toInt)]) (rest := []) dL_law_639 kv_L_80 rfl rfl rfl rfl ⟨by decide, by decide⟩ (Nat.le_of_ble_eq_true rfl) hA (fun v τ hv => ?_)
        obtain ⟨z, rfl, Ψ2, hB, h2⟩ := h1 v τ hv
        refine ex_aload_n dL_law_642 rfl ?_
        refine ex_aload_n dL_law_643 rfl ?_
        refine ex_iload_n dL_law_644 rfl ?_
        refine ex_iconst dL_law_645 ?_
        refine ex_iadd dL_law_646 ?_
        refine ex_sld (k := 7 * N + 1) dL_law_647 (by omega) (by omega) ?_
        refine ex_callV (c := 79) (ci := 8) (av := [.int (iI (xs (7 * N + 1)).toInt)]) (rest := [.int (iI z)]) dL_law_648 kv_L_83 rfl rfl rfl rfl ⟨by decide, by decide⟩ (Nat.le_of_ble_eq_true rfl) hB (fun v2 ν hv2 => ?_)
        obtain ⟨rfl, hS2⟩ := h2 v2 ν hv2
        exact ex_same (x := iI z) (tgt := 1123) dL_law_651 (by decide) (nxt ν hS2)
      · refine ex_tableIn (off := 623) (tgt := 656) dL_law_33 hz (by decide) (by decide) rfl (by decide) ?_
        refine ex_aload_n dL_law_656 rfl ?_
        refine ex_aload_n dL_law_657 rfl ?_
        refine ex_iload_n dL_law_658 rfl ?_
        refine ex_iconst dL_law_659 ?_
        refine ex_iadd dL_law_660 ?_
        refine ex_sld (k := 7 * N + 1) dL_law_661 (by omega) (by omega) ?_
        refine ex_aload_n dL_law_662 rfl ?_
        refine ex_iload_n dL_law_663 rfl ?_
        refine ex_iconst dL_law_664 ?_
        refine ex_iadd dL_law_665 ?_
        refine ex_sld (k := 7 * N + 2) dL_law_666 (by omega) (by omega) ?_
        obtain ⟨Ψ, hA, h1⟩ := s_ring hS ((xs (7 * N + 1)).toInt) ((xs (7 * N + 2)).toInt) (inR_of _) (inR_of _)
        refine ex_callV (c := 0) (ci := 7) (av := [.int (iI (xs (7 * N + 1)).toInt), .int (iI (xs (7 * N + 2)).toInt)]) (rest := []) dL_law_667 kv_L_84 rfl rfl rfl rfl ⟨by decide, by decide⟩ (Nat.le_of_ble_eq_true rfl) hA (fun v τ hv => ?_)
        obtain ⟨z, rfl, Ψ2, hB, h2⟩ := h1 v τ hv
        refine ex_aload_n dL_law_670 rfl ?_
        refine ex_aload_n dL_law_671 rfl ?_
        refine ex_iload_n dL_law_672 rfl ?_
        refine ex_iconst dL_law_673 ?_
        refine ex_iadd dL_law_674 ?_
        refine ex_sld (k := 7 * N + 1) dL_law_675 (by omega) (by omega) ?_
        refine ex_aload_n dL_law_676 rfl ?_
        refine ex_iload_n dL_law_677 rfl ?_
        refine ex_iconst dL_law_678 ?_
        refine ex_iadd dL_law_679 ?_
        refine ex_sld (k := 7 * N + 2) dL_law_680 (by omega) (by omega) ?_
        refine ex_callV (c := 79) (ci := 8) (av := [.int (iI (xs (7 * N + 1)).toInt), .int (iI (xs (7 * N + 2)).toInt)]) (rest := [.int (iI z)]) dL_law_681 kv_L_87 rfl rfl rfl rfl ⟨by decide, by decide⟩ (Nat.le_of_ble_eq_true rfl) hB (fun v2 ν hv2 => ?_)
        obtain ⟨rfl, hS2⟩ := h2 v2 ν hv2
        exact ex_same (x := iI z) (tgt := 1123) dL_law_684 (by decide) (nxt ν hS2)
      · refine ex_tableIn (off := 656) (tgt := 689) dL_law_33 hz (by decide) (by decide) rfl (by decide) ?_
        refine ex_aload_n dL_law_689 rfl ?_
        refine ex_aload_n dL_law_690 rfl ?_
        refine ex_iload_n dL_law_691 rfl ?_
        refine ex_iconst dL_law_692 ?_
        refine ex_iadd dL_law_693 ?_
        refine ex_sld (k := 7 * N + 1) dL_law_694 (by omega) (by omega) ?_
        refine ex_aload_n dL_law_695 rfl ?_
        refine ex_iload_n dL_law_696 rfl ?_
        refine ex_iconst dL_law_697 ?_
        refine ex_iadd dL_law_698 ?_
        refine ex_sld (k := 7 * N + 2) dL_law_699 (by omega) (by omega) ?_
        refine ex_aload_n dL_law_700 rfl ?_
        refine ex_iload_n dL_law_701 rfl ?_
        refine ex_iconst dL_law_702 ?_
        refine ex_iadd dL_law_703 ?_
        refine ex_sld (k := 7 * N + 3) dL_law_704 (by omega) (by omega) ?_
        obtain ⟨Ψ, hA, h1⟩ := s_far hS ((xs (7 * N + 1)).toInt) ((xs (7 * N + 2)).toInt) ((xs (7 * N + 3)).toInt) (inR_of _) (inR_of _) (inR_of _)
        refine ex_callV (c := 0) (ci := 7) (av := [.int (iI (xs (7 * N + 1)).toInt), .int (iI (xs (7 * N + 2)).toInt), .int (iI (xs (7 * N + 3)).toInt)]) (rest := []) dL_law_705 kv_L_88 rfl rfl rfl rfl ⟨by decide, by decide⟩ (Nat.le_of_ble_eq_true rfl) hA (fun v τ hv => ?_)
        obtain ⟨z, rfl, Ψ2, hB, h2⟩ := h1 v τ hv
        refine ex_aload_n dL_law_708 rfl ?_
        refine ex_aload_n dL_law_709 rfl ?_
        refine ex_iload_n dL_law_710 rfl ?_
        refine ex_iconst dL_law_711 ?_
        refine ex_iadd dL_law_712 ?_
        refine ex_sld (k := 7 * N + 1) dL_law_713 (by omega) (by omega) ?_
        refine ex_aload_n dL_law_714 rfl ?_
        refine ex_iload_n dL_law_715 rfl ?_
        refine ex_iconst dL_law_716 ?_
        refine ex_iadd dL_law_717 ?_
        refine ex_sld (k := 7 * N + 2) dL_law_718 (by omega) (by omega) ?_
        refine ex_aload_n dL_law_719 rfl ?_
        refine ex_iload_n dL_law_720 rfl ?_
        refine ex_iconst dL_law_721 ?_
        refine ex_iadd dL_law_722 ?_
        refine ex_sld (k := 7 * N + 3) dL_law_723 (by omega) (by omega) ?_
        refine ex_callV (c := 79) (ci := 8) (av := [.int (iI (xs (7 * N + 1)).toInt), .int (iI (xs (7 * N + 2)).toInt), .int (iI (xs (7 * N + 3)).toInt)]) (rest := [.int (iI z)]) dL_law_724 kv_L_92 rfl rfl rfl rfl ⟨by decide, by decide⟩ (Nat.le_of_ble_eq_true rfl) hB (fun v2 ν hv2 => ?_)
        obtain ⟨rfl, hS2⟩ := h2 v2 ν hv2
        exact ex_same (x := iI z) (tgt := 1123) dL_law_727 (by decide) (nxt ν hS2)
      · refine ex_tableIn (off := 699) (tgt := 732) dL_law_33 hz (by decide) (by decide) rfl (by decide) ?_
        refine ex_aload_n dL_law_732 rfl ?_
        refine ex_aload_n dL_law_733 rfl ?_
        refine ex_iload_n dL_law_734 rfl ?_
        refine ex_iconst dL_law_735 ?_
        refine ex_iadd dL_law_736 ?_
        refine ex_sld (k := 7 * N + 1) dL_law_737 (by omega) (by omega) ?_
        refine ex_aload_n dL_law_738 rfl ?_
        refine ex_iload_n dL_law_739 rfl ?_
        refine ex_iconst dL_law_740 ?_
        refine ex_iadd dL_law_741 ?_
        refine ex_sld (k := 7 * N + 2) dL_law_742 (by omega) (by omega) ?_
        obtain ⟨Ψ, hA, h1⟩ := s_round hS ((xs (7 * N + 1)).toInt) ((xs (7 * N + 2)).toInt) (inR_of _) (inR_of _)
        refine ex_callV (c := 0) (ci := 7) (av := [.int (iI (xs (7 * N + 1)).toInt), .int (iI (xs (7 * N + 2)).toInt)]) (rest := []) dL_law_743 kv_L_93 rfl rfl rfl rfl ⟨by decide, by decide⟩ (Nat.le_of_ble_eq_true rfl) hA (fun v τ hv => ?_)
        obtain ⟨z, rfl, Ψ2, hB, h2⟩ := h1 v τ hv
        refine ex_aload_n dL_law_746 rfl ?_
        refine ex_aload_n dL_law_747 rfl ?_
        refine ex_iload_n dL_law_748 rfl ?_
        refine ex_iconst dL_law_749 ?_
        refine ex_iadd dL_law_750 ?_
        refine ex_sld (k := 7 * N + 1) dL_law_751 (by omega) (by omega) ?_
        refine ex_aload_n dL_law_752 rfl ?_
        refine ex_iload_n dL_law_753 rfl ?_
        refine ex_iconst dL_law_754 ?_
        refine ex_iadd dL_law_755 ?_
        refine ex_sld (k := 7 * N + 2) dL_law_756 (by omega) (by omega) ?_
        refine ex_callV (c := 79) (ci := 8) (av := [.int (iI (xs (7 * N + 1)).toInt), .int (iI (xs (7 * N + 2)).toInt)]) (rest := [.int (iI z)]) dL_law_757 kv_L_96 rfl rfl rfl rfl ⟨by decide, by decide⟩ (Nat.le_of_ble_eq_true rfl) hB (fun v2 ν hv2 => ?_)
        obtain ⟨rfl, hS2⟩ := h2 v2 ν hv2
        exact ex_same (x := iI z) (tgt := 1123) dL_law_760 (by decide) (nxt ν hS2)
      · refine ex_tableIn (off := 732) (tgt := 765) dL_law_33 hz (by decide) (by decide) rfl (by decide) ?_
        refine ex_aload_n dL_law_765 rfl ?_
        refine ex_aload_n dL_law_766 rfl ?_
        refine ex_iload_n dL_law_767 rfl ?_
        refine ex_iconst dL_law_768 ?_
        refine ex_iadd dL_law_769 ?_
        refine ex_sld (k := 7 * N + 1) dL_law_770 (by omega) (by omega) ?_
        obtain ⟨Ψ, hA, h1⟩ := s_dealt hS ((xs (7 * N + 1)).toInt) (inR_of _)
        refine ex_callV (c := 0) (ci := 7) (av := [.int (iI (xs (7 * N + 1)).toInt)]) (rest := []) dL_law_771 kv_L_97 rfl rfl rfl rfl ⟨by decide, by decide⟩ (Nat.le_of_ble_eq_true rfl) hA (fun v τ hv => ?_)
        obtain ⟨z, rfl, Ψ2, hB, h2⟩ := h1 v τ hv
        refine ex_aload_n dL_law_774 rfl ?_
        refine ex_aload_n dL_law_775 rfl ?_
        refine ex_iload_n dL_law_776 rfl ?_
        refine ex_iconst dL_law_777 ?_
        refine ex_iadd dL_law_778 ?_
        refine ex_sld (k := 7 * N + 1) dL_law_779 (by omega) (by omega) ?_
        refine ex_callV (c := 79) (ci := 8) (av := [.int (iI (xs (7 * N + 1)).toInt)]) (rest := [.int (iI z)]) dL_law_780 kv_L_100 rfl rfl rfl rfl ⟨by decide, by decide⟩ (Nat.le_of_ble_eq_true rfl) hB (fun v2 ν hv2 => ?_)
        obtain ⟨rfl, hS2⟩ := h2 v2 ν hv2
        exact ex_same (x := iI z) (tgt := 1123) dL_law_783 (by decide) (nxt ν hS2)
      · refine ex_tableIn (off := 755) (tgt := 788) dL_law_33 hz (by decide) (by decide) rfl (by decide) ?_
        refine ex_aload_n dL_law_788 rfl ?_
        refine ex_aload_n dL_law_789 rfl ?_
        refine ex_iload_n dL_law_790 rfl ?_
        refine ex_iconst dL_law_791 ?_
        refine ex_iadd dL_law_792 ?_
        refine ex_sld (k := 7 * N + 1) dL_law_793 (by omega) (by omega) ?_
        obtain ⟨Ψ, hA, h1⟩ := s_kept hS ((xs (7 * N + 1)).toInt) (inR_of _)
        refine ex_callV (c := 0) (ci := 7) (av := [.int (iI (xs (7 * N + 1)).toInt)]) (rest := []) dL_law_794 kv_L_101 rfl rfl rfl rfl ⟨by decide, by decide⟩ (Nat.le_of_ble_eq_true rfl) hA (fun v τ hv => ?_)
        obtain ⟨z, rfl, Ψ2, hB, h2⟩ := h1 v τ hv
        refine ex_aload_n dL_law_797 rfl ?_
        refine ex_aload_n dL_law_798 rfl ?_
        refine ex_iload_n dL_law_799 rfl ?_
        refine ex_iconst dL_law_800 ?_
        refine ex_iadd dL_law_801 ?_
        refine ex_sld (k := 7 * N + 1) dL_law_802 (by omega) (by omega) ?_
        refine ex_callV (c := 79) (ci := 8) (av := [.int (iI (xs (7 * N + 1)).toInt)]) (rest := [.int (iI z)]) dL_law_803 kv_L_104 rfl rfl rfl rfl ⟨by decide, by decide⟩ (Nat.le_of_ble_eq_true rfl) hB (fun v2 ν hv2 => ?_)
        obtain ⟨rfl, hS2⟩ := h2 v2 ν hv2
        exact ex_same (x := iI z) (tgt := 1123) dL_law_806 (by decide) (nxt ν hS2)
      · refine ex_tableIn (off := 778) (tgt := 811) dL_law_33 hz (by decide) (by decide) rfl (by decide) ?_
        refine ex_aload_n dL_law_811 rfl ?_
        refine ex_aload_n dL_law_812 rfl ?_
        refine ex_iload_n dL_law_813 rfl ?_
        refine ex_iconst dL_law_814 ?_
        refine ex_iadd dL_law_815 ?_
        refine ex_sld (k := 7 * N + 1) dL_law_816 (by omega) (by omega) ?_
        obtain ⟨Ψ, hA, h1⟩ := s_newRope hS ((xs (7 * N + 1)).toInt) (inR_of _)
        refine ex_callV (c := 0) (ci := 7) (av := [.int (iI (xs (7 * N + 1)).toInt)]) (rest := []) dL_law_817 kv_L_105 rfl rfl rfl rfl ⟨by decide, by decide⟩ (Nat.le_of_ble_eq_true rfl) hA (fun v τ hv => ?_)
        obtain ⟨z, rfl, Ψ2, hB, h2⟩ := h1 v τ hv
        refine ex_aload_n dL_law_820 rfl ?_
        refine ex_aload_n dL_law_821 rfl ?_
        refine ex_iload_n dL_law_822 rfl ?_
        refine ex_iconst dL_law_823 ?_
        refine ex_iadd dL_law_824 ?_
        refine ex_sld (k := 7 * N + 1) dL_law_825 (by omega) (by omega) ?_
        refine ex_callV (c := 79) (ci := 8) (av := [.int (iI (xs (7 * N + 1)).toInt)]) (rest := [.int (iI z)]) dL_law_826 kv_L_108 rfl rfl rfl rfl ⟨by decide, by decide⟩ (Nat.le_of_ble_eq_true rfl) hB (fun v2 ν hv2 => ?_)
        obtain ⟨rfl, hS2⟩ := h2 v2 ν hv2
        exact ex_same (x := iI z) (tgt := 1123) dL_law_829 (by decide) (nxt ν hS2)
      · refine ex_tableIn (off := 801) (tgt := 834) dL_law_33 hz (by decide) (by decide) rfl (by decide) ?_
        refine ex_aload_n dL_law_834 rfl ?_
        refine ex_aload_n dL_law_835 rfl ?_
        refine ex_iload_n dL_law_836 rfl ?_
        refine ex_iconst dL_law_837 ?_
        refine ex_iadd dL_law_838 ?_
        refine ex_sld (k := 7 * N + 1) dL_law_839 (by omega) (by omega) ?_
        refine ex_aload_n dL_law_840 rfl ?_
        refine ex_iload_n dL_law_841 rfl ?_
        refine ex_iconst dL_law_842 ?_
        refine ex_iadd dL_law_843 ?_
        refine ex_sld (k := 7 * N + 2) dL_law_844 (by omega) (by omega) ?_
        refine ex_aload_n dL_law_845 rfl ?_
        refine ex_iload_n dL_law_846 rfl ?_
        refine ex_iconst dL_law_847 ?_
        refine ex_iadd dL_law_848 ?_
        refine ex_sld (k := 7 * N + 3) dL_law_849 (by omega) (by omega) ?_
        obtain ⟨Ψ, hA, h1⟩ := s_odds hS ((xs (7 * N + 1)).toInt) ((xs (7 * N + 2)).toInt) ((xs (7 * N + 3)).toInt) (inR_of _) (inR_of _) (inR_of _)
        refine ex_callV (c := 0) (ci := 7) (av := [.int (iI (xs (7 * N + 1)).toInt), .int (iI (xs (7 * N + 2)).toInt), .int (iI (xs (7 * N + 3)).toInt)]) (rest := []) dL_law_850 kv_L_109 rfl rfl rfl rfl ⟨by decide, by decide⟩ (Nat.le_of_ble_eq_true rfl) hA (fun v τ hv => ?_)
        obtain ⟨z, rfl, Ψ2, hB, h2⟩ := h1 v τ hv
        refine ex_aload_n dL_law_853 rfl ?_
        refine ex_aload_n dL_law_854 rfl ?_
        refine ex_iload_n dL_law_855 rfl ?_
        refine ex_iconst dL_law_856 ?_
        refine ex_iadd dL_law_857 ?_
        refine ex_sld (k := 7 * N + 1) dL_law_858 (by omega) (by omega) ?_
        refine ex_aload_n dL_law_859 rfl ?_
        refine ex_iload_n dL_law_860 rfl ?_
        refine ex_iconst dL_law_861 ?_
        refine ex_iadd dL_law_862 ?_
        refine ex_sld (k := 7 * N + 2) dL_law_863 (by omega) (by omega) ?_
        refine ex_aload_n dL_law_864 rfl ?_
        refine ex_iload_n dL_law_865 rfl ?_
        refine ex_iconst dL_law_866 ?_
        refine ex_iadd dL_law_867 ?_
        refine ex_sld (k := 7 * N + 3) dL_law_868 (by omega) (by omega) ?_
        refine ex_callV (c := 79) (ci := 8) (av := [.int (iI (xs (7 * N + 1)).toInt), .int (iI (xs (7 * N + 2)).toInt), .int (iI (xs (7 * N + 3)).toInt)]) (rest := [.int (iI z)]) dL_law_869 kv_L_112 rfl rfl rfl rfl ⟨by decide, by decide⟩ (Nat.le_of_ble_eq_true rfl) hB (fun v2 ν hv2 => ?_)
        obtain ⟨rfl, hS2⟩ := h2 v2 ν hv2
        exact ex_same (x := iI z) (tgt := 1123) dL_law_872 (by decide) (nxt ν hS2)
      · refine ex_tableIn (off := 844) (tgt := 877) dL_law_33 hz (by decide) (by decide) rfl (by decide) ?_
        refine ex_aload_n dL_law_877 rfl ?_
        refine ex_aload_n dL_law_878 rfl ?_
        refine ex_iload_n dL_law_879 rfl ?_
        refine ex_iconst dL_law_880 ?_
        refine ex_iadd dL_law_881 ?_
        refine ex_sld (k := 7 * N + 1) dL_law_882 (by omega) (by omega) ?_
        refine ex_aload_n dL_law_883 rfl ?_
        refine ex_iload_n dL_law_884 rfl ?_
        refine ex_iconst dL_law_885 ?_
        refine ex_iadd dL_law_886 ?_
        refine ex_sld (k := 7 * N + 2) dL_law_887 (by omega) (by omega) ?_
        refine ex_aload_n dL_law_888 rfl ?_
        refine ex_iload_n dL_law_889 rfl ?_
        refine ex_iconst dL_law_890 ?_
        refine ex_iadd dL_law_891 ?_
        refine ex_sld (k := 7 * N + 3) dL_law_892 (by omega) (by omega) ?_
        refine ex_aload_n dL_law_893 rfl ?_
        refine ex_iload_n dL_law_894 rfl ?_
        refine ex_iconst dL_law_895 ?_
        refine ex_iadd dL_law_896 ?_
        refine ex_sld (k := 7 * N + 4) dL_law_897 (by omega) (by omega) ?_
        refine ex_aload_n dL_law_898 rfl ?_
        refine ex_iload_n dL_law_899 rfl ?_
        refine ex_iconst dL_law_900 ?_
        refine ex_iadd dL_law_901 ?_
        refine ex_sld (k := 7 * N + 5) dL_law_902 (by omega) (by omega) ?_
        refine ex_aload_n dL_law_903 rfl ?_
        refine ex_iload_n dL_law_904 rfl ?_
        refine ex_bipush dL_law_905 (by decide) ?_
        refine ex_iadd dL_law_907 ?_
        refine ex_sld (k := 7 * N + 6) dL_law_908 (by omega) (by omega) ?_
        obtain ⟨Ψ, hA, h1⟩ := s_pays hS ((xs (7 * N + 1)).toInt) ((xs (7 * N + 2)).toInt) ((xs (7 * N + 3)).toInt) ((xs (7 * N + 4)).toInt) ((xs (7 * N + 5)).toInt) ((xs (7 * N + 6)).toInt) (inR_of _) (inR_of _) (inR_of _) (inR_of _) (inR_of _) (inR_of _)
        refine ex_callV (c := 0) (ci := 7) (av := [.int (iI (xs (7 * N + 1)).toInt), .int (iI (xs (7 * N + 2)).toInt), .int (iI (xs (7 * N + 3)).toInt), .int (iI (xs (7 * N + 4)).toInt), .int (iI (xs (7 * N + 5)).toInt), .int (iI (xs (7 * N + 6)).toInt)]) (rest := []) dL_law_909 kv_L_113 rfl rfl rfl rfl ⟨by decide, by decide⟩ (Nat.le_of_ble_eq_true rfl) hA (fun v τ hv => ?_)
        obtain ⟨z, rfl, Ψ2, hB, h2⟩ := h1 v τ hv
        refine ex_aload_n dL_law_912 rfl ?_
        refine ex_aload_n dL_law_913 rfl ?_
        refine ex_iload_n dL_law_914 rfl ?_
        refine ex_iconst dL_law_915 ?_
        refine ex_iadd dL_law_916 ?_
        refine ex_sld (k := 7 * N + 1) dL_law_917 (by omega) (by omega) ?_
        refine ex_aload_n dL_law_918 rfl ?_
        refine ex_iload_n dL_law_919 rfl ?_
        refine ex_iconst dL_law_920 ?_
        refine ex_iadd dL_law_921 ?_
        refine ex_sld (k := 7 * N + 2) dL_law_922 (by omega) (by omega) ?_
        refine ex_aload_n dL_law_923 rfl ?_
        refine ex_iload_n dL_law_924 rfl ?_
        refine ex_iconst dL_law_925 ?_
        refine ex_iadd dL_law_926 ?_
        refine ex_sld (k := 7 * N + 3) dL_law_927 (by omega) (by omega) ?_
        refine ex_aload_n dL_law_928 rfl ?_
        refine ex_iload_n dL_law_929 rfl ?_
        refine ex_iconst dL_law_930 ?_
        refine ex_iadd dL_law_931 ?_
        refine ex_sld (k := 7 * N + 4) dL_law_932 (by omega) (by omega) ?_
        refine ex_aload_n dL_law_933 rfl ?_
        refine ex_iload_n dL_law_934 rfl ?_
        refine ex_iconst dL_law_935 ?_
        refine ex_iadd dL_law_936 ?_
        refine ex_sld (k := 7 * N + 5) dL_law_937 (by omega) (by omega) ?_
        refine ex_aload_n dL_law_938 rfl ?_
        refine ex_iload_n dL_law_939 rfl ?_
        refine ex_bipush dL_law_940 (by decide) ?_
        refine ex_iadd dL_law_942 ?_
        refine ex_sld (k := 7 * N + 6) dL_law_943 (by omega) (by omega) ?_
        refine ex_callV (c := 79) (ci := 8) (av := [.int (iI (xs (7 * N + 1)).toInt), .int (iI (xs (7 * N + 2)).toInt), .int (iI (xs (7 * N + 3)).toInt), .int (iI (xs (7 * N + 4)).toInt), .int (iI (xs (7 * N + 5)).toInt), .int (iI (xs (7 * N + 6)).toInt)]) (rest := [.int (iI z)]) dL_law_944 kv_L_117 rfl rfl rfl rfl ⟨by decide, by decide⟩ (Nat.le_of_ble_eq_true rfl) hB (fun v2 ν hv2 => ?_)
        obtain ⟨rfl, hS2⟩ := h2 v2 ν hv2
        exact ex_same (x := iI z) (tgt := 1123) dL_law_947 (by decide) (nxt ν hS2)
      · refine ex_tableIn (off := 919) (tgt := 952) dL_law_33 hz (by decide) (by decide) rfl (by decide) ?_
        refine ex_aload_n dL_law_952 rfl ?_
        refine ex_aload_n dL_law_953 rfl ?_
        refine ex_iload_n dL_law_954 rfl ?_
        refine ex_iconst dL_law_955 ?_
        refine ex_iadd dL_law_956 ?_
        refine ex_sld (k := 7 * N + 1) dL_law_957 (by omega) (by omega) ?_
        refine ex_aload_n dL_law_958 rfl ?_
        refine ex_iload_n dL_law_959 rfl ?_
        refine ex_iconst dL_law_960 ?_
        refine ex_iadd dL_law_961 ?_
        refine ex_sld (k := 7 * N + 2) dL_law_962 (by omega) (by omega) ?_
        refine ex_aload_n dL_law_963 rfl ?_
        refine ex_iload_n dL_law_964 rfl ?_
        refine ex_iconst dL_law_965 ?_
        refine ex_iadd dL_law_966 ?_
        refine ex_sld (k := 7 * N + 3) dL_law_967 (by omega) (by omega) ?_
        obtain ⟨Ψ, hA, h1⟩ := s_see hS ((xs (7 * N + 1)).toInt) ((xs (7 * N + 2)).toInt) ((xs (7 * N + 3)).toInt) (inR_of _) (inR_of _) (inR_of _)
        refine ex_callV (c := 0) (ci := 7) (av := [.int (iI (xs (7 * N + 1)).toInt), .int (iI (xs (7 * N + 2)).toInt), .int (iI (xs (7 * N + 3)).toInt)]) (rest := []) dL_law_968 kv_L_118 rfl rfl rfl rfl ⟨by decide, by decide⟩ (Nat.le_of_ble_eq_true rfl) hA (fun v τ hv => ?_)
        obtain ⟨z, rfl, Ψ2, hB, h2⟩ := h1 v τ hv
        refine ex_aload_n dL_law_971 rfl ?_
        refine ex_aload_n dL_law_972 rfl ?_
        refine ex_iload_n dL_law_973 rfl ?_
        refine ex_iconst dL_law_974 ?_
        refine ex_iadd dL_law_975 ?_
        refine ex_sld (k := 7 * N + 1) dL_law_976 (by omega) (by omega) ?_
        refine ex_aload_n dL_law_977 rfl ?_
        refine ex_iload_n dL_law_978 rfl ?_
        refine ex_iconst dL_law_979 ?_
        refine ex_iadd dL_law_980 ?_
        refine ex_sld (k := 7 * N + 2) dL_law_981 (by omega) (by omega) ?_
        refine ex_aload_n dL_law_982 rfl ?_
        refine ex_iload_n dL_law_983 rfl ?_
        refine ex_iconst dL_law_984 ?_
        refine ex_iadd dL_law_985 ?_
        refine ex_sld (k := 7 * N + 3) dL_law_986 (by omega) (by omega) ?_
        refine ex_callV (c := 79) (ci := 8) (av := [.int (iI (xs (7 * N + 1)).toInt), .int (iI (xs (7 * N + 2)).toInt), .int (iI (xs (7 * N + 3)).toInt)]) (rest := [.int (iI z)]) dL_law_987 kv_L_121 rfl rfl rfl rfl ⟨by decide, by decide⟩ (Nat.le_of_ble_eq_true rfl) hB (fun v2 ν hv2 => ?_)
        obtain ⟨rfl, hS2⟩ := h2 v2 ν hv2
        exact ex_same (x := iI z) (tgt := 1123) dL_law_990 (by decide) (nxt ν hS2)
      · refine ex_tableIn (off := 962) (tgt := 995) dL_law_33 hz (by decide) (by decide) rfl (by decide) ?_
        refine ex_aload_n dL_law_995 rfl ?_
        obtain ⟨Ψ, hA, h1⟩ := s_forget hS  
        refine ex_callV (c := 0) (ci := 7) (av := []) (rest := []) dL_law_996 kv_L_122 rfl rfl rfl rfl ⟨by decide, by decide⟩ (Nat.le_of_ble_eq_true rfl) hA (fun v τ hv => ?_)
        obtain ⟨z, rfl, Ψ2, hB, h2⟩ := h1 v τ hv
        refine ex_aload_n dL_law_999 rfl ?_
        refine ex_callV (c := 79) (ci := 8) (av := []) (rest := [.int (iI z)]) dL_law_1000 kv_L_125 rfl rfl rfl rfl ⟨by decide, by decide⟩ (Nat.le_of_ble_eq_true rfl) hB (fun v2 ν hv2 => ?_)
        obtain ⟨rfl, hS2⟩ := h2 v2 ν hv2
        exact ex_same (x := iI z) (tgt := 1123) dL_law_1003 (by decide) (nxt ν hS2)
      · refine ex_tableIn (off := 975) (tgt := 1008) dL_law_33 hz (by decide) (by decide) rfl (by decide) ?_
        refine ex_aload_n dL_law_1008 rfl ?_
        refine ex_aload_n dL_law_1009 rfl ?_
        refine ex_iload_n dL_law_1010 rfl ?_
        refine ex_iconst dL_law_1011 ?_
        refine ex_iadd dL_law_1012 ?_
        refine ex_sld (k := 7 * N + 1) dL_law_1013 (by omega) (by omega) ?_
        refine ex_aload_n dL_law_1014 rfl ?_
        refine ex_iload_n dL_law_1015 rfl ?_
        refine ex_iconst dL_law_1016 ?_
        refine ex_iadd dL_law_1017 ?_
        refine ex_sld (k := 7 * N + 2) dL_law_1018 (by omega) (by omega) ?_
        obtain ⟨Ψ, hA, h1⟩ := s_who hS ((xs (7 * N + 1)).toInt) ((xs (7 * N + 2)).toInt) (inR_of _) (inR_of _)
        refine ex_callV (c := 0) (ci := 7) (av := [.int (iI (xs (7 * N + 1)).toInt), .int (iI (xs (7 * N + 2)).toInt)]) (rest := []) dL_law_1019 kv_L_126 rfl rfl rfl rfl ⟨by decide, by decide⟩ (Nat.le_of_ble_eq_true rfl) hA (fun v τ hv => ?_)
        obtain ⟨z, rfl, Ψ2, hB, h2⟩ := h1 v τ hv
        refine ex_aload_n dL_law_1022 rfl ?_
        refine ex_aload_n dL_law_1023 rfl ?_
        refine ex_iload_n dL_law_1024 rfl ?_
        refine ex_iconst dL_law_1025 ?_
        refine ex_iadd dL_law_1026 ?_
        refine ex_sld (k := 7 * N + 1) dL_law_1027 (by omega) (by omega) ?_
        refine ex_aload_n dL_law_1028 rfl ?_
        refine ex_iload_n dL_law_1029 rfl ?_
        refine ex_iconst dL_law_1030 ?_
        refine ex_iadd dL_law_1031 ?_
        refine ex_sld (k := 7 * N + 2) dL_law_1032 (by omega) (by omega) ?_
        refine ex_callV (c := 79) (ci := 8) (av := [.int (iI (xs (7 * N + 1)).toInt), .int (iI (xs (7 * N + 2)).toInt)]) (rest := [.int (iI z)]) dL_law_1033 kv_L_129 rfl rfl rfl rfl ⟨by decide, by decide⟩ (Nat.le_of_ble_eq_true rfl) hB (fun v2 ν hv2 => ?_)
        obtain ⟨rfl, hS2⟩ := h2 v2 ν hv2
        exact ex_same (x := iI z) (tgt := 1123) dL_law_1036 (by decide) (nxt ν hS2)
      · refine ex_tableIn (off := 1008) (tgt := 1041) dL_law_33 hz (by decide) (by decide) rfl (by decide) ?_
        refine ex_aload_n dL_law_1041 rfl ?_
        obtain ⟨Ψ, hA, h1⟩ := s_judge hS  
        refine ex_callV (c := 0) (ci := 7) (av := []) (rest := []) dL_law_1042 kv_L_130 rfl rfl rfl rfl ⟨by decide, by decide⟩ (Nat.le_of_ble_eq_true rfl) hA (fun v τ hv => ?_)
        obtain ⟨z, rfl, Ψ2, hB, h2⟩ := h1 v τ hv
        refine ex_aload_n dL_law_1045 rfl ?_
        refine ex_callV (c := 79) (ci := 8) (av := []) (rest := [.int (iI z)]) dL_law_1046 kv_L_133 rfl rfl rfl rfl ⟨by decide, by decide⟩ (Nat.le_of_ble_eq_true rfl) hB (fun v2 ν hv2 => ?_)
        obtain ⟨rfl, hS2⟩ := h2 v2 ν hv2
        exact ex_same (x := iI z) (tgt := 1123) dL_law_1049 (by decide) (nxt ν hS2)
      · refine ex_tableIn (off := 1021) (tgt := 1054) dL_law_33 hz (by decide) (by decide) rfl (by decide) ?_
        refine ex_aload_n dL_law_1054 rfl ?_
        refine ex_aload_n dL_law_1055 rfl ?_
        refine ex_iload_n dL_law_1056 rfl ?_
        refine ex_iconst dL_law_1057 ?_
        refine ex_iadd dL_law_1058 ?_
        refine ex_sld (k := 7 * N + 1) dL_law_1059 (by omega) (by omega) ?_
        obtain ⟨Ψ, hA, h1⟩ := s_seed hS ((xs (7 * N + 1)).toInt) (inR_of _)
        refine ex_callV (c := 0) (ci := 7) (av := [.int (iI (xs (7 * N + 1)).toInt)]) (rest := []) dL_law_1060 kv_L_134 rfl rfl rfl rfl ⟨by decide, by decide⟩ (Nat.le_of_ble_eq_true rfl) hA (fun v τ hv => ?_)
        obtain ⟨z, rfl, Ψ2, hB, h2⟩ := h1 v τ hv
        refine ex_aload_n dL_law_1063 rfl ?_
        refine ex_aload_n dL_law_1064 rfl ?_
        refine ex_iload_n dL_law_1065 rfl ?_
        refine ex_iconst dL_law_1066 ?_
        refine ex_iadd dL_law_1067 ?_
        refine ex_sld (k := 7 * N + 1) dL_law_1068 (by omega) (by omega) ?_
        refine ex_callV (c := 79) (ci := 8) (av := [.int (iI (xs (7 * N + 1)).toInt)]) (rest := [.int (iI z)]) dL_law_1069 kv_L_137 rfl rfl rfl rfl ⟨by decide, by decide⟩ (Nat.le_of_ble_eq_true rfl) hB (fun v2 ν hv2 => ?_)
        obtain ⟨rfl, hS2⟩ := h2 v2 ν hv2
        exact ex_same (x := iI z) (tgt := 1123) dL_law_1072 (by decide) (nxt ν hS2)
      · refine ex_tableIn (off := 1044) (tgt := 1077) dL_law_33 hz (by decide) (by decide) rfl (by decide) ?_
        refine ex_aload_n dL_law_1077 rfl ?_
        refine ex_aload_n dL_law_1078 rfl ?_
        refine ex_iload_n dL_law_1079 rfl ?_
        refine ex_iconst dL_law_1080 ?_
        refine ex_iadd dL_law_1081 ?_
        refine ex_sld (k := 7 * N + 1) dL_law_1082 (by omega) (by omega) ?_
        obtain ⟨Ψ, hA, h1⟩ := s_keep hS ((xs (7 * N + 1)).toInt) (inR_of _)
        refine ex_callV (c := 0) (ci := 7) (av := [.int (iI (xs (7 * N + 1)).toInt)]) (rest := []) dL_law_1083 kv_L_138 rfl rfl rfl rfl ⟨by decide, by decide⟩ (Nat.le_of_ble_eq_true rfl) hA (fun v τ hv => ?_)
        obtain ⟨z, rfl, Ψ2, hB, h2⟩ := h1 v τ hv
        refine ex_aload_n dL_law_1086 rfl ?_
        refine ex_aload_n dL_law_1087 rfl ?_
        refine ex_iload_n dL_law_1088 rfl ?_
        refine ex_iconst dL_law_1089 ?_
        refine ex_iadd dL_law_1090 ?_
        refine ex_sld (k := 7 * N + 1) dL_law_1091 (by omega) (by omega) ?_
        refine ex_callV (c := 79) (ci := 8) (av := [.int (iI (xs (7 * N + 1)).toInt)]) (rest := [.int (iI z)]) dL_law_1092 kv_L_141 rfl rfl rfl rfl ⟨by decide, by decide⟩ (Nat.le_of_ble_eq_true rfl) hB (fun v2 ν hv2 => ?_)
        obtain ⟨rfl, hS2⟩ := h2 v2 ν hv2
        exact ex_same (x := iI z) (tgt := 1123) dL_law_1095 (by decide) (nxt ν hS2)
      · refine ex_tableIn (off := 1067) (tgt := 1100) dL_law_33 hz (by decide) (by decide) rfl (by decide) ?_
        refine ex_aload_n dL_law_1100 rfl ?_
        refine ex_aload_n dL_law_1101 rfl ?_
        refine ex_iload_n dL_law_1102 rfl ?_
        refine ex_iconst dL_law_1103 ?_
        refine ex_iadd dL_law_1104 ?_
        refine ex_sld (k := 7 * N + 1) dL_law_1105 (by omega) (by omega) ?_
        obtain ⟨Ψ, hA, h1⟩ := s_goBack hS ((xs (7 * N + 1)).toInt) (inR_of _)
        refine ex_callV (c := 0) (ci := 7) (av := [.int (iI (xs (7 * N + 1)).toInt)]) (rest := []) dL_law_1106 kv_L_142 rfl rfl rfl rfl ⟨by decide, by decide⟩ (Nat.le_of_ble_eq_true rfl) hA (fun v τ hv => ?_)
        obtain ⟨z, rfl, Ψ2, hB, h2⟩ := h1 v τ hv
        refine ex_aload_n dL_law_1109 rfl ?_
        refine ex_aload_n dL_law_1110 rfl ?_
        refine ex_iload_n dL_law_1111 rfl ?_
        refine ex_iconst dL_law_1112 ?_
        refine ex_iadd dL_law_1113 ?_
        refine ex_sld (k := 7 * N + 1) dL_law_1114 (by omega) (by omega) ?_
        refine ex_callV (c := 79) (ci := 8) (av := [.int (iI (xs (7 * N + 1)).toInt)]) (rest := [.int (iI z)]) dL_law_1115 kv_L_145 rfl rfl rfl rfl ⟨by decide, by decide⟩ (Nat.le_of_ble_eq_true rfl) hB (fun v2 ν hv2 => ?_)
        obtain ⟨rfl, hS2⟩ := h2 v2 ν hv2
        exact ex_same (x := iI z) (tgt := 1123) dL_law_1118 (by decide) (nxt ν hS2)
