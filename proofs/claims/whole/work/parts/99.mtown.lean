/-- only what is read differs, and how much text there is -/
def RT (μ ν : Mem) : Prop := (∀ q, ¬ (q = 79 ∨ (108 ≤ q ∧ q ≤ 122)) → ν.1 q = μ.1 q) ∧ ∀ k : Int, ¬ PF k → k ≠ 36 → ν.1 79 k = μ.1 79 k
def TwnM (μ : Mem) (R : (Int × Nat) ⊕ PD) (z : Int) (ν : Mem) : Prop := (∃ (f : Int) (w : Nat), R = .inl (f, w) ∧ z = -10 - f ∧ 0 < f ∧ f ≤ 4 ∧ RT μ ν ∧ ν.1 79 36 = 0 ∧ ν.1 79 37 = w) ∨ ∃ (d : PD) (ν1 ν2 : Mem), R = .inr d ∧ z = d.1 0 ∧ PDok d ∧ RT μ ν1 ∧ ν1.1 79 36 = 0 ∧ ν1.1 79 37 = -1 ∧ PRm ν1 d ∧ Up cpS (cpE ν1) tcD ν1 ν2 ∧ Up beS (beE ν2) tbD ν2 ν
set_option maxHeartbeats 4000000 in
theorem m_town (μ : Mem) (c : Nat → Int) (L : Nat) (hT : TX μ c L) : Con yX8_town cX8_town 3 (some .int) 6 143 [.ref 79] μ (AnsQ (TwnM μ (parR c L (L + 1) d00 0))) := by
  refine con_of (by decide) rfl (Nat.le_of_ble_eq_true rfl) (ok_Q rfl) ?_
  refine ev_w (fun hR => ?_)
  have hR0 := hR
  generalize hR0e : parR c L (L + 1) d00 0 = R0 at *
  have hL5 := hT.2.1
  have loop3 : ∀ ν1, (∃ d, R0 = .inr d ∧ PDok d ∧ RT μ ν1 ∧ ν1.1 79 36 = 0 ∧ ν1.1 79 37 = -1 ∧ PRm ν1 d) → ∀ k : Nat, k ≤ 4 → ∀ ν, Up cpS (cpE ν1) (Rw (Rw (Rw cpF 83 87 12) 80 83 8) 87 95 k) ν1 ν → Ev RX8 cX8_town 3 6 143 (AnsQ (TwnM μ R0)) 211 [some (.ref 79), some (.int (iI 0)), some (.int (iI (k : Nat)))] [] ν := by
    intro ν0 hνs
    refine for_up 4 (fun k hk ih => ?_)
    intro ν hI
    refine ev_w (fun hR => ?_)
    refine ev_iload_n dX8_town_211 rfl ?_
    refine ev_iconst dX8_town_212 ?_
    refine ev_icmp_ge (tgt := 318) dX8_town_213 (by decide) (by first | exact hR.1 _ _ | exact hR0.1 _ _ | assumption | exact ⟨by omega, by omega⟩ | exact ⟨by simp [wr_at]; omega, by simp [wr_at]; omega⟩ | exact b2_R _ | exact bC_R _ | exact band_R _ _ | exact bor_R _ _ | exact bshl_R _ _ | exact bshr_R _ _ | exact bxor_R _ _ | exact bs_R (by omega) | decide) (by first | exact hR.1 _ _ | exact hR0.1 _ _ | assumption | exact ⟨by omega, by omega⟩ | exact ⟨by simp [wr_at]; omega, by simp [wr_at]; omega⟩ | exact b2_R _ | exact bC_R _ | exact band_R _ _ | exact bor_R _ _ | exact bshl_R _ _ | exact bshr_R _ _ | exact bxor_R _ _ | exact bs_R (by omega) | decide) (fun h_213 => ?_) (fun h_213 => ?_)
    · refine ev_aload_n dX8_town_318 rfl ?_
      refine ev_iconst dX8_town_319 ?_
      refine ev_putI (kz := 68) dX8_town_320 fp_X8_300 rfl rfl rfl (by first | exact hR.1 _ _ | exact hR0.1 _ _ | assumption | exact ⟨by omega, by omega⟩ | exact ⟨by simp [wr_at]; omega, by simp [wr_at]; omega⟩ | exact b2_R _ | exact bC_R _ | exact band_R _ _ | exact bor_R _ _ | exact bshl_R _ _ | exact bshr_R _ _ | exact bxor_R _ _ | exact bs_R (by omega) | decide) ?_
      refine ev_w (fun hR => ?_)
      replace hI : Up cpS (cpE ν0) tcR ν0 ν := hI.rk (by omega)
      have hI1 := hI.put (c := 79) (j := 68) (z := 0) (by unfold cpS; omega) (rfl)
      generalize wr ν 79 (68) 0 = ν1 at hI1 hR ⊢
      refine ev_aload_n dX8_town_323 rfl ?_
      refine ev_getR (r := 133) dX8_town_324 fl_X8_174 rfl rfl rfl ?_
      refine ev_iconst dX8_town_327 ?_
      refine ev_iconst dX8_town_328 ?_
      refine ev_zastore dX8_town_329 rfl (by first | omega | (simp [wr_at]; omega) | (simp [wr_at, *]; omega)) (by first | omega | (simp [wr_at]; omega) | (simp [wr_at, *]; omega)) (by decide) (by first | exact Or.inl rfl | exact Or.inr rfl | omega) ?_
      refine ev_w (fun hR => ?_)
      have hI2 := hI1.put (c := 133) (j := 0) (z := 0) (by unfold cpS; omega) (rfl)
      generalize wr ν1 133 (0) 0 = ν2 at hI2 hR ⊢
      refine ev_aload_n dX8_town_330 rfl ?_
      refine ev_getR (r := 133) dX8_town_331 fl_X8_174 rfl rfl rfl ?_
      refine ev_iconst dX8_town_334 ?_
      refine ev_iconst dX8_town_335 ?_
      refine ev_zastore dX8_town_336 rfl (by first | omega | (simp [wr_at]; omega) | (simp [wr_at, *]; omega)) (by first | omega | (simp [wr_at]; omega) | (simp [wr_at, *]; omega)) (by decide) (by first | exact Or.inl rfl | exact Or.inr rfl | omega) ?_
      refine ev_w (fun hR => ?_)
      have hI3 := hI2.put (c := 133) (j := 1) (z := 0) (by unfold cpS; omega) (rfl)
      generalize wr ν2 133 (1) 0 = ν3 at hI3 hR ⊢
      obtain ⟨d, g1, g2, g3, g4, g5, g6⟩ := hνs
      refine ev_aload_n dX8_town_337 rfl ?_
      refine ev_callVP dX8_town_338 kv_X8_303 (m_begin _) rfl rfl (ci := 8) rfl rfl ⟨by decide, by decide⟩ (Nat.le_of_ble_eq_true rfl) ?_
      rintro v_338 τ_338 ⟨rfl, hq_338⟩
      refine ev_w (fun hR => ?_)
      refine ev_aload_n dX8_town_341 rfl ?_
      refine ev_getI (kz := 0) dX8_town_342 fl_X8_177 rfl rfl rfl ?_
      have e0 : τ_338.1 79 0 = d.1 0 := by
        rw [hq_338.1 79 0 (by unfold beS; omega), hI3.2 79 0 (Or.inl (Or.inl (Or.inl (Or.inl (Or.inl (Or.inl (Or.inl (Or.inl (Or.inl (Or.inr ⟨rfl, rfl⟩))))))))))]
        exact g6.1 0 (by decide)
      rw [e0]
      refine ev_ireturn dX8_town_345 ?_
      exact ⟨_, rfl, Or.inr ⟨d, ν0, ν3, g1, rfl, g2, g3, g4, g5, g6, hI3, hq_338⟩⟩
    · refine ev_aload_n dX8_town_216 rfl ?_
      refine ev_getR (r := 87) dX8_town_217 fl_X8_31 rfl rfl rfl ?_
      refine ev_iload_n dX8_town_220 rfl ?_
      refine ev_aload_n dX8_town_221 rfl ?_
      refine ev_getR (r := 115) dX8_town_222 fl_X8_120 rfl rfl rfl ?_
      refine ev_iload_n dX8_town_225 rfl ?_
      refine ev_iaload dX8_town_226 rfl (by first | omega | (simp [wr_at]; omega) | (simp [wr_at, *]; omega)) (by first | omega | (simp [wr_at]; omega) | (simp [wr_at, *]; omega)) (by decide) ?_
      refine ev_iastore dX8_town_227 rfl (by first | omega | (simp [wr_at]; omega) | (simp [wr_at, *]; omega)) (by first | omega | (simp [wr_at]; omega) | (simp [wr_at, *]; omega)) (by decide) (by first | exact hR.1 _ _ | exact hR0.1 _ _ | assumption | exact ⟨by omega, by omega⟩ | exact ⟨by simp [wr_at]; omega, by simp [wr_at]; omega⟩ | exact b2_R _ | exact bC_R _ | exact band_R _ _ | exact bor_R _ _ | exact bshl_R _ _ | exact bshr_R _ _ | exact bxor_R _ _ | exact bs_R (by omega) | decide) ?_
      refine ev_w (fun hR => ?_)
      have hI0 := hI.st 87 (k : Int)
      have hI1 := Up.run (z := (ν.1 115 (k : Int))) 87 hI0 (by unfold cpS; omega) (by rw [hI0.1 115 _ (by unfold cpS; omega)]; rfl)
      generalize wr ν 87 (k : Int) (ν.1 115 (k : Int)) = ν1 at hI1 hR ⊢
      refine ev_aload_n dX8_town_228 rfl ?_
      refine ev_getR (r := 88) dX8_town_229 fl_X8_34 rfl rfl rfl ?_
      refine ev_iload_n dX8_town_232 rfl ?_
      refine ev_aload_n dX8_town_233 rfl ?_
      refine ev_getR (r := 116) dX8_town_234 fl_X8_123 rfl rfl rfl ?_
      refine ev_iload_n dX8_town_237 rfl ?_
      refine ev_iaload dX8_town_238 rfl (by first | omega | (simp [wr_at]; omega) | (simp [wr_at, *]; omega)) (by first | omega | (simp [wr_at]; omega) | (simp [wr_at, *]; omega)) (by decide) ?_
      refine ev_iastore dX8_town_239 rfl (by first | omega | (simp [wr_at]; omega) | (simp [wr_at, *]; omega)) (by first | omega | (simp [wr_at]; omega) | (simp [wr_at, *]; omega)) (by decide) (by first | exact hR.1 _ _ | exact hR0.1 _ _ | assumption | exact ⟨by omega, by omega⟩ | exact ⟨by simp [wr_at]; omega, by simp [wr_at]; omega⟩ | exact b2_R _ | exact bC_R _ | exact band_R _ _ | exact bor_R _ _ | exact bshl_R _ _ | exact bshr_R _ _ | exact bxor_R _ _ | exact bs_R (by omega) | decide) ?_
      refine ev_w (fun hR => ?_)
      have hI2 := Up.run (z := (ν1.1 116 (k : Int))) 88 hI1 (by unfold cpS; omega) (by rw [hI1.1 116 _ (by unfold cpS; omega)]; rfl)
      generalize wr ν1 88 (k : Int) (ν1.1 116 (k : Int)) = ν2 at hI2 hR ⊢
      refine ev_aload_n dX8_town_240 rfl ?_
      refine ev_getR (r := 89) dX8_town_241 fl_X8_37 rfl rfl rfl ?_
      refine ev_iload_n dX8_town_244 rfl ?_
      refine ev_aload_n dX8_town_245 rfl ?_
      refine ev_getR (r := 117) dX8_town_246 fl_X8_126 rfl rfl rfl ?_
      refine ev_iload_n dX8_town_249 rfl ?_
      refine ev_iaload dX8_town_250 rfl (by first | omega | (simp [wr_at]; omega) | (simp [wr_at, *]; omega)) (by first | omega | (simp [wr_at]; omega) | (simp [wr_at, *]; omega)) (by decide) ?_
      refine ev_iastore dX8_town_251 rfl (by first | omega | (simp [wr_at]; omega) | (simp [wr_at, *]; omega)) (by first | omega | (simp [wr_at]; omega) | (simp [wr_at, *]; omega)) (by decide) (by first | exact hR.1 _ _ | exact hR0.1 _ _ | assumption | exact ⟨by omega, by omega⟩ | exact ⟨by simp [wr_at]; omega, by simp [wr_at]; omega⟩ | exact b2_R _ | exact bC_R _ | exact band_R _ _ | exact bor_R _ _ | exact bshl_R _ _ | exact bshr_R _ _ | exact bxor_R _ _ | exact bs_R (by omega) | decide) ?_
      refine ev_w (fun hR => ?_)
      have hI3 := Up.run (z := (ν2.1 117 (k : Int))) 89 hI2 (by unfold cpS; omega) (by rw [hI2.1 117 _ (by unfold cpS; omega)]; rfl)
      generalize wr ν2 89 (k : Int) (ν2.1 117 (k : Int)) = ν3 at hI3 hR ⊢
      refine ev_aload_n dX8_town_252 rfl ?_
      refine ev_getR (r := 90) dX8_town_253 fl_X8_40 rfl rfl rfl ?_
      refine ev_iload_n dX8_town_256 rfl ?_
      refine ev_aload_n dX8_town_257 rfl ?_
      refine ev_getR (r := 118) dX8_town_258 fl_X8_129 rfl rfl rfl ?_
      refine ev_iload_n dX8_town_261 rfl ?_
      refine ev_iaload dX8_town_262 rfl (by first | omega | (simp [wr_at]; omega) | (simp [wr_at, *]; omega)) (by first | omega | (simp [wr_at]; omega) | (simp [wr_at, *]; omega)) (by decide) ?_
      refine ev_iastore dX8_town_263 rfl (by first | omega | (simp [wr_at]; omega) | (simp [wr_at, *]; omega)) (by first | omega | (simp [wr_at]; omega) | (simp [wr_at, *]; omega)) (by decide) (by first | exact hR.1 _ _ | exact hR0.1 _ _ | assumption | exact ⟨by omega, by omega⟩ | exact ⟨by simp [wr_at]; omega, by simp [wr_at]; omega⟩ | exact b2_R _ | exact bC_R _ | exact band_R _ _ | exact bor_R _ _ | exact bshl_R _ _ | exact bshr_R _ _ | exact bxor_R _ _ | exact bs_R (by omega) | decide) ?_
      refine ev_w (fun hR => ?_)
      have hI4 := Up.run (z := (ν3.1 118 (k : Int))) 90 hI3 (by unfold cpS; omega) (by rw [hI3.1 118 _ (by unfold cpS; omega)]; rfl)
      generalize wr ν3 90 (k : Int) (ν3.1 118 (k : Int)) = ν4 at hI4 hR ⊢
      refine ev_aload_n dX8_town_264 rfl ?_
      refine ev_getR (r := 91) dX8_town_265 fl_X8_43 rfl rfl rfl ?_
      refine ev_iload_n dX8_town_268 rfl ?_
      refine ev_aload_n dX8_town_269 rfl ?_
      refine ev_getR (r := 119) dX8_town_270 fl_X8_132 rfl rfl rfl ?_
      refine ev_iload_n dX8_town_273 rfl ?_
      refine ev_iaload dX8_town_274 rfl (by first | omega | (simp [wr_at]; omega) | (simp [wr_at, *]; omega)) (by first | omega | (simp [wr_at]; omega) | (simp [wr_at, *]; omega)) (by decide) ?_
      refine ev_iastore dX8_town_275 rfl (by first | omega | (simp [wr_at]; omega) | (simp [wr_at, *]; omega)) (by first | omega | (simp [wr_at]; omega) | (simp [wr_at, *]; omega)) (by decide) (by first | exact hR.1 _ _ | exact hR0.1 _ _ | assumption | exact ⟨by omega, by omega⟩ | exact ⟨by simp [wr_at]; omega, by simp [wr_at]; omega⟩ | exact b2_R _ | exact bC_R _ | exact band_R _ _ | exact bor_R _ _ | exact bshl_R _ _ | exact bshr_R _ _ | exact bxor_R _ _ | exact bs_R (by omega) | decide) ?_
      refine ev_w (fun hR => ?_)
      have hI5 := Up.run (z := (ν4.1 119 (k : Int))) 91 hI4 (by unfold cpS; omega) (by rw [hI4.1 119 _ (by unfold cpS; omega)]; rfl)
      generalize wr ν4 91 (k : Int) (ν4.1 119 (k : Int)) = ν5 at hI5 hR ⊢
      refine ev_aload_n dX8_town_276 rfl ?_
      refine ev_getR (r := 92) dX8_town_277 fl_X8_46 rfl rfl rfl ?_
      refine ev_iload_n dX8_town_280 rfl ?_
      refine ev_aload_n dX8_town_281 rfl ?_
      refine ev_getR (r := 120) dX8_town_282 fl_X8_135 rfl rfl rfl ?_
      refine ev_iload_n dX8_town_285 rfl ?_
      refine ev_iaload dX8_town_286 rfl (by first | omega | (simp [wr_at]; omega) | (simp [wr_at, *]; omega)) (by first | omega | (simp [wr_at]; omega) | (simp [wr_at, *]; omega)) (by decide) ?_
      refine ev_iastore dX8_town_287 rfl (by first | omega | (simp [wr_at]; omega) | (simp [wr_at, *]; omega)) (by first | omega | (simp [wr_at]; omega) | (simp [wr_at, *]; omega)) (by decide) (by first | exact hR.1 _ _ | exact hR0.1 _ _ | assumption | exact ⟨by omega, by omega⟩ | exact ⟨by simp [wr_at]; omega, by simp [wr_at]; omega⟩ | exact b2_R _ | exact bC_R _ | exact band_R _ _ | exact bor_R _ _ | exact bshl_R _ _ | exact bshr_R _ _ | exact bxor_R _ _ | exact bs_R (by omega) | decide) ?_
      refine ev_w (fun hR => ?_)
      have hI6 := Up.run (z := (ν5.1 120 (k : Int))) 92 hI5 (by unfold cpS; omega) (by rw [hI5.1 120 _ (by unfold cpS; omega)]; rfl)
      generalize wr ν5 92 (k : Int) (ν5.1 120 (k : Int)) = ν6 at hI6 hR ⊢
      refine ev_aload_n dX8_town_288 rfl ?_
      refine ev_getR (r := 93) dX8_town_289 fl_X8_49 rfl rfl rfl ?_
      refine ev_iload_n dX8_town_292 rfl ?_
      refine ev_aload_n dX8_town_293 rfl ?_
      refine ev_getR (r := 121) dX8_town_294 fl_X8_138 rfl rfl rfl ?_
      refine ev_iload_n dX8_town_297 rfl ?_
      refine ev_iaload dX8_town_298 rfl (by first | omega | (simp [wr_at]; omega) | (simp [wr_at, *]; omega)) (by first | omega | (simp [wr_at]; omega) | (simp [wr_at, *]; omega)) (by decide) ?_
      refine ev_iastore dX8_town_299 rfl (by first | omega | (simp [wr_at]; omega) | (simp [wr_at, *]; omega)) (by first | omega | (simp [wr_at]; omega) | (simp [wr_at, *]; omega)) (by decide) (by first | exact hR.1 _ _ | exact hR0.1 _ _ | assumption | exact ⟨by omega, by omega⟩ | exact ⟨by simp [wr_at]; omega, by simp [wr_at]; omega⟩ | exact b2_R _ | exact bC_R _ | exact band_R _ _ | exact bor_R _ _ | exact bshl_R _ _ | exact bshr_R _ _ | exact bxor_R _ _ | exact bs_R (by omega) | decide) ?_
      refine ev_w (fun hR => ?_)
      have hI7 := Up.run (z := (ν6.1 121 (k : Int))) 93 hI6 (by unfold cpS; omega) (by rw [hI6.1 121 _ (by unfold cpS; omega)]; rfl)
      generalize wr ν6 93 (k : Int) (ν6.1 121 (k : Int)) = ν7 at hI7 hR ⊢
      refine ev_aload_n dX8_town_300 rfl ?_
      refine ev_getR (r := 94) dX8_town_301 fl_X8_52 rfl rfl rfl ?_
      refine ev_iload_n dX8_town_304 rfl ?_
      refine ev_aload_n dX8_town_305 rfl ?_
      refine ev_getR (r := 122) dX8_town_306 fl_X8_141 rfl rfl rfl ?_
      refine ev_iload_n dX8_town_309 rfl ?_
      refine ev_iaload dX8_town_310 rfl (by first | omega | (simp [wr_at]; omega) | (simp [wr_at, *]; omega)) (by first | omega | (simp [wr_at]; omega) | (simp [wr_at, *]; omega)) (by decide) ?_
      refine ev_iastore dX8_town_311 rfl (by first | omega | (simp [wr_at]; omega) | (simp [wr_at, *]; omega)) (by first | omega | (simp [wr_at]; omega) | (simp [wr_at, *]; omega)) (by decide) (by first | exact hR.1 _ _ | exact hR0.1 _ _ | assumption | exact ⟨by omega, by omega⟩ | exact ⟨by simp [wr_at]; omega, by simp [wr_at]; omega⟩ | exact b2_R _ | exact bC_R _ | exact band_R _ _ | exact bor_R _ _ | exact bshl_R _ _ | exact bshr_R _ _ | exact bxor_R _ _ | exact bs_R (by omega) | decide) ?_
      refine ev_w (fun hR => ?_)
      have hI8 := Up.run (z := (ν7.1 122 (k : Int))) 94 hI7 (by unfold cpS; omega) (by rw [hI7.1 122 _ (by unfold cpS; omega)]; rfl)
      generalize wr ν7 94 (k : Int) (ν7.1 122 (k : Int)) = ν8 at hI8 hR ⊢
      refine ev_iinc dX8_town_312 rfl rfl (by decide) rfl ?_
      refine ev_goto (tgt := 211) dX8_town_315 (by decide) ?_
      exact ih (by omega) _ (Up.rs hI8 rfl rfl)
  have loop2 : ∀ ν1, (∃ d, R0 = .inr d ∧ PDok d ∧ RT μ ν1 ∧ ν1.1 79 36 = 0 ∧ ν1.1 79 37 = -1 ∧ PRm ν1 d) → ∀ k : Nat, k ≤ 8 → ∀ ν, Up cpS (cpE ν1) (Rw (Rw cpF 83 87 12) 80 83 k) ν1 ν → Ev RX8 cX8_town 3 6 143 (AnsQ (TwnM μ R0)) 161 [some (.ref 79), some (.int (iI 0)), some (.int (iI (k : Nat)))] [] ν := by
    intro ν0 hνs
    refine for_up 8 (fun k hk ih => ?_)
    intro ν hI
    refine ev_w (fun hR => ?_)
    refine ev_iload_n dX8_town_161 rfl ?_
    refine ev_bipush dX8_town_162 (by decide) ?_
    refine ev_icmp_ge (tgt := 209) dX8_town_164 (by decide) (by first | exact hR.1 _ _ | exact hR0.1 _ _ | assumption | exact ⟨by omega, by omega⟩ | exact ⟨by simp [wr_at]; omega, by simp [wr_at]; omega⟩ | exact b2_R _ | exact bC_R _ | exact band_R _ _ | exact bor_R _ _ | exact bshl_R _ _ | exact bshr_R _ _ | exact bxor_R _ _ | exact bs_R (by omega) | decide) (by first | exact hR.1 _ _ | exact hR0.1 _ _ | assumption | exact ⟨by omega, by omega⟩ | exact ⟨by simp [wr_at]; omega, by simp [wr_at]; omega⟩ | exact b2_R _ | exact bC_R _ | exact band_R _ _ | exact bor_R _ _ | exact bshl_R _ _ | exact bshr_R _ _ | exact bxor_R _ _ | exact bs_R (by omega) | decide) (fun h_164 => ?_) (fun h_164 => ?_)
    · refine ev_iconst dX8_town_209 ?_
      refine ev_istore_n dX8_town_210 rfl (by decide) rfl ?_
      exact loop3 ν0 hνs 0 (by omega) _ (Up.r0 (hI.rk (by omega)) rfl)
    · refine ev_aload_n dX8_town_167 rfl ?_
      refine ev_getR (r := 80) dX8_town_168 fl_X8_7 rfl rfl rfl ?_
      refine ev_iload_n dX8_town_171 rfl ?_
      refine ev_aload_n dX8_town_172 rfl ?_
      refine ev_getR (r := 108) dX8_town_173 fl_X8_99 rfl rfl rfl ?_
      refine ev_iload_n dX8_town_176 rfl ?_
      refine ev_iaload dX8_town_177 rfl (by first | omega | (simp [wr_at]; omega) | (simp [wr_at, *]; omega)) (by first | omega | (simp [wr_at]; omega) | (simp [wr_at, *]; omega)) (by decide) ?_
      refine ev_iastore dX8_town_178 rfl (by first | omega | (simp [wr_at]; omega) | (simp [wr_at, *]; omega)) (by first | omega | (simp [wr_at]; omega) | (simp [wr_at, *]; omega)) (by decide) (by first | exact hR.1 _ _ | exact hR0.1 _ _ | assumption | exact ⟨by omega, by omega⟩ | exact ⟨by simp [wr_at]; omega, by simp [wr_at]; omega⟩ | exact b2_R _ | exact bC_R _ | exact band_R _ _ | exact bor_R _ _ | exact bshl_R _ _ | exact bshr_R _ _ | exact bxor_R _ _ | exact bs_R (by omega) | decide) ?_
      refine ev_w (fun hR => ?_)
      have hI0 := hI.st 80 (k : Int)
      have hI1 := Up.run (z := (ν.1 108 (k : Int))) 80 hI0 (by unfold cpS; omega) (by rw [hI0.1 108 _ (by unfold cpS; omega)]; rfl)
      generalize wr ν 80 (k : Int) (ν.1 108 (k : Int)) = ν1 at hI1 hR ⊢
      refine ev_aload_n dX8_town_179 rfl ?_
      refine ev_getR (r := 81) dX8_town_180 fl_X8_13 rfl rfl rfl ?_
      refine ev_iload_n dX8_town_183 rfl ?_
      refine ev_aload_n dX8_town_184 rfl ?_
      refine ev_getR (r := 109) dX8_town_185 fl_X8_102 rfl rfl rfl ?_
      refine ev_iload_n dX8_town_188 rfl ?_
      refine ev_iaload dX8_town_189 rfl (by first | omega | (simp [wr_at]; omega) | (simp [wr_at, *]; omega)) (by first | omega | (simp [wr_at]; omega) | (simp [wr_at, *]; omega)) (by decide) ?_
      refine ev_iastore dX8_town_190 rfl (by first | omega | (simp [wr_at]; omega) | (simp [wr_at, *]; omega)) (by first | omega | (simp [wr_at]; omega) | (simp [wr_at, *]; omega)) (by decide) (by first | exact hR.1 _ _ | exact hR0.1 _ _ | assumption | exact ⟨by omega, by omega⟩ | exact ⟨by simp [wr_at]; omega, by simp [wr_at]; omega⟩ | exact b2_R _ | exact bC_R _ | exact band_R _ _ | exact bor_R _ _ | exact bshl_R _ _ | exact bshr_R _ _ | exact bxor_R _ _ | exact bs_R (by omega) | decide) ?_
      refine ev_w (fun hR => ?_)
      have hI2 := Up.run (z := (ν1.1 109 (k : Int))) 81 hI1 (by unfold cpS; omega) (by rw [hI1.1 109 _ (by unfold cpS; omega)]; rfl)
      generalize wr ν1 81 (k : Int) (ν1.1 109 (k : Int)) = ν2 at hI2 hR ⊢
      refine ev_aload_n dX8_town_191 rfl ?_
      refine ev_getR (r := 82) dX8_town_192 fl_X8_16 rfl rfl rfl ?_
      refine ev_iload_n dX8_town_195 rfl ?_
      refine ev_aload_n dX8_town_196 rfl ?_
      refine ev_getR (r := 110) dX8_town_197 fl_X8_105 rfl rfl rfl ?_
      refine ev_iload_n dX8_town_200 rfl ?_
      refine ev_iaload dX8_town_201 rfl (by first | omega | (simp [wr_at]; omega) | (simp [wr_at, *]; omega)) (by first | omega | (simp [wr_at]; omega) | (simp [wr_at, *]; omega)) (by decide) ?_
      refine ev_iastore dX8_town_202 rfl (by first | omega | (simp [wr_at]; omega) | (simp [wr_at, *]; omega)) (by first | omega | (simp [wr_at]; omega) | (simp [wr_at, *]; omega)) (by decide) (by first | exact hR.1 _ _ | exact hR0.1 _ _ | assumption | exact ⟨by omega, by omega⟩ | exact ⟨by simp [wr_at]; omega, by simp [wr_at]; omega⟩ | exact b2_R _ | exact bC_R _ | exact band_R _ _ | exact bor_R _ _ | exact bshl_R _ _ | exact bshr_R _ _ | exact bxor_R _ _ | exact bs_R (by omega) | decide) ?_
      refine ev_w (fun hR => ?_)
      have hI3 := Up.run (z := (ν2.1 110 (k : Int))) 82 hI2 (by unfold cpS; omega) (by rw [hI2.1 110 _ (by unfold cpS; omega)]; rfl)
      generalize wr ν2 82 (k : Int) (ν2.1 110 (k : Int)) = ν3 at hI3 hR ⊢
      refine ev_iinc dX8_town_203 rfl rfl (by decide) rfl ?_
      refine ev_goto (tgt := 161) dX8_town_206 (by decide) ?_
      exact ih (by omega) _ (Up.rs hI3 rfl rfl)
  have loop1 : ∀ ν1, (∃ d, R0 = .inr d ∧ PDok d ∧ RT μ ν1 ∧ ν1.1 79 36 = 0 ∧ ν1.1 79 37 = -1 ∧ PRm ν1 d) → ∀ k : Nat, k ≤ 12 → ∀ ν, Up cpS (cpE ν1) (Rw cpF 83 87 k) ν1 ν → Ev RX8 cX8_town 3 6 143 (AnsQ (TwnM μ R0)) 99 [some (.ref 79), some (.int (iI 0)), some (.int (iI (k : Nat)))] [] ν := by
    intro ν0 hνs
    refine for_up 12 (fun k hk ih => ?_)
    intro ν hI
    refine ev_w (fun hR => ?_)
    refine ev_iload_n dX8_town_99 rfl ?_
    refine ev_bipush dX8_town_100 (by decide) ?_
    refine ev_icmp_ge (tgt := 159) dX8_town_102 (by decide) (by first | exact hR.1 _ _ | exact hR0.1 _ _ | assumption | exact ⟨by omega, by omega⟩ | exact ⟨by simp [wr_at]; omega, by simp [wr_at]; omega⟩ | exact b2_R _ | exact bC_R _ | exact band_R _ _ | exact bor_R _ _ | exact bshl_R _ _ | exact bshr_R _ _ | exact bxor_R _ _ | exact bs_R (by omega) | decide) (by first | exact hR.1 _ _ | exact hR0.1 _ _ | assumption | exact ⟨by omega, by omega⟩ | exact ⟨by simp [wr_at]; omega, by simp [wr_at]; omega⟩ | exact b2_R _ | exact bC_R _ | exact band_R _ _ | exact bor_R _ _ | exact bshl_R _ _ | exact bshr_R _ _ | exact bxor_R _ _ | exact bs_R (by omega) | decide) (fun h_102 => ?_) (fun h_102 => ?_)
    · refine ev_iconst dX8_town_159 ?_
      refine ev_istore_n dX8_town_160 rfl (by decide) rfl ?_
      exact loop2 ν0 hνs 0 (by omega) _ (Up.r0 (hI.rk (by omega)) rfl)
    · refine ev_aload_n dX8_town_105 rfl ?_
      refine ev_getR (r := 83) dX8_town_106 fl_X8_19 rfl rfl rfl ?_
      refine ev_iload_n dX8_town_109 rfl ?_
      refine ev_aload_n dX8_town_110 rfl ?_
      refine ev_getR (r := 111) dX8_town_111 fl_X8_108 rfl rfl rfl ?_
      refine ev_iload_n dX8_town_114 rfl ?_
      refine ev_iaload dX8_town_115 rfl (by first | omega | (simp [wr_at]; omega) | (simp [wr_at, *]; omega)) (by first | omega | (simp [wr_at]; omega) | (simp [wr_at, *]; omega)) (by decide) ?_
      refine ev_iastore dX8_town_116 rfl (by first | omega | (simp [wr_at]; omega) | (simp [wr_at, *]; omega)) (by first | omega | (simp [wr_at]; omega) | (simp [wr_at, *]; omega)) (by decide) (by first | exact hR.1 _ _ | exact hR0.1 _ _ | assumption | exact ⟨by omega, by omega⟩ | exact ⟨by simp [wr_at]; omega, by simp [wr_at]; omega⟩ | exact b2_R _ | exact bC_R _ | exact band_R _ _ | exact bor_R _ _ | exact bshl_R _ _ | exact bshr_R _ _ | exact bxor_R _ _ | exact bs_R (by omega) | decide) ?_
      refine ev_w (fun hR => ?_)
      have hI0 := hI.st 83 (k : Int)
      have hI1 := Up.run (z := (ν.1 111 (k : Int))) 83 hI0 (by unfold cpS; omega) (by rw [hI0.1 111 _ (by unfold cpS; omega)]; rfl)
      generalize wr ν 83 (k : Int) (ν.1 111 (k : Int)) = ν1 at hI1 hR ⊢
      refine ev_aload_n dX8_town_117 rfl ?_
      refine ev_getR (r := 84) dX8_town_118 fl_X8_22 rfl rfl rfl ?_
      refine ev_iload_n dX8_town_121 rfl ?_
      refine ev_aload_n dX8_town_122 rfl ?_
      refine ev_getR (r := 112) dX8_town_123 fl_X8_111 rfl rfl rfl ?_
      refine ev_iload_n dX8_town_126 rfl ?_
      refine ev_iaload dX8_town_127 rfl (by first | omega | (simp [wr_at]; omega) | (simp [wr_at, *]; omega)) (by first | omega | (simp [wr_at]; omega) | (simp [wr_at, *]; omega)) (by decide) ?_
      refine ev_iastore dX8_town_128 rfl (by first | omega | (simp [wr_at]; omega) | (simp [wr_at, *]; omega)) (by first | omega | (simp [wr_at]; omega) | (simp [wr_at, *]; omega)) (by decide) (by first | exact hR.1 _ _ | exact hR0.1 _ _ | assumption | exact ⟨by omega, by omega⟩ | exact ⟨by simp [wr_at]; omega, by simp [wr_at]; omega⟩ | exact b2_R _ | exact bC_R _ | exact band_R _ _ | exact bor_R _ _ | exact bshl_R _ _ | exact bshr_R _ _ | exact bxor_R _ _ | exact bs_R (by omega) | decide) ?_
      refine ev_w (fun hR => ?_)
      have hI2 := Up.run (z := (ν1.1 112 (k : Int))) 84 hI1 (by unfold cpS; omega) (by rw [hI1.1 112 _ (by unfold cpS; omega)]; rfl)
      generalize wr ν1 84 (k : Int) (ν1.1 112 (k : Int)) = ν2 at hI2 hR ⊢
      refine ev_aload_n dX8_town_129 rfl ?_
      refine ev_getR (r := 85) dX8_town_130 fl_X8_25 rfl rfl rfl ?_
      refine ev_iload_n dX8_town_133 rfl ?_
      refine ev_aload_n dX8_town_134 rfl ?_
      refine ev_getR (r := 113) dX8_town_135 fl_X8_114 rfl rfl rfl ?_
      refine ev_iload_n dX8_town_138 rfl ?_
      refine ev_iaload dX8_town_139 rfl (by first | omega | (simp [wr_at]; omega) | (simp [wr_at, *]; omega)) (by first | omega | (simp [wr_at]; omega) | (simp [wr_at, *]; omega)) (by decide) ?_
      refine ev_iastore dX8_town_140 rfl (by first | omega | (simp [wr_at]; omega) | (simp [wr_at, *]; omega)) (by first | omega | (simp [wr_at]; omega) | (simp [wr_at, *]; omega)) (by decide) (by first | exact hR.1 _ _ | exact hR0.1 _ _ | assumption | exact ⟨by omega, by omega⟩ | exact ⟨by simp [wr_at]; omega, by simp [wr_at]; omega⟩ | exact b2_R _ | exact bC_R _ | exact band_R _ _ | exact bor_R _ _ | exact bshl_R _ _ | exact bshr_R _ _ | exact bxor_R _ _ | exact bs_R (by omega) | decide) ?_
      refine ev_w (fun hR => ?_)
      have hI3 := Up.run (z := (ν2.1 113 (k : Int))) 85 hI2 (by unfold cpS; omega) (by rw [hI2.1 113 _ (by unfold cpS; omega)]; rfl)
      generalize wr ν2 85 (k : Int) (ν2.1 113 (k : Int)) = ν3 at hI3 hR ⊢
      refine ev_aload_n dX8_town_141 rfl ?_
      refine ev_getR (r := 86) dX8_town_142 fl_X8_28 rfl rfl rfl ?_
      refine ev_iload_n dX8_town_145 rfl ?_
      refine ev_aload_n dX8_town_146 rfl ?_
      refine ev_getR (r := 114) dX8_town_147 fl_X8_117 rfl rfl rfl ?_
      refine ev_iload_n dX8_town_150 rfl ?_
      refine ev_iaload dX8_town_151 rfl (by first | omega | (simp [wr_at]; omega) | (simp [wr_at, *]; omega)) (by first | omega | (simp [wr_at]; omega) | (simp [wr_at, *]; omega)) (by decide) ?_
      refine ev_iastore dX8_town_152 rfl (by first | omega | (simp [wr_at]; omega) | (simp [wr_at, *]; omega)) (by first | omega | (simp [wr_at]; omega) | (simp [wr_at, *]; omega)) (by decide) (by first | exact hR.1 _ _ | exact hR0.1 _ _ | assumption | exact ⟨by omega, by omega⟩ | exact ⟨by simp [wr_at]; omega, by simp [wr_at]; omega⟩ | exact b2_R _ | exact bC_R _ | exact band_R _ _ | exact bor_R _ _ | exact bshl_R _ _ | exact bshr_R _ _ | exact bxor_R _ _ | exact bs_R (by omega) | decide) ?_
      refine ev_w (fun hR => ?_)
      have hI4 := Up.run (z := (ν3.1 114 (k : Int))) 86 hI3 (by unfold cpS; omega) (by rw [hI3.1 114 _ (by unfold cpS; omega)]; rfl)
      generalize wr ν3 86 (k : Int) (ν3.1 114 (k : Int)) = ν4 at hI4 hR ⊢
      refine ev_iinc dX8_town_153 rfl rfl (by decide) rfl ?_
      refine ev_goto (tgt := 99) dX8_town_156 (by decide) ?_
      exact ih (by omega) _ (Up.rs hI4 rfl rfl)
  have fin : ∀ (f : Int) ν, ((f = 0 ∧ ∃ d, R0 = .inr d ∧ PDok d ∧ RS μ ν ∧ ν.1 79 37 = -1 ∧ PRm ν d) ∨ (0 < f ∧ f ≤ 4 ∧ ∃ w : Nat, R0 = .inl (f, w) ∧ RS μ ν ∧ ν.1 79 37 = w)) → Ev RX8 cX8_town 3 6 143 (AnsQ (TwnM μ R0)) 51 [some (.ref 79), some (.int (iI f)), none] [] ν := by
    intro f ν hf
    refine ev_w (fun hR => ?_)
    have rt : RS μ ν → RT μ (wr ν 79 36 0) := fun h => ⟨fun q hq => by
      rw [← h.1 q hq]; funext k; exact wr_nec _ (by omega), fun k h1 h2 => by rw [wr_nek _ h2]; exact h.2 k h1⟩
    refine ev_aload_n dX8_town_51 rfl ?_
    refine ev_iconst dX8_town_52 ?_
    refine ev_putI (kz := 36) dX8_town_53 fp_X8_205 rfl rfl rfl (by first | exact hR.1 _ _ | exact hR0.1 _ _ | assumption | exact ⟨by omega, by omega⟩ | exact ⟨by simp [wr_at]; omega, by simp [wr_at]; omega⟩ | exact b2_R _ | exact bC_R _ | exact band_R _ _ | exact bor_R _ _ | exact bshl_R _ _ | exact bshr_R _ _ | exact bxor_R _ _ | exact bs_R (by omega) | decide) ?_
    refine ev_w (fun hR => ?_)
    rcases hf with ⟨rfl, d, g1, g2, g3, g4, g5⟩ | ⟨f0, f4, w, g1, g2, g3⟩
    · have hh : ∃ d, R0 = .inr d ∧ PDok d ∧ RT μ (wr ν 79 36 0) ∧ (wr ν 79 36 0).1 79 36 = 0 ∧ (wr ν 79 36 0).1 79 37 = -1 ∧ PRm (wr ν 79 36 0) d := by
        refine ⟨d, g1, g2, rt g3, wr_eq _ _ _ _, by rw [wr_nek _ (by decide)]; exact g4, fun k hk => ?_, fun j hj p hp => ?_⟩
        · have := fM_R k
          rw [wr_nek _ (by omega)]; exact g5.1 k hk
        · have := mM_R hj
          rw [wr_nec _ (by omega)]; exact g5.2 j hj p hp
      have hI : Up cpS (cpE (wr ν 79 36 0)) (fun _ _ => False) (wr ν 79 36 0) (wr ν 79 36 0) := Up.rf (fun _ _ h => h)
      refine ev_iload_n dX8_town_56 rfl ?_
      refine ev_if_le (tgt := 65) dX8_town_57 (by decide) (by first | exact hR.1 _ _ | exact hR0.1 _ _ | assumption | exact ⟨by omega, by omega⟩ | exact ⟨by simp [wr_at]; omega, by simp [wr_at]; omega⟩ | exact b2_R _ | exact bC_R _ | exact band_R _ _ | exact bor_R _ _ | exact bshl_R _ _ | exact bshr_R _ _ | exact bxor_R _ _ | exact bs_R (by omega) | decide) (fun h_57 => ?_) (fun h_57 => ?_)
      · refine ev_aload_n dX8_town_65 rfl ?_
        refine ev_aload_n dX8_town_66 rfl ?_
        refine ev_getI (kz := 43) dX8_town_67 fl_X8_254 rfl rfl rfl ?_
        refine ev_putI (kz := 0) dX8_town_70 fp_X8_177 rfl rfl rfl (by first | exact hR.1 _ _ | exact hR0.1 _ _ | assumption | exact ⟨by omega, by omega⟩ | exact ⟨by simp [wr_at]; omega, by simp [wr_at]; omega⟩ | exact b2_R _ | exact bC_R _ | exact band_R _ _ | exact bor_R _ _ | exact bshl_R _ _ | exact bshr_R _ _ | exact bxor_R _ _ | exact bs_R (by omega) | decide) ?_
        refine ev_w (fun hR => ?_)
        have hI1 := hI.put (c := 79) (j := 0) (z := ((wr ν 79 36 0).1 79 43)) (by unfold cpS; omega) (by rw [hI.1 79 _ (by unfold cpS; omega)]; rfl)
        generalize wr (wr ν 79 36 0) 79 (0) ((wr ν 79 36 0).1 79 43) = ν1 at hI1 hR ⊢
        refine ev_aload_n dX8_town_73 rfl ?_
        refine ev_aload_n dX8_town_74 rfl ?_
        refine ev_getI (kz := 47) dX8_town_75 fl_X8_261 rfl rfl rfl ?_
        refine ev_putI (kz := 4) dX8_town_78 fp_X8_184 rfl rfl rfl (by first | exact hR.1 _ _ | exact hR0.1 _ _ | assumption | exact ⟨by omega, by omega⟩ | exact ⟨by simp [wr_at]; omega, by simp [wr_at]; omega⟩ | exact b2_R _ | exact bC_R _ | exact band_R _ _ | exact bor_R _ _ | exact bshl_R _ _ | exact bshr_R _ _ | exact bxor_R _ _ | exact bs_R (by omega) | decide) ?_
        refine ev_w (fun hR => ?_)
        have hI2 := hI1.put (c := 79) (j := 4) (z := (ν1.1 79 47)) (by unfold cpS; omega) (by rw [hI1.1 79 _ (by unfold cpS; omega)]; rfl)
        generalize wr ν1 79 (4) (ν1.1 79 47) = ν2 at hI2 hR ⊢
        refine ev_aload_n dX8_town_81 rfl ?_
        refine ev_aload_n dX8_town_82 rfl ?_
        refine ev_getI (kz := 52) dX8_town_83 fl_X8_268 rfl rfl rfl ?_
        refine ev_putI (kz := 9) dX8_town_86 fp_X8_187 rfl rfl rfl (by first | exact hR.1 _ _ | exact hR0.1 _ _ | assumption | exact ⟨by omega, by omega⟩ | exact ⟨by simp [wr_at]; omega, by simp [wr_at]; omega⟩ | exact b2_R _ | exact bC_R _ | exact band_R _ _ | exact bor_R _ _ | exact bshl_R _ _ | exact bshr_R _ _ | exact bxor_R _ _ | exact bs_R (by omega) | decide) ?_
        refine ev_w (fun hR => ?_)
        have hI3 := hI2.put (c := 79) (j := 9) (z := (ν2.1 79 52)) (by unfold cpS; omega) (by rw [hI2.1 79 _ (by unfold cpS; omega)]; rfl)
        generalize wr ν2 79 (9) (ν2.1 79 52) = ν3 at hI3 hR ⊢
        refine ev_aload_n dX8_town_89 rfl ?_
        refine ev_aload_n dX8_town_90 rfl ?_
        refine ev_getI (kz := 56) dX8_town_91 fl_X8_271 rfl rfl rfl ?_
        refine ev_putI (kz := 13) dX8_town_94 fp_X8_190 rfl rfl rfl (by first | exact hR.1 _ _ | exact hR0.1 _ _ | assumption | exact ⟨by omega, by omega⟩ | exact ⟨by simp [wr_at]; omega, by simp [wr_at]; omega⟩ | exact b2_R _ | exact bC_R _ | exact band_R _ _ | exact bor_R _ _ | exact bshl_R _ _ | exact bshr_R _ _ | exact bxor_R _ _ | exact bs_R (by omega) | decide) ?_
        refine ev_w (fun hR => ?_)
        have hI4 := hI3.put (c := 79) (j := 13) (z := (ν3.1 79 56)) (by unfold cpS; omega) (by rw [hI3.1 79 _ (by unfold cpS; omega)]; rfl)
        generalize wr ν3 79 (13) (ν3.1 79 56) = ν4 at hI4 hR ⊢
        refine ev_iconst dX8_town_97 ?_
        refine ev_istore_n dX8_town_98 rfl (by decide) rfl ?_
        exact loop1 _ hh 0 (by omega) _ (Up.r0 hI4 rfl)
      · exfalso; omega
    · refine ev_iload_n dX8_town_56 rfl ?_
      refine ev_if_le (tgt := 65) dX8_town_57 (by decide) (by first | exact hR.1 _ _ | exact hR0.1 _ _ | assumption | exact ⟨by omega, by omega⟩ | exact ⟨by simp [wr_at]; omega, by simp [wr_at]; omega⟩ | exact b2_R _ | exact bC_R _ | exact band_R _ _ | exact bor_R _ _ | exact bshl_R _ _ | exact bshr_R _ _ | exact bxor_R _ _ | exact bs_R (by omega) | decide) (fun h_57 => ?_) (fun h_57 => ?_)
      · exfalso; omega
      · refine ev_bipush dX8_town_60 (by decide) ?_
        refine ev_iload_n dX8_town_62 rfl ?_
        refine ev_isub dX8_town_63 ?_
        refine ev_ireturn dX8_town_64 ?_
        refine ⟨_, rfl, Or.inl ⟨f, w, g1, rfl, f0, f4, rt g2, wr_eq _ _ _ _, ?_⟩⟩
        rw [wr_nek _ (by decide)]; exact g3
  have loop : ∀ (n : Nat) d (i : Nat) ν, L + 1 ≤ n + i → i ≤ L → PDok d → RS μ ν → ν.1 79 37 = -1 → ν.1 79 38 = i → PRm ν d → parR c L n d i = R0 → Ev RX8 cX8_town 3 6 143 (AnsQ (TwnM μ R0)) 32 [some (.ref 79), some (.int (iI 0)), none] [] ν := by
    intro n
    induction n with
    | zero => intro d i ν h1 h2; omega
    | succ n ihn =>
    intro d i ν h1 hiL hK hrs h37 h38 hP hpar
    refine ev_w (fun hR => ?_)
    have hTn := hT.rs hrs
    have hh := m_here ν c L i hTn h38 hiL
    rw [parR] at hpar
    obtain ⟨s9, hs9⟩ : ∃ s9, sk c L i = s9 := ⟨_, rfl⟩
    have hsL : s9 ≤ L := by rw [← hs9]; exact scan_le hiL
    have hsi : i ≤ s9 := by rw [← hs9]; exact scan_ge _ _ _
    have hher : herV ν c L i = if s9 < L then ν.1 107 (s9 : Int) else -1 := by unfold herV; rw [hs9]
    rw [hs9] at hh hpar
    have hhR : -1 ≤ herV ν c L i ∧ herV ν c L i ≤ 255 := by
      rw [hher]
      split
      next q => have t := hTn.2.2 s9 q; omega
      next => omega
    have hiff : herV ν c L i < 0 ↔ ¬ s9 < L := by
      rw [hher]
      split
      next q => have t := hTn.2.2 s9 q; omega
      next q => omega
    generalize hhv : herV ν c L i = hv at *
    have hr2 : RS μ (wr ν 79 38 (s9 : Int)) := hrs.wf _ (by unfold PF; omega)
    have hP2 : PRm (wr ν 79 38 (s9 : Int)) d := ⟨fun k hk => by
      have := fM_R k
      rw [wr_nek _ (by omega)]; exact hP.1 k hk, fun j hj p hp => by
      have := mM_R hj
      rw [wr_nec _ (by omega)]; exact hP.2 j hj p hp⟩
    have h372 : (wr ν 79 38 (s9 : Int)).1 79 37 = -1 := by rw [wr_nek _ (by decide)]; exact h37
    refine ev_iload_n dX8_town_32 rfl ?_
    refine ev_if_ne (tgt := 51) dX8_town_33 (by decide) (by first | exact hR.1 _ _ | exact hR0.1 _ _ | assumption | exact ⟨by omega, by omega⟩ | exact ⟨by simp [wr_at]; omega, by simp [wr_at]; omega⟩ | exact b2_R _ | exact bC_R _ | exact band_R _ _ | exact bor_R _ _ | exact bshl_R _ _ | exact bshr_R _ _ | exact bxor_R _ _ | exact bs_R (by omega) | decide) (fun h_33 => ?_) (fun h_33 => ?_)
    · exact absurd rfl h_33
    · refine ev_aload_n dX8_town_36 rfl ?_
      refine ev_callVI dX8_town_37 kv_X8_214 (hh) rfl rfl (ci := 8) rfl rfl ⟨by decide, by decide⟩ (Nat.le_of_ble_eq_true rfl) ?_
      refine ev_w (fun hR => ?_)
      refine ev_if_lt (tgt := 51) dX8_town_40 (by decide) (by first | exact hR.1 _ _ | exact hR0.1 _ _ | assumption | exact ⟨by omega, by omega⟩ | exact ⟨by simp [wr_at]; omega, by simp [wr_at]; omega⟩ | exact b2_R _ | exact bC_R _ | exact band_R _ _ | exact bor_R _ _ | exact bshl_R _ _ | exact bshr_R _ _ | exact bxor_R _ _ | exact bs_R (by omega) | decide) (fun h_40 => ?_) (fun h_40 => ?_)
      · rw [if_neg (hiff.mp h_40)] at hpar
        exact fin 0 _ (Or.inl ⟨rfl, d, hpar.symm, hK, hr2, h372, hP2⟩)
      · refine ev_aload_n dX8_town_43 rfl ?_
        refine ev_callVP dX8_town_44 kv_X8_297 (m_takeClause _ c L s9 d (hT.rs hr2) hsL ⟨RS.rf, rfl, wr_eq _ _ _ _, hP2⟩ hK) rfl rfl (ci := 8) rfl rfl ⟨by decide, by decide⟩ (Nat.le_of_ble_eq_true rfl) ?_
        rintro v_44 τ_44 ⟨z_44, rfl, hq_44⟩
        refine ev_w (fun hR => ?_)
        refine ev_istore_n dX8_town_47 rfl (by decide) rfl ?_
        refine ev_goto (tgt := 32) dX8_town_48 (by decide) ?_
        rw [if_pos (by omega)] at hpar
        rcases hq_44 with ⟨f, w, r1, rfl, f0, f4, hrs9, hw⟩ | ⟨d2, e2, r1, rfl, S2⟩
        · rw [r1] at hpar
          refine ev_w (fun hR => ?_)
          refine ev_iload_n dX8_town_32 rfl ?_
          refine ev_if_ne (tgt := 51) dX8_town_33 (by decide) (by first | exact hR.1 _ _ | exact hR0.1 _ _ | assumption | exact ⟨by omega, by omega⟩ | exact ⟨by simp [wr_at]; omega, by simp [wr_at]; omega⟩ | exact b2_R _ | exact bC_R _ | exact band_R _ _ | exact bor_R _ _ | exact bshl_R _ _ | exact bshr_R _ _ | exact bxor_R _ _ | exact bs_R (by omega) | decide) (fun h_33 => ?_) (fun h_33 => ?_)
          · exact fin _ _ (Or.inr ⟨f0, f4, w, hpar.symm, hr2.tr hrs9, hw⟩)
          · exfalso; omega
        · have hk2 := clsR_ok hK r1 hsL
          rw [r1] at hpar
          exact ihn d2 e2 _ (by omega) hk2.2.2 hk2.1 (hr2.tr S2.1) (S2.2.1.trans h372) S2.2.2.1 S2.2.2.2 hpar
  refine ev_aload_n dX8_town_0 rfl ?_
  refine ev_iconst dX8_town_1 ?_
  refine ev_putI (kz := 37) dX8_town_2 fp_X8_95 rfl rfl rfl (by first | exact hR.1 _ _ | exact hR0.1 _ _ | assumption | exact ⟨by omega, by omega⟩ | exact ⟨by simp [wr_at]; omega, by simp [wr_at]; omega⟩ | exact b2_R _ | exact bC_R _ | exact band_R _ _ | exact bor_R _ _ | exact bshl_R _ _ | exact bshr_R _ _ | exact bxor_R _ _ | exact bs_R (by omega) | decide) ?_
  refine ev_w (fun hR => ?_)
  refine ev_aload_n dX8_town_5 rfl ?_
  refine ev_iconst dX8_town_6 ?_
  refine ev_putI (kz := 38) dX8_town_7 fp_X8_211 rfl rfl rfl (by first | exact hR.1 _ _ | exact hR0.1 _ _ | assumption | exact ⟨by omega, by omega⟩ | exact ⟨by simp [wr_at]; omega, by simp [wr_at]; omega⟩ | exact b2_R _ | exact bC_R _ | exact band_R _ _ | exact bor_R _ _ | exact bshl_R _ _ | exact bshr_R _ _ | exact bxor_R _ _ | exact bs_R (by omega) | decide) ?_
  refine ev_w (fun hR => ?_)
  refine ev_aload_n dX8_town_10 rfl ?_
  refine ev_iconst dX8_town_11 ?_
  refine ev_putI (kz := 43) dX8_town_12 fp_X8_254 rfl rfl rfl (by first | exact hR.1 _ _ | exact hR0.1 _ _ | assumption | exact ⟨by omega, by omega⟩ | exact ⟨by simp [wr_at]; omega, by simp [wr_at]; omega⟩ | exact b2_R _ | exact bC_R _ | exact band_R _ _ | exact bor_R _ _ | exact bshl_R _ _ | exact bshr_R _ _ | exact bxor_R _ _ | exact bs_R (by omega) | decide) ?_
  refine ev_w (fun hR => ?_)
  refine ev_aload_n dX8_town_15 rfl ?_
  refine ev_iconst dX8_town_16 ?_
  refine ev_putI (kz := 47) dX8_town_17 fp_X8_261 rfl rfl rfl (by first | exact hR.1 _ _ | exact hR0.1 _ _ | assumption | exact ⟨by omega, by omega⟩ | exact ⟨by simp [wr_at]; omega, by simp [wr_at]; omega⟩ | exact b2_R _ | exact bC_R _ | exact band_R _ _ | exact bor_R _ _ | exact bshl_R _ _ | exact bshr_R _ _ | exact bxor_R _ _ | exact bs_R (by omega) | decide) ?_
  refine ev_w (fun hR => ?_)
  refine ev_aload_n dX8_town_20 rfl ?_
  refine ev_iconst dX8_town_21 ?_
  refine ev_putI (kz := 52) dX8_town_22 fp_X8_268 rfl rfl rfl (by first | exact hR.1 _ _ | exact hR0.1 _ _ | assumption | exact ⟨by omega, by omega⟩ | exact ⟨by simp [wr_at]; omega, by simp [wr_at]; omega⟩ | exact b2_R _ | exact bC_R _ | exact band_R _ _ | exact bor_R _ _ | exact bshl_R _ _ | exact bshr_R _ _ | exact bxor_R _ _ | exact bs_R (by omega) | decide) ?_
  refine ev_w (fun hR => ?_)
  refine ev_aload_n dX8_town_25 rfl ?_
  refine ev_iconst dX8_town_26 ?_
  refine ev_putI (kz := 56) dX8_town_27 fp_X8_271 rfl rfl rfl (by first | exact hR.1 _ _ | exact hR0.1 _ _ | assumption | exact ⟨by omega, by omega⟩ | exact ⟨by simp [wr_at]; omega, by simp [wr_at]; omega⟩ | exact b2_R _ | exact bC_R _ | exact band_R _ _ | exact bor_R _ _ | exact bshl_R _ _ | exact bshr_R _ _ | exact bxor_R _ _ | exact bs_R (by omega) | decide) ?_
  refine ev_w (fun hR => ?_)
  refine ev_iconst dX8_town_30 ?_
  refine ev_istore_n dX8_town_31 rfl (by decide) rfl ?_
  refine loop (L + 1) d00 0 _ (by omega) (by omega) d00_ok (((((RS.rf.wf _ (by unfold PF; omega)).wf _ (by unfold PF; omega)).wf _ (by unfold PF; omega)).wf _ (by unfold PF; omega)).wf _ (by unfold PF; omega) |>.wf _ (by unfold PF; omega)) ?_ ?_ ⟨fun k hk => ?_, fun j hj p hp => absurd hp (Nat.not_lt_zero _)⟩ hR0e
  · simp [wr_at]
  · simp [wr_at]
  · rcases (by omega : k = 0 ∨ k = 1 ∨ k = 2 ∨ k = 3) with rfl | rfl | rfl | rfl <;> simp [wr_at, fM, d00]
