def bckE (A : Int → Int) (c : Nat) (j : Int) : Int := if c = 95 then A j else if c = 96 then (if (A (12 + j)).tmod 2 = 1 then 1 else 0) else if c = 97 then (if 1 < A (12 + j) then 1 else 0) else if c = 98 then A (24 + j) else if c = 99 then A (28 + j) else if c = 100 then A (32 + j) else if c = 101 then A (36 + j) else if c = 102 then A (40 + j) else if c = 103 then A (44 + j) else if c = 104 then (if A (48 + j) = 1 then 1 else 0) else if c = 105 then A (56 + j) else if c = 106 then A (256 + j) else if j = 29 then A 52 else if j = 30 then A 53 else if j = 31 then A 54 else A 55
def Bck (μ ν : Mem) (A : Int → Int) (D : Nat → Int → Prop) : Prop := MSame μ ν ∧ ∀ c j, D c j → ν.1 c j = bckE A c j
theorem Bck.put {μ ν : Mem} {A : Int → Int} {D : Nat → Int → Prop} (h : Bck μ ν A D) {c : Nat} {j z : Int} (hc : (95 ≤ c ∧ c ≤ 106) ∨ (c = 79 ∧ (j = 29 ∨ j = 30 ∨ j = 31 ∨ j = 34))) (hz : z = bckE A c j) : Bck μ (wr ν c j z) A (fun c9 j9 => D c9 j9 ∨ (c9 = c ∧ j9 = j)) := by
  refine ⟨?_, fun c9 j9 hd => ?_⟩
  · rcases hc with hc | ⟨rfl, hc⟩
    · exact h.1.wrc _ _ hc.1 hc.2
    · exact h.1.wf _ hc
  · by_cases e : c9 = c ∧ j9 = j
    · obtain ⟨rfl, rfl⟩ := e; rw [wr_eq, hz]
    · rw [wr_ne ν e]
      exact h.2 c9 j9 (hd.resolve_right e)
theorem Bck.mono {μ ν : Mem} {A : Int → Int} {D E : Nat → Int → Prop} (h : Bck μ ν A D) (hE : ∀ c j, E c j → D c j) : Bck μ ν A E := ⟨h.1, fun c j hj => h.2 c j (hE c j hj)⟩
theorem Bck.im {μ ν : Mem} {A : Int → Int} {D : Nat → Int → Prop} (h : Bck μ ν A D) (k : Int) : ν.1 132 k = μ.1 132 k := by rw [h.1.1 132 (by omega)]
set_option maxHeartbeats 4000000 in
theorem m_goBack (μ : Mem) (x : Int) (hx : inR x) : Con yX8_goBack cX8_goBack 4 (some .int) 1 25 [.ref 79, .int (iI x)] μ (fun v ν => if ¬ (0 ≤ x ∧ x < 2) then AnsI (-1000000001) μ v ν else if μ.1 133 x = 0 then AnsI (-1000000003) μ v ν else AnsIP 1 (fun ν => Bck μ ν (fun j => μ.1 132 (500 * x + j)) (fun c j => (((c = 95 ∨ c = 96 ∨ c = 97) ∧ 0 ≤ j ∧ j < 12) ∨ ((98 ≤ c ∧ c ≤ 104) ∧ 0 ≤ j ∧ j < 4) ∨ (c = 79 ∧ (j = 29 ∨ j = 30 ∨ j = 31 ∨ j = 34)) ∨ ((c = 105 ∨ c = 106) ∧ 0 ≤ j ∧ j < 200)))) v ν) := by
  refine con_of (by decide) rfl (Nat.le_of_ble_eq_true rfl) ((fun v τ h => by repeat (first | exact ok_I rfl v τ h | exact ok_IP rfl v τ h | split at h))) ?_
  refine ev_w (fun hR => ?_)
  have hR0 := hR
  have loop3 : (0 ≤ x ∧ x < 2) → ¬ μ.1 133 x = 0 → ∀ k : Nat, k ≤ 200 → ∀ ν, Bck μ ν (fun j => μ.1 132 (500 * x + j)) (fun c j => (((c = 95 ∨ c = 96 ∨ c = 97) ∧ 0 ≤ j ∧ j < 12) ∨ ((98 ≤ c ∧ c ≤ 104) ∧ 0 ≤ j ∧ j < 4) ∨ (c = 79 ∧ (j = 29 ∨ j = 30 ∨ j = 31 ∨ j = 34)) ∨ ((c = 105 ∨ c = 106) ∧ 0 ≤ j ∧ j < k))) → Ev RX8 cX8_goBack 4 1 25 (fun v ν => if ¬ (0 ≤ x ∧ x < 2) then AnsI (-1000000001) μ v ν else if μ.1 133 x = 0 then AnsI (-1000000003) μ v ν else AnsIP 1 (fun ν => Bck μ ν (fun j => μ.1 132 (500 * x + j)) (fun c j => (((c = 95 ∨ c = 96 ∨ c = 97) ∧ 0 ≤ j ∧ j < 12) ∨ ((98 ≤ c ∧ c ≤ 104) ∧ 0 ≤ j ∧ j < 4) ∨ (c = 79 ∧ (j = 29 ∨ j = 30 ∨ j = 31 ∨ j = 34)) ∨ ((c = 105 ∨ c = 106) ∧ 0 ≤ j ∧ j < 200)))) v ν) 310 [some (.ref 79), some (.int (iI x)), some (.int (iI (500 * x))), some (.int (iI (k : Nat)))] [] ν := by
    intro hx9 hkp
    refine for_up 200 (fun k hk ih => ?_)
    intro ν hI
    refine ev_w (fun hR => ?_)
    refine ev_iload_n dX8_goBack_310 rfl ?_
    refine ev_sipush dX8_goBack_311 (by decide) ?_
    refine ev_icmp_ge (tgt := 358) dX8_goBack_314 (by decide) (by first | exact hR.1 _ _ | exact hR0.1 _ _ | assumption | exact ⟨by omega, by omega⟩ | exact ⟨by simp [wr_at]; omega, by simp [wr_at]; omega⟩ | exact b2_R _ | exact bC_R _ | exact band_R _ _ | exact bor_R _ _ | exact bshl_R _ _ | exact bshr_R _ _ | exact bxor_R _ _ | exact bs_R (by omega) | decide) (by first | exact hR.1 _ _ | exact hR0.1 _ _ | assumption | exact ⟨by omega, by omega⟩ | exact ⟨by simp [wr_at]; omega, by simp [wr_at]; omega⟩ | exact b2_R _ | exact bC_R _ | exact band_R _ _ | exact bor_R _ _ | exact bshl_R _ _ | exact bshr_R _ _ | exact bxor_R _ _ | exact bs_R (by omega) | decide) (fun h_314 => ?_) (fun h_314 => ?_)
    · refine ev_iconst dX8_goBack_358 ?_
      refine ev_ireturn dX8_goBack_359 ?_
      rw [if_neg (fun y => y hx9), if_neg hkp]
      exact ⟨rfl, hI.mono (fun c j hj => by omega)⟩
    · refine ev_aload_n dX8_goBack_317 rfl ?_
      refine ev_getR (r := 105) dX8_goBack_318 fl_X8_86 rfl rfl rfl ?_
      refine ev_iload_n dX8_goBack_321 rfl ?_
      refine ev_aload_n dX8_goBack_322 rfl ?_
      refine ev_getR (r := 132) dX8_goBack_323 fl_X8_171 rfl rfl rfl ?_
      refine ev_iload_n dX8_goBack_326 rfl ?_
      refine ev_bipush dX8_goBack_327 (by decide) ?_
      refine ev_iadd dX8_goBack_329 ?_
      refine ev_iload_n dX8_goBack_330 rfl ?_
      refine ev_iadd dX8_goBack_331 ?_
      refine ev_iaload dX8_goBack_332 rfl (by first | omega | (simp [wr_at]; omega) | (simp [wr_at, *]; omega)) (by first | omega | (simp [wr_at]; omega) | (simp [wr_at, *]; omega)) (by decide) ?_
      refine ev_iastore dX8_goBack_333 rfl (by first | omega | (simp [wr_at]; omega) | (simp [wr_at, *]; omega)) (by first | omega | (simp [wr_at]; omega) | (simp [wr_at, *]; omega)) (by decide) (by first | exact hR.1 _ _ | exact hR0.1 _ _ | assumption | exact ⟨by omega, by omega⟩ | exact ⟨by simp [wr_at]; omega, by simp [wr_at]; omega⟩ | exact b2_R _ | exact bC_R _ | exact band_R _ _ | exact bor_R _ _ | exact bshl_R _ _ | exact bshr_R _ _ | exact bxor_R _ _ | exact bs_R (by omega) | decide) ?_
      refine ev_w (fun hR => ?_)
      have hI1 := hI.put (c := 105) (j := (k : Int)) (z := (ν.1 132 (500 * x + 56 + (k : Int)))) (by omega) (by rw [hI.im]; show _ = μ.1 132 (500 * x + (56 + (k : Int))); first | rfl | rw [← Int.add_assoc])
      generalize wr ν 105 (k : Int) (ν.1 132 (500 * x + 56 + (k : Int))) = ν1 at *
      refine ev_aload_n dX8_goBack_334 rfl ?_
      refine ev_getR (r := 106) dX8_goBack_335 fl_X8_89 rfl rfl rfl ?_
      refine ev_iload_n dX8_goBack_338 rfl ?_
      refine ev_aload_n dX8_goBack_339 rfl ?_
      refine ev_getR (r := 132) dX8_goBack_340 fl_X8_171 rfl rfl rfl ?_
      refine ev_iload_n dX8_goBack_343 rfl ?_
      refine ev_sipush dX8_goBack_344 (by decide) ?_
      refine ev_iadd dX8_goBack_347 ?_
      refine ev_iload_n dX8_goBack_348 rfl ?_
      refine ev_iadd dX8_goBack_349 ?_
      refine ev_iaload dX8_goBack_350 rfl (by first | omega | (simp [wr_at]; omega) | (simp [wr_at, *]; omega)) (by first | omega | (simp [wr_at]; omega) | (simp [wr_at, *]; omega)) (by decide) ?_
      refine ev_iastore dX8_goBack_351 rfl (by first | omega | (simp [wr_at]; omega) | (simp [wr_at, *]; omega)) (by first | omega | (simp [wr_at]; omega) | (simp [wr_at, *]; omega)) (by decide) (by first | exact hR.1 _ _ | exact hR0.1 _ _ | assumption | exact ⟨by omega, by omega⟩ | exact ⟨by simp [wr_at]; omega, by simp [wr_at]; omega⟩ | exact b2_R _ | exact bC_R _ | exact band_R _ _ | exact bor_R _ _ | exact bshl_R _ _ | exact bshr_R _ _ | exact bxor_R _ _ | exact bs_R (by omega) | decide) ?_
      refine ev_w (fun hR => ?_)
      have hI2 := hI1.put (c := 106) (j := (k : Int)) (z := (ν1.1 132 (500 * x + 256 + (k : Int)))) (by omega) (by rw [hI1.im]; show _ = μ.1 132 (500 * x + (256 + (k : Int))); first | rfl | rw [← Int.add_assoc])
      generalize wr ν1 106 (k : Int) (ν1.1 132 (500 * x + 256 + (k : Int))) = ν2 at *
      refine ev_iinc dX8_goBack_352 rfl rfl (by decide) rfl ?_
      refine ev_goto (tgt := 310) dX8_goBack_355 (by decide) ?_
      exact ih (by omega) _ (hI2.mono (fun c j hj => by omega))
  have loop2 : (0 ≤ x ∧ x < 2) → ¬ μ.1 133 x = 0 → ∀ k : Nat, k ≤ 4 → ∀ ν, Bck μ ν (fun j => μ.1 132 (500 * x + j)) (fun c j => ((c = 95 ∨ c = 96 ∨ c = 97) ∧ 0 ≤ j ∧ j < 12) ∨ ((98 ≤ c ∧ c ≤ 104) ∧ 0 ≤ j ∧ j < k)) → Ev RX8 cX8_goBack 4 1 25 (fun v ν => if ¬ (0 ≤ x ∧ x < 2) then AnsI (-1000000001) μ v ν else if μ.1 133 x = 0 then AnsI (-1000000003) μ v ν else AnsIP 1 (fun ν => Bck μ ν (fun j => μ.1 132 (500 * x + j)) (fun c j => (((c = 95 ∨ c = 96 ∨ c = 97) ∧ 0 ≤ j ∧ j < 12) ∨ ((98 ≤ c ∧ c ≤ 104) ∧ 0 ≤ j ∧ j < 4) ∨ (c = 79 ∧ (j = 29 ∨ j = 30 ∨ j = 31 ∨ j = 34)) ∨ ((c = 105 ∨ c = 106) ∧ 0 ≤ j ∧ j < 200)))) v ν) 117 [some (.ref 79), some (.int (iI x)), some (.int (iI (500 * x))), some (.int (iI (k : Nat)))] [] ν := by
    intro hx9 hkp
    refine for_up 4 (fun k hk ih => ?_)
    intro ν hI
    refine ev_w (fun hR => ?_)
    have hl3 := loop3 hx9 hkp
    refine ev_iload_n dX8_goBack_117 rfl ?_
    refine ev_iconst dX8_goBack_118 ?_
    refine ev_icmp_ge (tgt := 256) dX8_goBack_119 (by decide) (by first | exact hR.1 _ _ | exact hR0.1 _ _ | assumption | exact ⟨by omega, by omega⟩ | exact ⟨by simp [wr_at]; omega, by simp [wr_at]; omega⟩ | exact b2_R _ | exact bC_R _ | exact band_R _ _ | exact bor_R _ _ | exact bshl_R _ _ | exact bshr_R _ _ | exact bxor_R _ _ | exact bs_R (by omega) | decide) (by first | exact hR.1 _ _ | exact hR0.1 _ _ | assumption | exact ⟨by omega, by omega⟩ | exact ⟨by simp [wr_at]; omega, by simp [wr_at]; omega⟩ | exact b2_R _ | exact bC_R _ | exact band_R _ _ | exact bor_R _ _ | exact bshl_R _ _ | exact bshr_R _ _ | exact bxor_R _ _ | exact bs_R (by omega) | decide) (fun h_119 => ?_) (fun h_119 => ?_)
    · refine ev_aload_n dX8_goBack_256 rfl ?_
      refine ev_aload_n dX8_goBack_257 rfl ?_
      refine ev_getR (r := 132) dX8_goBack_258 fl_X8_171 rfl rfl rfl ?_
      refine ev_iload_n dX8_goBack_261 rfl ?_
      refine ev_bipush dX8_goBack_262 (by decide) ?_
      refine ev_iadd dX8_goBack_264 ?_
      refine ev_iaload dX8_goBack_265 rfl (by first | omega | (simp [wr_at]; omega) | (simp [wr_at, *]; omega)) (by first | omega | (simp [wr_at]; omega) | (simp [wr_at, *]; omega)) (by decide) ?_
      refine ev_putI (kz := 29) dX8_goBack_266 fp_X8_193 rfl rfl rfl (by first | exact hR.1 _ _ | exact hR0.1 _ _ | assumption | exact ⟨by omega, by omega⟩ | exact ⟨by simp [wr_at]; omega, by simp [wr_at]; omega⟩ | exact b2_R _ | exact bC_R _ | exact band_R _ _ | exact bor_R _ _ | exact bshl_R _ _ | exact bshr_R _ _ | exact bxor_R _ _ | exact bs_R (by omega) | decide) ?_
      refine ev_w (fun hR => ?_)
      have hI1 := hI.put (c := 79) (j := 29) (z := (ν.1 132 (500 * x + 52))) (by omega) (by rw [hI.im]; rfl)
      generalize wr ν 79 29 (ν.1 132 (500 * x + 52)) = ν1 at *
      refine ev_aload_n dX8_goBack_269 rfl ?_
      refine ev_aload_n dX8_goBack_270 rfl ?_
      refine ev_getR (r := 132) dX8_goBack_271 fl_X8_171 rfl rfl rfl ?_
      refine ev_iload_n dX8_goBack_274 rfl ?_
      refine ev_bipush dX8_goBack_275 (by decide) ?_
      refine ev_iadd dX8_goBack_277 ?_
      refine ev_iaload dX8_goBack_278 rfl (by first | omega | (simp [wr_at]; omega) | (simp [wr_at, *]; omega)) (by first | omega | (simp [wr_at]; omega) | (simp [wr_at, *]; omega)) (by decide) ?_
      refine ev_putI (kz := 30) dX8_goBack_279 fp_X8_196 rfl rfl rfl (by first | exact hR.1 _ _ | exact hR0.1 _ _ | assumption | exact ⟨by omega, by omega⟩ | exact ⟨by simp [wr_at]; omega, by simp [wr_at]; omega⟩ | exact b2_R _ | exact bC_R _ | exact band_R _ _ | exact bor_R _ _ | exact bshl_R _ _ | exact bshr_R _ _ | exact bxor_R _ _ | exact bs_R (by omega) | decide) ?_
      refine ev_w (fun hR => ?_)
      have hI2 := hI1.put (c := 79) (j := 30) (z := (ν1.1 132 (500 * x + 53))) (by omega) (by rw [hI1.im]; rfl)
      generalize wr ν1 79 30 (ν1.1 132 (500 * x + 53)) = ν2 at *
      refine ev_aload_n dX8_goBack_282 rfl ?_
      refine ev_aload_n dX8_goBack_283 rfl ?_
      refine ev_getR (r := 132) dX8_goBack_284 fl_X8_171 rfl rfl rfl ?_
      refine ev_iload_n dX8_goBack_287 rfl ?_
      refine ev_bipush dX8_goBack_288 (by decide) ?_
      refine ev_iadd dX8_goBack_290 ?_
      refine ev_iaload dX8_goBack_291 rfl (by first | omega | (simp [wr_at]; omega) | (simp [wr_at, *]; omega)) (by first | omega | (simp [wr_at]; omega) | (simp [wr_at, *]; omega)) (by decide) ?_
      refine ev_putI (kz := 31) dX8_goBack_292 fp_X8_199 rfl rfl rfl (by first | exact hR.1 _ _ | exact hR0.1 _ _ | assumption | exact ⟨by omega, by omega⟩ | exact ⟨by simp [wr_at]; omega, by simp [wr_at]; omega⟩ | exact b2_R _ | exact bC_R _ | exact band_R _ _ | exact bor_R _ _ | exact bshl_R _ _ | exact bshr_R _ _ | exact bxor_R _ _ | exact bs_R (by omega) | decide) ?_
      refine ev_w (fun hR => ?_)
      have hI3 := hI2.put (c := 79) (j := 31) (z := (ν2.1 132 (500 * x + 54))) (by omega) (by rw [hI2.im]; rfl)
      generalize wr ν2 79 31 (ν2.1 132 (500 * x + 54)) = ν3 at *
      refine ev_aload_n dX8_goBack_295 rfl ?_
      refine ev_aload_n dX8_goBack_296 rfl ?_
      refine ev_getR (r := 132) dX8_goBack_297 fl_X8_171 rfl rfl rfl ?_
      refine ev_iload_n dX8_goBack_300 rfl ?_
      refine ev_bipush dX8_goBack_301 (by decide) ?_
      refine ev_iadd dX8_goBack_303 ?_
      refine ev_iaload dX8_goBack_304 rfl (by first | omega | (simp [wr_at]; omega) | (simp [wr_at, *]; omega)) (by first | omega | (simp [wr_at]; omega) | (simp [wr_at, *]; omega)) (by decide) ?_
      refine ev_putI (kz := 34) dX8_goBack_305 fp_X8_373 rfl rfl rfl (by first | exact hR.1 _ _ | exact hR0.1 _ _ | assumption | exact ⟨by omega, by omega⟩ | exact ⟨by simp [wr_at]; omega, by simp [wr_at]; omega⟩ | exact b2_R _ | exact bC_R _ | exact band_R _ _ | exact bor_R _ _ | exact bshl_R _ _ | exact bshr_R _ _ | exact bxor_R _ _ | exact bs_R (by omega) | decide) ?_
      refine ev_w (fun hR => ?_)
      have hI4 := hI3.put (c := 79) (j := 34) (z := (ν3.1 132 (500 * x + 55))) (by omega) (by rw [hI3.im]; rfl)
      generalize wr ν3 79 34 (ν3.1 132 (500 * x + 55)) = ν4 at *
      refine ev_iconst dX8_goBack_308 ?_
      refine ev_istore_n dX8_goBack_309 rfl (by decide) rfl ?_
      exact hl3 0 (by omega) _ (hI4.mono (fun c j hj => by omega))
    · refine ev_aload_n dX8_goBack_122 rfl ?_
      refine ev_getR (r := 98) dX8_goBack_123 fl_X8_65 rfl rfl rfl ?_
      refine ev_iload_n dX8_goBack_126 rfl ?_
      refine ev_aload_n dX8_goBack_127 rfl ?_
      refine ev_getR (r := 132) dX8_goBack_128 fl_X8_171 rfl rfl rfl ?_
      refine ev_iload_n dX8_goBack_131 rfl ?_
      refine ev_bipush dX8_goBack_132 (by decide) ?_
      refine ev_iadd dX8_goBack_134 ?_
      refine ev_iload_n dX8_goBack_135 rfl ?_
      refine ev_iadd dX8_goBack_136 ?_
      refine ev_iaload dX8_goBack_137 rfl (by first | omega | (simp [wr_at]; omega) | (simp [wr_at, *]; omega)) (by first | omega | (simp [wr_at]; omega) | (simp [wr_at, *]; omega)) (by decide) ?_
      refine ev_iastore dX8_goBack_138 rfl (by first | omega | (simp [wr_at]; omega) | (simp [wr_at, *]; omega)) (by first | omega | (simp [wr_at]; omega) | (simp [wr_at, *]; omega)) (by decide) (by first | exact hR.1 _ _ | exact hR0.1 _ _ | assumption | exact ⟨by omega, by omega⟩ | exact ⟨by simp [wr_at]; omega, by simp [wr_at]; omega⟩ | exact b2_R _ | exact bC_R _ | exact band_R _ _ | exact bor_R _ _ | exact bshl_R _ _ | exact bshr_R _ _ | exact bxor_R _ _ | exact bs_R (by omega) | decide) ?_
      refine ev_w (fun hR => ?_)
      have hI1 := hI.put (c := 98) (j := (k : Int)) (z := (ν.1 132 (500 * x + 24 + (k : Int)))) (by omega) (by rw [hI.im]; show _ = μ.1 132 (500 * x + (24 + (k : Int))); first | rfl | rw [← Int.add_assoc])
      generalize wr ν 98 (k : Int) (ν.1 132 (500 * x + 24 + (k : Int))) = ν1 at *
      refine ev_aload_n dX8_goBack_139 rfl ?_
      refine ev_getR (r := 99) dX8_goBack_140 fl_X8_68 rfl rfl rfl ?_
      refine ev_iload_n dX8_goBack_143 rfl ?_
      refine ev_aload_n dX8_goBack_144 rfl ?_
      refine ev_getR (r := 132) dX8_goBack_145 fl_X8_171 rfl rfl rfl ?_
      refine ev_iload_n dX8_goBack_148 rfl ?_
      refine ev_bipush dX8_goBack_149 (by decide) ?_
      refine ev_iadd dX8_goBack_151 ?_
      refine ev_iload_n dX8_goBack_152 rfl ?_
      refine ev_iadd dX8_goBack_153 ?_
      refine ev_iaload dX8_goBack_154 rfl (by first | omega | (simp [wr_at]; omega) | (simp [wr_at, *]; omega)) (by first | omega | (simp [wr_at]; omega) | (simp [wr_at, *]; omega)) (by decide) ?_
      refine ev_iastore dX8_goBack_155 rfl (by first | omega | (simp [wr_at]; omega) | (simp [wr_at, *]; omega)) (by first | omega | (simp [wr_at]; omega) | (simp [wr_at, *]; omega)) (by decide) (by first | exact hR.1 _ _ | exact hR0.1 _ _ | assumption | exact ⟨by omega, by omega⟩ | exact ⟨by simp [wr_at]; omega, by simp [wr_at]; omega⟩ | exact b2_R _ | exact bC_R _ | exact band_R _ _ | exact bor_R _ _ | exact bshl_R _ _ | exact bshr_R _ _ | exact bxor_R _ _ | exact bs_R (by omega) | decide) ?_
      refine ev_w (fun hR => ?_)
      have hI2 := hI1.put (c := 99) (j := (k : Int)) (z := (ν1.1 132 (500 * x + 28 + (k : Int)))) (by omega) (by rw [hI1.im]; show _ = μ.1 132 (500 * x + (28 + (k : Int))); first | rfl | rw [← Int.add_assoc])
      generalize wr ν1 99 (k : Int) (ν1.1 132 (500 * x + 28 + (k : Int))) = ν2 at *
      refine ev_aload_n dX8_goBack_156 rfl ?_
      refine ev_getR (r := 100) dX8_goBack_157 fl_X8_71 rfl rfl rfl ?_
      refine ev_iload_n dX8_goBack_160 rfl ?_
      refine ev_aload_n dX8_goBack_161 rfl ?_
      refine ev_getR (r := 132) dX8_goBack_162 fl_X8_171 rfl rfl rfl ?_
      refine ev_iload_n dX8_goBack_165 rfl ?_
      refine ev_bipush dX8_goBack_166 (by decide) ?_
      refine ev_iadd dX8_goBack_168 ?_
      refine ev_iload_n dX8_goBack_169 rfl ?_
      refine ev_iadd dX8_goBack_170 ?_
      refine ev_iaload dX8_goBack_171 rfl (by first | omega | (simp [wr_at]; omega) | (simp [wr_at, *]; omega)) (by first | omega | (simp [wr_at]; omega) | (simp [wr_at, *]; omega)) (by decide) ?_
      refine ev_iastore dX8_goBack_172 rfl (by first | omega | (simp [wr_at]; omega) | (simp [wr_at, *]; omega)) (by first | omega | (simp [wr_at]; omega) | (simp [wr_at, *]; omega)) (by decide) (by first | exact hR.1 _ _ | exact hR0.1 _ _ | assumption | exact ⟨by omega, by omega⟩ | exact ⟨by simp [wr_at]; omega, by simp [wr_at]; omega⟩ | exact b2_R _ | exact bC_R _ | exact band_R _ _ | exact bor_R _ _ | exact bshl_R _ _ | exact bshr_R _ _ | exact bxor_R _ _ | exact bs_R (by omega) | decide) ?_
      refine ev_w (fun hR => ?_)
      have hI3 := hI2.put (c := 100) (j := (k : Int)) (z := (ν2.1 132 (500 * x + 32 + (k : Int)))) (by omega) (by rw [hI2.im]; show _ = μ.1 132 (500 * x + (32 + (k : Int))); first | rfl | rw [← Int.add_assoc])
      generalize wr ν2 100 (k : Int) (ν2.1 132 (500 * x + 32 + (k : Int))) = ν3 at *
      refine ev_aload_n dX8_goBack_173 rfl ?_
      refine ev_getR (r := 101) dX8_goBack_174 fl_X8_74 rfl rfl rfl ?_
      refine ev_iload_n dX8_goBack_177 rfl ?_
      refine ev_aload_n dX8_goBack_178 rfl ?_
      refine ev_getR (r := 132) dX8_goBack_179 fl_X8_171 rfl rfl rfl ?_
      refine ev_iload_n dX8_goBack_182 rfl ?_
      refine ev_bipush dX8_goBack_183 (by decide) ?_
      refine ev_iadd dX8_goBack_185 ?_
      refine ev_iload_n dX8_goBack_186 rfl ?_
      refine ev_iadd dX8_goBack_187 ?_
      refine ev_iaload dX8_goBack_188 rfl (by first | omega | (simp [wr_at]; omega) | (simp [wr_at, *]; omega)) (by first | omega | (simp [wr_at]; omega) | (simp [wr_at, *]; omega)) (by decide) ?_
      refine ev_iastore dX8_goBack_189 rfl (by first | omega | (simp [wr_at]; omega) | (simp [wr_at, *]; omega)) (by first | omega | (simp [wr_at]; omega) | (simp [wr_at, *]; omega)) (by decide) (by first | exact hR.1 _ _ | exact hR0.1 _ _ | assumption | exact ⟨by omega, by omega⟩ | exact ⟨by simp [wr_at]; omega, by simp [wr_at]; omega⟩ | exact b2_R _ | exact bC_R _ | exact band_R _ _ | exact bor_R _ _ | exact bshl_R _ _ | exact bshr_R _ _ | exact bxor_R _ _ | exact bs_R (by omega) | decide) ?_
      refine ev_w (fun hR => ?_)
      have hI4 := hI3.put (c := 101) (j := (k : Int)) (z := (ν3.1 132 (500 * x + 36 + (k : Int)))) (by omega) (by rw [hI3.im]; show _ = μ.1 132 (500 * x + (36 + (k : Int))); first | rfl | rw [← Int.add_assoc])
      generalize wr ν3 101 (k : Int) (ν3.1 132 (500 * x + 36 + (k : Int))) = ν4 at *
      refine ev_aload_n dX8_goBack_190 rfl ?_
      refine ev_getR (r := 102) dX8_goBack_191 fl_X8_77 rfl rfl rfl ?_
      refine ev_iload_n dX8_goBack_194 rfl ?_
      refine ev_aload_n dX8_goBack_195 rfl ?_
      refine ev_getR (r := 132) dX8_goBack_196 fl_X8_171 rfl rfl rfl ?_
      refine ev_iload_n dX8_goBack_199 rfl ?_
      refine ev_bipush dX8_goBack_200 (by decide) ?_
      refine ev_iadd dX8_goBack_202 ?_
      refine ev_iload_n dX8_goBack_203 rfl ?_
      refine ev_iadd dX8_goBack_204 ?_
      refine ev_iaload dX8_goBack_205 rfl (by first | omega | (simp [wr_at]; omega) | (simp [wr_at, *]; omega)) (by first | omega | (simp [wr_at]; omega) | (simp [wr_at, *]; omega)) (by decide) ?_
      refine ev_iastore dX8_goBack_206 rfl (by first | omega | (simp [wr_at]; omega) | (simp [wr_at, *]; omega)) (by first | omega | (simp [wr_at]; omega) | (simp [wr_at, *]; omega)) (by decide) (by first | exact hR.1 _ _ | exact hR0.1 _ _ | assumption | exact ⟨by omega, by omega⟩ | exact ⟨by simp [wr_at]; omega, by simp [wr_at]; omega⟩ | exact b2_R _ | exact bC_R _ | exact band_R _ _ | exact bor_R _ _ | exact bshl_R _ _ | exact bshr_R _ _ | exact bxor_R _ _ | exact bs_R (by omega) | decide) ?_
      refine ev_w (fun hR => ?_)
      have hI5 := hI4.put (c := 102) (j := (k : Int)) (z := (ν4.1 132 (500 * x + 40 + (k : Int)))) (by omega) (by rw [hI4.im]; show _ = μ.1 132 (500 * x + (40 + (k : Int))); first | rfl | rw [← Int.add_assoc])
      generalize wr ν4 102 (k : Int) (ν4.1 132 (500 * x + 40 + (k : Int))) = ν5 at *
      refine ev_aload_n dX8_goBack_207 rfl ?_
      refine ev_getR (r := 103) dX8_goBack_208 fl_X8_80 rfl rfl rfl ?_
      refine ev_iload_n dX8_goBack_211 rfl ?_
      refine ev_aload_n dX8_goBack_212 rfl ?_
      refine ev_getR (r := 132) dX8_goBack_213 fl_X8_171 rfl rfl rfl ?_
      refine ev_iload_n dX8_goBack_216 rfl ?_
      refine ev_bipush dX8_goBack_217 (by decide) ?_
      refine ev_iadd dX8_goBack_219 ?_
      refine ev_iload_n dX8_goBack_220 rfl ?_
      refine ev_iadd dX8_goBack_221 ?_
      refine ev_iaload dX8_goBack_222 rfl (by first | omega | (simp [wr_at]; omega) | (simp [wr_at, *]; omega)) (by first | omega | (simp [wr_at]; omega) | (simp [wr_at, *]; omega)) (by decide) ?_
      refine ev_iastore dX8_goBack_223 rfl (by first | omega | (simp [wr_at]; omega) | (simp [wr_at, *]; omega)) (by first | omega | (simp [wr_at]; omega) | (simp [wr_at, *]; omega)) (by decide) (by first | exact hR.1 _ _ | exact hR0.1 _ _ | assumption | exact ⟨by omega, by omega⟩ | exact ⟨by simp [wr_at]; omega, by simp [wr_at]; omega⟩ | exact b2_R _ | exact bC_R _ | exact band_R _ _ | exact bor_R _ _ | exact bshl_R _ _ | exact bshr_R _ _ | exact bxor_R _ _ | exact bs_R (by omega) | decide) ?_
      refine ev_w (fun hR => ?_)
      have hI6 := hI5.put (c := 103) (j := (k : Int)) (z := (ν5.1 132 (500 * x + 44 + (k : Int)))) (by omega) (by rw [hI5.im]; show _ = μ.1 132 (500 * x + (44 + (k : Int))); first | rfl | rw [← Int.add_assoc])
      generalize wr ν5 103 (k : Int) (ν5.1 132 (500 * x + 44 + (k : Int))) = ν6 at *
      refine ev_aload_n dX8_goBack_224 rfl ?_
      refine ev_getR (r := 104) dX8_goBack_225 fl_X8_83 rfl rfl rfl ?_
      refine ev_iload_n dX8_goBack_228 rfl ?_
      refine ev_aload_n dX8_goBack_229 rfl ?_
      refine ev_getR (r := 132) dX8_goBack_230 fl_X8_171 rfl rfl rfl ?_
      refine ev_iload_n dX8_goBack_233 rfl ?_
      refine ev_bipush dX8_goBack_234 (by decide) ?_
      refine ev_iadd dX8_goBack_236 ?_
      refine ev_iload_n dX8_goBack_237 rfl ?_
      refine ev_iadd dX8_goBack_238 ?_
      refine ev_iaload dX8_goBack_239 rfl (by first | omega | (simp [wr_at]; omega) | (simp [wr_at, *]; omega)) (by first | omega | (simp [wr_at]; omega) | (simp [wr_at, *]; omega)) (by decide) ?_
      refine ev_iconst dX8_goBack_240 ?_
      refine ev_icmp_ne (tgt := 248) dX8_goBack_241 (by decide) (by first | exact hR.1 _ _ | exact hR0.1 _ _ | assumption | exact ⟨by omega, by omega⟩ | exact ⟨by simp [wr_at]; omega, by simp [wr_at]; omega⟩ | exact b2_R _ | exact bC_R _ | exact band_R _ _ | exact bor_R _ _ | exact bshl_R _ _ | exact bshr_R _ _ | exact bxor_R _ _ | exact bs_R (by omega) | decide) (by first | exact hR.1 _ _ | exact hR0.1 _ _ | assumption | exact ⟨by omega, by omega⟩ | exact ⟨by simp [wr_at]; omega, by simp [wr_at]; omega⟩ | exact b2_R _ | exact bC_R _ | exact band_R _ _ | exact bor_R _ _ | exact bshl_R _ _ | exact bshr_R _ _ | exact bxor_R _ _ | exact bs_R (by omega) | decide) (fun h_241 => ?_) (fun h_241 => ?_)
      · refine ev_iconst dX8_goBack_248 ?_
        refine ev_zastore dX8_goBack_249 rfl (by first | omega | (simp [wr_at]; omega) | (simp [wr_at, *]; omega)) (by first | omega | (simp [wr_at]; omega) | (simp [wr_at, *]; omega)) (by decide) (by first | exact Or.inl rfl | exact Or.inr rfl | omega) ?_
        refine ev_w (fun hR => ?_)
        refine ev_iinc dX8_goBack_250 rfl rfl (by decide) rfl ?_
        refine ev_goto (tgt := 117) dX8_goBack_253 (by decide) ?_
        first
          | (have hI7 := hI6.put (c := 104) (j := (k : Int)) (z := 0) (by omega) (by
               show _ = (if μ.1 132 (500 * x + (48 + (k : Int))) = 1 then (1 : Int) else 0)
               rw [show 500 * x + (48 + (k : Int)) = 500 * x + 48 + (k : Int) by omega, ← hI6.im, if_neg h_241])
             exact ih (by omega) _ (hI7.mono (fun c j hj => by omega)))
          | (have hI7 := hI6.put (c := 104) (j := (k : Int)) (z := 1) (by omega) (by
               show _ = (if μ.1 132 (500 * x + (48 + (k : Int))) = 1 then (1 : Int) else 0)
               rw [show 500 * x + (48 + (k : Int)) = 500 * x + 48 + (k : Int) by omega, ← hI6.im, if_pos h_241])
             exact ih (by omega) _ (hI7.mono (fun c j hj => by omega)))
      · refine ev_iconst dX8_goBack_244 ?_
        refine ev_goto (tgt := 249) dX8_goBack_245 (by decide) ?_
        refine ev_zastore dX8_goBack_249 rfl (by first | omega | (simp [wr_at]; omega) | (simp [wr_at, *]; omega)) (by first | omega | (simp [wr_at]; omega) | (simp [wr_at, *]; omega)) (by decide) (by first | exact Or.inl rfl | exact Or.inr rfl | omega) ?_
        refine ev_w (fun hR => ?_)
        refine ev_iinc dX8_goBack_250 rfl rfl (by decide) rfl ?_
        refine ev_goto (tgt := 117) dX8_goBack_253 (by decide) ?_
        first
          | (have hI7 := hI6.put (c := 104) (j := (k : Int)) (z := 0) (by omega) (by
               show _ = (if μ.1 132 (500 * x + (48 + (k : Int))) = 1 then (1 : Int) else 0)
               rw [show 500 * x + (48 + (k : Int)) = 500 * x + 48 + (k : Int) by omega, ← hI6.im, if_neg h_241])
             exact ih (by omega) _ (hI7.mono (fun c j hj => by omega)))
          | (have hI7 := hI6.put (c := 104) (j := (k : Int)) (z := 1) (by omega) (by
               show _ = (if μ.1 132 (500 * x + (48 + (k : Int))) = 1 then (1 : Int) else 0)
               rw [show 500 * x + (48 + (k : Int)) = 500 * x + 48 + (k : Int) by omega, ← hI6.im, if_pos h_241])
             exact ih (by omega) _ (hI7.mono (fun c j hj => by omega)))
  have loop1 : (0 ≤ x ∧ x < 2) → ¬ μ.1 133 x = 0 → ∀ k : Nat, k ≤ 12 → ∀ ν, Bck μ ν (fun j => μ.1 132 (500 * x + j)) (fun c j => (c = 95 ∨ c = 96 ∨ c = 97) ∧ 0 ≤ j ∧ j < k) → Ev RX8 cX8_goBack 4 1 25 (fun v ν => if ¬ (0 ≤ x ∧ x < 2) then AnsI (-1000000001) μ v ν else if μ.1 133 x = 0 then AnsI (-1000000003) μ v ν else AnsIP 1 (fun ν => Bck μ ν (fun j => μ.1 132 (500 * x + j)) (fun c j => (((c = 95 ∨ c = 96 ∨ c = 97) ∧ 0 ≤ j ∧ j < 12) ∨ ((98 ≤ c ∧ c ≤ 104) ∧ 0 ≤ j ∧ j < 4) ∨ (c = 79 ∧ (j = 29 ∨ j = 30 ∨ j = 31 ∨ j = 34)) ∨ ((c = 105 ∨ c = 106) ∧ 0 ≤ j ∧ j < 200)))) v ν) 35 [some (.ref 79), some (.int (iI x)), some (.int (iI (500 * x))), some (.int (iI (k : Nat)))] [] ν := by
    intro hx9 hkp
    refine for_up 12 (fun k hk ih => ?_)
    intro ν hI
    refine ev_w (fun hR => ?_)
    have hl2 := loop2 hx9 hkp
    refine ev_iload_n dX8_goBack_35 rfl ?_
    refine ev_bipush dX8_goBack_36 (by decide) ?_
    refine ev_icmp_ge (tgt := 115) dX8_goBack_38 (by decide) (by first | exact hR.1 _ _ | exact hR0.1 _ _ | assumption | exact ⟨by omega, by omega⟩ | exact ⟨by simp [wr_at]; omega, by simp [wr_at]; omega⟩ | exact b2_R _ | exact bC_R _ | exact band_R _ _ | exact bor_R _ _ | exact bshl_R _ _ | exact bshr_R _ _ | exact bxor_R _ _ | exact bs_R (by omega) | decide) (by first | exact hR.1 _ _ | exact hR0.1 _ _ | assumption | exact ⟨by omega, by omega⟩ | exact ⟨by simp [wr_at]; omega, by simp [wr_at]; omega⟩ | exact b2_R _ | exact bC_R _ | exact band_R _ _ | exact bor_R _ _ | exact bshl_R _ _ | exact bshr_R _ _ | exact bxor_R _ _ | exact bs_R (by omega) | decide) (fun h_38 => ?_) (fun h_38 => ?_)
    · refine ev_iconst dX8_goBack_115 ?_
      refine ev_istore_n dX8_goBack_116 rfl (by decide) rfl ?_
      exact hl2 0 (by omega) _ (hI.mono (fun c j hj => by omega))
    · refine ev_aload_n dX8_goBack_41 rfl ?_
      refine ev_getR (r := 95) dX8_goBack_42 fl_X8_55 rfl rfl rfl ?_
      refine ev_iload_n dX8_goBack_45 rfl ?_
      refine ev_aload_n dX8_goBack_46 rfl ?_
      refine ev_getR (r := 132) dX8_goBack_47 fl_X8_171 rfl rfl rfl ?_
      refine ev_iload_n dX8_goBack_50 rfl ?_
      refine ev_iload_n dX8_goBack_51 rfl ?_
      refine ev_iadd dX8_goBack_52 ?_
      refine ev_iaload dX8_goBack_53 rfl (by first | omega | (simp [wr_at]; omega) | (simp [wr_at, *]; omega)) (by first | omega | (simp [wr_at]; omega) | (simp [wr_at, *]; omega)) (by decide) ?_
      refine ev_iastore dX8_goBack_54 rfl (by first | omega | (simp [wr_at]; omega) | (simp [wr_at, *]; omega)) (by first | omega | (simp [wr_at]; omega) | (simp [wr_at, *]; omega)) (by decide) (by first | exact hR.1 _ _ | exact hR0.1 _ _ | assumption | exact ⟨by omega, by omega⟩ | exact ⟨by simp [wr_at]; omega, by simp [wr_at]; omega⟩ | exact b2_R _ | exact bC_R _ | exact band_R _ _ | exact bor_R _ _ | exact bshl_R _ _ | exact bshr_R _ _ | exact bxor_R _ _ | exact bs_R (by omega) | decide) ?_
      refine ev_w (fun hR => ?_)
      have hI1 := hI.put (c := 95) (j := (k : Int)) (z := (ν.1 132 (500 * x + (k : Int)))) (by omega) (by rw [hI.im]; show _ = μ.1 132 (500 * x + (k : Int)); first | rfl | rw [← Int.add_assoc])
      generalize wr ν 95 (k : Int) (ν.1 132 (500 * x + (k : Int))) = ν1 at *
      refine ev_aload_n dX8_goBack_55 rfl ?_
      refine ev_getR (r := 96) dX8_goBack_56 fl_X8_58 rfl rfl rfl ?_
      refine ev_iload_n dX8_goBack_59 rfl ?_
      refine ev_aload_n dX8_goBack_60 rfl ?_
      refine ev_getR (r := 132) dX8_goBack_61 fl_X8_171 rfl rfl rfl ?_
      refine ev_iload_n dX8_goBack_64 rfl ?_
      refine ev_bipush dX8_goBack_65 (by decide) ?_
      refine ev_iadd dX8_goBack_67 ?_
      refine ev_iload_n dX8_goBack_68 rfl ?_
      refine ev_iadd dX8_goBack_69 ?_
      refine ev_iaload dX8_goBack_70 rfl (by first | omega | (simp [wr_at]; omega) | (simp [wr_at, *]; omega)) (by first | omega | (simp [wr_at]; omega) | (simp [wr_at, *]; omega)) (by decide) ?_
      refine ev_iconst dX8_goBack_71 ?_
      refine ev_irem dX8_goBack_72 (hR.1 _ _) (by decide) (by omega) (by omega) ?_
      refine ev_iconst dX8_goBack_73 ?_
      refine ev_icmp_ne (tgt := 81) dX8_goBack_74 (by decide) (by have h1 := Int.tmod_lt_of_pos (ν1.1 132 (500 * x + 12 + (k : Int))) (show (0 : Int) < 2 by decide); have h2 := Int.lt_tmod_of_pos (ν1.1 132 (500 * x + 12 + (k : Int))) (show (0 : Int) < 2 by decide); exact ⟨by omega, by omega⟩) (by decide) (fun h_74 => ?_) (fun h_74 => ?_)
      · refine ev_iconst dX8_goBack_81 ?_
        refine ev_zastore dX8_goBack_82 rfl (by first | omega | (simp [wr_at]; omega) | (simp [wr_at, *]; omega)) (by first | omega | (simp [wr_at]; omega) | (simp [wr_at, *]; omega)) (by decide) (by first | exact Or.inl rfl | exact Or.inr rfl | omega) ?_
        refine ev_w (fun hR => ?_)
        first
          | (have hI2 := hI1.put (c := 96) (j := (k : Int)) (z := 0) (by omega) (by
               show _ = (if (μ.1 132 (500 * x + (12 + (k : Int)))).tmod 2 = 1 then (1 : Int) else 0)
               rw [show 500 * x + (12 + (k : Int)) = 500 * x + 12 + (k : Int) by omega, ← hI1.im, if_neg h_74])
             generalize wr ν1 96 (k : Int) 0 = ν2 at *)
          | (have hI2 := hI1.put (c := 96) (j := (k : Int)) (z := 1) (by omega) (by
               show _ = (if (μ.1 132 (500 * x + (12 + (k : Int)))).tmod 2 = 1 then (1 : Int) else 0)
               rw [show 500 * x + (12 + (k : Int)) = 500 * x + 12 + (k : Int) by omega, ← hI1.im, if_pos h_74])
             generalize wr ν1 96 (k : Int) 1 = ν2 at *)
        refine ev_aload_n dX8_goBack_83 rfl ?_
        refine ev_getR (r := 97) dX8_goBack_84 fl_X8_62 rfl rfl rfl ?_
        refine ev_iload_n dX8_goBack_87 rfl ?_
        refine ev_aload_n dX8_goBack_88 rfl ?_
        refine ev_getR (r := 132) dX8_goBack_89 fl_X8_171 rfl rfl rfl ?_
        refine ev_iload_n dX8_goBack_92 rfl ?_
        refine ev_bipush dX8_goBack_93 (by decide) ?_
        refine ev_iadd dX8_goBack_95 ?_
        refine ev_iload_n dX8_goBack_96 rfl ?_
        refine ev_iadd dX8_goBack_97 ?_
        refine ev_iaload dX8_goBack_98 rfl (by first | omega | (simp [wr_at]; omega) | (simp [wr_at, *]; omega)) (by first | omega | (simp [wr_at]; omega) | (simp [wr_at, *]; omega)) (by decide) ?_
        refine ev_iconst dX8_goBack_99 ?_
        refine ev_icmp_le (tgt := 107) dX8_goBack_100 (by decide) (by first | exact hR.1 _ _ | exact hR0.1 _ _ | assumption | exact ⟨by omega, by omega⟩ | exact ⟨by simp [wr_at]; omega, by simp [wr_at]; omega⟩ | exact b2_R _ | exact bC_R _ | exact band_R _ _ | exact bor_R _ _ | exact bshl_R _ _ | exact bshr_R _ _ | exact bxor_R _ _ | exact bs_R (by omega) | decide) (by first | exact hR.1 _ _ | exact hR0.1 _ _ | assumption | exact ⟨by omega, by omega⟩ | exact ⟨by simp [wr_at]; omega, by simp [wr_at]; omega⟩ | exact b2_R _ | exact bC_R _ | exact band_R _ _ | exact bor_R _ _ | exact bshl_R _ _ | exact bshr_R _ _ | exact bxor_R _ _ | exact bs_R (by omega) | decide) (fun h_100 => ?_) (fun h_100 => ?_)
        · refine ev_iconst dX8_goBack_107 ?_
          refine ev_zastore dX8_goBack_108 rfl (by first | omega | (simp [wr_at]; omega) | (simp [wr_at, *]; omega)) (by first | omega | (simp [wr_at]; omega) | (simp [wr_at, *]; omega)) (by decide) (by first | exact Or.inl rfl | exact Or.inr rfl | omega) ?_
          refine ev_w (fun hR => ?_)
          refine ev_iinc dX8_goBack_109 rfl rfl (by decide) rfl ?_
          refine ev_goto (tgt := 35) dX8_goBack_112 (by decide) ?_
          first
            | (have hI3 := hI2.put (c := 97) (j := (k : Int)) (z := 0) (by omega) (by
                 show _ = (if 1 < μ.1 132 (500 * x + (12 + (k : Int))) then (1 : Int) else 0)
                 rw [show 500 * x + (12 + (k : Int)) = 500 * x + 12 + (k : Int) by omega, ← hI2.im, if_neg (by omega)])
               exact ih (by omega) _ (hI3.mono (fun c j hj => by omega)))
            | (have hI3 := hI2.put (c := 97) (j := (k : Int)) (z := 1) (by omega) (by
                 show _ = (if 1 < μ.1 132 (500 * x + (12 + (k : Int))) then (1 : Int) else 0)
                 rw [show 500 * x + (12 + (k : Int)) = 500 * x + 12 + (k : Int) by omega, ← hI2.im, if_pos (by omega)])
               exact ih (by omega) _ (hI3.mono (fun c j hj => by omega)))
        · refine ev_iconst dX8_goBack_103 ?_
          refine ev_goto (tgt := 108) dX8_goBack_104 (by decide) ?_
          refine ev_zastore dX8_goBack_108 rfl (by first | omega | (simp [wr_at]; omega) | (simp [wr_at, *]; omega)) (by first | omega | (simp [wr_at]; omega) | (simp [wr_at, *]; omega)) (by decide) (by first | exact Or.inl rfl | exact Or.inr rfl | omega) ?_
          refine ev_w (fun hR => ?_)
          refine ev_iinc dX8_goBack_109 rfl rfl (by decide) rfl ?_
          refine ev_goto (tgt := 35) dX8_goBack_112 (by decide) ?_
          first
            | (have hI3 := hI2.put (c := 97) (j := (k : Int)) (z := 0) (by omega) (by
                 show _ = (if 1 < μ.1 132 (500 * x + (12 + (k : Int))) then (1 : Int) else 0)
                 rw [show 500 * x + (12 + (k : Int)) = 500 * x + 12 + (k : Int) by omega, ← hI2.im, if_neg (by omega)])
               exact ih (by omega) _ (hI3.mono (fun c j hj => by omega)))
            | (have hI3 := hI2.put (c := 97) (j := (k : Int)) (z := 1) (by omega) (by
                 show _ = (if 1 < μ.1 132 (500 * x + (12 + (k : Int))) then (1 : Int) else 0)
                 rw [show 500 * x + (12 + (k : Int)) = 500 * x + 12 + (k : Int) by omega, ← hI2.im, if_pos (by omega)])
               exact ih (by omega) _ (hI3.mono (fun c j hj => by omega)))
      · refine ev_iconst dX8_goBack_77 ?_
        refine ev_goto (tgt := 82) dX8_goBack_78 (by decide) ?_
        refine ev_zastore dX8_goBack_82 rfl (by first | omega | (simp [wr_at]; omega) | (simp [wr_at, *]; omega)) (by first | omega | (simp [wr_at]; omega) | (simp [wr_at, *]; omega)) (by decide) (by first | exact Or.inl rfl | exact Or.inr rfl | omega) ?_
        refine ev_w (fun hR => ?_)
        first
          | (have hI2 := hI1.put (c := 96) (j := (k : Int)) (z := 0) (by omega) (by
               show _ = (if (μ.1 132 (500 * x + (12 + (k : Int)))).tmod 2 = 1 then (1 : Int) else 0)
               rw [show 500 * x + (12 + (k : Int)) = 500 * x + 12 + (k : Int) by omega, ← hI1.im, if_neg h_74])
             generalize wr ν1 96 (k : Int) 0 = ν2 at *)
          | (have hI2 := hI1.put (c := 96) (j := (k : Int)) (z := 1) (by omega) (by
               show _ = (if (μ.1 132 (500 * x + (12 + (k : Int)))).tmod 2 = 1 then (1 : Int) else 0)
               rw [show 500 * x + (12 + (k : Int)) = 500 * x + 12 + (k : Int) by omega, ← hI1.im, if_pos h_74])
             generalize wr ν1 96 (k : Int) 1 = ν2 at *)
        refine ev_aload_n dX8_goBack_83 rfl ?_
        refine ev_getR (r := 97) dX8_goBack_84 fl_X8_62 rfl rfl rfl ?_
        refine ev_iload_n dX8_goBack_87 rfl ?_
        refine ev_aload_n dX8_goBack_88 rfl ?_
        refine ev_getR (r := 132) dX8_goBack_89 fl_X8_171 rfl rfl rfl ?_
        refine ev_iload_n dX8_goBack_92 rfl ?_
        refine ev_bipush dX8_goBack_93 (by decide) ?_
        refine ev_iadd dX8_goBack_95 ?_
        refine ev_iload_n dX8_goBack_96 rfl ?_
        refine ev_iadd dX8_goBack_97 ?_
        refine ev_iaload dX8_goBack_98 rfl (by first | omega | (simp [wr_at]; omega) | (simp [wr_at, *]; omega)) (by first | omega | (simp [wr_at]; omega) | (simp [wr_at, *]; omega)) (by decide) ?_
        refine ev_iconst dX8_goBack_99 ?_
        refine ev_icmp_le (tgt := 107) dX8_goBack_100 (by decide) (by first | exact hR.1 _ _ | exact hR0.1 _ _ | assumption | exact ⟨by omega, by omega⟩ | exact ⟨by simp [wr_at]; omega, by simp [wr_at]; omega⟩ | exact b2_R _ | exact bC_R _ | exact band_R _ _ | exact bor_R _ _ | exact bshl_R _ _ | exact bshr_R _ _ | exact bxor_R _ _ | exact bs_R (by omega) | decide) (by first | exact hR.1 _ _ | exact hR0.1 _ _ | assumption | exact ⟨by omega, by omega⟩ | exact ⟨by simp [wr_at]; omega, by simp [wr_at]; omega⟩ | exact b2_R _ | exact bC_R _ | exact band_R _ _ | exact bor_R _ _ | exact bshl_R _ _ | exact bshr_R _ _ | exact bxor_R _ _ | exact bs_R (by omega) | decide) (fun h_100 => ?_) (fun h_100 => ?_)
        · refine ev_iconst dX8_goBack_107 ?_
          refine ev_zastore dX8_goBack_108 rfl (by first | omega | (simp [wr_at]; omega) | (simp [wr_at, *]; omega)) (by first | omega | (simp [wr_at]; omega) | (simp [wr_at, *]; omega)) (by decide) (by first | exact Or.inl rfl | exact Or.inr rfl | omega) ?_
          refine ev_w (fun hR => ?_)
          refine ev_iinc dX8_goBack_109 rfl rfl (by decide) rfl ?_
          refine ev_goto (tgt := 35) dX8_goBack_112 (by decide) ?_
          first
            | (have hI3 := hI2.put (c := 97) (j := (k : Int)) (z := 0) (by omega) (by
                 show _ = (if 1 < μ.1 132 (500 * x + (12 + (k : Int))) then (1 : Int) else 0)
                 rw [show 500 * x + (12 + (k : Int)) = 500 * x + 12 + (k : Int) by omega, ← hI2.im, if_neg (by omega)])
               exact ih (by omega) _ (hI3.mono (fun c j hj => by omega)))
            | (have hI3 := hI2.put (c := 97) (j := (k : Int)) (z := 1) (by omega) (by
                 show _ = (if 1 < μ.1 132 (500 * x + (12 + (k : Int))) then (1 : Int) else 0)
                 rw [show 500 * x + (12 + (k : Int)) = 500 * x + 12 + (k : Int) by omega, ← hI2.im, if_pos (by omega)])
               exact ih (by omega) _ (hI3.mono (fun c j hj => by omega)))
        · refine ev_iconst dX8_goBack_103 ?_
          refine ev_goto (tgt := 108) dX8_goBack_104 (by decide) ?_
          refine ev_zastore dX8_goBack_108 rfl (by first | omega | (simp [wr_at]; omega) | (simp [wr_at, *]; omega)) (by first | omega | (simp [wr_at]; omega) | (simp [wr_at, *]; omega)) (by decide) (by first | exact Or.inl rfl | exact Or.inr rfl | omega) ?_
          refine ev_w (fun hR => ?_)
          refine ev_iinc dX8_goBack_109 rfl rfl (by decide) rfl ?_
          refine ev_goto (tgt := 35) dX8_goBack_112 (by decide) ?_
          first
            | (have hI3 := hI2.put (c := 97) (j := (k : Int)) (z := 0) (by omega) (by
                 show _ = (if 1 < μ.1 132 (500 * x + (12 + (k : Int))) then (1 : Int) else 0)
                 rw [show 500 * x + (12 + (k : Int)) = 500 * x + 12 + (k : Int) by omega, ← hI2.im, if_neg (by omega)])
               exact ih (by omega) _ (hI3.mono (fun c j hj => by omega)))
            | (have hI3 := hI2.put (c := 97) (j := (k : Int)) (z := 1) (by omega) (by
                 show _ = (if 1 < μ.1 132 (500 * x + (12 + (k : Int))) then (1 : Int) else 0)
                 rw [show 500 * x + (12 + (k : Int)) = 500 * x + 12 + (k : Int) by omega, ← hI2.im, if_pos (by omega)])
               exact ih (by omega) _ (hI3.mono (fun c j hj => by omega)))
  refine ev_iload_n dX8_goBack_0 rfl ?_
  refine ev_i2l dX8_goBack_1 hx ?_
  refine ev_lconst (z := 0) dX8_goBack_2 (by decide) ?_
  refine ev_lconst (z := 1) dX8_goBack_3 (by decide) ?_
  refine ev_callSI dX8_goBack_4 ks_X8_180 (m_in μ x 0 1 ⟨by omega, by omega⟩ (by decide) (by decide)) rfl rfl ⟨by decide, by decide⟩ (Nat.le_of_ble_eq_true rfl) ?_
  refine ev_w (fun hR => ?_)
  refine ev_if_ne (tgt := 14) dX8_goBack_7 (by decide) (by first | exact hR.1 _ _ | exact hR0.1 _ _ | assumption | exact ⟨by omega, by omega⟩ | exact ⟨by simp [wr_at]; omega, by simp [wr_at]; omega⟩ | exact b2_R _ | exact bC_R _ | exact band_R _ _ | exact bor_R _ _ | exact bshl_R _ _ | exact bshr_R _ _ | exact bxor_R _ _ | exact bs_R (by omega) | decide) (fun h_7 => ?_) (fun h_7 => ?_)
  · have q := b2_ne h_7
    refine ev_aload_n dX8_goBack_14 rfl ?_
    refine ev_getR (r := 133) dX8_goBack_15 fl_X8_174 rfl rfl rfl ?_
    refine ev_iload_n dX8_goBack_18 rfl ?_
    refine ev_zaload dX8_goBack_19 rfl (by first | omega | (simp [wr_at]; omega) | (simp [wr_at, *]; omega)) (by first | omega | (simp [wr_at]; omega) | (simp [wr_at, *]; omega)) (by decide) ?_
    refine ev_if_ne (tgt := 27) dX8_goBack_20 (by decide) (by first | exact hR.1 _ _ | exact hR0.1 _ _ | assumption | exact ⟨by omega, by omega⟩ | exact ⟨by simp [wr_at]; omega, by simp [wr_at]; omega⟩ | exact b2_R _ | exact bC_R _ | exact band_R _ _ | exact bor_R _ _ | exact bshl_R _ _ | exact bshr_R _ _ | exact bxor_R _ _ | exact bs_R (by omega) | decide) (fun h_20 => ?_) (fun h_20 => ?_)
    · refine ev_sipush dX8_goBack_27 (by decide) ?_
      refine ev_iload_n dX8_goBack_30 rfl ?_
      refine ev_imul dX8_goBack_31 ?_
      refine ev_istore_n dX8_goBack_32 rfl (by decide) rfl ?_
      refine ev_iconst dX8_goBack_33 ?_
      refine ev_istore_n dX8_goBack_34 rfl (by decide) rfl ?_
      exact loop1 ⟨by omega, by omega⟩ h_20 0 (by omega) μ ⟨MSame.rf, fun c j hj => by omega⟩
    · refine ev_ldcw (z := -1000000003) dX8_goBack_23 kc_X8_356 (by decide) ?_
      refine ev_ireturn dX8_goBack_26 ?_
      rw [if_neg (fun y => y ⟨by omega, by omega⟩), if_pos (by omega)]
      exact ⟨rfl, rfl⟩
  · refine ev_ldcw (z := -1000000001) dX8_goBack_10 kc_X8_316 (by decide) ?_
    refine ev_ireturn dX8_goBack_13 ?_
    have q := b2_eq (by omega : b2 (0 ≤ x ∧ x ≤ 1) = 0)
    rw [if_pos (by omega)]
    exact ⟨rfl, rfl⟩
/-- an image of the reference's, and the class's state that it is of -/
def MImg (μ σ : Mem) (i nr nb nl : Nat) : Prop := StRel σ (imgId i) nr nb nl (μ.1 132 (500 * i + 52)) (μ.1 132 (500 * i + 53)) (μ.1 132 (500 * i + 54)) (μ.1 132 (500 * i + 55)) (bckE (fun j => μ.1 132 (500 * i + j)) 95) (bckE (fun j => μ.1 132 (500 * i + j)) 96) (bckE (fun j => μ.1 132 (500 * i + j)) 97) (bckE (fun j => μ.1 132 (500 * i + j)) 98) (bckE (fun j => μ.1 132 (500 * i + j)) 99) (bckE (fun j => μ.1 132 (500 * i + j)) 100) (bckE (fun j => μ.1 132 (500 * i + j)) 101) (bckE (fun j => μ.1 132 (500 * i + j)) 102) (bckE (fun j => μ.1 132 (500 * i + j)) 103) (bckE (fun j => μ.1 132 (500 * i + j)) 104) (bckE (fun j => μ.1 132 (500 * i + j)) 105) (bckE (fun j => μ.1 132 (500 * i + j)) 106)
theorem imgId_t {i : Nat} (hi : i < 2) : imgId i = 37 ∨ imgId i = 47 ∨ imgId i = 56 := by unfold imgId; omega
theorem imgId_ne {i : Nat} : imgId i ≠ 37 := by unfold imgId; omega
theorem MImg.back {μ ν σ : Mem} {i nr nb nl : Nat} (hi : i < 2) (hr12 : nr ≤ 12) (hb4 : nb ≤ 4) (hl4 : nl ≤ 4) (h6 : σ.1 (imgId i) 6 ≤ 200) (h : MImg μ σ i nr nb nl) (hB : Bck μ ν (fun j => μ.1 132 (500 * (i : Int) + j)) (fun c j => (((c = 95 ∨ c = 96 ∨ c = 97) ∧ 0 ≤ j ∧ j < 12) ∨ ((98 ≤ c ∧ c ≤ 104) ∧ 0 ≤ j ∧ j < 4) ∨ (c = 79 ∧ (j = 29 ∨ j = 30 ∨ j = 31 ∨ j = 34)) ∨ ((c = 105 ∨ c = 106) ∧ 0 ≤ j ∧ j < 200)))) : MDy ν (copyM σ 37 (imgId i)) nr nb nl := by
  have t1 := imgId_t hi
  have t2 := @imgId_ne i
  have h37 : (37 : Nat) = 37 ∨ 37 = 47 ∨ 37 = 56 := Or.inl rfl
  have cf : ∀ k : Int, 0 ≤ k → k ≤ 6 → (copyM σ 37 (imgId i)).1 37 k = σ.1 (imgId i) k := fun k a b => copyM_f h37 t1 t2 a b
  obtain ⟨⟨a1, a2, a3, a4⟩, hr, hb, hl, hri⟩ := h
  unfold MDy StRel
  rw [cf 0 (by decide) (by decide), cf 1 (by decide) (by decide), cf 2 (by decide) (by decide), cf 3 (by decide) (by decide), cf 4 (by decide) (by decide), cf 5 (by decide) (by decide), cf 6 (by decide) (by decide)]
  refine ⟨⟨?_, ?_, ?_, ?_⟩, fun r hr9 => ?_, fun b hb9 => ?_, fun l hl9 => ?_, fun k hk9 => ?_⟩
  · rw [hB.2 79 29 (by omega)]; exact a1
  · rw [hB.2 79 30 (by omega)]; exact a2
  · rw [hB.2 79 31 (by omega)]; exact a3
  · rw [hB.2 79 34 (by omega)]; exact a4
  · rw [hB.2 95 r (by omega), hB.2 96 r (by omega), hB.2 97 r (by omega), copyM_r1 h37 t1 t2 (by omega) (by omega)]
    exact hr r hr9
  · rw [hB.2 98 b (by omega), hB.2 99 b (by omega), hB.2 100 b (by omega), hB.2 101 b (by omega), copyM_r2 h37 t1 t2 (by omega) (by omega), copyM_r3 h37 t1 t2 (by omega) (by omega), copyM_r4 h37 t1 t2 (by omega) (by omega)]
    exact hb b hb9
  · rw [hB.2 102 l (by omega), hB.2 103 l (by omega), hB.2 104 l (by omega), copyM_r5 h37 t1 t2 (by omega) (by omega), copyM_r6 h37 t1 t2 (by omega) (by omega)]
    exact hl l hl9
  · rw [hB.2 105 k (by omega), hB.2 106 k (by omega), copyM_r7 h37 t1 t2 (by omega) (by omega), copyM_r8 h37 t1 t2 (by omega) (by omega)]
    exact hri k hk9
theorem MImg.kept {μ ν σ τ : Mem} {i nr nb nl : Nat} (hi : i < 2) (hr12 : nr ≤ 12) (hb4 : nb ≤ 4) (hl4 : nl ≤ 4) (h6 : σ.1 37 6 ≤ 200) (h : MDy μ σ nr nb nl) (hI : Img μ ν (500 * (i : Int)) (fun j => 0 ≤ j ∧ j < 456)) (hτ : ∀ c, imgId i ≤ c → c ≤ imgId i + 8 → τ.1 c = (copyM σ (imgId i) 37).1 c) : MImg ν τ i nr nb nl := by
  have t1 := imgId_t hi
  have t2 : 37 ≠ imgId i := (@imgId_ne i).symm
  have h37 : (37 : Nat) = 37 ∨ 37 = 47 ∨ 37 = 56 := Or.inl rfl
  have cf : ∀ k : Int, 0 ≤ k → k ≤ 6 → τ.1 (imgId i) k = σ.1 37 k := fun k a b => by rw [hτ _ (by omega) (by omega)]; exact copyM_f t1 h37 t2 a b
  have eA : ∀ j : Int, 0 ≤ j → j < 456 → ν.1 132 (500 * (i : Int) + j) = imgE μ j := fun j a b => hI.2.2.2 j ⟨a, b⟩
  obtain ⟨⟨a1, a2, a3, a4⟩, hr, hb, hl, hri⟩ := h
  unfold MImg StRel
  rw [cf 0 (by decide) (by decide), cf 1 (by decide) (by decide), cf 2 (by decide) (by decide), cf 3 (by decide) (by decide), cf 4 (by decide) (by decide), cf 5 (by decide) (by decide), cf 6 (by decide) (by decide), eA 52 (by decide) (by decide), eA 53 (by decide) (by decide), eA 54 (by decide) (by decide), eA 55 (by decide) (by decide), imgE_f29, imgE_f30, imgE_f31, imgE_f34]
  rw [hτ (imgId i + 1) (by omega) (by omega), hτ (imgId i + 2) (by omega) (by omega), hτ (imgId i + 3) (by omega) (by omega), hτ (imgId i + 4) (by omega) (by omega), hτ (imgId i + 5) (by omega) (by omega), hτ (imgId i + 6) (by omega) (by omega), hτ (imgId i + 7) (by omega) (by omega), hτ (imgId i + 8) (by omega) (by omega)]
  refine ⟨⟨a1, a2, a3, a4⟩, fun r hr9 => ?_, fun b hb9 => ?_, fun l hl9 => ?_, fun k hk9 => ?_⟩
  · have z := hr r hr9
    rw [copyM_r1 t1 h37 t2 (by omega) (by omega)]
    refine ⟨?_, ?_, ?_⟩
    · show ν.1 132 (500 * (i : Int) + r) = _
      rw [eA r (by omega) (by omega), imgE_95 μ (by omega) (by omega)]; exact z.1
    · show (if (ν.1 132 (500 * (i : Int) + (12 + (r : Int)))).tmod 2 = 1 then (1 : Int) else 0) = _
      rw [eA (12 + r) (by omega) (by omega), imgE_96 μ (by omega) (by omega), z.2.1, z.2.2]
      have q1 := b2_01 ((σ.1 37 4).toNat.testBit r = true)
      have q2 := b2_01 ((σ.1 37 3).toNat.testBit r = false)
      rcases q1 with q1 | q1 <;> rcases q2 with q2 | q2 <;> rw [q1, q2] <;> decide
    · show (if 1 < ν.1 132 (500 * (i : Int) + (12 + (r : Int))) then (1 : Int) else 0) = _
      rw [eA (12 + r) (by omega) (by omega), imgE_96 μ (by omega) (by omega), z.2.1, z.2.2]
      have q1 := b2_01 ((σ.1 37 4).toNat.testBit r = true)
      have q2 := b2_01 ((σ.1 37 3).toNat.testBit r = false)
      rcases q1 with q1 | q1 <;> rcases q2 with q2 | q2 <;> rw [q1, q2] <;> decide
  · have z := hb b hb9
    rw [copyM_r2 t1 h37 t2 (by omega) (by omega), copyM_r3 t1 h37 t2 (by omega) (by omega), copyM_r4 t1 h37 t2 (by omega) (by omega)]
    show ν.1 132 (500 * (i : Int) + (28 + (b : Int))) = _ ∧ ν.1 132 (500 * (i : Int) + (36 + (b : Int))) = _ ∧ (_ → ν.1 132 (500 * (i : Int) + (24 + (b : Int))) = _) ∧ (_ → ν.1 132 (500 * (i : Int) + (24 + (b : Int))) = _ ∧ ν.1 132 (500 * (i : Int) + (32 + (b : Int))) = _)
    rw [eA (28 + b) (by omega) (by omega), eA (36 + b) (by omega) (by omega), eA (24 + b) (by omega) (by omega), eA (32 + b) (by omega) (by omega), imgE_98 μ (by omega) (by omega), imgE_99 μ (by omega) (by omega), imgE_100 μ (by omega) (by omega), imgE_101 μ (by omega) (by omega)]
    exact z
  · have z := hl l hl9
    rw [copyM_r5 t1 h37 t2 (by omega) (by omega), copyM_r6 t1 h37 t2 (by omega) (by omega)]
    show ν.1 132 (500 * (i : Int) + (40 + (l : Int))) = _ ∧ ν.1 132 (500 * (i : Int) + (44 + (l : Int))) = _ ∧ (if ν.1 132 (500 * (i : Int) + (48 + (l : Int))) = 1 then (1 : Int) else 0) = _
    rw [eA (40 + l) (by omega) (by omega), eA (44 + l) (by omega) (by omega), eA (48 + l) (by omega) (by omega), imgE_102 μ (by omega) (by omega), imgE_103 μ (by omega) (by omega), imgE_104 μ (by omega) (by omega), z.2.2]
    refine ⟨z.1, z.2.1, ?_⟩
    have q1 := b2_01 ((σ.1 37 5).toNat.testBit l = true)
    rcases q1 with q1 | q1 <;> rw [q1] <;> decide
  · have z := hri k hk9
    rw [copyM_r7 t1 h37 t2 (by omega) (by omega), copyM_r8 t1 h37 t2 (by omega) (by omega)]
    show ν.1 132 (500 * (i : Int) + (56 + (k : Int))) = _ ∧ ν.1 132 (500 * (i : Int) + (256 + (k : Int))) = _
    rw [eA (56 + k) (by omega) (by omega), eA (256 + k) (by omega) (by omega), imgE_105 μ (by omega) (by omega), imgE_106 μ (by omega) (by omega)]
    exact z
