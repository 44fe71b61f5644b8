theorem m_told (μ σ : Mem) (P n nr nb nl mb w wt dv : Nat) (f t : Nat → Nat) (hM : MOk μ σ P n nr nb nl mb w wt dv f t) (hT : μ.1 79 36 = σ.1 1 1) (hB : μ.1 79 68 = σ.1 65 0) (x : Int) (hx : inR x) : Con yX8_told cX8_told 2 (some .int) 1 22 [.ref 79, .int (iI x)] μ (AnsI (toldC σ P x) μ) := by
  refine con_of (by decide) rfl (Nat.le_of_ble_eq_true rfl) (ok_I rfl) ?_
  refine ev_w (fun hR => ?_)
  have hR0 := hR
  obtain ⟨hPO, hDy, hMP, hMD⟩ := id hM
  obtain ⟨hPR, ⟨hnb, hnb4⟩, ⟨hnl, hnl4⟩, hpo, hro, hbo, hlo⟩ := id hPO
  obtain ⟨hP, hn, hn8, hnr, hnr12, hft⟩ := id hPR
  obtain ⟨⟨cn, cr, cb, cl⟩, mp, mr, mbo, ml⟩ := id hMP
  obtain ⟨⟨dmi, dha, dri, dse⟩, dr, db, dl, dri2⟩ := id hMD
  obtain ⟨k1, k2, k3, k4, k5, k6, k7, k8, k9, k10, k11⟩ := id hDy
  have hww := hDy.w
  refine ev_iload_n dX8_told_0 rfl ?_
  by_cases h_1 : x < 0 ∨ 10 < x
  · refine ev_tableOut (tgt := 115) dX8_told_1 (by first | exact hR.1 _ _ | exact hR0.1 _ _ | assumption | exact ⟨by omega, by omega⟩ | exact ⟨by simp [wr_at]; omega, by simp [wr_at]; omega⟩ | exact b2_R _ | exact bC_R _ | exact band_R _ _ | exact bor_R _ _ | exact bshl_R _ _ | exact bshr_R _ _ | exact bxor_R _ _ | exact bs_R (by omega) | decide) h_1 (by decide) ?_
    refine ev_ldc (z := -1000000002) dX8_told_115 kc_X8_204 (by decide) ?_
    refine ev_ireturn dX8_told_117 ?_
    refine ⟨?_, rfl⟩
    unfold toldC
    rw [if_neg (by omega), if_neg (by omega), if_neg (by omega), if_neg (by omega), if_neg (by omega), if_neg (by omega), if_neg (by omega), if_neg (by omega), if_neg (by omega), if_neg (by omega), if_neg (by omega)]
  by_cases h_1_0 : x = 0
  · subst h_1_0
    refine ev_tableIn (off := 59) (tgt := 60) dX8_told_1 (by decide) (by decide) (by decide) rfl (by decide) ?_
    refine ev_aload_n dX8_told_60 rfl ?_
    refine ev_getI (kz := 0) dX8_told_61 fl_X8_177 rfl rfl rfl ?_
    refine ev_ireturn dX8_told_64 ?_
    refine ⟨?_, rfl⟩
    show some (Value.int (iI (μ.1 79 0))) = some (Value.int (iI (σ.1 P 0)))
    rw [cn, hn]
  by_cases h_1_1 : x = 1
  · subst h_1_1
    refine ev_tableIn (off := 64) (tgt := 65) dX8_told_1 (by decide) (by decide) (by decide) rfl (by decide) ?_
    refine ev_aload_n dX8_told_65 rfl ?_
    refine ev_getI (kz := 4) dX8_told_66 fl_X8_184 rfl rfl rfl ?_
    refine ev_ireturn dX8_told_69 ?_
    refine ⟨?_, rfl⟩
    show some (Value.int (iI (μ.1 79 4))) = some (Value.int (iI (σ.1 P 1)))
    rw [cr, hnr]
  by_cases h_1_2 : x = 2
  · subst h_1_2
    refine ev_tableIn (off := 69) (tgt := 70) dX8_told_1 (by decide) (by decide) (by decide) rfl (by decide) ?_
    refine ev_aload_n dX8_told_70 rfl ?_
    refine ev_getI (kz := 9) dX8_told_71 fl_X8_187 rfl rfl rfl ?_
    refine ev_ireturn dX8_told_74 ?_
    refine ⟨?_, rfl⟩
    show some (Value.int (iI (μ.1 79 9))) = some (Value.int (iI (σ.1 P 2)))
    rw [cb, hnb]
  by_cases h_1_3 : x = 3
  · subst h_1_3
    refine ev_tableIn (off := 74) (tgt := 75) dX8_told_1 (by decide) (by decide) (by decide) rfl (by decide) ?_
    refine ev_aload_n dX8_told_75 rfl ?_
    refine ev_getI (kz := 13) dX8_told_76 fl_X8_190 rfl rfl rfl ?_
    refine ev_ireturn dX8_told_79 ?_
    refine ⟨?_, rfl⟩
    show some (Value.int (iI (μ.1 79 13))) = some (Value.int (iI (σ.1 P 3)))
    rw [cl, hnl]
  by_cases h_1_4 : x = 4
  · subst h_1_4
    refine ev_tableIn (off := 79) (tgt := 80) dX8_told_1 (by decide) (by decide) (by decide) rfl (by decide) ?_
    refine ev_aload_n dX8_told_80 rfl ?_
    refine ev_getI (kz := 36) dX8_told_81 fl_X8_205 rfl rfl rfl ?_
    refine ev_ireturn dX8_told_84 ?_
    refine ⟨?_, rfl⟩
    show some (Value.int (iI (μ.1 79 36))) = some (Value.int (iI (σ.1 1 1)))
    rw [hT]
  by_cases h_1_5 : x = 5
  · subst h_1_5
    refine ev_tableIn (off := 84) (tgt := 85) dX8_told_1 (by decide) (by decide) (by decide) rfl (by decide) ?_
    refine ev_aload_n dX8_told_85 rfl ?_
    refine ev_getI (kz := 29) dX8_told_86 fl_X8_193 rfl rfl rfl ?_
    refine ev_ireturn dX8_told_89 ?_
    refine ⟨?_, rfl⟩
    show some (Value.int (iI (μ.1 79 29))) = some (Value.int (iI (σ.1 37 0)))
    rw [dmi]
  by_cases h_1_6 : x = 6
  · subst h_1_6
    refine ev_tableIn (off := 89) (tgt := 90) dX8_told_1 (by decide) (by decide) (by decide) rfl (by decide) ?_
    refine ev_aload_n dX8_told_90 rfl ?_
    refine ev_getI (kz := 30) dX8_told_91 fl_X8_196 rfl rfl rfl ?_
    refine ev_ireturn dX8_told_94 ?_
    refine ⟨?_, rfl⟩
    show some (Value.int (iI (μ.1 79 30))) = some (Value.int (iI (σ.1 37 1)))
    rw [dha]
  by_cases h_1_7 : x = 7
  · subst h_1_7
    refine ev_tableIn (off := 94) (tgt := 95) dX8_told_1 (by decide) (by decide) (by decide) rfl (by decide) ?_
    refine ev_aload_n dX8_told_95 rfl ?_
    refine ev_callVI dX8_told_96 kv_X8_306 (m_doneSet μ nl cl hnl4) rfl rfl (ci := 8) rfl rfl ⟨by decide, by decide⟩ (Nat.le_of_ble_eq_true rfl) ?_
    refine ev_w (fun hR => ?_)
    refine ev_ireturn dX8_told_99 ?_
    refine ⟨?_, rfl⟩
    show some (Value.int (iI (bs (fun l => decide (μ.1 104 l ≠ 0)) nl : Nat))) = some (Value.int (iI (σ.1 37 5)))
    rw [hM.don, k6.1]
  by_cases h_1_8 : x = 8
  · subst h_1_8
    refine ev_tableIn (off := 99) (tgt := 100) dX8_told_1 (by decide) (by decide) (by decide) rfl (by decide) ?_
    refine ev_aload_n dX8_told_100 rfl ?_
    refine ev_getI (kz := 31) dX8_told_101 fl_X8_199 rfl rfl rfl ?_
    refine ev_ireturn dX8_told_104 ?_
    refine ⟨?_, rfl⟩
    show some (Value.int (iI (μ.1 79 31))) = some (Value.int (iI (σ.1 37 6)))
    rw [dri]
  by_cases h_1_9 : x = 9
  · subst h_1_9
    refine ev_tableIn (off := 104) (tgt := 105) dX8_told_1 (by decide) (by decide) (by decide) rfl (by decide) ?_
    refine ev_aload_n dX8_told_105 rfl ?_
    refine ev_getI (kz := 68) dX8_told_106 fl_X8_300 rfl rfl rfl ?_
    refine ev_ireturn dX8_told_109 ?_
    refine ⟨?_, rfl⟩
    show some (Value.int (iI (μ.1 79 68))) = some (Value.int (iI (σ.1 65 0)))
    rw [hB]
  have h_1_10 : x = 10 := by omega
  subst h_1_10
  refine ev_tableIn (off := 109) (tgt := 110) dX8_told_1 (by decide) (by decide) (by decide) rfl (by decide) ?_
  refine ev_aload_n dX8_told_110 rfl ?_
  refine ev_callVI dX8_told_111 kv_X8_309 (m_wholeSet μ nr cr hnr12) rfl rfl (ci := 8) rfl rfl ⟨by decide, by decide⟩ (Nat.le_of_ble_eq_true rfl) ?_
  refine ev_w (fun hR => ?_)
  refine ev_ireturn dX8_told_114 ?_
  refine ⟨?_, rfl⟩
  show some (Value.int (iI (bs (fun r => decide (μ.1 97 r = 0)) nr : Nat))) = some (Value.int (iI (σ.1 37 3)))
  rw [hM.whl, k4.1]
theorem m_pole (μ σ : Mem) (P n nr nb nl mb w wt dv : Nat) (f t : Nat → Nat) (hM : MOk μ σ P n nr nb nl mb w wt dv f t) (p x : Int) (hp : inR p) (hx : inR x) : Con yX8_pole cX8_pole 3 (some .int) 2 46 [.ref 79, .int (iI p), .int (iI x)] μ (AnsI (poleC σ P nb nl w wt p x) μ) := by
  refine con_of (by decide) rfl (Nat.le_of_ble_eq_true rfl) (ok_I rfl) ?_
  refine ev_w (fun hR => ?_)
  have hR0 := hR
  obtain ⟨hPO, hDy, hMP, hMD⟩ := id hM
  obtain ⟨hPR, ⟨hnb, hnb4⟩, ⟨hnl, hnl4⟩, hpo, hro, hbo, hlo⟩ := id hPO
  obtain ⟨hP, hn, hn8, hnr, hnr12, hft⟩ := id hPR
  obtain ⟨⟨cn, cr, cb, cl⟩, mp, mr, mbo, ml⟩ := id hMP
  obtain ⟨⟨dmi, dha, dri, dse⟩, dr, db, dl, dri2⟩ := id hMD
  obtain ⟨k1, k2, k3, k4, k5, k6, k7, k8, k9, k10, k11⟩ := id hDy
  have hww := hDy.w
  refine ev_aload_n dX8_pole_0 rfl ?_
  refine ev_iload_n dX8_pole_1 rfl ?_
  refine ev_callVI dX8_pole_2 kv_X8_312 (m_isPole μ p n (by assumption) cn (by omega)) rfl rfl (ci := 8) rfl rfl ⟨by decide, by decide⟩ (Nat.le_of_ble_eq_true rfl) ?_
  refine ev_w (fun hR => ?_)
  refine ev_if_ne (tgt := 12) dX8_pole_5 (by decide) (by first | exact hR.1 _ _ | exact hR0.1 _ _ | assumption | exact ⟨by omega, by omega⟩ | exact ⟨by simp [wr_at]; omega, by simp [wr_at]; omega⟩ | exact b2_R _ | exact bC_R _ | exact band_R _ _ | exact bor_R _ _ | exact bshl_R _ _ | exact bshr_R _ _ | exact bxor_R _ _ | exact bs_R (by omega) | decide) (fun h_5 => ?_) (fun h_5 => ?_)
  · have q0 := b2_ne h_5
    obtain ⟨k, rfl⟩ : ∃ k : Nat, p = k := ⟨p.toNat, by omega⟩
    have hk : k < n := by omega
    refine ev_iload_n dX8_pole_12 rfl ?_
    by_cases h_13 : x < 0 ∨ 4 < x
    · refine ev_tableOut (tgt := 81) dX8_pole_13 (by first | exact hR.1 _ _ | exact hR0.1 _ _ | assumption | exact ⟨by omega, by omega⟩ | exact ⟨by simp [wr_at]; omega, by simp [wr_at]; omega⟩ | exact b2_R _ | exact bC_R _ | exact band_R _ _ | exact bor_R _ _ | exact bshl_R _ _ | exact bshr_R _ _ | exact bxor_R _ _ | exact bs_R (by omega) | decide) h_13 (by decide) ?_
      refine ev_ldc (z := -1000000002) dX8_pole_81 kc_X8_204 (by decide) ?_
      refine ev_ireturn dX8_pole_83 ?_
      refine ⟨?_, rfl⟩
      rw [poleC, if_neg (fun z => z (by rw [hn]; exact q0))]
      rw [if_neg (by omega), if_neg (by omega), if_neg (by omega), if_neg (by omega), if_neg (by omega)]
    by_cases h_13_0 : x = 0
    · subst h_13_0
      refine ev_tableIn (off := 35) (tgt := 48) dX8_pole_13 (by decide) (by decide) (by decide) rfl (by decide) ?_
      refine ev_aload_n dX8_pole_48 rfl ?_
      refine ev_getR (r := 80) dX8_pole_49 fl_X8_7 rfl rfl rfl ?_
      refine ev_iload_n dX8_pole_52 rfl ?_
      refine ev_iaload dX8_pole_53 rfl (by first | omega | (simp [wr_at]; omega) | (simp [wr_at, *]; omega)) (by first | omega | (simp [wr_at]; omega) | (simp [wr_at, *]; omega)) (by decide) ?_
      refine ev_ireturn dX8_pole_54 ?_
      refine ⟨?_, rfl⟩
      rw [poleC, if_neg (fun z => z (by rw [hn]; exact q0))]
      show some (Value.int (iI (μ.1 80 k))) = some (Value.int (iI (σ.1 (P + 1) k)))
      rw [(mp k hk).1]
    by_cases h_13_1 : x = 1
    · subst h_13_1
      refine ev_tableIn (off := 42) (tgt := 55) dX8_pole_13 (by decide) (by decide) (by decide) rfl (by decide) ?_
      refine ev_aload_n dX8_pole_55 rfl ?_
      refine ev_getR (r := 81) dX8_pole_56 fl_X8_13 rfl rfl rfl ?_
      refine ev_iload_n dX8_pole_59 rfl ?_
      refine ev_iaload dX8_pole_60 rfl (by first | omega | (simp [wr_at]; omega) | (simp [wr_at, *]; omega)) (by first | omega | (simp [wr_at]; omega) | (simp [wr_at, *]; omega)) (by decide) ?_
      refine ev_ireturn dX8_pole_61 ?_
      refine ⟨?_, rfl⟩
      rw [poleC, if_neg (fun z => z (by rw [hn]; exact q0))]
      show some (Value.int (iI (μ.1 81 k))) = some (Value.int (iI (σ.1 (P + 2) k)))
      rw [(mp k hk).2.1]
    by_cases h_13_2 : x = 2
    · subst h_13_2
      refine ev_tableIn (off := 49) (tgt := 62) dX8_pole_13 (by decide) (by decide) (by decide) rfl (by decide) ?_
      refine ev_aload_n dX8_pole_62 rfl ?_
      refine ev_getR (r := 82) dX8_pole_63 fl_X8_16 rfl rfl rfl ?_
      refine ev_iload_n dX8_pole_66 rfl ?_
      refine ev_iaload dX8_pole_67 rfl (by first | omega | (simp [wr_at]; omega) | (simp [wr_at, *]; omega)) (by first | omega | (simp [wr_at]; omega) | (simp [wr_at, *]; omega)) (by decide) ?_
      refine ev_ireturn dX8_pole_68 ?_
      refine ⟨?_, rfl⟩
      rw [poleC, if_neg (fun z => z (by rw [hn]; exact q0))]
      show some (Value.int (iI (μ.1 82 k))) = some (Value.int (iI (σ.1 (P + 3) k)))
      rw [(mp k hk).2.2]
    by_cases h_13_3 : x = 3
    · subst h_13_3
      refine ev_tableIn (off := 56) (tgt := 69) dX8_pole_13 (by decide) (by decide) (by decide) rfl (by decide) ?_
      refine ev_aload_n dX8_pole_69 rfl ?_
      refine ev_iload_n dX8_pole_70 rfl ?_
      refine ev_callVI dX8_pole_71 kv_X8_317 (m_boysAt μ nb cb hnb4 k hp) rfl rfl (ci := 8) rfl rfl ⟨by decide, by decide⟩ (Nat.le_of_ble_eq_true rfl) ?_
      refine ev_w (fun hR => ?_)
      refine ev_ireturn dX8_pole_74 ?_
      refine ⟨?_, rfl⟩
      rw [poleC, if_neg (fun z => z (by rw [hn]; exact q0))]
      show some (Value.int (iI (bs (fun b => decide (μ.1 98 b = (k : Int))) nb : Nat))) = some (Value.int (iI (bs (fun b => decide (σ.1 40 b = -1 ∧ σ.1 39 b = (k : Int))) nb : Nat)))
      rw [hM.atS k]; rfl
    have h_13_4 : x = 4 := by omega
    subst h_13_4
    refine ev_tableIn (off := 62) (tgt := 75) dX8_pole_13 (by decide) (by decide) (by decide) rfl (by decide) ?_
    refine ev_aload_n dX8_pole_75 rfl ?_
    refine ev_iload_n dX8_pole_76 rfl ?_
    refine ev_callVI dX8_pole_77 kv_X8_321 (m_loadsAt μ nl cl hnl4 k hp) rfl rfl (ci := 8) rfl rfl ⟨by decide, by decide⟩ (Nat.le_of_ble_eq_true rfl) ?_
    refine ev_w (fun hR => ?_)
    refine ev_ireturn dX8_pole_80 ?_
    refine ⟨?_, rfl⟩
    rw [poleC, if_neg (fun z => z (by rw [hn]; exact q0))]
    show some (Value.int (iI (bs (fun l => decide (μ.1 102 l = (k : Int))) nl : Nat))) = some (Value.int (iI (bs (fun l => decide (σ.1 42 l = (k : Int))) nl : Nat)))
    rw [bs_congr (fun l hl => by show decide (μ.1 102 l = (k : Int)) = decide (σ.1 42 l = (k : Int)); rw [(dl l hl).1] : ∀ l, l < nl → (fun l : Nat => decide (μ.1 102 l = (k : Int))) l = (fun l : Nat => decide (σ.1 42 l = (k : Int))) l)]
  · refine ev_ldcw (z := -1000000001) dX8_pole_8 kc_X8_316 (by decide) ?_
    refine ev_ireturn dX8_pole_11 ?_
    have q := b2_eq (by omega : b2 (0 ≤ p ∧ p < (n : Int)) = 0)
    exact ⟨by rw [poleC, hn, if_pos q], rfl⟩
theorem m_rope (μ σ : Mem) (P n nr nb nl mb w wt dv : Nat) (f t : Nat → Nat) (hM : MOk μ σ P n nr nb nl mb w wt dv f t) (p x : Int) (hp : inR p) (hx : inR x) : Con yX8_rope cX8_rope 3 (some .int) 2 46 [.ref 79, .int (iI p), .int (iI x)] μ (AnsI (ropeC σ P nb nl w wt p x) μ) := by
  refine con_of (by decide) rfl (Nat.le_of_ble_eq_true rfl) (ok_I rfl) ?_
  refine ev_w (fun hR => ?_)
  have hR0 := hR
  obtain ⟨hPO, hDy, hMP, hMD⟩ := id hM
  obtain ⟨hPR, ⟨hnb, hnb4⟩, ⟨hnl, hnl4⟩, hpo, hro, hbo, hlo⟩ := id hPO
  obtain ⟨hP, hn, hn8, hnr, hnr12, hft⟩ := id hPR
  obtain ⟨⟨cn, cr, cb, cl⟩, mp, mr, mbo, ml⟩ := id hMP
  obtain ⟨⟨dmi, dha, dri, dse⟩, dr, db, dl, dri2⟩ := id hMD
  obtain ⟨k1, k2, k3, k4, k5, k6, k7, k8, k9, k10, k11⟩ := id hDy
  have hww := hDy.w
  refine ev_aload_n dX8_rope_0 rfl ?_
  refine ev_iload_n dX8_rope_1 rfl ?_
  refine ev_callVI dX8_rope_2 kv_X8_324 (m_isRope μ p nr (by assumption) cr (by omega)) rfl rfl (ci := 8) rfl rfl ⟨by decide, by decide⟩ (Nat.le_of_ble_eq_true rfl) ?_
  refine ev_w (fun hR => ?_)
  refine ev_if_ne (tgt := 12) dX8_rope_5 (by decide) (by first | exact hR.1 _ _ | exact hR0.1 _ _ | assumption | exact ⟨by omega, by omega⟩ | exact ⟨by simp [wr_at]; omega, by simp [wr_at]; omega⟩ | exact b2_R _ | exact bC_R _ | exact band_R _ _ | exact bor_R _ _ | exact bshl_R _ _ | exact bshr_R _ _ | exact bxor_R _ _ | exact bs_R (by omega) | decide) (fun h_5 => ?_) (fun h_5 => ?_)
  · have q0 := b2_ne h_5
    obtain ⟨k, rfl⟩ : ∃ k : Nat, p = k := ⟨p.toNat, by omega⟩
    have hk : k < nr := by omega
    refine ev_iload_n dX8_rope_12 rfl ?_
    by_cases h_13 : x < 0 ∨ 7 < x
    · refine ev_tableOut (tgt := 131) dX8_rope_13 (by first | exact hR.1 _ _ | exact hR0.1 _ _ | assumption | exact ⟨by omega, by omega⟩ | exact ⟨by simp [wr_at]; omega, by simp [wr_at]; omega⟩ | exact b2_R _ | exact bC_R _ | exact band_R _ _ | exact bor_R _ _ | exact bshl_R _ _ | exact bshr_R _ _ | exact bxor_R _ _ | exact bs_R (by omega) | decide) h_13 (by decide) ?_
      refine ev_ldc (z := -1000000002) dX8_rope_131 kc_X8_204 (by decide) ?_
      refine ev_ireturn dX8_rope_133 ?_
      refine ⟨?_, rfl⟩
      rw [ropeC, if_neg (fun z => z (by rw [hnr]; exact q0))]
      rw [if_neg (by omega), if_neg (by omega), if_neg (by omega), if_neg (by omega), if_neg (by omega), if_neg (by omega), if_neg (by omega), if_neg (by omega)]
    by_cases h_13_0 : x = 0
    · subst h_13_0
      refine ev_tableIn (off := 47) (tgt := 60) dX8_rope_13 (by decide) (by decide) (by decide) rfl (by decide) ?_
      refine ev_aload_n dX8_rope_60 rfl ?_
      refine ev_getR (r := 83) dX8_rope_61 fl_X8_19 rfl rfl rfl ?_
      refine ev_iload_n dX8_rope_64 rfl ?_
      refine ev_iaload dX8_rope_65 rfl (by first | omega | (simp [wr_at]; omega) | (simp [wr_at, *]; omega)) (by first | omega | (simp [wr_at]; omega) | (simp [wr_at, *]; omega)) (by decide) ?_
      refine ev_ireturn dX8_rope_66 ?_
      refine ⟨?_, rfl⟩
      rw [ropeC, if_neg (fun z => z (by rw [hnr]; exact q0))]
      show some (Value.int (iI (μ.1 83 k))) = some (Value.int (iI (σ.1 (P + 5) k)))
      rw [(mr k hk).1]
    by_cases h_13_1 : x = 1
    · subst h_13_1
      refine ev_tableIn (off := 54) (tgt := 67) dX8_rope_13 (by decide) (by decide) (by decide) rfl (by decide) ?_
      refine ev_aload_n dX8_rope_67 rfl ?_
      refine ev_getR (r := 84) dX8_rope_68 fl_X8_22 rfl rfl rfl ?_
      refine ev_iload_n dX8_rope_71 rfl ?_
      refine ev_iaload dX8_rope_72 rfl (by first | omega | (simp [wr_at]; omega) | (simp [wr_at, *]; omega)) (by first | omega | (simp [wr_at]; omega) | (simp [wr_at, *]; omega)) (by decide) ?_
      refine ev_ireturn dX8_rope_73 ?_
      refine ⟨?_, rfl⟩
      rw [ropeC, if_neg (fun z => z (by rw [hnr]; exact q0))]
      show some (Value.int (iI (μ.1 84 k))) = some (Value.int (iI (σ.1 (P + 6) k)))
      rw [(mr k hk).2.1]
    by_cases h_13_2 : x = 2
    · subst h_13_2
      refine ev_tableIn (off := 61) (tgt := 74) dX8_rope_13 (by decide) (by decide) (by decide) rfl (by decide) ?_
      refine ev_aload_n dX8_rope_74 rfl ?_
      refine ev_getR (r := 85) dX8_rope_75 fl_X8_25 rfl rfl rfl ?_
      refine ev_iload_n dX8_rope_78 rfl ?_
      refine ev_iaload dX8_rope_79 rfl (by first | omega | (simp [wr_at]; omega) | (simp [wr_at, *]; omega)) (by first | omega | (simp [wr_at]; omega) | (simp [wr_at, *]; omega)) (by decide) ?_
      refine ev_ireturn dX8_rope_80 ?_
      refine ⟨?_, rfl⟩
      rw [ropeC, if_neg (fun z => z (by rw [hnr]; exact q0))]
      show some (Value.int (iI (μ.1 85 k))) = some (Value.int (iI (σ.1 (P + 7) k)))
      rw [(mr k hk).2.2.1]
    by_cases h_13_3 : x = 3
    · subst h_13_3
      refine ev_tableIn (off := 68) (tgt := 81) dX8_rope_13 (by decide) (by decide) (by decide) rfl (by decide) ?_
      refine ev_aload_n dX8_rope_81 rfl ?_
      refine ev_getR (r := 86) dX8_rope_82 fl_X8_28 rfl rfl rfl ?_
      refine ev_iload_n dX8_rope_85 rfl ?_
      refine ev_iaload dX8_rope_86 rfl (by first | omega | (simp [wr_at]; omega) | (simp [wr_at, *]; omega)) (by first | omega | (simp [wr_at]; omega) | (simp [wr_at, *]; omega)) (by decide) ?_
      refine ev_ireturn dX8_rope_87 ?_
      refine ⟨?_, rfl⟩
      rw [ropeC, if_neg (fun z => z (by rw [hnr]; exact q0))]
      show some (Value.int (iI (μ.1 86 k))) = some (Value.int (iI (σ.1 (P + 8) k)))
      rw [(mr k hk).2.2.2]
    by_cases h_13_4 : x = 4
    · subst h_13_4
      refine ev_tableIn (off := 75) (tgt := 88) dX8_rope_13 (by decide) (by decide) (by decide) rfl (by decide) ?_
      refine ev_aload_n dX8_rope_88 rfl ?_
      refine ev_getR (r := 95) dX8_rope_89 fl_X8_55 rfl rfl rfl ?_
      refine ev_iload_n dX8_rope_92 rfl ?_
      refine ev_iaload dX8_rope_93 rfl (by first | omega | (simp [wr_at]; omega) | (simp [wr_at, *]; omega)) (by first | omega | (simp [wr_at]; omega) | (simp [wr_at, *]; omega)) (by decide) ?_
      refine ev_ireturn dX8_rope_94 ?_
      refine ⟨?_, rfl⟩
      rw [ropeC, if_neg (fun z => z (by rw [hnr]; exact q0))]
      show some (Value.int (iI (μ.1 95 k))) = some (Value.int (iI (σ.1 38 k)))
      rw [(dr k hk).1]
    by_cases h_13_5 : x = 5
    · subst h_13_5
      refine ev_tableIn (off := 82) (tgt := 95) dX8_rope_13 (by decide) (by decide) (by decide) rfl (by decide) ?_
      refine ev_aload_n dX8_rope_95 rfl ?_
      refine ev_getR (r := 96) dX8_rope_96 fl_X8_58 rfl rfl rfl ?_
      refine ev_iload_n dX8_rope_99 rfl ?_
      refine ev_zaload dX8_rope_100 rfl (by first | omega | (simp [wr_at]; omega) | (simp [wr_at, *]; omega)) (by first | omega | (simp [wr_at]; omega) | (simp [wr_at, *]; omega)) (by decide) ?_
      refine ev_if_eq (tgt := 108) dX8_rope_101 (by decide) (by first | exact hR.1 _ _ | exact hR0.1 _ _ | assumption | exact ⟨by omega, by omega⟩ | exact ⟨by simp [wr_at]; omega, by simp [wr_at]; omega⟩ | exact b2_R _ | exact bC_R _ | exact band_R _ _ | exact bor_R _ _ | exact bshl_R _ _ | exact bshr_R _ _ | exact bxor_R _ _ | exact bs_R (by omega) | decide) (fun h_101 => ?_) (fun h_101 => ?_)
      · refine ev_iconst dX8_rope_108 ?_
        refine ev_ireturn dX8_rope_109 ?_
        refine ⟨?_, rfl⟩
        rw [ropeC, if_neg (fun z => z (by rw [hnr]; exact q0))]
        show _ = some (Value.int (iI (b2 (wt.testBit k = true))))
        by_cases q : wt.testBit k = true
        · first
            | (rw [b2_t q]; done)
            | (exfalso; rw [hM.wet hk, b2_t q] at h_101; exact absurd h_101 (by decide))
            | (exfalso; rw [hM.wet hk, b2_t q] at h_101; exact h_101 rfl)
        · first
            | (rw [b2_f q]; done)
            | (exfalso; rw [hM.wet hk, b2_f q] at h_101; exact absurd h_101 (by decide))
            | (exfalso; rw [hM.wet hk, b2_f q] at h_101; exact h_101 rfl)
      · refine ev_iconst dX8_rope_104 ?_
        refine ev_goto (tgt := 109) dX8_rope_105 (by decide) ?_
        refine ev_ireturn dX8_rope_109 ?_
        refine ⟨?_, rfl⟩
        rw [ropeC, if_neg (fun z => z (by rw [hnr]; exact q0))]
        show _ = some (Value.int (iI (b2 (wt.testBit k = true))))
        by_cases q : wt.testBit k = true
        · first
            | (rw [b2_t q]; done)
            | (exfalso; rw [hM.wet hk, b2_t q] at h_101; exact absurd h_101 (by decide))
            | (exfalso; rw [hM.wet hk, b2_t q] at h_101; exact h_101 rfl)
        · first
            | (rw [b2_f q]; done)
            | (exfalso; rw [hM.wet hk, b2_f q] at h_101; exact absurd h_101 (by decide))
            | (exfalso; rw [hM.wet hk, b2_f q] at h_101; exact h_101 rfl)
    by_cases h_13_6 : x = 6
    · subst h_13_6
      refine ev_tableIn (off := 97) (tgt := 110) dX8_rope_13 (by decide) (by decide) (by decide) rfl (by decide) ?_
      refine ev_aload_n dX8_rope_110 rfl ?_
      refine ev_getR (r := 97) dX8_rope_111 fl_X8_62 rfl rfl rfl ?_
      refine ev_iload_n dX8_rope_114 rfl ?_
      refine ev_zaload dX8_rope_115 rfl (by first | omega | (simp [wr_at]; omega) | (simp [wr_at, *]; omega)) (by first | omega | (simp [wr_at]; omega) | (simp [wr_at, *]; omega)) (by decide) ?_
      refine ev_if_eq (tgt := 123) dX8_rope_116 (by decide) (by first | exact hR.1 _ _ | exact hR0.1 _ _ | assumption | exact ⟨by omega, by omega⟩ | exact ⟨by simp [wr_at]; omega, by simp [wr_at]; omega⟩ | exact b2_R _ | exact bC_R _ | exact band_R _ _ | exact bor_R _ _ | exact bshl_R _ _ | exact bshr_R _ _ | exact bxor_R _ _ | exact bs_R (by omega) | decide) (fun h_116 => ?_) (fun h_116 => ?_)
      · refine ev_iconst dX8_rope_123 ?_
        refine ev_ireturn dX8_rope_124 ?_
        refine ⟨?_, rfl⟩
        rw [ropeC, if_neg (fun z => z (by rw [hnr]; exact q0))]
        show _ = some (Value.int (iI (b2 (w.testBit k = true))))
        by_cases q : w.testBit k = true
        · have q2 : ¬ w.testBit k = false := by rw [q]; decide
          first
            | (rw [b2_t q]; done)
            | (exfalso; rw [hM.cut hk, b2_f q2] at h_116; exact h_116 rfl)
        · have q2 : w.testBit k = false := by simpa using q
          first
            | (rw [b2_f q]; done)
            | (exfalso; rw [hM.cut hk, b2_t q2] at h_116; exact absurd h_116 (by decide))
      · refine ev_iconst dX8_rope_119 ?_
        refine ev_goto (tgt := 124) dX8_rope_120 (by decide) ?_
        refine ev_ireturn dX8_rope_124 ?_
        refine ⟨?_, rfl⟩
        rw [ropeC, if_neg (fun z => z (by rw [hnr]; exact q0))]
        show _ = some (Value.int (iI (b2 (w.testBit k = true))))
        by_cases q : w.testBit k = true
        · have q2 : ¬ w.testBit k = false := by rw [q]; decide
          first
            | (rw [b2_t q]; done)
            | (exfalso; rw [hM.cut hk, b2_f q2] at h_116; exact h_116 rfl)
        · have q2 : w.testBit k = false := by simpa using q
          first
            | (rw [b2_f q]; done)
            | (exfalso; rw [hM.cut hk, b2_t q2] at h_116; exact absurd h_116 (by decide))
    have h_13_7 : x = 7 := by omega
    subst h_13_7
    refine ev_tableIn (off := 112) (tgt := 125) dX8_rope_13 (by decide) (by decide) (by decide) rfl (by decide) ?_
    refine ev_aload_n dX8_rope_125 rfl ?_
    refine ev_iload_n dX8_rope_126 rfl ?_
    refine ev_callVI dX8_rope_127 kv_X8_327 (m_onRope μ nb cb hnb4 k hp) rfl rfl (ci := 8) rfl rfl ⟨by decide, by decide⟩ (Nat.le_of_ble_eq_true rfl) ?_
    refine ev_w (fun hR => ?_)
    refine ev_ireturn dX8_rope_130 ?_
    refine ⟨?_, rfl⟩
    rw [ropeC, if_neg (fun z => z (by rw [hnr]; exact q0))]
    show some (Value.int (iI (lstI (fun b => μ.1 99 b) (k : Int) nb))) = some (Value.int (iI (fstI (fun b => σ.1 40 b) (k : Int) nb)))
    rw [hM.onR (by omega)]
  · refine ev_ldcw (z := -1000000001) dX8_rope_8 kc_X8_316 (by decide) ?_
    refine ev_ireturn dX8_rope_11 ?_
    have q := b2_eq (by omega : b2 (0 ≤ p ∧ p < (nr : Int)) = 0)
    exact ⟨by rw [ropeC, hnr, if_pos q], rfl⟩
theorem m_boy (μ σ : Mem) (P n nr nb nl mb w wt dv : Nat) (f t : Nat → Nat) (hM : MOk μ σ P n nr nb nl mb w wt dv f t) (p x : Int) (hp : inR p) (hx : inR x) : Con yX8_boy cX8_boy 3 (some .int) 2 46 [.ref 79, .int (iI p), .int (iI x)] μ (AnsI (boyC σ P nb nl w wt p x) μ) := by
  refine con_of (by decide) rfl (Nat.le_of_ble_eq_true rfl) (ok_I rfl) ?_
  refine ev_w (fun hR => ?_)
  have hR0 := hR
  obtain ⟨hPO, hDy, hMP, hMD⟩ := id hM
  obtain ⟨hPR, ⟨hnb, hnb4⟩, ⟨hnl, hnl4⟩, hpo, hro, hbo, hlo⟩ := id hPO
  obtain ⟨hP, hn, hn8, hnr, hnr12, hft⟩ := id hPR
  obtain ⟨⟨cn, cr, cb, cl⟩, mp, mr, mbo, ml⟩ := id hMP
  obtain ⟨⟨dmi, dha, dri, dse⟩, dr, db, dl, dri2⟩ := id hMD
  obtain ⟨k1, k2, k3, k4, k5, k6, k7, k8, k9, k10, k11⟩ := id hDy
  have hww := hDy.w
  refine ev_aload_n dX8_boy_0 rfl ?_
  refine ev_iload_n dX8_boy_1 rfl ?_
  refine ev_callVI dX8_boy_2 kv_X8_330 (m_isBoy μ p nb (by assumption) cb (by omega)) rfl rfl (ci := 8) rfl rfl ⟨by decide, by decide⟩ (Nat.le_of_ble_eq_true rfl) ?_
  refine ev_w (fun hR => ?_)
  refine ev_if_ne (tgt := 12) dX8_boy_5 (by decide) (by first | exact hR.1 _ _ | exact hR0.1 _ _ | assumption | exact ⟨by omega, by omega⟩ | exact ⟨by simp [wr_at]; omega, by simp [wr_at]; omega⟩ | exact b2_R _ | exact bC_R _ | exact band_R _ _ | exact bor_R _ _ | exact bshl_R _ _ | exact bshr_R _ _ | exact bxor_R _ _ | exact bs_R (by omega) | decide) (fun h_5 => ?_) (fun h_5 => ?_)
  · have q0 := b2_ne h_5
    obtain ⟨k, rfl⟩ : ∃ k : Nat, p = k := ⟨p.toNat, by omega⟩
    have hk : k < nb := by omega
    refine ev_iload_n dX8_boy_12 rfl ?_
    by_cases h_13 : x < 0 ∨ 5 < x
    · refine ev_tableOut (tgt := 93) dX8_boy_13 (by first | exact hR.1 _ _ | exact hR0.1 _ _ | assumption | exact ⟨by omega, by omega⟩ | exact ⟨by simp [wr_at]; omega, by simp [wr_at]; omega⟩ | exact b2_R _ | exact bC_R _ | exact band_R _ _ | exact bor_R _ _ | exact bshl_R _ _ | exact bshr_R _ _ | exact bxor_R _ _ | exact bs_R (by omega) | decide) h_13 (by decide) ?_
      refine ev_ldc (z := -1000000002) dX8_boy_93 kc_X8_204 (by decide) ?_
      refine ev_ireturn dX8_boy_95 ?_
      refine ⟨?_, rfl⟩
      rw [boyC, if_neg (fun z => z (by rw [hnb]; exact q0))]
      rw [if_neg (by omega), if_neg (by omega), if_neg (by omega), if_neg (by omega), if_neg (by omega), if_neg (by omega)]
    by_cases h_13_0 : x = 0
    · subst h_13_0
      refine ev_tableIn (off := 39) (tgt := 52) dX8_boy_13 (by decide) (by decide) (by decide) rfl (by decide) ?_
      refine ev_aload_n dX8_boy_52 rfl ?_
      refine ev_getR (r := 98) dX8_boy_53 fl_X8_65 rfl rfl rfl ?_
      refine ev_iload_n dX8_boy_56 rfl ?_
      refine ev_iaload dX8_boy_57 rfl (by first | omega | (simp [wr_at]; omega) | (simp [wr_at, *]; omega)) (by first | omega | (simp [wr_at]; omega) | (simp [wr_at, *]; omega)) (by decide) ?_
      refine ev_ireturn dX8_boy_58 ?_
      refine ⟨?_, rfl⟩
      rw [boyC, if_neg (fun z => z (by rw [hnb]; exact q0))]
      show some (Value.int (iI (μ.1 98 k))) = some (Value.int (iI (if σ.1 40 k = -1 then σ.1 39 k else -1)))
      have h9 := db k hk
      by_cases e : σ.1 40 k = -1
      · rw [if_pos e, h9.2.2.1 e]
      · rw [if_neg e, (h9.2.2.2 e).1]
    by_cases h_13_1 : x = 1
    · subst h_13_1
      refine ev_tableIn (off := 46) (tgt := 59) dX8_boy_13 (by decide) (by decide) (by decide) rfl (by decide) ?_
      refine ev_aload_n dX8_boy_59 rfl ?_
      refine ev_getR (r := 99) dX8_boy_60 fl_X8_68 rfl rfl rfl ?_
      refine ev_iload_n dX8_boy_63 rfl ?_
      refine ev_iaload dX8_boy_64 rfl (by first | omega | (simp [wr_at]; omega) | (simp [wr_at, *]; omega)) (by first | omega | (simp [wr_at]; omega) | (simp [wr_at, *]; omega)) (by decide) ?_
      refine ev_ireturn dX8_boy_65 ?_
      refine ⟨?_, rfl⟩
      rw [boyC, if_neg (fun z => z (by rw [hnb]; exact q0))]
      show some (Value.int (iI (μ.1 99 k))) = some (Value.int (iI (σ.1 40 k)))
      rw [(db k hk).1]
    by_cases h_13_2 : x = 2
    · subst h_13_2
      refine ev_tableIn (off := 53) (tgt := 66) dX8_boy_13 (by decide) (by decide) (by decide) rfl (by decide) ?_
      refine ev_aload_n dX8_boy_66 rfl ?_
      refine ev_getR (r := 101) dX8_boy_67 fl_X8_74 rfl rfl rfl ?_
      refine ev_iload_n dX8_boy_70 rfl ?_
      refine ev_iaload dX8_boy_71 rfl (by first | omega | (simp [wr_at]; omega) | (simp [wr_at, *]; omega)) (by first | omega | (simp [wr_at]; omega) | (simp [wr_at, *]; omega)) (by decide) ?_
      refine ev_ireturn dX8_boy_72 ?_
      refine ⟨?_, rfl⟩
      rw [boyC, if_neg (fun z => z (by rw [hnb]; exact q0))]
      show some (Value.int (iI (μ.1 101 k))) = some (Value.int (iI (σ.1 41 k)))
      rw [(db k hk).2.1]
    by_cases h_13_3 : x = 3
    · subst h_13_3
      refine ev_tableIn (off := 60) (tgt := 73) dX8_boy_13 (by decide) (by decide) (by decide) rfl (by decide) ?_
      refine ev_aload_n dX8_boy_73 rfl ?_
      refine ev_getR (r := 88) dX8_boy_74 fl_X8_34 rfl rfl rfl ?_
      refine ev_iload_n dX8_boy_77 rfl ?_
      refine ev_iaload dX8_boy_78 rfl (by first | omega | (simp [wr_at]; omega) | (simp [wr_at, *]; omega)) (by first | omega | (simp [wr_at]; omega) | (simp [wr_at, *]; omega)) (by decide) ?_
      refine ev_ireturn dX8_boy_79 ?_
      refine ⟨?_, rfl⟩
      rw [boyC, if_neg (fun z => z (by rw [hnb]; exact q0))]
      show some (Value.int (iI (μ.1 88 k))) = some (Value.int (iI (σ.1 (P + 10) k)))
      rw [(mbo k hk).2.1]
    by_cases h_13_4 : x = 4
    · subst h_13_4
      refine ev_tableIn (off := 67) (tgt := 80) dX8_boy_13 (by decide) (by decide) (by decide) rfl (by decide) ?_
      refine ev_aload_n dX8_boy_80 rfl ?_
      refine ev_getR (r := 89) dX8_boy_81 fl_X8_37 rfl rfl rfl ?_
      refine ev_iload_n dX8_boy_84 rfl ?_
      refine ev_iaload dX8_boy_85 rfl (by first | omega | (simp [wr_at]; omega) | (simp [wr_at, *]; omega)) (by first | omega | (simp [wr_at]; omega) | (simp [wr_at, *]; omega)) (by decide) ?_
      refine ev_ireturn dX8_boy_86 ?_
      refine ⟨?_, rfl⟩
      rw [boyC, if_neg (fun z => z (by rw [hnb]; exact q0))]
      show some (Value.int (iI (μ.1 89 k))) = some (Value.int (iI (σ.1 (P + 11) k)))
      rw [(mbo k hk).2.2]
    have h_13_5 : x = 5 := by omega
    subst h_13_5
    refine ev_tableIn (off := 74) (tgt := 87) dX8_boy_13 (by decide) (by decide) (by decide) rfl (by decide) ?_
    refine ev_aload_n dX8_boy_87 rfl ?_
    refine ev_iload_n dX8_boy_88 rfl ?_
    refine ev_callVI dX8_boy_89 kv_X8_333 (m_carriedBy μ nl cl hnl4 k hp) rfl rfl (ci := 8) rfl rfl ⟨by decide, by decide⟩ (Nat.le_of_ble_eq_true rfl) ?_
    refine ev_w (fun hR => ?_)
    refine ev_ireturn dX8_boy_92 ?_
    refine ⟨?_, rfl⟩
    rw [boyC, if_neg (fun z => z (by rw [hnb]; exact q0))]
    show some (Value.int (iI (bs (fun l => decide (μ.1 103 l = (k : Int))) nl : Nat))) = some (Value.int (iI (bs (fun l => decide (σ.1 43 l = (k : Int))) nl : Nat)))
    rw [hM.car k]; rfl
  · refine ev_ldcw (z := -1000000001) dX8_boy_8 kc_X8_316 (by decide) ?_
    refine ev_ireturn dX8_boy_11 ?_
    have q := b2_eq (by omega : b2 (0 ≤ p ∧ p < (nb : Int)) = 0)
    exact ⟨by rw [boyC, hnb, if_pos q], rfl⟩
theorem m_load (μ σ : Mem) (P n nr nb nl mb w wt dv : Nat) (f t : Nat → Nat) (hM : MOk μ σ P n nr nb nl mb w wt dv f t) (p x : Int) (hp : inR p) (hx : inR x) : Con yX8_load cX8_load 3 (some .int) 2 46 [.ref 79, .int (iI p), .int (iI x)] μ (AnsI (loadC σ P nb nl w wt p x) μ) := by
  refine con_of (by decide) rfl (Nat.le_of_ble_eq_true rfl) (ok_I rfl) ?_
  refine ev_w (fun hR => ?_)
  have hR0 := hR
  obtain ⟨hPO, hDy, hMP, hMD⟩ := id hM
  obtain ⟨hPR, ⟨hnb, hnb4⟩, ⟨hnl, hnl4⟩, hpo, hro, hbo, hlo⟩ := id hPO
  obtain ⟨hP, hn, hn8, hnr, hnr12, hft⟩ := id hPR
  obtain ⟨⟨cn, cr, cb, cl⟩, mp, mr, mbo, ml⟩ := id hMP
  obtain ⟨⟨dmi, dha, dri, dse⟩, dr, db, dl, dri2⟩ := id hMD
  obtain ⟨k1, k2, k3, k4, k5, k6, k7, k8, k9, k10, k11⟩ := id hDy
  have hww := hDy.w
  refine ev_aload_n dX8_load_0 rfl ?_
  refine ev_iload_n dX8_load_1 rfl ?_
  refine ev_callVI dX8_load_2 kv_X8_336 (m_isLoad μ p nl (by assumption) cl (by omega)) rfl rfl (ci := 8) rfl rfl ⟨by decide, by decide⟩ (Nat.le_of_ble_eq_true rfl) ?_
  refine ev_w (fun hR => ?_)
  refine ev_if_ne (tgt := 12) dX8_load_5 (by decide) (by first | exact hR.1 _ _ | exact hR0.1 _ _ | assumption | exact ⟨by omega, by omega⟩ | exact ⟨by simp [wr_at]; omega, by simp [wr_at]; omega⟩ | exact b2_R _ | exact bC_R _ | exact band_R _ _ | exact bor_R _ _ | exact bshl_R _ _ | exact bshr_R _ _ | exact bxor_R _ _ | exact bs_R (by omega) | decide) (fun h_5 => ?_) (fun h_5 => ?_)
  · have q0 := b2_ne h_5
    obtain ⟨k, rfl⟩ : ∃ k : Nat, p = k := ⟨p.toNat, by omega⟩
    have hk : k < nl := by omega
    refine ev_iload_n dX8_load_12 rfl ?_
    by_cases h_13 : x < 0 ∨ 6 < x
    · refine ev_tableOut (tgt := 113) dX8_load_13 (by first | exact hR.1 _ _ | exact hR0.1 _ _ | assumption | exact ⟨by omega, by omega⟩ | exact ⟨by simp [wr_at]; omega, by simp [wr_at]; omega⟩ | exact b2_R _ | exact bC_R _ | exact band_R _ _ | exact bor_R _ _ | exact bshl_R _ _ | exact bshr_R _ _ | exact bxor_R _ _ | exact bs_R (by omega) | decide) h_13 (by decide) ?_
      refine ev_ldc (z := -1000000002) dX8_load_113 kc_X8_204 (by decide) ?_
      refine ev_ireturn dX8_load_115 ?_
      refine ⟨?_, rfl⟩
      rw [loadC, if_neg (fun z => z (by rw [hnl]; exact q0))]
      rw [if_neg (by omega), if_neg (by omega), if_neg (by omega), if_neg (by omega), if_neg (by omega), if_neg (by omega), if_neg (by omega)]
    by_cases h_13_0 : x = 0
    · subst h_13_0
      refine ev_tableIn (off := 43) (tgt := 56) dX8_load_13 (by decide) (by decide) (by decide) rfl (by decide) ?_
      refine ev_aload_n dX8_load_56 rfl ?_
      refine ev_getR (r := 102) dX8_load_57 fl_X8_77 rfl rfl rfl ?_
      refine ev_iload_n dX8_load_60 rfl ?_
      refine ev_iaload dX8_load_61 rfl (by first | omega | (simp [wr_at]; omega) | (simp [wr_at, *]; omega)) (by first | omega | (simp [wr_at]; omega) | (simp [wr_at, *]; omega)) (by decide) ?_
      refine ev_ireturn dX8_load_62 ?_
      refine ⟨?_, rfl⟩
      rw [loadC, if_neg (fun z => z (by rw [hnl]; exact q0))]
      show some (Value.int (iI (μ.1 102 k))) = some (Value.int (iI (σ.1 42 k)))
      rw [(dl k hk).1]
    by_cases h_13_1 : x = 1
    · subst h_13_1
      refine ev_tableIn (off := 50) (tgt := 63) dX8_load_13 (by decide) (by decide) (by decide) rfl (by decide) ?_
      refine ev_aload_n dX8_load_63 rfl ?_
      refine ev_getR (r := 91) dX8_load_64 fl_X8_43 rfl rfl rfl ?_
      refine ev_iload_n dX8_load_67 rfl ?_
      refine ev_iaload dX8_load_68 rfl (by first | omega | (simp [wr_at]; omega) | (simp [wr_at, *]; omega)) (by first | omega | (simp [wr_at]; omega) | (simp [wr_at, *]; omega)) (by decide) ?_
      refine ev_ireturn dX8_load_69 ?_
      refine ⟨?_, rfl⟩
      rw [loadC, if_neg (fun z => z (by rw [hnl]; exact q0))]
      show some (Value.int (iI (μ.1 91 k))) = some (Value.int (iI (σ.1 (P + 13) k)))
      rw [(ml k hk).2.1]
    by_cases h_13_2 : x = 2
    · subst h_13_2
      refine ev_tableIn (off := 57) (tgt := 70) dX8_load_13 (by decide) (by decide) (by decide) rfl (by decide) ?_
      refine ev_aload_n dX8_load_70 rfl ?_
      refine ev_getR (r := 92) dX8_load_71 fl_X8_46 rfl rfl rfl ?_
      refine ev_iload_n dX8_load_74 rfl ?_
      refine ev_iaload dX8_load_75 rfl (by first | omega | (simp [wr_at]; omega) | (simp [wr_at, *]; omega)) (by first | omega | (simp [wr_at]; omega) | (simp [wr_at, *]; omega)) (by decide) ?_
      refine ev_ireturn dX8_load_76 ?_
      refine ⟨?_, rfl⟩
      rw [loadC, if_neg (fun z => z (by rw [hnl]; exact q0))]
      show some (Value.int (iI (μ.1 92 k))) = some (Value.int (iI (σ.1 (P + 14) k)))
      rw [(ml k hk).2.2.1]
    by_cases h_13_3 : x = 3
    · subst h_13_3
      refine ev_tableIn (off := 64) (tgt := 77) dX8_load_13 (by decide) (by decide) (by decide) rfl (by decide) ?_
      refine ev_aload_n dX8_load_77 rfl ?_
      refine ev_getR (r := 93) dX8_load_78 fl_X8_49 rfl rfl rfl ?_
      refine ev_iload_n dX8_load_81 rfl ?_
      refine ev_iaload dX8_load_82 rfl (by first | omega | (simp [wr_at]; omega) | (simp [wr_at, *]; omega)) (by first | omega | (simp [wr_at]; omega) | (simp [wr_at, *]; omega)) (by decide) ?_
      refine ev_ireturn dX8_load_83 ?_
      refine ⟨?_, rfl⟩
      rw [loadC, if_neg (fun z => z (by rw [hnl]; exact q0))]
      show some (Value.int (iI (μ.1 93 k))) = some (Value.int (iI (σ.1 (P + 15) k)))
      rw [(ml k hk).2.2.2.1]
    by_cases h_13_4 : x = 4
    · subst h_13_4
      refine ev_tableIn (off := 71) (tgt := 84) dX8_load_13 (by decide) (by decide) (by decide) rfl (by decide) ?_
      refine ev_aload_n dX8_load_84 rfl ?_
      refine ev_getR (r := 94) dX8_load_85 fl_X8_52 rfl rfl rfl ?_
      refine ev_iload_n dX8_load_88 rfl ?_
      refine ev_iaload dX8_load_89 rfl (by first | omega | (simp [wr_at]; omega) | (simp [wr_at, *]; omega)) (by first | omega | (simp [wr_at]; omega) | (simp [wr_at, *]; omega)) (by decide) ?_
      refine ev_ireturn dX8_load_90 ?_
      refine ⟨?_, rfl⟩
      rw [loadC, if_neg (fun z => z (by rw [hnl]; exact q0))]
      show some (Value.int (iI (μ.1 94 k))) = some (Value.int (iI (σ.1 (P + 16) k)))
      rw [(ml k hk).2.2.2.2]
    by_cases h_13_5 : x = 5
    · subst h_13_5
      refine ev_tableIn (off := 78) (tgt := 91) dX8_load_13 (by decide) (by decide) (by decide) rfl (by decide) ?_
      refine ev_aload_n dX8_load_91 rfl ?_
      refine ev_getR (r := 103) dX8_load_92 fl_X8_80 rfl rfl rfl ?_
      refine ev_iload_n dX8_load_95 rfl ?_
      refine ev_iaload dX8_load_96 rfl (by first | omega | (simp [wr_at]; omega) | (simp [wr_at, *]; omega)) (by first | omega | (simp [wr_at]; omega) | (simp [wr_at, *]; omega)) (by decide) ?_
      refine ev_ireturn dX8_load_97 ?_
      refine ⟨?_, rfl⟩
      rw [loadC, if_neg (fun z => z (by rw [hnl]; exact q0))]
      show some (Value.int (iI (μ.1 103 k))) = some (Value.int (iI (σ.1 43 k)))
      rw [(dl k hk).2.1]
    have h_13_6 : x = 6 := by omega
    subst h_13_6
    refine ev_tableIn (off := 85) (tgt := 98) dX8_load_13 (by decide) (by decide) (by decide) rfl (by decide) ?_
    refine ev_aload_n dX8_load_98 rfl ?_
    refine ev_getR (r := 104) dX8_load_99 fl_X8_83 rfl rfl rfl ?_
    refine ev_iload_n dX8_load_102 rfl ?_
    refine ev_zaload dX8_load_103 rfl (by first | omega | (simp [wr_at]; omega) | (simp [wr_at, *]; omega)) (by first | omega | (simp [wr_at]; omega) | (simp [wr_at, *]; omega)) (by decide) ?_
    refine ev_if_eq (tgt := 111) dX8_load_104 (by decide) (by first | exact hR.1 _ _ | exact hR0.1 _ _ | assumption | exact ⟨by omega, by omega⟩ | exact ⟨by simp [wr_at]; omega, by simp [wr_at]; omega⟩ | exact b2_R _ | exact bC_R _ | exact band_R _ _ | exact bor_R _ _ | exact bshl_R _ _ | exact bshr_R _ _ | exact bxor_R _ _ | exact bs_R (by omega) | decide) (fun h_104 => ?_) (fun h_104 => ?_)
    · refine ev_iconst dX8_load_111 ?_
      refine ev_ireturn dX8_load_112 ?_
      refine ⟨?_, rfl⟩
      rw [loadC, if_neg (fun z => z (by rw [hnl]; exact q0))]
      show _ = some (Value.int (iI (b2 ((dvN σ).testBit k = true))))
      by_cases q : (dvN σ).testBit k = true
      · first
          | (rw [b2_t q]; done)
          | (exfalso; rw [show μ.1 104 k = b2 ((dvN σ).testBit k = true) from (dl k hk).2.2, b2_t q] at h_104; exact absurd h_104 (by decide))
          | (exfalso; rw [show μ.1 104 k = b2 ((dvN σ).testBit k = true) from (dl k hk).2.2, b2_t q] at h_104; exact h_104 rfl)
      · first
          | (rw [b2_f q]; done)
          | (exfalso; rw [show μ.1 104 k = b2 ((dvN σ).testBit k = true) from (dl k hk).2.2, b2_f q] at h_104; exact absurd h_104 (by decide))
          | (exfalso; rw [show μ.1 104 k = b2 ((dvN σ).testBit k = true) from (dl k hk).2.2, b2_f q] at h_104; exact h_104 rfl)
    · refine ev_iconst dX8_load_107 ?_
      refine ev_goto (tgt := 112) dX8_load_108 (by decide) ?_
      refine ev_ireturn dX8_load_112 ?_
      refine ⟨?_, rfl⟩
      rw [loadC, if_neg (fun z => z (by rw [hnl]; exact q0))]
      show _ = some (Value.int (iI (b2 ((dvN σ).testBit k = true))))
      by_cases q : (dvN σ).testBit k = true
      · first
          | (rw [b2_t q]; done)
          | (exfalso; rw [show μ.1 104 k = b2 ((dvN σ).testBit k = true) from (dl k hk).2.2, b2_t q] at h_104; exact absurd h_104 (by decide))
          | (exfalso; rw [show μ.1 104 k = b2 ((dvN σ).testBit k = true) from (dl k hk).2.2, b2_t q] at h_104; exact h_104 rfl)
      · first
          | (rw [b2_f q]; done)
          | (exfalso; rw [show μ.1 104 k = b2 ((dvN σ).testBit k = true) from (dl k hk).2.2, b2_f q] at h_104; exact absurd h_104 (by decide))
          | (exfalso; rw [show μ.1 104 k = b2 ((dvN σ).testBit k = true) from (dl k hk).2.2, b2_f q] at h_104; exact h_104 rfl)
  · refine ev_ldcw (z := -1000000001) dX8_load_8 kc_X8_316 (by decide) ?_
    refine ev_ireturn dX8_load_11 ?_
    have q := b2_eq (by omega : b2 (0 ≤ p ∧ p < (nl : Int)) = 0)
    exact ⟨by rw [loadC, hnl, if_pos q], rfl⟩
theorem m_ring (μ σ : Mem) (P n nr nb nl mb w wt dv : Nat) (f t : Nat → Nat) (hM : MOk μ σ P n nr nb nl mb w wt dv f t) (i x : Int) (hi : inR i) (hx : inR x) : Con yX8_ring cX8_ring 3 (some .int) 1 25 [.ref 79, .int (iI i), .int (iI x)] μ (AnsI (ringZ (σ.1 37 6) (σ.1 44) (σ.1 45) i x) μ) := by
  refine con_of (by decide) rfl (Nat.le_of_ble_eq_true rfl) (ok_I rfl) ?_
  refine ev_w (fun hR => ?_)
  have hR0 := hR
  obtain ⟨hPO, hDy, hMP, hMD⟩ := id hM
  obtain ⟨hPR, ⟨hnb, hnb4⟩, ⟨hnl, hnl4⟩, hpo, hro, hbo, hlo⟩ := id hPO
  obtain ⟨hP, hn, hn8, hnr, hnr12, hft⟩ := id hPR
  obtain ⟨⟨cn, cr, cb, cl⟩, mp, mr, mbo, ml⟩ := id hMP
  obtain ⟨⟨dmi, dha, dri, dse⟩, dr, db, dl, dri2⟩ := id hMD
  obtain ⟨k1, k2, k3, k4, k5, k6, k7, k8, k9, k10, k11⟩ := id hDy
  have hww := hDy.w
  refine ev_iload_n dX8_ring_0 rfl ?_
  refine ev_i2l dX8_ring_1 hx ?_
  refine ev_lconst (z := 0) dX8_ring_2 (by decide) ?_
  refine ev_lconst (z := 1) dX8_ring_3 (by decide) ?_
  refine ev_callSI dX8_ring_4 ks_X8_180 (m_in μ x 0 1 ⟨by omega, by omega⟩ (by decide) (by decide)) rfl rfl ⟨by decide, by decide⟩ (Nat.le_of_ble_eq_true rfl) ?_
  refine ev_w (fun hR => ?_)
  refine ev_if_ne (tgt := 13) dX8_ring_7 (by decide) (by first | exact hR.1 _ _ | exact hR0.1 _ _ | assumption | exact ⟨by omega, by omega⟩ | exact ⟨by simp [wr_at]; omega, by simp [wr_at]; omega⟩ | exact b2_R _ | exact bC_R _ | exact band_R _ _ | exact bor_R _ _ | exact bshl_R _ _ | exact bshr_R _ _ | exact bxor_R _ _ | exact bs_R (by omega) | decide) (fun h_7 => ?_) (fun h_7 => ?_)
  · refine ev_iload_n dX8_ring_13 rfl ?_
    refine ev_i2l dX8_ring_14 hi ?_
    refine ev_lconst (z := 0) dX8_ring_15 (by decide) ?_
    refine ev_aload_n dX8_ring_16 rfl ?_
    refine ev_getI (kz := 31) dX8_ring_17 fl_X8_199 rfl rfl rfl ?_
    rw [dri]
    refine ev_iconst dX8_ring_20 ?_
    refine ev_isub dX8_ring_21 ?_
    refine ev_i2l dX8_ring_22 ⟨by omega, by omega⟩ ?_
    refine ev_callSI dX8_ring_23 ks_X8_180 (m_in μ i 0 (σ.1 37 6 - 1) ⟨by omega, by omega⟩ (by decide) ⟨by omega, by omega⟩) rfl rfl ⟨by decide, by decide⟩ (Nat.le_of_ble_eq_true rfl) ?_
    refine ev_w (fun hR => ?_)
    refine ev_if_ne (tgt := 33) dX8_ring_26 (by decide) (by first | exact hR.1 _ _ | exact hR0.1 _ _ | assumption | exact ⟨by omega, by omega⟩ | exact ⟨by simp [wr_at]; omega, by simp [wr_at]; omega⟩ | exact b2_R _ | exact bC_R _ | exact band_R _ _ | exact bor_R _ _ | exact bshl_R _ _ | exact bshr_R _ _ | exact bxor_R _ _ | exact bs_R (by omega) | decide) (fun h_26 => ?_) (fun h_26 => ?_)
    · refine ev_iload_n dX8_ring_33 rfl ?_
      refine ev_if_ne (tgt := 46) dX8_ring_34 (by decide) (by first | exact hR.1 _ _ | exact hR0.1 _ _ | assumption | exact ⟨by omega, by omega⟩ | exact ⟨by simp [wr_at]; omega, by simp [wr_at]; omega⟩ | exact b2_R _ | exact bC_R _ | exact band_R _ _ | exact bor_R _ _ | exact bshl_R _ _ | exact bshr_R _ _ | exact bxor_R _ _ | exact bs_R (by omega) | decide) (fun h_34 => ?_) (fun h_34 => ?_)
      · have q2 := b2_ne h_26
        refine ev_aload_n dX8_ring_46 rfl ?_
        refine ev_getR (r := 106) dX8_ring_47 fl_X8_89 rfl rfl rfl ?_
        refine ev_iload_n dX8_ring_50 rfl ?_
        refine ev_iaload dX8_ring_51 rfl (by first | omega | (simp [wr_at]; omega) | (simp [wr_at, *]; omega)) (by first | omega | (simp [wr_at]; omega) | (simp [wr_at, *]; omega)) (by decide) ?_
        refine ev_ireturn dX8_ring_52 ?_
        have q1 := b2_ne h_7
        refine ⟨?_, rfl⟩
        rw [ringZ, if_neg (fun z => z q1)]
        first
          | (have q2 := b2_eq (by omega : b2 (0 ≤ i ∧ i ≤ σ.1 37 6 - 1) = 0)
             rw [if_pos (by omega)])
          | (have q2 := b2_ne h_26
             obtain ⟨k, rfl⟩ : ∃ k : Nat, i = k := ⟨i.toNat, by omega⟩
             have q3 := dri2 k (by omega)
             rw [if_neg (fun z => z ⟨by omega, by omega⟩)]
             first
               | (rw [if_pos h_34, q3.1])
               | (rw [if_neg h_34, q3.2]))
      · have q2 := b2_ne h_26
        refine ev_aload_n dX8_ring_37 rfl ?_
        refine ev_getR (r := 105) dX8_ring_38 fl_X8_86 rfl rfl rfl ?_
        refine ev_iload_n dX8_ring_41 rfl ?_
        refine ev_iaload dX8_ring_42 rfl (by first | omega | (simp [wr_at]; omega) | (simp [wr_at, *]; omega)) (by first | omega | (simp [wr_at]; omega) | (simp [wr_at, *]; omega)) (by decide) ?_
        refine ev_goto (tgt := 52) dX8_ring_43 (by decide) ?_
        refine ev_ireturn dX8_ring_52 ?_
        have q1 := b2_ne h_7
        refine ⟨?_, rfl⟩
        rw [ringZ, if_neg (fun z => z q1)]
        first
          | (have q2 := b2_eq (by omega : b2 (0 ≤ i ∧ i ≤ σ.1 37 6 - 1) = 0)
             rw [if_pos (by omega)])
          | (have q2 := b2_ne h_26
             obtain ⟨k, rfl⟩ : ∃ k : Nat, i = k := ⟨i.toNat, by omega⟩
             have q3 := dri2 k (by omega)
             rw [if_neg (fun z => z ⟨by omega, by omega⟩)]
             first
               | (rw [if_pos h_34, q3.1])
               | (rw [if_neg h_34, q3.2]))
    · refine ev_iconst dX8_ring_29 ?_
      refine ev_goto (tgt := 52) dX8_ring_30 (by decide) ?_
      refine ev_ireturn dX8_ring_52 ?_
      have q1 := b2_ne h_7
      refine ⟨?_, rfl⟩
      rw [ringZ, if_neg (fun z => z q1)]
      first
        | (have q2 := b2_eq (by omega : b2 (0 ≤ i ∧ i ≤ σ.1 37 6 - 1) = 0)
           rw [if_pos (by omega)])
        | (have q2 := b2_ne h_26
           obtain ⟨k, rfl⟩ : ∃ k : Nat, i = k := ⟨i.toNat, by omega⟩
           have q3 := dri2 k (by omega)
           rw [if_neg (fun z => z ⟨by omega, by omega⟩)]
           first
             | (rw [if_pos h_34, q3.1])
             | (rw [if_neg h_34, q3.2]))
  · refine ev_ldc (z := -1000000002) dX8_ring_10 kc_X8_204 (by decide) ?_
    refine ev_ireturn dX8_ring_12 ?_
    exact ⟨by rw [ringZ, if_pos (b2_eq (by omega : b2 (0 ≤ x ∧ x ≤ 1) = 0))], rfl⟩
theorem m_fault (μ : Mem) : Con yX8_fault cX8_fault 1 (some .int) 0 0 [.ref 79] μ (AnsI (μ.1 79 37) μ) := by
  refine con_of (by decide) rfl (Nat.le_of_ble_eq_true rfl) (ok_I rfl) ?_
  refine ev_w (fun hR => ?_)
  have hR0 := hR
  refine ev_aload_n dX8_fault_0 rfl ?_
  refine ev_getI (kz := 37) dX8_fault_1 fl_X8_95 rfl rfl rfl ?_
  refine ev_ireturn dX8_fault_4 ?_
  exact ⟨rfl, rfl⟩
theorem m_areTwo (μ σ : Mem) (P n nr nb nl mb w wt dv : Nat) (f t : Nat → Nat) (hM : MOk μ σ P n nr nb nl mb w wt dv f t) (p q : Int) (hp : inR p) (hq : inR q) : Con yX8_areTwo cX8_areTwo 3 (some .boolean) 2 46 [.ref 79, .int (iI p), .int (iI q)] μ (AnsI (b2 ((0 ≤ p ∧ p < (n : Int)) ∧ (0 ≤ q ∧ q < (n : Int)) ∧ p ≠ q)) μ) := by
  refine con_of (by decide) rfl (Nat.le_of_ble_eq_true rfl) (ok_Z rfl (b2_01 _)) ?_
  refine ev_w (fun hR => ?_)
  have hR0 := hR
  obtain ⟨hPO, hDy, hMP, hMD⟩ := id hM
  obtain ⟨hPR, ⟨hnb, hnb4⟩, ⟨hnl, hnl4⟩, hpo, hro, hbo, hlo⟩ := id hPO
  obtain ⟨hP, hn, hn8, hnr, hnr12, hft⟩ := id hPR
  obtain ⟨⟨cn, cr, cb, cl⟩, mp, mr, mbo, ml⟩ := id hMP
  obtain ⟨⟨dmi, dha, dri, dse⟩, dr, db, dl, dri2⟩ := id hMD
  obtain ⟨k1, k2, k3, k4, k5, k6, k7, k8, k9, k10, k11⟩ := id hDy
  have hww := hDy.w
  refine ev_aload_n dX8_areTwo_0 rfl ?_
  refine ev_iload_n dX8_areTwo_1 rfl ?_
  refine ev_callVI dX8_areTwo_2 kv_X8_312 (m_isPole μ p n (by assumption) cn (by omega)) rfl rfl (ci := 8) rfl rfl ⟨by decide, by decide⟩ (Nat.le_of_ble_eq_true rfl) ?_
  refine ev_w (fun hR => ?_)
  refine ev_if_eq (tgt := 25) dX8_areTwo_5 (by decide) (by first | exact hR.1 _ _ | exact hR0.1 _ _ | assumption | exact ⟨by omega, by omega⟩ | exact ⟨by simp [wr_at]; omega, by simp [wr_at]; omega⟩ | exact b2_R _ | exact bC_R _ | exact band_R _ _ | exact bor_R _ _ | exact bshl_R _ _ | exact bshr_R _ _ | exact bxor_R _ _ | exact bs_R (by omega) | decide) (fun h_5 => ?_) (fun h_5 => ?_)
  · refine ev_iconst dX8_areTwo_25 ?_
    refine ev_ireturn dX8_areTwo_26 ?_
    first
      | (rw [b2_f (fun z => b2_eq h_5 z.1)]; exact ⟨rfl, rfl⟩)
      | (rw [b2_f (fun z => b2_eq h_13 z.2.1)]; exact ⟨rfl, rfl⟩)
      | (rw [b2_f (fun z => z.2.2 h_18)]; exact ⟨rfl, rfl⟩)
      | (rw [b2_t ⟨b2_ne h_5, b2_ne h_13, h_18⟩]; exact ⟨rfl, rfl⟩)
  · refine ev_aload_n dX8_areTwo_8 rfl ?_
    refine ev_iload_n dX8_areTwo_9 rfl ?_
    refine ev_callVI dX8_areTwo_10 kv_X8_312 (m_isPole μ q n (by assumption) cn (by omega)) rfl rfl (ci := 8) rfl rfl ⟨by decide, by decide⟩ (Nat.le_of_ble_eq_true rfl) ?_
    refine ev_w (fun hR => ?_)
    refine ev_if_eq (tgt := 25) dX8_areTwo_13 (by decide) (by first | exact hR.1 _ _ | exact hR0.1 _ _ | assumption | exact ⟨by omega, by omega⟩ | exact ⟨by simp [wr_at]; omega, by simp [wr_at]; omega⟩ | exact b2_R _ | exact bC_R _ | exact band_R _ _ | exact bor_R _ _ | exact bshl_R _ _ | exact bshr_R _ _ | exact bxor_R _ _ | exact bs_R (by omega) | decide) (fun h_13 => ?_) (fun h_13 => ?_)
    · refine ev_iconst dX8_areTwo_25 ?_
      refine ev_ireturn dX8_areTwo_26 ?_
      first
        | (rw [b2_f (fun z => b2_eq h_5 z.1)]; exact ⟨rfl, rfl⟩)
        | (rw [b2_f (fun z => b2_eq h_13 z.2.1)]; exact ⟨rfl, rfl⟩)
        | (rw [b2_f (fun z => z.2.2 h_18)]; exact ⟨rfl, rfl⟩)
        | (rw [b2_t ⟨b2_ne h_5, b2_ne h_13, h_18⟩]; exact ⟨rfl, rfl⟩)
    · refine ev_iload_n dX8_areTwo_16 rfl ?_
      refine ev_iload_n dX8_areTwo_17 rfl ?_
      refine ev_icmp_eq (tgt := 25) dX8_areTwo_18 (by decide) (by first | exact hR.1 _ _ | exact hR0.1 _ _ | assumption | exact ⟨by omega, by omega⟩ | exact ⟨by simp [wr_at]; omega, by simp [wr_at]; omega⟩ | exact b2_R _ | exact bC_R _ | exact band_R _ _ | exact bor_R _ _ | exact bshl_R _ _ | exact bshr_R _ _ | exact bxor_R _ _ | exact bs_R (by omega) | decide) (by first | exact hR.1 _ _ | exact hR0.1 _ _ | assumption | exact ⟨by omega, by omega⟩ | exact ⟨by simp [wr_at]; omega, by simp [wr_at]; omega⟩ | exact b2_R _ | exact bC_R _ | exact band_R _ _ | exact bor_R _ _ | exact bshl_R _ _ | exact bshr_R _ _ | exact bxor_R _ _ | exact bs_R (by omega) | decide) (fun h_18 => ?_) (fun h_18 => ?_)
      · refine ev_iconst dX8_areTwo_25 ?_
        refine ev_ireturn dX8_areTwo_26 ?_
        first
          | (rw [b2_f (fun z => b2_eq h_5 z.1)]; exact ⟨rfl, rfl⟩)
          | (rw [b2_f (fun z => b2_eq h_13 z.2.1)]; exact ⟨rfl, rfl⟩)
          | (rw [b2_f (fun z => z.2.2 h_18)]; exact ⟨rfl, rfl⟩)
          | (rw [b2_t ⟨b2_ne h_5, b2_ne h_13, h_18⟩]; exact ⟨rfl, rfl⟩)
      · refine ev_iconst dX8_areTwo_21 ?_
        refine ev_goto (tgt := 26) dX8_areTwo_22 (by decide) ?_
        refine ev_ireturn dX8_areTwo_26 ?_
        first
          | (rw [b2_f (fun z => b2_eq h_5 z.1)]; exact ⟨rfl, rfl⟩)
          | (rw [b2_f (fun z => b2_eq h_13 z.2.1)]; exact ⟨rfl, rfl⟩)
          | (rw [b2_f (fun z => z.2.2 h_18)]; exact ⟨rfl, rfl⟩)
          | (rw [b2_t ⟨b2_ne h_5, b2_ne h_13, h_18⟩]; exact ⟨rfl, rfl⟩)
theorem MOk.apart {μ σ : Mem} {P n nr nb nl mb w wt dv : Nat} {f t : Nat → Nat} (hM : MOk μ σ P n nr nb nl mb w wt dv f t) {p q : Nat} (hp : p < n) (hq : q < n) : apartZ μ 80 81 p q = apartZ σ (P + 1) (P + 2) p q := by
  have h1 := hM.2.2.1.2.1 p hp
  have h2 := hM.2.2.1.2.1 q hq
  unfold apartZ
  rw [h1.1, h1.2.1, h2.1, h2.2.1]
theorem m_apart2 (μ σ : Mem) (P n nr nb nl mb w wt dv : Nat) (f t : Nat → Nat) (hM : MOk μ σ P n nr nb nl mb w wt dv f t) (p q : Nat) (hp : p < n) (hq : q < n) : Con yX8_apart cX8_apart 3 (some .int) 1 20 [.ref 79, .int (iI p), .int (iI q)] μ (AnsI (apartZ σ (P + 1) (P + 2) p q) μ) := by
  have h1 := hM.2.2.1.2.1 p hp
  have h2 := hM.2.2.1.2.1 q hq
  have h3 := hM.1.2.2.2.1 p hp
  have h4 := hM.1.2.2.2.1 q hq
  have h8 := hM.1.1.2.2.1
  have z := m_apart μ p q (by omega) (by omega) (by omega) (by omega) (by rw [h1.1, h2.1]; exact ⟨by omega, by omega⟩) (by rw [h1.2.1, h2.2.1]; exact ⟨by omega, by omega⟩)
  rw [hM.apart hp hq] at z
  exact z
theorem apart_R {σ : Mem} {P n nr nb nl : Nat} {f t : Nat → Nat} (h : PlanOk σ P n nr nb nl f t) {p q : Nat} (hp : p < n) (hq : q < n) : 0 ≤ apartZ σ (P + 1) (P + 2) p q ∧ apartZ σ (P + 1) (P + 2) p q ≤ 198 := by
  have h3 := h.2.2.2.1 p hp
  have h4 := h.2.2.2.1 q hq
  unfold apartZ absz
  constructor <;> split <;> split <;> omega
theorem m_oddsOf (μ σ : Mem) (P n nr nb nl mb w wt dv : Nat) (f t : Nat → Nat) (hM : MOk μ σ P n nr nb nl mb w wt dv f t) (p q : Nat) (hp : p < n) (hq : q < n) (wd : Int) (h0 : 0 ≤ wd) (h1 : wd ≤ 99) : Con yX8_oddsOf cX8_oddsOf 5 (some .int) 2 42 [.ref 79, .int (iI p), .int (iI q), .int (iI wd)] μ (AnsI (max 0 (100 - apartZ σ (P + 1) (P + 2) p q - wd)) μ) := by
  refine con_of (by decide) rfl (Nat.le_of_ble_eq_true rfl) (ok_I rfl) ?_
  refine ev_w (fun hR => ?_)
  have hR0 := hR
  have haR := apart_R hM.1 hp hq
  refine ev_bipush dX8_oddsOf_0 (by decide) ?_
  refine ev_aload_n dX8_oddsOf_2 rfl ?_
  refine ev_iload_n dX8_oddsOf_3 rfl ?_
  refine ev_iload_n dX8_oddsOf_4 rfl ?_
  refine ev_callVI dX8_oddsOf_5 kv_X8_436 (m_apart2 μ σ P n nr nb nl mb w wt dv f t hM p q hp hq) rfl rfl (ci := 8) rfl rfl ⟨by decide, by decide⟩ (Nat.le_of_ble_eq_true rfl) ?_
  refine ev_w (fun hR => ?_)
  refine ev_isub dX8_oddsOf_8 ?_
  refine ev_iload_n dX8_oddsOf_9 rfl ?_
  refine ev_isub dX8_oddsOf_10 ?_
  refine ev_istore dX8_oddsOf_11 rfl (by decide) rfl ?_
  refine ev_iload dX8_oddsOf_13 rfl ?_
  refine ev_if_ge (tgt := 22) dX8_oddsOf_15 (by decide) (by first | exact hR.1 _ _ | exact hR0.1 _ _ | assumption | exact ⟨by omega, by omega⟩ | exact ⟨by simp [wr_at]; omega, by simp [wr_at]; omega⟩ | exact b2_R _ | exact bC_R _ | exact band_R _ _ | exact bor_R _ _ | exact bshl_R _ _ | exact bshr_R _ _ | exact bxor_R _ _ | exact bs_R (by omega) | decide) (fun h_15 => ?_) (fun h_15 => ?_)
  · refine ev_iload dX8_oddsOf_22 rfl ?_
    refine ev_ireturn dX8_oddsOf_24 ?_
    first
      | (rw [show max 0 (100 - apartZ σ (P + 1) (P + 2) p q - wd) = 0 by omega]; exact ⟨rfl, rfl⟩)
      | (rw [show max 0 (100 - apartZ σ (P + 1) (P + 2) p q - wd) = 100 - apartZ σ (P + 1) (P + 2) p q - wd by omega]; exact ⟨rfl, rfl⟩)
  · refine ev_iconst dX8_oddsOf_18 ?_
    refine ev_goto (tgt := 24) dX8_oddsOf_19 (by decide) ?_
    refine ev_ireturn dX8_oddsOf_24 ?_
    first
      | (rw [show max 0 (100 - apartZ σ (P + 1) (P + 2) p q - wd) = 0 by omega]; exact ⟨rfl, rfl⟩)
      | (rw [show max 0 (100 - apartZ σ (P + 1) (P + 2) p q - wd) = 100 - apartZ σ (P + 1) (P + 2) p q - wd by omega]; exact ⟨rfl, rfl⟩)
theorem m_odds (μ σ : Mem) (P n nr nb nl mb w wt dv : Nat) (f t : Nat → Nat) (hM : MOk μ σ P n nr nb nl mb w wt dv f t) (p q wd : Int) (hp : inR p) (hq : inR q) (hwd : inR wd) : Con yX8_odds cX8_odds 4 (some .int) 3 68 [.ref 79, .int (iI p), .int (iI q), .int (iI wd)] μ (AnsI (oddsZ n (apartZ σ (P + 1) (P + 2)) p q wd) μ) := by
  refine con_of (by decide) rfl (Nat.le_of_ble_eq_true rfl) (ok_I rfl) ?_
  refine ev_w (fun hR => ?_)
  have hR0 := hR
  refine ev_aload_n dX8_odds_0 rfl ?_
  refine ev_iload_n dX8_odds_1 rfl ?_
  refine ev_iload_n dX8_odds_2 rfl ?_
  refine ev_callVI dX8_odds_3 kv_X8_447 (m_areTwo μ σ P n nr nb nl mb w wt dv f t hM p q hp hq) rfl rfl (ci := 8) rfl rfl ⟨by decide, by decide⟩ (Nat.le_of_ble_eq_true rfl) ?_
  refine ev_w (fun hR => ?_)
  refine ev_if_ne (tgt := 13) dX8_odds_6 (by decide) (by first | exact hR.1 _ _ | exact hR0.1 _ _ | assumption | exact ⟨by omega, by omega⟩ | exact ⟨by simp [wr_at]; omega, by simp [wr_at]; omega⟩ | exact b2_R _ | exact bC_R _ | exact band_R _ _ | exact bor_R _ _ | exact bshl_R _ _ | exact bshr_R _ _ | exact bxor_R _ _ | exact bs_R (by omega) | decide) (fun h_6 => ?_) (fun h_6 => ?_)
  · have q0 := b2_ne h_6
    obtain ⟨pk, rfl⟩ : ∃ k : Nat, p = k := ⟨p.toNat, by omega⟩
    obtain ⟨qk, rfl⟩ : ∃ k : Nat, q = k := ⟨q.toNat, by omega⟩
    refine ev_iload_n dX8_odds_13 rfl ?_
    refine ev_i2l dX8_odds_14 hwd ?_
    refine ev_lconst (z := 0) dX8_odds_15 (by decide) ?_
    refine ev_ldc2 (z := 99) dX8_odds_16 kl_X8_368 (by decide) ?_
    refine ev_callSI dX8_odds_19 ks_X8_180 (m_in μ wd 0 99 ⟨by omega, by omega⟩ (by decide) (by decide)) rfl rfl ⟨by decide, by decide⟩ (Nat.le_of_ble_eq_true rfl) ?_
    refine ev_w (fun hR => ?_)
    refine ev_if_eq (tgt := 35) dX8_odds_22 (by decide) (by first | exact hR.1 _ _ | exact hR0.1 _ _ | assumption | exact ⟨by omega, by omega⟩ | exact ⟨by simp [wr_at]; omega, by simp [wr_at]; omega⟩ | exact b2_R _ | exact bC_R _ | exact band_R _ _ | exact bor_R _ _ | exact bshl_R _ _ | exact bshr_R _ _ | exact bxor_R _ _ | exact bs_R (by omega) | decide) (fun h_22 => ?_) (fun h_22 => ?_)
    · refine ev_ldc (z := -1000000002) dX8_odds_35 kc_X8_204 (by decide) ?_
      refine ev_ireturn dX8_odds_37 ?_
      refine ⟨?_, rfl⟩
      rw [oddsZ, if_neg (fun z => z q0)]
      first
        | (rw [if_pos (b2_eq h_22)])
        | (rw [if_neg (fun z => z (b2_ne h_22))])
    · have q1 := b2_ne h_22
      refine ev_aload_n dX8_odds_25 rfl ?_
      refine ev_iload_n dX8_odds_26 rfl ?_
      refine ev_iload_n dX8_odds_27 rfl ?_
      refine ev_iload_n dX8_odds_28 rfl ?_
      refine ev_callVI dX8_odds_29 kv_X8_450 (m_oddsOf μ σ P n nr nb nl mb w wt dv f t hM pk qk (by omega) (by omega) wd (by omega) (by omega)) rfl rfl (ci := 8) rfl rfl ⟨by decide, by decide⟩ (Nat.le_of_ble_eq_true rfl) ?_
      refine ev_w (fun hR => ?_)
      refine ev_goto (tgt := 37) dX8_odds_32 (by decide) ?_
      refine ev_ireturn dX8_odds_37 ?_
      refine ⟨?_, rfl⟩
      rw [oddsZ, if_neg (fun z => z q0)]
      first
        | (rw [if_pos (b2_eq h_22)])
        | (rw [if_neg (fun z => z (b2_ne h_22))])
  · refine ev_ldcw (z := -1000000001) dX8_odds_9 kc_X8_316 (by decide) ?_
    refine ev_ireturn dX8_odds_12 ?_
    exact ⟨by rw [oddsZ, if_pos (b2_eq (by omega : b2 ((0 ≤ p ∧ p < (n : Int)) ∧ (0 ≤ q ∧ q < (n : Int)) ∧ p ≠ q) = 0))], rfl⟩
