theorem carS_take {σ : Mem} {nl : Nat} {l b : Nat} (hl : l < nl) (hnl : nl ≤ 4) (h : σ.1 43 l ≠ (b : Int)) : cnt (carS (wr (wr σ 42 (l : Int) (-1)) 43 (l : Int) (b : Int)) nl (b : Int)).testBit 12 = cnt (carS σ nl (b : Int)).testBit 12 + 1 := by
  have e : carS (wr (wr σ 42 (l : Int) (-1)) 43 (l : Int) (b : Int)) nl (b : Int) = carS σ nl (b : Int) ||| 2 ^ l := by
    apply Nat.eq_of_testBit_eq
    intro i
    rw [or_bit]
    unfold carS
    rw [bs_test, bs_test]
    by_cases e : l = i
    · subst e
      rw [wr_eq]
      simp [hl]
    · rw [wr_nek _ (by omega), wr_nec _ (by decide)]
      simp [e]
  rw [e, cnt_or (by omega)]
  unfold carS
  rw [bs_test]
  simp [h]
theorem car_r {ν τ : Mem} {nr nb nl : Nat} (h : MDy ν τ nr nb nl) (b : Int) : bs (fun l => decide (ν.1 103 l = b)) nl = carS τ nl b := by
  unfold carS
  refine bs_congr (fun l hl => ?_)
  rw [(h.2.2.2.1 l hl).2.1]
theorem m_take (μ σ : Mem) (P n nr nb nl mb w wt dv : Nat) (f t : Nat → Nat) (hM : MOk μ σ P n nr nb nl mb w wt dv f t) (b l : Int) (hb : inR b) (hl : inR l) : Con yX8_take cX8_take 3 (some .int) 2 46 [.ref 79, .int (iI b), .int (iI l)] μ (fun v ν => if ¬ ((0 ≤ b ∧ b < nb) ∧ (0 ≤ l ∧ l < nl)) then AnsI (-1000000001) μ v ν else if σ.1 40 b ≠ -1 ∨ σ.1 42 l ≠ σ.1 39 b ∨ 2 ≤ cnt (carS σ nl b).testBit 12 then AnsI (-1000000003) μ v ν else AnsIP ((cnt (carS σ nl b).testBit 12 : Nat) + 1) (fun ν => MSame μ ν ∧ MDy ν (wr (wr σ 42 l (-1)) 43 l b) nr nb nl ∧ DynOk (wr (wr σ 42 l (-1)) 43 l b) P n nr nb nl mb w wt dv) v ν) := by
  refine con_of (by decide) rfl (Nat.le_of_ble_eq_true rfl) ((fun v τ h => by repeat (first | exact ok_I rfl v τ h | exact ok_IP rfl v τ h | split at h))) ?_
  refine ev_w (fun hR => ?_)
  have hR0 := hR
  obtain ⟨hPO, hDy, hMP, hMD⟩ := id hM
  obtain ⟨hPR, ⟨hnb, hnb4⟩, ⟨hnl, hnl4⟩, hpo, hro, hbo, hlo⟩ := id hPO
  obtain ⟨hP, hn, hn8, hnr, hnr12, hft⟩ := id hPR
  obtain ⟨⟨cn, cr, cb, cl⟩, mp, mr, mbo, ml⟩ := id hMP
  obtain ⟨⟨dmi, dha, dri, dse⟩, dr, db, dl, dri2⟩ := id hMD
  obtain ⟨k1, k2, k3, k4, k5, k6, k7, k8, k9, k10, k11⟩ := id hDy
  have hww := hDy.w
  refine ev_aload_n dX8_take_0 rfl ?_
  refine ev_iload_n dX8_take_1 rfl ?_
  refine ev_callVI dX8_take_2 kv_X8_330 (m_isBoy μ b nb (by assumption) cb (by omega)) rfl rfl (ci := 8) rfl rfl ⟨by decide, by decide⟩ (Nat.le_of_ble_eq_true rfl) ?_
  refine ev_w (fun hR => ?_)
  refine ev_if_eq (tgt := 16) dX8_take_5 (by decide) (by first | exact hR.1 _ _ | exact hR0.1 _ _ | assumption | exact ⟨by omega, by omega⟩ | exact ⟨by simp [wr_at]; omega, by simp [wr_at]; omega⟩ | exact b2_R _ | exact bC_R _ | exact band_R _ _ | exact bor_R _ _ | exact bshl_R _ _ | exact bshr_R _ _ | exact bxor_R _ _ | exact bs_R (by omega) | decide) (fun h_5 => ?_) (fun h_5 => ?_)
  · refine ev_ldcw (z := -1000000001) dX8_take_16 kc_X8_316 (by decide) ?_
    refine ev_ireturn dX8_take_19 ?_
    first
      | (have z := b2_eq h_5; rw [if_pos (fun y => z y.1)]; exact ⟨rfl, rfl⟩)
      | (have z := b2_eq h_13; rw [if_pos (fun y => z y.2)]; exact ⟨rfl, rfl⟩)
      | (have z := b2_eq (Decidable.not_not.mp h_13); rw [if_pos (fun y => z y.2)]; exact ⟨rfl, rfl⟩)
  · refine ev_aload_n dX8_take_8 rfl ?_
    refine ev_iload_n dX8_take_9 rfl ?_
    refine ev_callVI dX8_take_10 kv_X8_336 (m_isLoad μ l nl (by assumption) cl (by omega)) rfl rfl (ci := 8) rfl rfl ⟨by decide, by decide⟩ (Nat.le_of_ble_eq_true rfl) ?_
    refine ev_w (fun hR => ?_)
    refine ev_if_ne (tgt := 20) dX8_take_13 (by decide) (by first | exact hR.1 _ _ | exact hR0.1 _ _ | assumption | exact ⟨by omega, by omega⟩ | exact ⟨by simp [wr_at]; omega, by simp [wr_at]; omega⟩ | exact b2_R _ | exact bC_R _ | exact band_R _ _ | exact bor_R _ _ | exact bshl_R _ _ | exact bshr_R _ _ | exact bxor_R _ _ | exact bs_R (by omega) | decide) (fun h_13 => ?_) (fun h_13 => ?_)
    · have q0 := b2_ne h_5
      have q1 := b2_ne h_13
      obtain ⟨b, rfl⟩ := Int.eq_ofNat_of_zero_le q0.1
      obtain ⟨l, rfl⟩ := Int.eq_ofNat_of_zero_le q1.1
      have hbn : b < nb := by omega
      have hln : l < nl := by omega
      have hif : ¬ ¬ ((0 ≤ (b : Int) ∧ (b : Int) < nb) ∧ (0 ≤ (l : Int) ∧ (l : Int) < nl)) := fun y => y ⟨q0, q1⟩
      have hcs := carS_lt σ hnl4 (b : Int)
      have hbb := k9 b hbn
      have hdb := db b hbn
      have hdl := dl l hln
      have hLo := k11 l hln
      have hapz : μ.1 98 (b : Int) = if σ.1 40 (b : Int) = -1 then σ.1 39 (b : Int) else -1 := by
        by_cases e : σ.1 40 (b : Int) = -1
        · rw [if_pos e, hdb.2.2.1 e]
        · rw [if_neg e, (hdb.2.2.2 e).1]
      refine ev_aload_n dX8_take_20 rfl ?_
      refine ev_getR (r := 98) dX8_take_21 fl_X8_65 rfl rfl rfl ?_
      refine ev_iload_n dX8_take_24 rfl ?_
      refine ev_iaload dX8_take_25 rfl (by first | omega | (simp [wr_at]; omega) | (simp [wr_at, *]; omega)) (by first | omega | (simp [wr_at]; omega) | (simp [wr_at, *]; omega)) (by decide) ?_
      refine ev_if_lt (tgt := 56) dX8_take_26 (by decide) (by first | exact hR.1 _ _ | exact hR0.1 _ _ | assumption | exact ⟨by omega, by omega⟩ | exact ⟨by simp [wr_at]; omega, by simp [wr_at]; omega⟩ | exact b2_R _ | exact bC_R _ | exact band_R _ _ | exact bor_R _ _ | exact bshl_R _ _ | exact bshr_R _ _ | exact bxor_R _ _ | exact bs_R (by omega) | decide) (fun h_26 => ?_) (fun h_26 => ?_)
      · refine ev_ldcw (z := -1000000003) dX8_take_56 kc_X8_356 (by decide) ?_
        refine ev_ireturn dX8_take_59 ?_
        rw [if_neg hif, if_pos ?_]
        · exact ⟨rfl, rfl⟩
        · by_cases e : σ.1 40 (b : Int) = -1
          · rw [if_pos e] at hapz
            first
              | (exfalso; omega)
              | (exact Or.inr (Or.inl (fun y => h_41 (by rw [hdl.1, hapz]; exact y))))
              | (exact Or.inr (Or.inr (by omega)))
          · exact Or.inl e
      · refine ev_aload_n dX8_take_29 rfl ?_
        refine ev_getR (r := 102) dX8_take_30 fl_X8_77 rfl rfl rfl ?_
        refine ev_iload_n dX8_take_33 rfl ?_
        refine ev_iaload dX8_take_34 rfl (by first | omega | (simp [wr_at]; omega) | (simp [wr_at, *]; omega)) (by first | omega | (simp [wr_at]; omega) | (simp [wr_at, *]; omega)) (by decide) ?_
        refine ev_aload_n dX8_take_35 rfl ?_
        refine ev_getR (r := 98) dX8_take_36 fl_X8_65 rfl rfl rfl ?_
        refine ev_iload_n dX8_take_39 rfl ?_
        refine ev_iaload dX8_take_40 rfl (by first | omega | (simp [wr_at]; omega) | (simp [wr_at, *]; omega)) (by first | omega | (simp [wr_at]; omega) | (simp [wr_at, *]; omega)) (by decide) ?_
        refine ev_icmp_ne (tgt := 56) dX8_take_41 (by decide) (by first | exact hR.1 _ _ | exact hR0.1 _ _ | assumption | exact ⟨by omega, by omega⟩ | exact ⟨by simp [wr_at]; omega, by simp [wr_at]; omega⟩ | exact b2_R _ | exact bC_R _ | exact band_R _ _ | exact bor_R _ _ | exact bshl_R _ _ | exact bshr_R _ _ | exact bxor_R _ _ | exact bs_R (by omega) | decide) (by first | exact hR.1 _ _ | exact hR0.1 _ _ | assumption | exact ⟨by omega, by omega⟩ | exact ⟨by simp [wr_at]; omega, by simp [wr_at]; omega⟩ | exact b2_R _ | exact bC_R _ | exact band_R _ _ | exact bor_R _ _ | exact bshl_R _ _ | exact bshr_R _ _ | exact bxor_R _ _ | exact bs_R (by omega) | decide) (fun h_41 => ?_) (fun h_41 => ?_)
        · refine ev_ldcw (z := -1000000003) dX8_take_56 kc_X8_356 (by decide) ?_
          refine ev_ireturn dX8_take_59 ?_
          rw [if_neg hif, if_pos ?_]
          · exact ⟨rfl, rfl⟩
          · by_cases e : σ.1 40 (b : Int) = -1
            · rw [if_pos e] at hapz
              first
                | (exfalso; omega)
                | (exact Or.inr (Or.inl (fun y => h_41 (by rw [hdl.1, hapz]; exact y))))
                | (exact Or.inr (Or.inr (by omega)))
            · exact Or.inl e
        · refine ev_aload_n dX8_take_44 rfl ?_
          refine ev_iload_n dX8_take_45 rfl ?_
          refine ev_callVI dX8_take_46 kv_X8_333 (m_carriedBy μ nl cl hnl4 b hb) rfl rfl (ci := 8) rfl rfl ⟨by decide, by decide⟩ (Nat.le_of_ble_eq_true rfl) ?_
          refine ev_w (fun hR => ?_)
          rw [hM.car (b : Int)]
          refine ev_callSI dX8_take_49 ks_X8_361 (m_bits μ (carS σ nl (b : Int)) (by omega)) rfl rfl ⟨by decide, by decide⟩ (Nat.le_of_ble_eq_true rfl) ?_
          refine ev_w (fun hR => ?_)
          refine ev_iconst dX8_take_52 ?_
          refine ev_icmp_le (tgt := 60) dX8_take_53 (by decide) (by have := cnt_le (carS σ nl (b : Int)).testBit 12; exact ⟨by omega, by omega⟩) (by have := cnt_le (carS σ nl (b : Int)).testBit 12; exact ⟨by omega, by omega⟩) (fun h_53 => ?_) (fun h_53 => ?_)
          · have e40 : σ.1 40 (b : Int) = -1 := by
              by_cases e : σ.1 40 (b : Int) = -1
              · exact e
              · rw [if_neg e] at hapz; omega
            rw [if_pos e40] at hapz
            have e42 : σ.1 42 (l : Int) = σ.1 39 (b : Int) := by rw [← hdl.1, ← hapz]; exact h_41
            have h43 : σ.1 43 (l : Int) = -1 := by
              rcases hLo with y | y | y
              · omega
              · exact y.2.1
              · omega
            have hDt := MDy.load hM.2.2.2 l (-1) (b : Int)
            have hct := carS_take (σ := σ) (b := b) hln hnl4 (by omega)
            have hcs2 := carS_lt (wr (wr σ 42 (l : Int) (-1)) 43 (l : Int) (b : Int)) hnl4 (b : Int)
            have hOk := load_ok (l := l) (p := -1) (b := (b : Int)) hPO hDy (by
              unfold LoadOk
              refine Or.inr (Or.inr ?_)
              repeat rw [wr_at]
              repeat' (first | rw [if_pos (by omega)] | rw [if_neg (by omega)])
              refine ⟨?_, rfl, by omega, by omega, ?_⟩
              · rcases hLo with y | y | y
                · omega
                · exact y.1
                · exact y.1
              · intro _
                repeat rw [wr_at]
                repeat' (first | rw [if_pos (by omega)] | rw [if_neg (by omega)])
                rcases hLo with y | y | y
                · omega
                · have := y.2.2.2.2
                  omega
                · omega)
            refine ev_aload_n dX8_take_60 rfl ?_
            refine ev_getR (r := 102) dX8_take_61 fl_X8_77 rfl rfl rfl ?_
            refine ev_iload_n dX8_take_64 rfl ?_
            refine ev_iconst dX8_take_65 ?_
            refine ev_iastore dX8_take_66 rfl (by first | omega | (simp [wr_at]; omega) | (simp [wr_at, *]; omega)) (by first | omega | (simp [wr_at]; omega) | (simp [wr_at, *]; omega)) (by decide) (by first | exact hR.1 _ _ | exact hR0.1 _ _ | assumption | exact ⟨by omega, by omega⟩ | exact ⟨by simp [wr_at]; omega, by simp [wr_at]; omega⟩ | exact b2_R _ | exact bC_R _ | exact band_R _ _ | exact bor_R _ _ | exact bshl_R _ _ | exact bshr_R _ _ | exact bxor_R _ _ | exact bs_R (by omega) | decide) ?_
            refine ev_w (fun hR => ?_)
            refine ev_aload_n dX8_take_67 rfl ?_
            refine ev_getR (r := 103) dX8_take_68 fl_X8_80 rfl rfl rfl ?_
            refine ev_iload_n dX8_take_71 rfl ?_
            refine ev_iload_n dX8_take_72 rfl ?_
            refine ev_iastore dX8_take_73 rfl (by first | omega | (simp [wr_at]; omega) | (simp [wr_at, *]; omega)) (by first | omega | (simp [wr_at]; omega) | (simp [wr_at, *]; omega)) (by decide) (by first | exact hR.1 _ _ | exact hR0.1 _ _ | assumption | exact ⟨by omega, by omega⟩ | exact ⟨by simp [wr_at]; omega, by simp [wr_at]; omega⟩ | exact b2_R _ | exact bC_R _ | exact band_R _ _ | exact bor_R _ _ | exact bshl_R _ _ | exact bshr_R _ _ | exact bxor_R _ _ | exact bs_R (by omega) | decide) ?_
            refine ev_w (fun hR => ?_)
            refine ev_aload_n dX8_take_74 rfl ?_
            refine ev_iload_n dX8_take_75 rfl ?_
            refine ev_callVI dX8_take_76 kv_X8_333 (m_carriedBy _ nl (by rw [wr_nec _ (by decide), wr_nec _ (by decide)]; exact cl) hnl4 b hb) rfl rfl (ci := 8) rfl rfl ⟨by decide, by decide⟩ (Nat.le_of_ble_eq_true rfl) ?_
            refine ev_w (fun hR => ?_)
            rw [car_r hDt (b : Int)]
            refine ev_callSI dX8_take_79 ks_X8_361 (m_bits _ (carS (wr (wr σ 42 (l : Int) (-1)) 43 (l : Int) (b : Int)) nl (b : Int)) (by omega)) rfl rfl ⟨by decide, by decide⟩ (Nat.le_of_ble_eq_true rfl) ?_
            refine ev_w (fun hR => ?_)
            refine ev_ireturn dX8_take_82 ?_
            rw [if_neg hif, if_neg (fun y => by
              rcases y with y | y | y
              · exact y e40
              · exact y e42
              · omega)]
            refine ⟨?_, (MSame.rf.wrc _ _ (by decide) (by decide)).wrc _ _ (by decide) (by decide), hDt, hOk⟩
            rw [hct]
            rfl
          · refine ev_ldcw (z := -1000000003) dX8_take_56 kc_X8_356 (by decide) ?_
            refine ev_ireturn dX8_take_59 ?_
            rw [if_neg hif, if_pos ?_]
            · exact ⟨rfl, rfl⟩
            · by_cases e : σ.1 40 (b : Int) = -1
              · rw [if_pos e] at hapz
                first
                  | (exfalso; omega)
                  | (exact Or.inr (Or.inl (fun y => h_41 (by rw [hdl.1, hapz]; exact y))))
                  | (exact Or.inr (Or.inr (by omega)))
              · exact Or.inl e
    · refine ev_ldcw (z := -1000000001) dX8_take_16 kc_X8_316 (by decide) ?_
      refine ev_ireturn dX8_take_19 ?_
      first
        | (have z := b2_eq h_5; rw [if_pos (fun y => z y.1)]; exact ⟨rfl, rfl⟩)
        | (have z := b2_eq h_13; rw [if_pos (fun y => z y.2)]; exact ⟨rfl, rfl⟩)
        | (have z := b2_eq (Decidable.not_not.mp h_13); rw [if_pos (fun y => z y.2)]; exact ⟨rfl, rfl⟩)
theorem m_lay (μ σ : Mem) (P n nr nb nl mb w wt dv : Nat) (f t : Nat → Nat) (hM : MOk μ σ P n nr nb nl mb w wt dv f t) (b l : Int) (hb : inR b) (hl : inR l) : Con yX8_lay cX8_lay 3 (some .int) 2 46 [.ref 79, .int (iI b), .int (iI l)] μ (fun v ν => if ¬ ((0 ≤ b ∧ b < nb) ∧ (0 ≤ l ∧ l < nl)) then AnsI (-1000000001) μ v ν else if σ.1 40 b ≠ -1 ∨ σ.1 43 l ≠ b then AnsI (-1000000003) μ v ν else AnsIP (cnt (carS (wr (wr σ 42 l (σ.1 39 b)) 43 l (-1)) nl b).testBit 12 : Nat) (fun ν => MSame μ ν ∧ MDy ν (wr (wr σ 42 l (σ.1 39 b)) 43 l (-1)) nr nb nl ∧ DynOk (wr (wr σ 42 l (σ.1 39 b)) 43 l (-1)) P n nr nb nl mb w wt dv) v ν) := by
  refine con_of (by decide) rfl (Nat.le_of_ble_eq_true rfl) ((fun v τ h => by repeat (first | exact ok_I rfl v τ h | exact ok_IP rfl v τ h | split at h))) ?_
  refine ev_w (fun hR => ?_)
  have hR0 := hR
  obtain ⟨hPO, hDy, hMP, hMD⟩ := id hM
  obtain ⟨hPR, ⟨hnb, hnb4⟩, ⟨hnl, hnl4⟩, hpo, hro, hbo, hlo⟩ := id hPO
  obtain ⟨hP, hn, hn8, hnr, hnr12, hft⟩ := id hPR
  obtain ⟨⟨cn, cr, cb, cl⟩, mp, mr, mbo, ml⟩ := id hMP
  obtain ⟨⟨dmi, dha, dri, dse⟩, dr, db, dl, dri2⟩ := id hMD
  obtain ⟨k1, k2, k3, k4, k5, k6, k7, k8, k9, k10, k11⟩ := id hDy
  have hww := hDy.w
  refine ev_aload_n dX8_lay_0 rfl ?_
  refine ev_iload_n dX8_lay_1 rfl ?_
  refine ev_callVI dX8_lay_2 kv_X8_330 (m_isBoy μ b nb (by assumption) cb (by omega)) rfl rfl (ci := 8) rfl rfl ⟨by decide, by decide⟩ (Nat.le_of_ble_eq_true rfl) ?_
  refine ev_w (fun hR => ?_)
  refine ev_if_eq (tgt := 16) dX8_lay_5 (by decide) (by first | exact hR.1 _ _ | exact hR0.1 _ _ | assumption | exact ⟨by omega, by omega⟩ | exact ⟨by simp [wr_at]; omega, by simp [wr_at]; omega⟩ | exact b2_R _ | exact bC_R _ | exact band_R _ _ | exact bor_R _ _ | exact bshl_R _ _ | exact bshr_R _ _ | exact bxor_R _ _ | exact bs_R (by omega) | decide) (fun h_5 => ?_) (fun h_5 => ?_)
  · refine ev_ldcw (z := -1000000001) dX8_lay_16 kc_X8_316 (by decide) ?_
    refine ev_ireturn dX8_lay_19 ?_
    first
      | (have z := b2_eq h_5; rw [if_pos (fun y => z y.1)]; exact ⟨rfl, rfl⟩)
      | (have z := b2_eq h_13; rw [if_pos (fun y => z y.2)]; exact ⟨rfl, rfl⟩)
      | (have z := b2_eq (Decidable.not_not.mp h_13); rw [if_pos (fun y => z y.2)]; exact ⟨rfl, rfl⟩)
  · refine ev_aload_n dX8_lay_8 rfl ?_
    refine ev_iload_n dX8_lay_9 rfl ?_
    refine ev_callVI dX8_lay_10 kv_X8_336 (m_isLoad μ l nl (by assumption) cl (by omega)) rfl rfl (ci := 8) rfl rfl ⟨by decide, by decide⟩ (Nat.le_of_ble_eq_true rfl) ?_
    refine ev_w (fun hR => ?_)
    refine ev_if_ne (tgt := 20) dX8_lay_13 (by decide) (by first | exact hR.1 _ _ | exact hR0.1 _ _ | assumption | exact ⟨by omega, by omega⟩ | exact ⟨by simp [wr_at]; omega, by simp [wr_at]; omega⟩ | exact b2_R _ | exact bC_R _ | exact band_R _ _ | exact bor_R _ _ | exact bshl_R _ _ | exact bshr_R _ _ | exact bxor_R _ _ | exact bs_R (by omega) | decide) (fun h_13 => ?_) (fun h_13 => ?_)
    · have q0 := b2_ne h_5
      have q1 := b2_ne h_13
      obtain ⟨b, rfl⟩ := Int.eq_ofNat_of_zero_le q0.1
      obtain ⟨l, rfl⟩ := Int.eq_ofNat_of_zero_le q1.1
      have hbn : b < nb := by omega
      have hln : l < nl := by omega
      have hif : ¬ ¬ ((0 ≤ (b : Int) ∧ (b : Int) < nb) ∧ (0 ≤ (l : Int) ∧ (l : Int) < nl)) := fun y => y ⟨q0, q1⟩
      have hcs := carS_lt σ hnl4 (b : Int)
      have hbb := k9 b hbn
      have hdb := db b hbn
      have hdl := dl l hln
      have hLo := k11 l hln
      have hapz : μ.1 98 (b : Int) = if σ.1 40 (b : Int) = -1 then σ.1 39 (b : Int) else -1 := by
        by_cases e : σ.1 40 (b : Int) = -1
        · rw [if_pos e, hdb.2.2.1 e]
        · rw [if_neg e, (hdb.2.2.2 e).1]
      refine ev_aload_n dX8_lay_20 rfl ?_
      refine ev_getR (r := 98) dX8_lay_21 fl_X8_65 rfl rfl rfl ?_
      refine ev_iload_n dX8_lay_24 rfl ?_
      refine ev_iaload dX8_lay_25 rfl (by first | omega | (simp [wr_at]; omega) | (simp [wr_at, *]; omega)) (by first | omega | (simp [wr_at]; omega) | (simp [wr_at, *]; omega)) (by decide) ?_
      refine ev_if_lt (tgt := 39) dX8_lay_26 (by decide) (by first | exact hR.1 _ _ | exact hR0.1 _ _ | assumption | exact ⟨by omega, by omega⟩ | exact ⟨by simp [wr_at]; omega, by simp [wr_at]; omega⟩ | exact b2_R _ | exact bC_R _ | exact band_R _ _ | exact bor_R _ _ | exact bshl_R _ _ | exact bshr_R _ _ | exact bxor_R _ _ | exact bs_R (by omega) | decide) (fun h_26 => ?_) (fun h_26 => ?_)
      · refine ev_ldcw (z := -1000000003) dX8_lay_39 kc_X8_356 (by decide) ?_
        refine ev_ireturn dX8_lay_42 ?_
        rw [if_neg hif, if_pos ?_]
        · exact ⟨rfl, rfl⟩
        · by_cases e : σ.1 40 (b : Int) = -1
          · rw [if_pos e] at hapz
            first
              | (exfalso; omega)
              | (exact Or.inr (fun y => h_36 (by rw [hdl.2.1]; exact y)))
          · exact Or.inl e
      · refine ev_aload_n dX8_lay_29 rfl ?_
        refine ev_getR (r := 103) dX8_lay_30 fl_X8_80 rfl rfl rfl ?_
        refine ev_iload_n dX8_lay_33 rfl ?_
        refine ev_iaload dX8_lay_34 rfl (by first | omega | (simp [wr_at]; omega) | (simp [wr_at, *]; omega)) (by first | omega | (simp [wr_at]; omega) | (simp [wr_at, *]; omega)) (by decide) ?_
        refine ev_iload_n dX8_lay_35 rfl ?_
        refine ev_icmp_eq (tgt := 43) dX8_lay_36 (by decide) (by first | exact hR.1 _ _ | exact hR0.1 _ _ | assumption | exact ⟨by omega, by omega⟩ | exact ⟨by simp [wr_at]; omega, by simp [wr_at]; omega⟩ | exact b2_R _ | exact bC_R _ | exact band_R _ _ | exact bor_R _ _ | exact bshl_R _ _ | exact bshr_R _ _ | exact bxor_R _ _ | exact bs_R (by omega) | decide) (by first | exact hR.1 _ _ | exact hR0.1 _ _ | assumption | exact ⟨by omega, by omega⟩ | exact ⟨by simp [wr_at]; omega, by simp [wr_at]; omega⟩ | exact b2_R _ | exact bC_R _ | exact band_R _ _ | exact bor_R _ _ | exact bshl_R _ _ | exact bshr_R _ _ | exact bxor_R _ _ | exact bs_R (by omega) | decide) (fun h_36 => ?_) (fun h_36 => ?_)
        · have e40 : σ.1 40 (b : Int) = -1 := by
            by_cases e : σ.1 40 (b : Int) = -1
            · exact e
            · rw [if_neg e] at hapz; omega
          rw [if_pos e40] at hapz
          have h43 : σ.1 43 (l : Int) = b := by rw [← hdl.2.1]; exact h_36
          have hDt := MDy.load hM.2.2.2 l (σ.1 39 (b : Int)) (-1)
          have hcs2 := carS_lt (wr (wr σ 42 (l : Int) (σ.1 39 (b : Int))) 43 (l : Int) (-1)) hnl4 (b : Int)
          have hOk := load_ok (l := l) (p := σ.1 39 (b : Int)) (b := -1) hPO hDy (by
            unfold LoadOk
            refine Or.inr (Or.inl ?_)
            repeat rw [wr_at]
            repeat' (first | rw [if_pos (by omega)] | rw [if_neg (by omega)])
            rcases hLo with y | y | y
            · omega
            · omega
            · have y9 := y.2.2.2.2
              rw [h43] at y9
              exact ⟨y.1, rfl, by omega, by omega, y9 e40⟩)
          refine ev_aload_n dX8_lay_43 rfl ?_
          refine ev_getR (r := 102) dX8_lay_44 fl_X8_77 rfl rfl rfl ?_
          refine ev_iload_n dX8_lay_47 rfl ?_
          refine ev_aload_n dX8_lay_48 rfl ?_
          refine ev_getR (r := 98) dX8_lay_49 fl_X8_65 rfl rfl rfl ?_
          refine ev_iload_n dX8_lay_52 rfl ?_
          refine ev_iaload dX8_lay_53 rfl (by first | omega | (simp [wr_at]; omega) | (simp [wr_at, *]; omega)) (by first | omega | (simp [wr_at]; omega) | (simp [wr_at, *]; omega)) (by decide) ?_
          rw [hapz]
          refine ev_iastore dX8_lay_54 rfl (by first | omega | (simp [wr_at]; omega) | (simp [wr_at, *]; omega)) (by first | omega | (simp [wr_at]; omega) | (simp [wr_at, *]; omega)) (by decide) (by first | exact hR.1 _ _ | exact hR0.1 _ _ | assumption | exact ⟨by omega, by omega⟩ | exact ⟨by simp [wr_at]; omega, by simp [wr_at]; omega⟩ | exact b2_R _ | exact bC_R _ | exact band_R _ _ | exact bor_R _ _ | exact bshl_R _ _ | exact bshr_R _ _ | exact bxor_R _ _ | exact bs_R (by omega) | decide) ?_
          refine ev_w (fun hR => ?_)
          refine ev_aload_n dX8_lay_55 rfl ?_
          refine ev_getR (r := 103) dX8_lay_56 fl_X8_80 rfl rfl rfl ?_
          refine ev_iload_n dX8_lay_59 rfl ?_
          refine ev_iconst dX8_lay_60 ?_
          refine ev_iastore dX8_lay_61 rfl (by first | omega | (simp [wr_at]; omega) | (simp [wr_at, *]; omega)) (by first | omega | (simp [wr_at]; omega) | (simp [wr_at, *]; omega)) (by decide) (by first | exact hR.1 _ _ | exact hR0.1 _ _ | assumption | exact ⟨by omega, by omega⟩ | exact ⟨by simp [wr_at]; omega, by simp [wr_at]; omega⟩ | exact b2_R _ | exact bC_R _ | exact band_R _ _ | exact bor_R _ _ | exact bshl_R _ _ | exact bshr_R _ _ | exact bxor_R _ _ | exact bs_R (by omega) | decide) ?_
          refine ev_w (fun hR => ?_)
          refine ev_aload_n dX8_lay_62 rfl ?_
          refine ev_iload_n dX8_lay_63 rfl ?_
          refine ev_callVI dX8_lay_64 kv_X8_333 (m_carriedBy _ nl (by rw [wr_nec _ (by decide), wr_nec _ (by decide)]; exact cl) hnl4 b hb) rfl rfl (ci := 8) rfl rfl ⟨by decide, by decide⟩ (Nat.le_of_ble_eq_true rfl) ?_
          refine ev_w (fun hR => ?_)
          rw [car_r hDt (b : Int)]
          refine ev_callSI dX8_lay_67 ks_X8_361 (m_bits _ (carS (wr (wr σ 42 (l : Int) (σ.1 39 (b : Int))) 43 (l : Int) (-1)) nl (b : Int)) (by omega)) rfl rfl ⟨by decide, by decide⟩ (Nat.le_of_ble_eq_true rfl) ?_
          refine ev_w (fun hR => ?_)
          refine ev_ireturn dX8_lay_70 ?_
          rw [if_neg hif, if_neg (fun y => by
            rcases y with y | y
            · exact y e40
            · exact y h43)]
          exact ⟨rfl, (MSame.rf.wrc _ _ (by decide) (by decide)).wrc _ _ (by decide) (by decide), hDt, hOk⟩
        · refine ev_ldcw (z := -1000000003) dX8_lay_39 kc_X8_356 (by decide) ?_
          refine ev_ireturn dX8_lay_42 ?_
          rw [if_neg hif, if_pos ?_]
          · exact ⟨rfl, rfl⟩
          · by_cases e : σ.1 40 (b : Int) = -1
            · rw [if_pos e] at hapz
              first
                | (exfalso; omega)
                | (exact Or.inr (fun y => h_36 (by rw [hdl.2.1]; exact y)))
            · exact Or.inl e
    · refine ev_ldcw (z := -1000000001) dX8_lay_16 kc_X8_316 (by decide) ?_
      refine ev_ireturn dX8_lay_19 ?_
      first
        | (have z := b2_eq h_5; rw [if_pos (fun y => z y.1)]; exact ⟨rfl, rfl⟩)
        | (have z := b2_eq h_13; rw [if_pos (fun y => z y.2)]; exact ⟨rfl, rfl⟩)
        | (have z := b2_eq (Decidable.not_not.mp h_13); rw [if_pos (fun y => z y.2)]; exact ⟨rfl, rfl⟩)
theorem m_cut (μ σ : Mem) (P n nr nb nl mb w wt dv : Nat) (f t : Nat → Nat) (hM : MOk μ σ P n nr nb nl mb w wt dv f t) (r : Int) (hr : inR r) : Con yX8_cut cX8_cut 2 (some .int) 2 46 [.ref 79, .int (iI r)] μ (fun v ν => if ¬ (0 ≤ r ∧ r < nr) then AnsI (-1000000001) μ v ν else if ¬ w.testBit r.toNat = true ∨ fstI (fun i => σ.1 40 i) r nb ≠ -1 then AnsI (-1000000003) μ v ν else AnsIP 1 (fun ν => MSame μ ν ∧ MDy ν (wr σ 37 3 (andn w (2 ^ r.toNat) : Nat)) nr nb nl ∧ DynOk (wr σ 37 3 (andn w (2 ^ r.toNat) : Nat)) P n nr nb nl mb (andn w (2 ^ r.toNat)) wt dv) v ν) := by
  refine con_of (by decide) rfl (Nat.le_of_ble_eq_true rfl) ((fun v τ h => by repeat (first | exact ok_I rfl v τ h | exact ok_IP rfl v τ h | split at h))) ?_
  refine ev_w (fun hR => ?_)
  have hR0 := hR
  obtain ⟨hPO, hDy, hMP, hMD⟩ := id hM
  obtain ⟨hPR, ⟨hnb, hnb4⟩, ⟨hnl, hnl4⟩, hpo, hro, hbo, hlo⟩ := id hPO
  obtain ⟨hP, hn, hn8, hnr, hnr12, hft⟩ := id hPR
  obtain ⟨⟨cn, cr, cb, cl⟩, mp, mr, mbo, ml⟩ := id hMP
  obtain ⟨⟨dmi, dha, dri, dse⟩, dr, db, dl, dri2⟩ := id hMD
  obtain ⟨k1, k2, k3, k4, k5, k6, k7, k8, k9, k10, k11⟩ := id hDy
  have hww := hDy.w
  refine ev_aload_n dX8_cut_0 rfl ?_
  refine ev_iload_n dX8_cut_1 rfl ?_
  refine ev_callVI dX8_cut_2 kv_X8_324 (m_isRope μ r nr (by assumption) cr (by omega)) rfl rfl (ci := 8) rfl rfl ⟨by decide, by decide⟩ (Nat.le_of_ble_eq_true rfl) ?_
  refine ev_w (fun hR => ?_)
  refine ev_if_ne (tgt := 12) dX8_cut_5 (by decide) (by first | exact hR.1 _ _ | exact hR0.1 _ _ | assumption | exact ⟨by omega, by omega⟩ | exact ⟨by simp [wr_at]; omega, by simp [wr_at]; omega⟩ | exact b2_R _ | exact bC_R _ | exact band_R _ _ | exact bor_R _ _ | exact bshl_R _ _ | exact bshr_R _ _ | exact bxor_R _ _ | exact bs_R (by omega) | decide) (fun h_5 => ?_) (fun h_5 => ?_)
  · have q0 := b2_ne h_5
    obtain ⟨r, rfl⟩ := Int.eq_ofNat_of_zero_le q0.1
    have hrn : r < nr := by omega
    have hif : ¬ ¬ (0 ≤ (r : Int) ∧ (r : Int) < nr) := fun y => y q0
    refine ev_aload_n dX8_cut_12 rfl ?_
    refine ev_getR (r := 97) dX8_cut_13 fl_X8_62 rfl rfl rfl ?_
    refine ev_iload_n dX8_cut_16 rfl ?_
    refine ev_zaload dX8_cut_17 rfl (by first | omega | (simp [wr_at]; omega) | (simp [wr_at, *]; omega)) (by first | omega | (simp [wr_at]; omega) | (simp [wr_at, *]; omega)) (by decide) ?_
    rw [hM.cut hrn]
    refine ev_if_ne (tgt := 29) dX8_cut_18 (by decide) (by first | exact hR.1 _ _ | exact hR0.1 _ _ | assumption | exact ⟨by omega, by omega⟩ | exact ⟨by simp [wr_at]; omega, by simp [wr_at]; omega⟩ | exact b2_R _ | exact bC_R _ | exact band_R _ _ | exact bor_R _ _ | exact bshl_R _ _ | exact bshr_R _ _ | exact bxor_R _ _ | exact bs_R (by omega) | decide) (fun h_18 => ?_) (fun h_18 => ?_)
    · refine ev_ldcw (z := -1000000003) dX8_cut_29 kc_X8_356 (by decide) ?_
      refine ev_ireturn dX8_cut_32 ?_
      rw [if_neg hif, if_pos ?_]
      · exact ⟨rfl, rfl⟩
      · first
          | (refine Or.inl ?_
             have := b2_ne h_18
             show ¬ w.testBit r = true
             rw [this]; decide)
          | (exact Or.inr (by show fstI (fun b => σ.1 40 b) (r : Int) nb ≠ -1; omega))
    · refine ev_aload_n dX8_cut_21 rfl ?_
      refine ev_iload_n dX8_cut_22 rfl ?_
      refine ev_callVI dX8_cut_23 kv_X8_327 (m_onRope μ nb cb hnb4 r hr) rfl rfl (ci := 8) rfl rfl ⟨by decide, by decide⟩ (Nat.le_of_ble_eq_true rfl) ?_
      refine ev_w (fun hR => ?_)
      rw [hM.onR (by omega)]
      have hfR := fstI_R (fun b => σ.1 40 b) (r : Int) nb
      refine ev_if_lt (tgt := 33) dX8_cut_26 (by decide) ⟨by omega, by omega⟩ (fun h_26 => ?_) (fun h_26 => ?_)
      · refine ev_aload_n dX8_cut_33 rfl ?_
        refine ev_getR (r := 97) dX8_cut_34 fl_X8_62 rfl rfl rfl ?_
        refine ev_iload_n dX8_cut_37 rfl ?_
        refine ev_iconst dX8_cut_38 ?_
        refine ev_zastore dX8_cut_39 rfl (by first | omega | (simp [wr_at]; omega) | (simp [wr_at, *]; omega)) (by first | omega | (simp [wr_at]; omega) | (simp [wr_at, *]; omega)) (by decide) (by first | exact Or.inl rfl | exact Or.inr rfl | omega) ?_
        refine ev_w (fun hR => ?_)
        refine ev_iconst dX8_cut_40 ?_
        refine ev_ireturn dX8_cut_41 ?_
        have hc : w.testBit r = true := by simpa using b2_eq h_18
        have hf : fstI (fun i => σ.1 40 i) (r : Int) nb = -1 := by omega
        rw [if_neg hif, if_neg (fun y => by
          rcases y with y | y
          · exact y hc
          · exact y hf)]
        exact ⟨rfl, MSame.rf.wrc _ _ (by decide) (by decide), MDy.cutS hM.2.2.2 w r k4.1, cut_ok hPO hDy hf⟩
      · refine ev_ldcw (z := -1000000003) dX8_cut_29 kc_X8_356 (by decide) ?_
        refine ev_ireturn dX8_cut_32 ?_
        rw [if_neg hif, if_pos ?_]
        · exact ⟨rfl, rfl⟩
        · first
            | (refine Or.inl ?_
               have := b2_ne h_18
               show ¬ w.testBit r = true
               rw [this]; decide)
            | (exact Or.inr (by show fstI (fun b => σ.1 40 b) (r : Int) nb ≠ -1; omega))
  · refine ev_ldcw (z := -1000000001) dX8_cut_8 kc_X8_316 (by decide) ?_
    refine ev_ireturn dX8_cut_11 ?_
    have z := b2_eq (by omega : b2 (0 ≤ r ∧ r < (nr : Int)) = 0)
    rw [if_pos z]
    exact ⟨rfl, rfl⟩
theorem m_splice (μ σ : Mem) (P n nr nb nl mb w wt dv : Nat) (f t : Nat → Nat) (hM : MOk μ σ P n nr nb nl mb w wt dv f t) (r : Int) (hr : inR r) : Con yX8_splice cX8_splice 2 (some .int) 2 46 [.ref 79, .int (iI r)] μ (fun v ν => if ¬ (0 ≤ r ∧ r < nr) then AnsI (-1000000001) μ v ν else if w.testBit r.toNat = true then AnsI (-1000000003) μ v ν else AnsIP 1 (fun ν => MSame μ ν ∧ MDy ν (wr (wr σ 37 3 (w ||| 2 ^ r.toNat : Nat)) 38 r 0) nr nb nl ∧ DynOk (wr (wr σ 37 3 (w ||| 2 ^ r.toNat : Nat)) 38 r 0) P n nr nb nl mb (w ||| 2 ^ r.toNat) wt dv) v ν) := by
  refine con_of (by decide) rfl (Nat.le_of_ble_eq_true rfl) ((fun v τ h => by repeat (first | exact ok_I rfl v τ h | exact ok_IP rfl v τ h | split at h))) ?_
  refine ev_w (fun hR => ?_)
  have hR0 := hR
  obtain ⟨hPO, hDy, hMP, hMD⟩ := id hM
  obtain ⟨hPR, ⟨hnb, hnb4⟩, ⟨hnl, hnl4⟩, hpo, hro, hbo, hlo⟩ := id hPO
  obtain ⟨hP, hn, hn8, hnr, hnr12, hft⟩ := id hPR
  obtain ⟨⟨cn, cr, cb, cl⟩, mp, mr, mbo, ml⟩ := id hMP
  obtain ⟨⟨dmi, dha, dri, dse⟩, dr, db, dl, dri2⟩ := id hMD
  obtain ⟨k1, k2, k3, k4, k5, k6, k7, k8, k9, k10, k11⟩ := id hDy
  have hww := hDy.w
  refine ev_aload_n dX8_splice_0 rfl ?_
  refine ev_iload_n dX8_splice_1 rfl ?_
  refine ev_callVI dX8_splice_2 kv_X8_324 (m_isRope μ r nr (by assumption) cr (by omega)) rfl rfl (ci := 8) rfl rfl ⟨by decide, by decide⟩ (Nat.le_of_ble_eq_true rfl) ?_
  refine ev_w (fun hR => ?_)
  refine ev_if_ne (tgt := 12) dX8_splice_5 (by decide) (by first | exact hR.1 _ _ | exact hR0.1 _ _ | assumption | exact ⟨by omega, by omega⟩ | exact ⟨by simp [wr_at]; omega, by simp [wr_at]; omega⟩ | exact b2_R _ | exact bC_R _ | exact band_R _ _ | exact bor_R _ _ | exact bshl_R _ _ | exact bshr_R _ _ | exact bxor_R _ _ | exact bs_R (by omega) | decide) (fun h_5 => ?_) (fun h_5 => ?_)
  · have q0 := b2_ne h_5
    obtain ⟨r, rfl⟩ := Int.eq_ofNat_of_zero_le q0.1
    have hrn : r < nr := by omega
    have hif : ¬ ¬ (0 ≤ (r : Int) ∧ (r : Int) < nr) := fun y => y q0
    refine ev_aload_n dX8_splice_12 rfl ?_
    refine ev_getR (r := 97) dX8_splice_13 fl_X8_62 rfl rfl rfl ?_
    refine ev_iload_n dX8_splice_16 rfl ?_
    refine ev_zaload dX8_splice_17 rfl (by first | omega | (simp [wr_at]; omega) | (simp [wr_at, *]; omega)) (by first | omega | (simp [wr_at]; omega) | (simp [wr_at, *]; omega)) (by decide) ?_
    rw [hM.cut hrn]
    refine ev_if_ne (tgt := 25) dX8_splice_18 (by decide) (by first | exact hR.1 _ _ | exact hR0.1 _ _ | assumption | exact ⟨by omega, by omega⟩ | exact ⟨by simp [wr_at]; omega, by simp [wr_at]; omega⟩ | exact b2_R _ | exact bC_R _ | exact band_R _ _ | exact bor_R _ _ | exact bshl_R _ _ | exact bshr_R _ _ | exact bxor_R _ _ | exact bs_R (by omega) | decide) (fun h_18 => ?_) (fun h_18 => ?_)
    · refine ev_aload_n dX8_splice_25 rfl ?_
      refine ev_getR (r := 97) dX8_splice_26 fl_X8_62 rfl rfl rfl ?_
      refine ev_iload_n dX8_splice_29 rfl ?_
      refine ev_iconst dX8_splice_30 ?_
      refine ev_zastore dX8_splice_31 rfl (by first | omega | (simp [wr_at]; omega) | (simp [wr_at, *]; omega)) (by first | omega | (simp [wr_at]; omega) | (simp [wr_at, *]; omega)) (by decide) (by first | exact Or.inl rfl | exact Or.inr rfl | omega) ?_
      refine ev_w (fun hR => ?_)
      refine ev_aload_n dX8_splice_32 rfl ?_
      refine ev_getR (r := 95) dX8_splice_33 fl_X8_55 rfl rfl rfl ?_
      refine ev_iload_n dX8_splice_36 rfl ?_
      refine ev_iconst dX8_splice_37 ?_
      refine ev_iastore dX8_splice_38 rfl (by first | omega | (simp [wr_at]; omega) | (simp [wr_at, *]; omega)) (by first | omega | (simp [wr_at]; omega) | (simp [wr_at, *]; omega)) (by decide) (by first | exact hR.1 _ _ | exact hR0.1 _ _ | assumption | exact ⟨by omega, by omega⟩ | exact ⟨by simp [wr_at]; omega, by simp [wr_at]; omega⟩ | exact b2_R _ | exact bC_R _ | exact band_R _ _ | exact bor_R _ _ | exact bshl_R _ _ | exact bshr_R _ _ | exact bxor_R _ _ | exact bs_R (by omega) | decide) ?_
      refine ev_w (fun hR => ?_)
      refine ev_iconst dX8_splice_39 ?_
      refine ev_ireturn dX8_splice_40 ?_
      have hc := b2_ne h_18
      rw [if_neg hif, if_neg (show ¬ w.testBit ((r : Int)).toNat = true from by rw [show ((r : Int)).toNat = r from rfl, hc]; decide)]
      exact ⟨rfl, (MSame.rf.wrc _ _ (by decide) (by decide)).wrc _ _ (by decide) (by decide), MDy.spliceS hM.2.2.2 w r k4.1, splice_ok hPO hDy hrn⟩
    · refine ev_ldcw (z := -1000000003) dX8_splice_21 kc_X8_356 (by decide) ?_
      refine ev_ireturn dX8_splice_24 ?_
      have hc : w.testBit r = true := by simpa using b2_eq (by omega : b2 (w.testBit r = false) = 0)
      rw [if_neg hif, if_pos (show w.testBit ((r : Int)).toNat = true from hc)]
      exact ⟨rfl, rfl⟩
  · refine ev_ldcw (z := -1000000001) dX8_splice_8 kc_X8_316 (by decide) ?_
    refine ev_ireturn dX8_splice_11 ?_
    have z := b2_eq (by omega : b2 (0 ≤ r ∧ r < (nr : Int)) = 0)
    rw [if_pos z]
    exact ⟨rfl, rfl⟩
theorem m_wet (μ σ : Mem) (P n nr nb nl mb w wt dv : Nat) (f t : Nat → Nat) (hM : MOk μ σ P n nr nb nl mb w wt dv f t) (r z : Int) (hr : inR r) (hz : z = 0 ∨ z = 1) : Con yX8_wet cX8_wet 4 (some .int) 2 46 [.ref 79, .int (iI r), .int (iI z)] μ (fun v ν => if ¬ (0 ≤ r ∧ r < nr) then AnsI (-1000000001) μ v ν else AnsIP (b2 (wt.testBit r.toNat = true)) (fun ν => MSame μ ν ∧ MDy ν (wetM σ r.toNat wt z) nr nb nl ∧ ∃ wt', DynOk (wetM σ r.toNat wt z) P n nr nb nl mb w wt' dv) v ν) := by
  refine con_of (by decide) rfl (Nat.le_of_ble_eq_true rfl) ((fun v τ h => by repeat (first | exact ok_I rfl v τ h | exact ok_IP rfl v τ h | split at h))) ?_
  refine ev_w (fun hR => ?_)
  have hR0 := hR
  obtain ⟨hPO, hDy, hMP, hMD⟩ := id hM
  obtain ⟨hPR, ⟨hnb, hnb4⟩, ⟨hnl, hnl4⟩, hpo, hro, hbo, hlo⟩ := id hPO
  obtain ⟨hP, hn, hn8, hnr, hnr12, hft⟩ := id hPR
  obtain ⟨⟨cn, cr, cb, cl⟩, mp, mr, mbo, ml⟩ := id hMP
  obtain ⟨⟨dmi, dha, dri, dse⟩, dr, db, dl, dri2⟩ := id hMD
  obtain ⟨k1, k2, k3, k4, k5, k6, k7, k8, k9, k10, k11⟩ := id hDy
  have hww := hDy.w
  refine ev_aload_n dX8_wet_0 rfl ?_
  refine ev_iload_n dX8_wet_1 rfl ?_
  refine ev_callVI dX8_wet_2 kv_X8_324 (m_isRope μ r nr (by assumption) cr (by omega)) rfl rfl (ci := 8) rfl rfl ⟨by decide, by decide⟩ (Nat.le_of_ble_eq_true rfl) ?_
  refine ev_w (fun hR => ?_)
  refine ev_if_ne (tgt := 12) dX8_wet_5 (by decide) (by first | exact hR.1 _ _ | exact hR0.1 _ _ | assumption | exact ⟨by omega, by omega⟩ | exact ⟨by simp [wr_at]; omega, by simp [wr_at]; omega⟩ | exact b2_R _ | exact bC_R _ | exact band_R _ _ | exact bor_R _ _ | exact bshl_R _ _ | exact bshr_R _ _ | exact bxor_R _ _ | exact bs_R (by omega) | decide) (fun h_5 => ?_) (fun h_5 => ?_)
  · have q0 := b2_ne h_5
    obtain ⟨r, rfl⟩ := Int.eq_ofNat_of_zero_le q0.1
    have hrn : r < nr := by omega
    have hif : ¬ ¬ (0 ≤ (r : Int) ∧ (r : Int) < nr) := fun y => y q0
    refine ev_aload_n dX8_wet_12 rfl ?_
    refine ev_getR (r := 96) dX8_wet_13 fl_X8_58 rfl rfl rfl ?_
    refine ev_iload_n dX8_wet_16 rfl ?_
    refine ev_zaload dX8_wet_17 rfl (by first | omega | (simp [wr_at]; omega) | (simp [wr_at, *]; omega)) (by first | omega | (simp [wr_at]; omega) | (simp [wr_at, *]; omega)) (by decide) ?_
    rw [hM.wet hrn]
    refine ev_if_eq (tgt := 25) dX8_wet_18 (by decide) (by first | exact hR.1 _ _ | exact hR0.1 _ _ | assumption | exact ⟨by omega, by omega⟩ | exact ⟨by simp [wr_at]; omega, by simp [wr_at]; omega⟩ | exact b2_R _ | exact bC_R _ | exact band_R _ _ | exact bor_R _ _ | exact bshl_R _ _ | exact bshr_R _ _ | exact bxor_R _ _ | exact bs_R (by omega) | decide) (fun h_18 => ?_) (fun h_18 => ?_)
    · refine ev_iconst dX8_wet_25 ?_
      refine ev_istore_n dX8_wet_26 rfl (by decide) rfl ?_
      refine ev_aload_n dX8_wet_27 rfl ?_
      refine ev_getR (r := 96) dX8_wet_28 fl_X8_58 rfl rfl rfl ?_
      refine ev_iload_n dX8_wet_31 rfl ?_
      refine ev_iload_n dX8_wet_32 rfl ?_
      refine ev_zastore dX8_wet_33 rfl (by first | omega | (simp [wr_at]; omega) | (simp [wr_at, *]; omega)) (by first | omega | (simp [wr_at]; omega) | (simp [wr_at, *]; omega)) (by decide) hz ?_
      refine ev_w (fun hR => ?_)
      refine ev_iload_n dX8_wet_34 rfl ?_
      refine ev_ireturn dX8_wet_35 ?_
      rw [if_neg hif]
      have hD := MDy.wetS hM.2.2.2 wt r k5.1 z hz
      have hS : MSame μ (wr μ 96 (r : Int) z) := MSame.rf.wrc _ _ (by decide) (by decide)
      have hO := wet_ok hPO hDy hrn z
      first
        | (have hc : ¬ wt.testBit ((r : Int)).toNat = true := b2_eq h_18
           rw [b2_f hc]
           exact ⟨rfl, hS, hD, hO⟩)
        | (have hc : wt.testBit ((r : Int)).toNat = true := b2_ne h_18
           rw [b2_t hc]
           exact ⟨rfl, hS, hD, hO⟩)
    · refine ev_iconst dX8_wet_21 ?_
      refine ev_goto (tgt := 26) dX8_wet_22 (by decide) ?_
      refine ev_istore_n dX8_wet_26 rfl (by decide) rfl ?_
      refine ev_aload_n dX8_wet_27 rfl ?_
      refine ev_getR (r := 96) dX8_wet_28 fl_X8_58 rfl rfl rfl ?_
      refine ev_iload_n dX8_wet_31 rfl ?_
      refine ev_iload_n dX8_wet_32 rfl ?_
      refine ev_zastore dX8_wet_33 rfl (by first | omega | (simp [wr_at]; omega) | (simp [wr_at, *]; omega)) (by first | omega | (simp [wr_at]; omega) | (simp [wr_at, *]; omega)) (by decide) hz ?_
      refine ev_w (fun hR => ?_)
      refine ev_iload_n dX8_wet_34 rfl ?_
      refine ev_ireturn dX8_wet_35 ?_
      rw [if_neg hif]
      have hD := MDy.wetS hM.2.2.2 wt r k5.1 z hz
      have hS : MSame μ (wr μ 96 (r : Int) z) := MSame.rf.wrc _ _ (by decide) (by decide)
      have hO := wet_ok hPO hDy hrn z
      first
        | (have hc : ¬ wt.testBit ((r : Int)).toNat = true := b2_eq h_18
           rw [b2_f hc]
           exact ⟨rfl, hS, hD, hO⟩)
        | (have hc : wt.testBit ((r : Int)).toNat = true := b2_ne h_18
           rw [b2_t hc]
           exact ⟨rfl, hS, hD, hO⟩)
  · refine ev_ldcw (z := -1000000001) dX8_wet_8 kc_X8_316 (by decide) ?_
    refine ev_ireturn dX8_wet_11 ?_
    have z := b2_eq (by omega : b2 (0 ≤ r ∧ r < (nr : Int)) = 0)
    rw [if_pos z]
    exact ⟨rfl, rfl⟩
theorem m_seed (μ σ : Mem) (P n nr nb nl mb w wt dv : Nat) (f t : Nat → Nat) (hM : MOk μ σ P n nr nb nl mb w wt dv f t) (z : Int) (hz : inR z) : Con yX8_seed cX8_seed 3 (some .int) 0 0 [.ref 79, .int (iI z)] μ (fun v ν => if z < 0 then AnsI (-1000000002) μ v ν else AnsIP (σ.1 37 2) (fun ν => MSame μ ν ∧ MDy ν (wr σ 37 2 z) nr nb nl ∧ DynOk (wr σ 37 2 z) P n nr nb nl mb w wt dv) v ν) := by
  refine con_of (by decide) rfl (Nat.le_of_ble_eq_true rfl) ((fun v τ h => by repeat (first | exact ok_I rfl v τ h | exact ok_IP rfl v τ h | split at h))) ?_
  refine ev_w (fun hR => ?_)
  have hR0 := hR
  obtain ⟨hPO, hDy, hMP, hMD⟩ := id hM
  obtain ⟨hPR, ⟨hnb, hnb4⟩, ⟨hnl, hnl4⟩, hpo, hro, hbo, hlo⟩ := id hPO
  obtain ⟨hP, hn, hn8, hnr, hnr12, hft⟩ := id hPR
  obtain ⟨⟨cn, cr, cb, cl⟩, mp, mr, mbo, ml⟩ := id hMP
  obtain ⟨⟨dmi, dha, dri, dse⟩, dr, db, dl, dri2⟩ := id hMD
  obtain ⟨k1, k2, k3, k4, k5, k6, k7, k8, k9, k10, k11⟩ := id hDy
  have hww := hDy.w
  refine ev_iload_n dX8_seed_0 rfl ?_
  refine ev_if_ge (tgt := 7) dX8_seed_1 (by decide) (by first | exact hR.1 _ _ | exact hR0.1 _ _ | assumption | exact ⟨by omega, by omega⟩ | exact ⟨by simp [wr_at]; omega, by simp [wr_at]; omega⟩ | exact b2_R _ | exact bC_R _ | exact band_R _ _ | exact bor_R _ _ | exact bshl_R _ _ | exact bshr_R _ _ | exact bxor_R _ _ | exact bs_R (by omega) | decide) (fun h_1 => ?_) (fun h_1 => ?_)
  · refine ev_aload_n dX8_seed_7 rfl ?_
    refine ev_getI (kz := 34) dX8_seed_8 fl_X8_373 rfl rfl rfl ?_
    refine ev_istore_n dX8_seed_11 rfl (by decide) rfl ?_
    refine ev_aload_n dX8_seed_12 rfl ?_
    refine ev_iload_n dX8_seed_13 rfl ?_
    refine ev_putI (kz := 34) dX8_seed_14 fp_X8_373 rfl rfl rfl (by first | exact hR.1 _ _ | exact hR0.1 _ _ | assumption | exact ⟨by omega, by omega⟩ | exact ⟨by simp [wr_at]; omega, by simp [wr_at]; omega⟩ | exact b2_R _ | exact bC_R _ | exact band_R _ _ | exact bor_R _ _ | exact bshl_R _ _ | exact bshr_R _ _ | exact bxor_R _ _ | exact bs_R (by omega) | decide) ?_
    refine ev_w (fun hR => ?_)
    refine ev_iload_n dX8_seed_17 rfl ?_
    refine ev_ireturn dX8_seed_18 ?_
    rw [if_neg (by omega)]
    refine ⟨by rw [dse], MSame.rf.wf _ (by decide), MDy.seedS hM.2.2.2 z, seed_ok hPO hDy (by omega)⟩
  · refine ev_ldc (z := -1000000002) dX8_seed_4 kc_X8_204 (by decide) ?_
    refine ev_ireturn dX8_seed_6 ?_
    rw [if_pos (by omega)]
    exact ⟨rfl, rfl⟩
/-- the reference's book -/
def MBk (μ σ : Mem) (k : Nat) : Prop := μ.1 79 68 = k ∧ ∀ i : Nat, i < k → μ.1 129 i = σ.1 66 i ∧ μ.1 130 i = σ.1 67 i ∧ μ.1 131 i = σ.1 68 i
def bkM (μ : Mem) (k b p m : Int) : Mem := wr (wr (wr (wr μ 129 k b) 130 k p) 131 k m) 79 68 (k + 1)
theorem m_see (μ σ : Mem) (P n nr nb nl mb w wt dv : Nat) (f t : Nat → Nat) (hM : MOk μ σ P n nr nb nl mb w wt dv f t) (k : Nat) (hk : μ.1 79 68 = k) (hk2 : k ≤ 20) (b p m : Int) (hb : inR b) (hp : inR p) (hm : inR m) : Con yX8_see cX8_see 4 (some .int) 2 46 [.ref 79, .int (iI b), .int (iI p), .int (iI m)] μ (fun v ν => if ¬ ((0 ≤ b ∧ b < nb) ∧ (0 ≤ p ∧ p < n)) then AnsI (-1000000001) μ v ν else if ¬ (0 ≤ m ∧ m ≤ 9999) then AnsI (-1000000002) μ v ν else if ¬ k < 20 then AnsI (-1000000004) μ v ν else AnsI (k + 1 : Nat) (bkM μ k b p m) v ν) := by
  refine con_of (by decide) rfl (Nat.le_of_ble_eq_true rfl) ((fun v τ h => by repeat (first | exact ok_I rfl v τ h | exact ok_IP rfl v τ h | split at h))) ?_
  refine ev_w (fun hR => ?_)
  have hR0 := hR
  obtain ⟨hPO, hDy, hMP, hMD⟩ := id hM
  obtain ⟨hPR, ⟨hnb, hnb4⟩, ⟨hnl, hnl4⟩, hpo, hro, hbo, hlo⟩ := id hPO
  obtain ⟨hP, hn, hn8, hnr, hnr12, hft⟩ := id hPR
  obtain ⟨⟨cn, cr, cb, cl⟩, mp, mr, mbo, ml⟩ := id hMP
  obtain ⟨⟨dmi, dha, dri, dse⟩, dr, db, dl, dri2⟩ := id hMD
  obtain ⟨k1, k2, k3, k4, k5, k6, k7, k8, k9, k10, k11⟩ := id hDy
  have hww := hDy.w
  refine ev_aload_n dX8_see_0 rfl ?_
  refine ev_iload_n dX8_see_1 rfl ?_
  refine ev_callVI dX8_see_2 kv_X8_330 (m_isBoy μ b nb (by assumption) cb (by omega)) rfl rfl (ci := 8) rfl rfl ⟨by decide, by decide⟩ (Nat.le_of_ble_eq_true rfl) ?_
  refine ev_w (fun hR => ?_)
  refine ev_if_eq (tgt := 16) dX8_see_5 (by decide) (by first | exact hR.1 _ _ | exact hR0.1 _ _ | assumption | exact ⟨by omega, by omega⟩ | exact ⟨by simp [wr_at]; omega, by simp [wr_at]; omega⟩ | exact b2_R _ | exact bC_R _ | exact band_R _ _ | exact bor_R _ _ | exact bshl_R _ _ | exact bshr_R _ _ | exact bxor_R _ _ | exact bs_R (by omega) | decide) (fun h_5 => ?_) (fun h_5 => ?_)
  · refine ev_ldcw (z := -1000000001) dX8_see_16 kc_X8_316 (by decide) ?_
    refine ev_ireturn dX8_see_19 ?_
    first
      | (have z := b2_eq h_5; rw [if_pos (fun y => z y.1)]; exact ⟨rfl, rfl⟩)
      | (have z := b2_eq h_13; rw [if_pos (fun y => z y.2)]; exact ⟨rfl, rfl⟩)
      | (have z := b2_eq (Decidable.not_not.mp h_13); rw [if_pos (fun y => z y.2)]; exact ⟨rfl, rfl⟩)
  · refine ev_aload_n dX8_see_8 rfl ?_
    refine ev_iload_n dX8_see_9 rfl ?_
    refine ev_callVI dX8_see_10 kv_X8_312 (m_isPole μ p n (by assumption) cn (by omega)) rfl rfl (ci := 8) rfl rfl ⟨by decide, by decide⟩ (Nat.le_of_ble_eq_true rfl) ?_
    refine ev_w (fun hR => ?_)
    refine ev_if_ne (tgt := 20) dX8_see_13 (by decide) (by first | exact hR.1 _ _ | exact hR0.1 _ _ | assumption | exact ⟨by omega, by omega⟩ | exact ⟨by simp [wr_at]; omega, by simp [wr_at]; omega⟩ | exact b2_R _ | exact bC_R _ | exact band_R _ _ | exact bor_R _ _ | exact bshl_R _ _ | exact bshr_R _ _ | exact bxor_R _ _ | exact bs_R (by omega) | decide) (fun h_13 => ?_) (fun h_13 => ?_)
    · have q0 := b2_ne h_5
      have q1 := b2_ne h_13
      have hif : ¬ ¬ ((0 ≤ b ∧ b < (nb : Int)) ∧ (0 ≤ p ∧ p < (n : Int))) := fun y => y ⟨q0, q1⟩
      refine ev_iload_n dX8_see_20 rfl ?_
      refine ev_i2l dX8_see_21 hm ?_
      refine ev_lconst (z := 0) dX8_see_22 (by decide) ?_
      refine ev_ldc2 (z := 9999) dX8_see_23 kl_X8_454 (by decide) ?_
      refine ev_callSI dX8_see_26 ks_X8_180 (m_in μ m 0 9999 ⟨by omega, by omega⟩ (by decide) (by decide)) rfl rfl ⟨by decide, by decide⟩ (Nat.le_of_ble_eq_true rfl) ?_
      refine ev_w (fun hR => ?_)
      refine ev_if_ne (tgt := 35) dX8_see_29 (by decide) (by first | exact hR.1 _ _ | exact hR0.1 _ _ | assumption | exact ⟨by omega, by omega⟩ | exact ⟨by simp [wr_at]; omega, by simp [wr_at]; omega⟩ | exact b2_R _ | exact bC_R _ | exact band_R _ _ | exact bor_R _ _ | exact bshl_R _ _ | exact bshr_R _ _ | exact bxor_R _ _ | exact bs_R (by omega) | decide) (fun h_29 => ?_) (fun h_29 => ?_)
      · have q2 := b2_ne h_29
        have hif2 : ¬ ¬ (0 ≤ m ∧ m ≤ 9999) := fun y => y q2
        refine ev_aload_n dX8_see_35 rfl ?_
        refine ev_getI (kz := 68) dX8_see_36 fl_X8_300 rfl rfl rfl ?_
        rw [hk]
        refine ev_bipush dX8_see_39 (by decide) ?_
        refine ev_icmp_ne (tgt := 47) dX8_see_41 (by decide) (by first | exact hR.1 _ _ | exact hR0.1 _ _ | assumption | exact ⟨by omega, by omega⟩ | exact ⟨by simp [wr_at]; omega, by simp [wr_at]; omega⟩ | exact b2_R _ | exact bC_R _ | exact band_R _ _ | exact bor_R _ _ | exact bshl_R _ _ | exact bshr_R _ _ | exact bxor_R _ _ | exact bs_R (by omega) | decide) (by first | exact hR.1 _ _ | exact hR0.1 _ _ | assumption | exact ⟨by omega, by omega⟩ | exact ⟨by simp [wr_at]; omega, by simp [wr_at]; omega⟩ | exact b2_R _ | exact bC_R _ | exact band_R _ _ | exact bor_R _ _ | exact bshl_R _ _ | exact bshr_R _ _ | exact bxor_R _ _ | exact bs_R (by omega) | decide) (fun h_41 => ?_) (fun h_41 => ?_)
        · refine ev_aload_n dX8_see_47 rfl ?_
          refine ev_getR (r := 129) dX8_see_48 fl_X8_162 rfl rfl rfl ?_
          refine ev_aload_n dX8_see_51 rfl ?_
          refine ev_getI (kz := 68) dX8_see_52 fl_X8_300 rfl rfl rfl ?_
          rw [hk]
          refine ev_iload_n dX8_see_55 rfl ?_
          refine ev_iastore dX8_see_56 rfl (by first | omega | (simp [wr_at]; omega) | (simp [wr_at, *]; omega)) (by first | omega | (simp [wr_at]; omega) | (simp [wr_at, *]; omega)) (by decide) (by first | exact hR.1 _ _ | exact hR0.1 _ _ | assumption | exact ⟨by omega, by omega⟩ | exact ⟨by simp [wr_at]; omega, by simp [wr_at]; omega⟩ | exact b2_R _ | exact bC_R _ | exact band_R _ _ | exact bor_R _ _ | exact bshl_R _ _ | exact bshr_R _ _ | exact bxor_R _ _ | exact bs_R (by omega) | decide) ?_
          refine ev_w (fun hR => ?_)
          refine ev_aload_n dX8_see_57 rfl ?_
          refine ev_getR (r := 130) dX8_see_58 fl_X8_165 rfl rfl rfl ?_
          refine ev_aload_n dX8_see_61 rfl ?_
          refine ev_getI (kz := 68) dX8_see_62 fl_X8_300 rfl rfl rfl ?_
          rw [wr_nec _ (by decide), hk]
          refine ev_iload_n dX8_see_65 rfl ?_
          refine ev_iastore dX8_see_66 rfl (by first | omega | (simp [wr_at]; omega) | (simp [wr_at, *]; omega)) (by first | omega | (simp [wr_at]; omega) | (simp [wr_at, *]; omega)) (by decide) (by first | exact hR.1 _ _ | exact hR0.1 _ _ | assumption | exact ⟨by omega, by omega⟩ | exact ⟨by simp [wr_at]; omega, by simp [wr_at]; omega⟩ | exact b2_R _ | exact bC_R _ | exact band_R _ _ | exact bor_R _ _ | exact bshl_R _ _ | exact bshr_R _ _ | exact bxor_R _ _ | exact bs_R (by omega) | decide) ?_
          refine ev_w (fun hR => ?_)
          refine ev_aload_n dX8_see_67 rfl ?_
          refine ev_getR (r := 131) dX8_see_68 fl_X8_168 rfl rfl rfl ?_
          refine ev_aload_n dX8_see_71 rfl ?_
          refine ev_getI (kz := 68) dX8_see_72 fl_X8_300 rfl rfl rfl ?_
          rw [wr_nec _ (by decide), wr_nec _ (by decide), hk]
          refine ev_iload_n dX8_see_75 rfl ?_
          refine ev_iastore dX8_see_76 rfl (by first | omega | (simp [wr_at]; omega) | (simp [wr_at, *]; omega)) (by first | omega | (simp [wr_at]; omega) | (simp [wr_at, *]; omega)) (by decide) (by first | exact hR.1 _ _ | exact hR0.1 _ _ | assumption | exact ⟨by omega, by omega⟩ | exact ⟨by simp [wr_at]; omega, by simp [wr_at]; omega⟩ | exact b2_R _ | exact bC_R _ | exact band_R _ _ | exact bor_R _ _ | exact bshl_R _ _ | exact bshr_R _ _ | exact bxor_R _ _ | exact bs_R (by omega) | decide) ?_
          refine ev_w (fun hR => ?_)
          refine ev_aload_n dX8_see_77 rfl ?_
          refine ev_dup dX8_see_78 rfl ?_
          refine ev_getI (kz := 68) dX8_see_79 fl_X8_300 rfl rfl rfl ?_
          rw [wr_nec _ (by decide), wr_nec _ (by decide), wr_nec _ (by decide), hk]
          refine ev_iconst dX8_see_82 ?_
          refine ev_iadd dX8_see_83 ?_
          refine ev_putI (kz := 68) dX8_see_84 fp_X8_300 rfl rfl rfl (by first | exact hR.1 _ _ | exact hR0.1 _ _ | assumption | exact ⟨by omega, by omega⟩ | exact ⟨by simp [wr_at]; omega, by simp [wr_at]; omega⟩ | exact b2_R _ | exact bC_R _ | exact band_R _ _ | exact bor_R _ _ | exact bshl_R _ _ | exact bshr_R _ _ | exact bxor_R _ _ | exact bs_R (by omega) | decide) ?_
          refine ev_w (fun hR => ?_)
          refine ev_aload_n dX8_see_87 rfl ?_
          refine ev_getI (kz := 68) dX8_see_88 fl_X8_300 rfl rfl rfl ?_
          refine ev_ireturn dX8_see_91 ?_
          rw [if_neg hif, if_neg hif2, if_neg (by omega)]
          refine ⟨?_, rfl⟩
          rw [wr_eq]
          rfl
        · refine ev_ldc (z := -1000000004) dX8_see_44 kc_X8_208 (by decide) ?_
          refine ev_ireturn dX8_see_46 ?_
          rw [if_neg hif, if_neg hif2, if_pos (by omega)]
          exact ⟨rfl, rfl⟩
      · refine ev_ldc (z := -1000000002) dX8_see_32 kc_X8_204 (by decide) ?_
        refine ev_ireturn dX8_see_34 ?_
        rw [if_neg hif, if_pos (b2_eq (by omega : b2 (0 ≤ m ∧ m ≤ 9999) = 0))]
        exact ⟨rfl, rfl⟩
    · refine ev_ldcw (z := -1000000001) dX8_see_16 kc_X8_316 (by decide) ?_
      refine ev_ireturn dX8_see_19 ?_
      first
        | (have z := b2_eq h_5; rw [if_pos (fun y => z y.1)]; exact ⟨rfl, rfl⟩)
        | (have z := b2_eq h_13; rw [if_pos (fun y => z y.2)]; exact ⟨rfl, rfl⟩)
        | (have z := b2_eq (Decidable.not_not.mp h_13); rw [if_pos (fun y => z y.2)]; exact ⟨rfl, rfl⟩)
theorem m_forget (μ : Mem) : Con yX8_forget cX8_forget 2 (some .int) 0 0 [.ref 79] μ (AnsI (μ.1 79 68) (wr μ 79 68 0)) := by
  refine con_of (by decide) rfl (Nat.le_of_ble_eq_true rfl) (ok_I rfl) ?_
  refine ev_w (fun hR => ?_)
  have hR0 := hR
  refine ev_aload_n dX8_forget_0 rfl ?_
  refine ev_getI (kz := 68) dX8_forget_1 fl_X8_300 rfl rfl rfl ?_
  refine ev_istore_n dX8_forget_4 rfl (by decide) rfl ?_
  refine ev_aload_n dX8_forget_5 rfl ?_
  refine ev_iconst dX8_forget_6 ?_
  refine ev_putI (kz := 68) dX8_forget_7 fp_X8_300 rfl rfl rfl (by first | exact hR.1 _ _ | exact hR0.1 _ _ | assumption | exact ⟨by omega, by omega⟩ | exact ⟨by simp [wr_at]; omega, by simp [wr_at]; omega⟩ | exact b2_R _ | exact bC_R _ | exact band_R _ _ | exact bor_R _ _ | exact bshl_R _ _ | exact bshr_R _ _ | exact bxor_R _ _ | exact bs_R (by omega) | decide) ?_
  refine ev_w (fun hR => ?_)
  refine ev_iload_n dX8_forget_10 rfl ?_
  refine ev_ireturn dX8_forget_11 ?_
  exact ⟨rfl, rfl⟩
