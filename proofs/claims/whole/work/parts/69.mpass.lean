theorem MOk.mk2 {μ ν σ τ : Mem} {P n nr nb nl mb w wt dv : Nat} {f t : Nat → Nat} (hMP : MPl μ σ P n nr nb nl) (hS : MSame μ ν) (hPO : PlanOk τ P n nr nb nl f t) (hDy : DynOk τ P n nr nb nl mb w wt dv) (hs : ∀ k, k ≤ 16 → τ.1 (P + k) = σ.1 (P + k)) (hD : MDy ν τ nr nb nl) : MOk ν τ P n nr nb nl mb w wt dv f t := ⟨hPO, hDy, (hMP.same hS).to hs, hD⟩
set_option maxHeartbeats 4000000 in
theorem m_minuteNow (μ σ : Mem) (P n nr nb nl mb w wt dv : Nat) (f t : Nat → Nat) (hM : MOk μ σ P n nr nb nl mb w wt dv f t) (hmb : mb ≤ 1000000) : Con yX8_minuteNow cX8_minuteNow 3 none 3 68 [.ref 79] μ (AnsVP (fun ν => MSame μ ν ∧ MDy ν (pmM σ P nb nl) nr nb nl)) := by
  refine con_of (by decide) rfl (Nat.le_of_ble_eq_true rfl) (ok_VP rfl) ?_
  refine ev_w (fun hR => ?_)
  have hR0 := hR
  obtain ⟨hPO, hDy, hMP, hMD⟩ := id hM
  obtain ⟨hPR, ⟨hnb, hnb4⟩, ⟨hnl, hnl4⟩, hpo, hro, hbo, hlo⟩ := id hPO
  obtain ⟨hP, hn, hn8, hnr, hnr12, hft⟩ := id hPR
  obtain ⟨⟨cn, cr, cb, cl⟩, mp, mr, mbo, ml⟩ := id hMP
  obtain ⟨⟨dmi, dha, dri, dse⟩, dr, db, dl, dri2⟩ := id hMD
  obtain ⟨k1, k2, k3, k4, k5, k6, k7, k8, k9, k10, k11⟩ := id hDy
  have hww := hDy.w
  have hs1 : Same sN σ (wr σ 37 0 (σ.1 37 0 + 1)) := Same.rf.wr ⟨by decide, by decide⟩
  have hnP : ∀ k, k ≤ 16 → ¬ sN (P + k) := fun k hk => by unfold sN; omega
  have hPO1 := hPO.same hs1 hnP
  have hDy1 := DynOk.tick hP hDy
  have hpm := pmL_ok hPO1 hDy1
  have loop : ∀ b : Nat, b ≤ nb → ∀ ν, MSame μ ν ∧ MDy ν (pmL (wr σ 37 0 (σ.1 37 0 + 1)) P nb nl b) nr nb nl → ∀ x9, Ev RX8 cX8_minuteNow 3 3 68 (AnsVP (fun ν => MSame μ ν ∧ MDy ν (pmM σ P nb nl) nr nb nl)) 12 [some (.ref 79), some (.int (iI (b : Nat))), x9] [] ν := by
    refine for_up nb (fun b hb ih => ?_)
    intro ν hν x9
    obtain ⟨hS, hD⟩ := hν
    refine ev_w (fun hR => ?_)
    have hcb : ν.1 79 9 = nb := by rw [hS.2.1 _ (by decide) (by decide) (by decide) (by decide)]; exact cb
    obtain ⟨⟨w1, dv1, hD1⟩, hSa⟩ := hpm b hb
    have hst := hs1.tr hSa
    have hPO2 := hPO.same hst hnP
    generalize hτ : pmL (wr σ 37 0 (σ.1 37 0 + 1)) P nb nl b = τ at *
    have hMo : MOk ν τ P n nr nb nl (mb + 1) w1 wt dv1 f t := MOk.mk2 hMP hS hPO2 hD1 (fun k hk => hst.1 _ (hnP k hk)) hD
    have hwd := hD1.w
    have hsuc : pmL (wr σ 37 0 (σ.1 37 0 + 1)) P nb nl (b + 1) = if τ.1 40 b ≠ -1 then movM τ P nb nl (wN τ) (dvN τ) b else τ := by
      show (if (pmL (wr σ 37 0 (σ.1 37 0 + 1)) P nb nl b).1 40 b ≠ -1 then _ else _) = _
      rw [hτ]
    refine ev_iload_n dX8_minuteNow_12 rfl ?_
    refine ev_aload_n dX8_minuteNow_13 rfl ?_
    refine ev_getI (kz := 9) dX8_minuteNow_14 fl_X8_187 rfl rfl rfl ?_
    rw [hcb]
    refine ev_icmp_ge (tgt := 111) dX8_minuteNow_17 (by decide) (by first | exact hR.1 _ _ | exact hR0.1 _ _ | assumption | exact ⟨by omega, by omega⟩ | exact ⟨by simp [wr_at]; omega, by simp [wr_at]; omega⟩ | exact b2_R _ | exact bC_R _ | exact band_R _ _ | exact bor_R _ _ | exact bshl_R _ _ | exact bshr_R _ _ | exact bxor_R _ _ | exact bs_R (by omega) | decide) (by first | exact hR.1 _ _ | exact hR0.1 _ _ | assumption | exact ⟨by omega, by omega⟩ | exact ⟨by simp [wr_at]; omega, by simp [wr_at]; omega⟩ | exact b2_R _ | exact bC_R _ | exact band_R _ _ | exact bor_R _ _ | exact bshl_R _ _ | exact bshr_R _ _ | exact bxor_R _ _ | exact bs_R (by omega) | decide) (fun h_17 => ?_) (fun h_17 => ?_)
    · refine ev_return dX8_minuteNow_111 ?_
      obtain rfl : b = nb := by omega
      refine ⟨rfl, hS, ?_⟩
      unfold pmM
      rw [hτ]
      exact hD
    · have hbn : b < nb := by omega
      have hdb : ν.1 99 (b : Int) = τ.1 40 b ∧ ν.1 101 (b : Int) = τ.1 41 b ∧ (τ.1 40 b = -1 → ν.1 98 (b : Int) = τ.1 39 b) ∧ (τ.1 40 b ≠ -1 → ν.1 98 (b : Int) = -1 ∧ ν.1 100 (b : Int) = τ.1 39 b) := hD.2.2.1 b hbn
      have hbb := hD1.2.2.2.2.2.2.2.2.1 b hbn
      have hd2 := hD1.2.1
      have hdr := hD1.2.2.2.2.2.2.2.1
      obtain ⟨⟨ncn, ncr, ncb, ncl⟩, nmp, nmr, nmbo, nml⟩ := id hMo.2.2.1
      refine ev_aload_n dX8_minuteNow_20 rfl ?_
      refine ev_getR (r := 99) dX8_minuteNow_21 fl_X8_68 rfl rfl rfl ?_
      refine ev_iload_n dX8_minuteNow_24 rfl ?_
      refine ev_iaload dX8_minuteNow_25 rfl (by first | omega | (simp [wr_at]; omega) | (simp [wr_at, *]; omega)) (by first | omega | (simp [wr_at]; omega) | (simp [wr_at, *]; omega)) (by decide) ?_
      rw [hdb.1]
      refine ev_if_lt (tgt := 105) dX8_minuteNow_26 (by decide) (by first | exact hR.1 _ _ | exact hR0.1 _ _ | assumption | exact ⟨by omega, by omega⟩ | exact ⟨by simp [wr_at]; omega, by simp [wr_at]; omega⟩ | exact b2_R _ | exact bC_R _ | exact band_R _ _ | exact bor_R _ _ | exact bshl_R _ _ | exact bshr_R _ _ | exact bxor_R _ _ | exact bs_R (by omega) | decide) (fun h_26 => ?_) (fun h_26 => ?_)
      · refine ev_iinc dX8_minuteNow_105 rfl rfl (by decide) rfl ?_
        refine ev_goto (tgt := 12) dX8_minuteNow_108 (by decide) ?_
        first
          | (rw [hsuc, if_neg (by omega)] at ih
             exact ih (by omega) ν ⟨hS, hD⟩ _)
          | (refine ih (by omega) _ ⟨hS.wrc _ _ (by decide) (by decide), ?_⟩ _
             unfold movM
             rw [if_pos (by omega)]
             exact MDy.togo hD b _)
      · have hon := hbb.2.resolve_left (fun y => by omega)
        rw [hsuc, if_pos (by omega), hwd.1, hwd.2] at ih
        refine ev_aload_n dX8_minuteNow_29 rfl ?_
        refine ev_getR (r := 101) dX8_minuteNow_30 fl_X8_74 rfl rfl rfl ?_
        refine ev_iload_n dX8_minuteNow_33 rfl ?_
        refine ev_dup2 dX8_minuteNow_34 rfl rfl ?_
        refine ev_iaload dX8_minuteNow_35 rfl (by first | omega | (simp [wr_at]; omega) | (simp [wr_at, *]; omega)) (by first | omega | (simp [wr_at]; omega) | (simp [wr_at, *]; omega)) (by decide) ?_
        rw [hdb.2.1]
        refine ev_iconst dX8_minuteNow_36 ?_
        refine ev_isub dX8_minuteNow_37 ?_
        refine ev_iastore dX8_minuteNow_38 rfl (by first | omega | (simp [wr_at]; omega) | (simp [wr_at, *]; omega)) (by first | omega | (simp [wr_at]; omega) | (simp [wr_at, *]; omega)) (by decide) (by first | exact hR.1 _ _ | exact hR0.1 _ _ | assumption | exact ⟨by omega, by omega⟩ | exact ⟨by simp [wr_at]; omega, by simp [wr_at]; omega⟩ | exact b2_R _ | exact bC_R _ | exact band_R _ _ | exact bor_R _ _ | exact bshl_R _ _ | exact bshr_R _ _ | exact bxor_R _ _ | exact bs_R (by omega) | decide) ?_
        refine ev_w (fun hR => ?_)
        refine ev_aload_n dX8_minuteNow_39 rfl ?_
        refine ev_getR (r := 101) dX8_minuteNow_40 fl_X8_74 rfl rfl rfl ?_
        refine ev_iload_n dX8_minuteNow_43 rfl ?_
        refine ev_iaload dX8_minuteNow_44 rfl (by first | omega | (simp [wr_at]; omega) | (simp [wr_at, *]; omega)) (by first | omega | (simp [wr_at]; omega) | (simp [wr_at, *]; omega)) (by decide) ?_
        rw [show (wr ν 101 (b : Int) (τ.1 41 (b : Int) - 1)).1 101 (b : Int) = τ.1 41 (b : Int) - 1 from wr_eq _ _ _ _]
        refine ev_if_ne (tgt := 105) dX8_minuteNow_45 (by decide) (by first | exact hR.1 _ _ | exact hR0.1 _ _ | assumption | exact ⟨by omega, by omega⟩ | exact ⟨by simp [wr_at]; omega, by simp [wr_at]; omega⟩ | exact b2_R _ | exact bC_R _ | exact band_R _ _ | exact bor_R _ _ | exact bshl_R _ _ | exact bshr_R _ _ | exact bxor_R _ _ | exact bs_R (by omega) | decide) (fun h_45 => ?_) (fun h_45 => ?_)
        · refine ev_iinc dX8_minuteNow_105 rfl rfl (by decide) rfl ?_
          refine ev_goto (tgt := 12) dX8_minuteNow_108 (by decide) ?_
          first
            | (rw [hsuc, if_neg (by omega)] at ih
               exact ih (by omega) ν ⟨hS, hD⟩ _)
            | (refine ih (by omega) _ ⟨hS.wrc _ _ (by decide) (by decide), ?_⟩ _
               unfold movM
               rw [if_pos (by omega)]
               exact MDy.togo hD b _)
        · obtain ⟨p9, hp9⟩ := Int.eq_ofNat_of_zero_le hbb.1.1
          have hpn : p9 < n := by omega
          have e100 : (wr ν 101 (b : Int) (τ.1 41 (b : Int) - 1)).1 100 (b : Int) = p9 := by rw [wr_nec _ (by decide), (hdb.2.2.2 (by omega)).2, hp9]
          have eat : bs (fun i => decide ((wr ν 101 (b : Int) (τ.1 41 (b : Int) - 1)).1 98 i = (p9 : Int))) nb = atS τ nb p9 := by
            rw [← hMo.atS p9]
            rfl
          have hat := bs_lt (fun i : Nat => decide (τ.1 40 i = -1 ∧ τ.1 39 i = (p9 : Int))) nb
          have hat2 : 2 ^ nb ≤ 2 ^ 4 := Nat.pow_le_pow_right (by decide) hnb4
          have hatS : atS τ nb p9 < 16 := by unfold atS; omega
          have hcl := cnt_le (atS τ nb p9).testBit 12
          have hbe := (hPO2.2.2.2.1 p9 hpn).2.2.1
          have h82 : (wr ν 101 (b : Int) (τ.1 41 (b : Int) - 1)).1 82 (p9 : Int) = τ.1 (P + 3) p9 := by rw [wr_nec _ (by decide)]; exact (nmp p9 hpn).2.2
          obtain ⟨r9, hr9⟩ := Int.eq_ofNat_of_zero_le hon.1
          have no : τ.1 (P + 3) p9 ≤ (cnt (atS τ nb p9).testBit 12 : Nat) → Ev RX8 cX8_minuteNow 3 3 68 (AnsVP (fun ν => MSame μ ν ∧ MDy ν (pmM σ P nb nl) nr nb nl)) 81 [some (.ref 79), some (.int (iI (b : Nat))), some (.int (iI 0))] [] (wr ν 101 (b : Int) (τ.1 41 (b : Int) - 1)) := by
            intro h_72
            refine ev_w (fun hR => ?_)
            refine ev_aload_n dX8_minuteNow_81 rfl ?_
            refine ev_getR (r := 101) dX8_minuteNow_82 fl_X8_74 rfl rfl rfl ?_
            refine ev_iload_n dX8_minuteNow_85 rfl ?_
            refine ev_iload_n dX8_minuteNow_86 rfl ?_
            refine ev_if_eq (tgt := 94) dX8_minuteNow_87 (by decide) (by first | exact hR.1 _ _ | exact hR0.1 _ _ | assumption | exact ⟨by omega, by omega⟩ | exact ⟨by simp [wr_at]; omega, by simp [wr_at]; omega⟩ | exact b2_R _ | exact bC_R _ | exact band_R _ _ | exact bor_R _ _ | exact bshl_R _ _ | exact bshr_R _ _ | exact bxor_R _ _ | exact bs_R (by omega) | decide) (fun h_87 => ?_) (fun h_87 => ?_)
            · refine ev_iconst dX8_minuteNow_94 ?_
              refine ev_iastore dX8_minuteNow_95 rfl (by first | omega | (simp [wr_at]; omega) | (simp [wr_at, *]; omega)) (by first | omega | (simp [wr_at]; omega) | (simp [wr_at, *]; omega)) (by decide) (by first | exact hR.1 _ _ | exact hR0.1 _ _ | assumption | exact ⟨by omega, by omega⟩ | exact ⟨by simp [wr_at]; omega, by simp [wr_at]; omega⟩ | exact b2_R _ | exact bC_R _ | exact band_R _ _ | exact bor_R _ _ | exact bshl_R _ _ | exact bshr_R _ _ | exact bxor_R _ _ | exact bs_R (by omega) | decide) ?_
              refine ev_w (fun hR => ?_)
              refine ev_iload_n dX8_minuteNow_96 rfl ?_
              refine ev_if_eq (tgt := 105) dX8_minuteNow_97 (by decide) (by first | exact hR.1 _ _ | exact hR0.1 _ _ | assumption | exact ⟨by omega, by omega⟩ | exact ⟨by simp [wr_at]; omega, by simp [wr_at]; omega⟩ | exact b2_R _ | exact bC_R _ | exact band_R _ _ | exact bor_R _ _ | exact bshl_R _ _ | exact bshr_R _ _ | exact bxor_R _ _ | exact bs_R (by omega) | decide) (fun h_97 => ?_) (fun h_97 => ?_)
              · refine ev_iinc dX8_minuteNow_105 rfl rfl (by decide) rfl ?_
                refine ev_goto (tgt := 12) dX8_minuteNow_108 (by decide) ?_
                refine ih (by omega) _ ⟨(hS.wrc _ _ (by decide) (by decide)).wrc _ _ (by decide) (by decide), ?_⟩ _
                unfold movM
                rw [if_neg (by omega), if_pos (by rw [hp9]; omega)]
                exact MDy.togo (MDy.togo hD b _) b _
              · exact absurd rfl h_97
            · exact absurd rfl h_87
          have yes : ¬ τ.1 (P + 3) p9 ≤ (cnt (atS τ nb p9).testBit 12 : Nat) → Ev RX8 cX8_minuteNow 3 3 68 (AnsVP (fun ν => MSame μ ν ∧ MDy ν (pmM σ P nb nl) nr nb nl)) 81 [some (.ref 79), some (.int (iI (b : Nat))), some (.int (iI 1))] [] (wr ν 101 (b : Int) (τ.1 41 (b : Int) - 1)) := by
            intro h_72
            refine ev_w (fun hR => ?_)
            refine ev_aload_n dX8_minuteNow_81 rfl ?_
            refine ev_getR (r := 101) dX8_minuteNow_82 fl_X8_74 rfl rfl rfl ?_
            refine ev_iload_n dX8_minuteNow_85 rfl ?_
            refine ev_iload_n dX8_minuteNow_86 rfl ?_
            refine ev_if_eq (tgt := 94) dX8_minuteNow_87 (by decide) (by first | exact hR.1 _ _ | exact hR0.1 _ _ | assumption | exact ⟨by omega, by omega⟩ | exact ⟨by simp [wr_at]; omega, by simp [wr_at]; omega⟩ | exact b2_R _ | exact bC_R _ | exact band_R _ _ | exact bor_R _ _ | exact bshl_R _ _ | exact bshr_R _ _ | exact bxor_R _ _ | exact bs_R (by omega) | decide) (fun h_87 => ?_) (fun h_87 => ?_)
            · exact absurd h_87 (by decide)
            · refine ev_iconst dX8_minuteNow_90 ?_
              refine ev_goto (tgt := 95) dX8_minuteNow_91 (by decide) ?_
              refine ev_iastore dX8_minuteNow_95 rfl (by first | omega | (simp [wr_at]; omega) | (simp [wr_at, *]; omega)) (by first | omega | (simp [wr_at]; omega) | (simp [wr_at, *]; omega)) (by decide) (by first | exact hR.1 _ _ | exact hR0.1 _ _ | assumption | exact ⟨by omega, by omega⟩ | exact ⟨by simp [wr_at]; omega, by simp [wr_at]; omega⟩ | exact b2_R _ | exact bC_R _ | exact band_R _ _ | exact bor_R _ _ | exact bshl_R _ _ | exact bshr_R _ _ | exact bxor_R _ _ | exact bs_R (by omega) | decide) ?_
              refine ev_w (fun hR => ?_)
              refine ev_iload_n dX8_minuteNow_96 rfl ?_
              refine ev_if_eq (tgt := 105) dX8_minuteNow_97 (by decide) (by first | exact hR.1 _ _ | exact hR0.1 _ _ | assumption | exact ⟨by omega, by omega⟩ | exact ⟨by simp [wr_at]; omega, by simp [wr_at]; omega⟩ | exact b2_R _ | exact bC_R _ | exact band_R _ _ | exact bor_R _ _ | exact bshl_R _ _ | exact bshr_R _ _ | exact bxor_R _ _ | exact bs_R (by omega) | decide) (fun h_97 => ?_) (fun h_97 => ?_)
              · exact absurd h_97 (by decide)
              · refine ev_aload_n dX8_minuteNow_100 rfl ?_
                refine ev_iload_n dX8_minuteNow_101 rfl ?_
                have hz1 : τ.1 41 (b : Int) - 1 = 0 := by omega
                have hA9 := m_arrive (wr (wr ν 101 (b : Int) (τ.1 41 (b : Int) - 1)) 101 (b : Int) 0) (wr τ 41 (b : Int) (τ.1 41 (b : Int) - 1)) P n nr nb nl w1 dv1 b r9 f t
                  (hPO2.same (S := fun c => c = 41) (Same.rf.wr rfl) (fun k hk => by omega))
                  (((hMo.2.2.1.same ((MSame.rf.wrc _ _ (by decide) (by decide)).wrc _ _ (by decide) (by decide)))).to (fun k hk => by funext z; rw [wr_nec _ (by omega)]))
                  (by have := MDy.togo (MDy.togo hD b (τ.1 41 (b : Int) - 1)) b 0
                      rw [hz1, wr_idem] at this
                      rw [hz1]
                      rw [wr_idem] at this ⊢
                      exact this)
                  hbn (by omega) (by rw [wr_nec _ (by decide)]; exact hr9) (by rw [wr_nec _ (by decide)]; exact hbb.1) (by rw [wr_nec _ (by decide)]; exact hD1.2.2.2.1.1) (by rw [wr_nec _ (by decide)]; exact hD1.2.2.2.2.2.1.1) (by rw [wr_nec _ (by decide)]; exact hd2.1) (by rw [wr_nec _ (by decide)]; have := cnt_le dv1.testBit 12; omega) (by rw [wr_nec _ (by decide)]; exact (hdr r9 (by omega)).1) (by rw [wr_nec _ (by decide)]; exact (hdr r9 (by omega)).2.1)
                rw [show r9 = (τ.1 40 (b : Int)).toNat by omega] at hA9
                refine ev_callVP dX8_minuteNow_102 kv_X8_364 (hA9) rfl rfl (ci := 8) rfl rfl ⟨by decide, by decide⟩ (Nat.le_of_ble_eq_true rfl) ?_
                rintro v_102 τ_102 ⟨rfl, hq_102⟩
                refine ev_w (fun hR => ?_)
                refine ev_iinc dX8_minuteNow_105 rfl rfl (by decide) rfl ?_
                refine ev_goto (tgt := 12) dX8_minuteNow_108 (by decide) ?_
                refine ih (by omega) _ ⟨(hS.wrc _ _ (by decide) (by decide)).wrc _ _ (by decide) (by decide) |>.tr hq_102.1, ?_⟩ _
                unfold movM
                rw [if_neg (by omega), if_neg (by rw [hp9]; omega)]
                exact hq_102.2
          refine ev_aload_n dX8_minuteNow_48 rfl ?_
          refine ev_aload_n dX8_minuteNow_49 rfl ?_
          refine ev_getR (r := 100) dX8_minuteNow_50 fl_X8_71 rfl rfl rfl ?_
          refine ev_iload_n dX8_minuteNow_53 rfl ?_
          refine ev_iaload dX8_minuteNow_54 rfl (by first | omega | (simp [wr_at]; omega) | (simp [wr_at, *]; omega)) (by first | omega | (simp [wr_at]; omega) | (simp [wr_at, *]; omega)) (by decide) ?_
          rw [e100]
          refine ev_callVI dX8_minuteNow_55 kv_X8_317 (m_boysAt _ nb (by rw [wr_nec _ (by decide)]; exact hcb) hnb4 p9 ⟨by omega, by omega⟩) rfl rfl (ci := 8) rfl rfl ⟨by decide, by decide⟩ (Nat.le_of_ble_eq_true rfl) ?_
          refine ev_w (fun hR => ?_)
          rw [eat]
          refine ev_callSI dX8_minuteNow_58 ks_X8_361 (m_bits _ (atS τ nb p9) (by omega)) rfl rfl ⟨by decide, by decide⟩ (Nat.le_of_ble_eq_true rfl) ?_
          refine ev_w (fun hR => ?_)
          refine ev_aload_n dX8_minuteNow_61 rfl ?_
          refine ev_getR (r := 82) dX8_minuteNow_62 fl_X8_16 rfl rfl rfl ?_
          refine ev_aload_n dX8_minuteNow_65 rfl ?_
          refine ev_getR (r := 100) dX8_minuteNow_66 fl_X8_71 rfl rfl rfl ?_
          refine ev_iload_n dX8_minuteNow_69 rfl ?_
          refine ev_iaload dX8_minuteNow_70 rfl (by first | omega | (simp [wr_at]; omega) | (simp [wr_at, *]; omega)) (by first | omega | (simp [wr_at]; omega) | (simp [wr_at, *]; omega)) (by decide) ?_
          rw [e100]
          refine ev_iaload dX8_minuteNow_71 rfl (by first | omega | (rw [e100]; omega)) (by first | omega | (rw [e100]; omega)) (by decide) ?_
          rw [h82]
          refine ev_icmp_ge (tgt := 79) dX8_minuteNow_72 (by decide) (by first | exact hR.1 _ _ | exact hR0.1 _ _ | assumption | exact ⟨by omega, by omega⟩ | exact ⟨by simp [wr_at]; omega, by simp [wr_at]; omega⟩ | exact b2_R _ | exact bC_R _ | exact band_R _ _ | exact bor_R _ _ | exact bshl_R _ _ | exact bshr_R _ _ | exact bxor_R _ _ | exact bs_R (by omega) | decide) (by first | exact hR.1 _ _ | exact hR0.1 _ _ | assumption | exact ⟨by omega, by omega⟩ | exact ⟨by simp [wr_at]; omega, by simp [wr_at]; omega⟩ | exact b2_R _ | exact bC_R _ | exact band_R _ _ | exact bor_R _ _ | exact bshl_R _ _ | exact bshr_R _ _ | exact bxor_R _ _ | exact bs_R (by omega) | decide) (fun h_72 => ?_) (fun h_72 => ?_)
          · refine ev_iconst dX8_minuteNow_79 ?_
            refine ev_istore_n dX8_minuteNow_80 rfl (by decide) rfl ?_
            first
              | exact no h_72
              | exact yes h_72
          · refine ev_iconst dX8_minuteNow_75 ?_
            refine ev_goto (tgt := 80) dX8_minuteNow_76 (by decide) ?_
            refine ev_istore_n dX8_minuteNow_80 rfl (by decide) rfl ?_
            first
              | exact no h_72
              | exact yes h_72
  refine ev_aload_n dX8_minuteNow_0 rfl ?_
  refine ev_dup dX8_minuteNow_1 rfl ?_
  refine ev_getI (kz := 29) dX8_minuteNow_2 fl_X8_193 rfl rfl rfl ?_
  refine ev_iconst dX8_minuteNow_5 ?_
  refine ev_iadd dX8_minuteNow_6 ?_
  refine ev_putI (kz := 29) dX8_minuteNow_7 fp_X8_193 rfl rfl rfl (by rw [dmi]; exact ⟨by omega, by omega⟩) ?_
  refine ev_w (fun hR => ?_)
  refine ev_iconst dX8_minuteNow_10 ?_
  refine ev_istore_n dX8_minuteNow_11 rfl (by decide) rfl ?_
  have hD0 := MDy.tick hM.2.2.2
  exact loop 0 (by omega) _ ⟨MSame.rf.wf _ (by decide), hD0⟩ _
theorem m_pass (μ σ : Mem) (P n nr nb nl mb w wt dv : Nat) (f t : Nat → Nat) (hM : MOk μ σ P n nr nb nl mb w wt dv f t) (hmb : mb ≤ 900000) (x : Int) (hx : inR x) : Con yX8_pass cX8_pass 3 (some .int) 4 90 [.ref 79, .int (iI x)] μ (fun v ν => if ¬ (1 ≤ x ∧ x ≤ 99) then AnsI (-1000000002) μ v ν else AnsIP ((passM σ P nb nl x.toNat).1 37 5) (fun ν => MSame μ ν ∧ MDy ν (passM σ P nb nl x.toNat) nr nb nl) v ν) := by
  refine con_of (by decide) rfl (Nat.le_of_ble_eq_true rfl) ((fun v τ h => by repeat (first | exact ok_I rfl v τ h | exact ok_IP rfl v τ h | split at h))) ?_
  refine ev_w (fun hR => ?_)
  have hR0 := hR
  obtain ⟨hPO, hDy, hMP, hMD⟩ := id hM
  obtain ⟨hPR, ⟨hnb, hnb4⟩, ⟨hnl, hnl4⟩, hpo, hro, hbo, hlo⟩ := id hPO
  obtain ⟨hP, hn, hn8, hnr, hnr12, hft⟩ := id hPR
  obtain ⟨⟨cn, cr, cb, cl⟩, mp, mr, mbo, ml⟩ := id hMP
  obtain ⟨⟨dmi, dha, dri, dse⟩, dr, db, dl, dri2⟩ := id hMD
  obtain ⟨k1, k2, k3, k4, k5, k6, k7, k8, k9, k10, k11⟩ := id hDy
  have hww := hDy.w
  have hnP : ∀ k, k ≤ 16 → ¬ sN (P + k) := fun k hk => by unfold sN; omega
  have hpm := passM_ok hPO hDy
  have loop : ∀ X : Nat, x = X → (1 ≤ x ∧ x ≤ 99) → ∀ k : Nat, k ≤ X → ∀ ν, MSame μ ν ∧ MDy ν (passM σ P nb nl k) nr nb nl → Ev RX8 cX8_pass 3 4 90 (fun v ν => if ¬ (1 ≤ x ∧ x ≤ 99) then AnsI (-1000000002) μ v ν else AnsIP ((passM σ P nb nl x.toNat).1 37 5) (fun ν => MSame μ ν ∧ MDy ν (passM σ P nb nl x.toNat) nr nb nl) v ν) 17 [some (.ref 79), some (.int (iI x)), some (.int (iI (k : Nat)))] [] ν := by
    intro X hX hx9
    refine for_up X (fun k hk ih => ?_)
    intro ν hν
    obtain ⟨hS, hD⟩ := hν
    refine ev_w (fun hR => ?_)
    obtain ⟨⟨w1, dv1, hD1⟩, hst⟩ := hpm k
    have hPO2 := hPO.same hst hnP
    have hMo : MOk ν (passM σ P nb nl k) P n nr nb nl (mb + k) w1 wt dv1 f t := MOk.mk2 hMP hS hPO2 hD1 (fun k hk => hst.1 _ (hnP k hk)) hD
    refine ev_iload_n dX8_pass_17 rfl ?_
    refine ev_iload_n dX8_pass_18 rfl ?_
    refine ev_icmp_ge (tgt := 32) dX8_pass_19 (by decide) (by first | exact hR.1 _ _ | exact hR0.1 _ _ | assumption | exact ⟨by omega, by omega⟩ | exact ⟨by simp [wr_at]; omega, by simp [wr_at]; omega⟩ | exact b2_R _ | exact bC_R _ | exact band_R _ _ | exact bor_R _ _ | exact bshl_R _ _ | exact bshr_R _ _ | exact bxor_R _ _ | exact bs_R (by omega) | decide) (by first | exact hR.1 _ _ | exact hR0.1 _ _ | assumption | exact ⟨by omega, by omega⟩ | exact ⟨by simp [wr_at]; omega, by simp [wr_at]; omega⟩ | exact b2_R _ | exact bC_R _ | exact band_R _ _ | exact bor_R _ _ | exact bshl_R _ _ | exact bshr_R _ _ | exact bxor_R _ _ | exact bs_R (by omega) | decide) (fun h_19 => ?_) (fun h_19 => ?_)
    · refine ev_aload_n dX8_pass_32 rfl ?_
      refine ev_callVI dX8_pass_33 kv_X8_306 (m_doneSet ν nl hMo.2.2.1.1.2.2.2 hnl4) rfl rfl (ci := 8) rfl rfl ⟨by decide, by decide⟩ (Nat.le_of_ble_eq_true rfl) ?_
      refine ev_w (fun hR => ?_)
      rw [hMo.don]
      refine ev_ireturn dX8_pass_36 ?_
      rw [if_neg (fun y => y hx9)]
      have ek : x.toNat = k := by omega
      rw [ek, hD1.2.2.2.2.2.1.1]
      exact ⟨rfl, hS, hD⟩
    · refine ev_aload_n dX8_pass_22 rfl ?_
      refine ev_callVP dX8_pass_23 kv_X8_370 (m_minuteNow ν _ P n nr nb nl _ _ _ _ f t hMo (by omega)) rfl rfl (ci := 8) rfl rfl ⟨by decide, by decide⟩ (Nat.le_of_ble_eq_true rfl) ?_
      rintro v_23 τ_23 ⟨rfl, hq_23⟩
      refine ev_w (fun hR => ?_)
      refine ev_iinc dX8_pass_26 rfl rfl (by decide) rfl ?_
      refine ev_goto (tgt := 17) dX8_pass_29 (by decide) ?_
      exact ih (by omega) _ ⟨hS.tr hq_23.1, hq_23.2⟩
  refine ev_iload_n dX8_pass_0 rfl ?_
  refine ev_i2l dX8_pass_1 hx ?_
  refine ev_lconst (z := 1) dX8_pass_2 (by decide) ?_
  refine ev_ldc2 (z := 99) dX8_pass_3 kl_X8_368 (by decide) ?_
  refine ev_callSI dX8_pass_6 ks_X8_180 (m_in μ x 1 99 ⟨by omega, by omega⟩ (by decide) (by decide)) rfl rfl ⟨by decide, by decide⟩ (Nat.le_of_ble_eq_true rfl) ?_
  refine ev_w (fun hR => ?_)
  refine ev_if_ne (tgt := 15) dX8_pass_9 (by decide) (by first | exact hR.1 _ _ | exact hR0.1 _ _ | assumption | exact ⟨by omega, by omega⟩ | exact ⟨by simp [wr_at]; omega, by simp [wr_at]; omega⟩ | exact b2_R _ | exact bC_R _ | exact band_R _ _ | exact bor_R _ _ | exact bshl_R _ _ | exact bshr_R _ _ | exact bxor_R _ _ | exact bs_R (by omega) | decide) (fun h_9 => ?_) (fun h_9 => ?_)
  · refine ev_iconst dX8_pass_15 ?_
    refine ev_istore_n dX8_pass_16 rfl (by decide) rfl ?_
    have q := b2_ne h_9
    obtain ⟨X, rfl⟩ := Int.eq_ofNat_of_zero_le (show 0 ≤ x by omega)
    exact loop X rfl q 0 (by omega) _ ⟨MSame.rf, hM.2.2.2⟩
  · refine ev_ldc (z := -1000000002) dX8_pass_12 kc_X8_204 (by decide) ?_
    refine ev_ireturn dX8_pass_14 ?_
    rw [if_pos (b2_eq (by omega : b2 (1 ≤ x ∧ x ≤ 99) = 0))]
    exact ⟨rfl, rfl⟩
