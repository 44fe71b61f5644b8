def s123 (c : Nat) : Prop := c = 123
theorem MRp.rch {μ ν σ : Mem} {P n nr nb nl w wt : Nat} {f t : Nat → Nat} (h : MRp μ σ P n nr nb nl w wt f t) (hs : Same s123 μ ν) : MRp ν σ P n nr nb nl w wt f t := h.to (fun k _ => hs.at (by unfold s123; decide) k) (fun c h1 h2 _ => hs.1 c (by unfold s123; omega))
theorem m_farOf (μ σ : Mem) (P n nr nb nl w wt : Nat) (f t : Nat → Nat) (hM : MRp μ σ P n nr nb nl w wt f t) (b p q : Nat) (hb : b < nb) (hp : p < n) (hq : q < n) (dry : Int) (hdr : dry = 0 ∨ dry = 1) : Con yX8_farOf cX8_farOf 5 (some .int) 4 98 [.ref 79, .int (iI b), .int (iI p), .int (iI q), .int (iI dry)] μ (AnsIP (orN (dst σ P n nr nl w wt f t b 0 dry p q)) (fun ν => Same s123 μ ν)) := by
  refine con_of (by decide) rfl (Nat.le_of_ble_eq_true rfl) (ok_IP rfl) ?_
  refine ev_w (fun hR => ?_)
  have hR0 := hR
  obtain ⟨hPO, hMP, hwc⟩ := id hM
  obtain ⟨hPR, ⟨hnb, hnb4⟩, ⟨hnl, hnl4⟩, hpo, hro, hbo, hlo⟩ := id hPO
  obtain ⟨hP, hn, hn8, hnr, hnr12, hft⟩ := id hPR
  obtain ⟨⟨cn, cr, cb, cl⟩, mp, mr, mbo, ml⟩ := id hMP
  have hD := (dst_dist (w := w) (wt := wt) (s := 0) (dry := dry) hPO hb).1 p q hp hq
  refine ev_aload_n dX8_farOf_0 rfl ?_
  refine ev_iload_n dX8_farOf_1 rfl ?_
  refine ev_iload_n dX8_farOf_2 rfl ?_
  refine ev_iload dX8_farOf_3 rfl ?_
  refine ev_callVP dX8_farOf_5 kv_X8_389 (m_findReach μ σ P n nr nb nl w wt f t hM b p hb hp dry hdr) rfl rfl (ci := 8) rfl rfl ⟨by decide, by decide⟩ (Nat.le_of_ble_eq_true rfl) ?_
  rintro v_5 τ_5 ⟨rfl, hq_5⟩
  refine ev_w (fun hR => ?_)
  refine ev_aload_n dX8_farOf_8 rfl ?_
  refine ev_getR (r := 123) dX8_farOf_9 fl_X8_144 rfl rfl rfl ?_
  refine ev_iload_n dX8_farOf_12 rfl ?_
  refine ev_iaload dX8_farOf_13 rfl (by first | omega | (simp [wr_at]; omega) | (simp [wr_at, *]; omega)) (by first | omega | (simp [wr_at]; omega) | (simp [wr_at, *]; omega)) (by decide) ?_
  rw [hq_5.2 q hq]
  refine ev_ldcw (z := 1000000) dX8_farOf_14 kc_X8_388 (by decide) ?_
  refine ev_icmp_lt (tgt := 24) dX8_farOf_17 (by decide) (by first | exact hR.1 _ _ | exact hR0.1 _ _ | assumption | exact ⟨by omega, by omega⟩ | exact ⟨by simp [wr_at]; omega, by simp [wr_at]; omega⟩ | exact b2_R _ | exact bC_R _ | exact band_R _ _ | exact bor_R _ _ | exact bshl_R _ _ | exact bshr_R _ _ | exact bxor_R _ _ | exact bs_R (by omega) | decide) (by first | exact hR.1 _ _ | exact hR0.1 _ _ | assumption | exact ⟨by omega, by omega⟩ | exact ⟨by simp [wr_at]; omega, by simp [wr_at]; omega⟩ | exact b2_R _ | exact bC_R _ | exact band_R _ _ | exact bor_R _ _ | exact bshl_R _ _ | exact bshr_R _ _ | exact bxor_R _ _ | exact bs_R (by omega) | decide) (fun h_17 => ?_) (fun h_17 => ?_)
  · refine ev_aload_n dX8_farOf_24 rfl ?_
    refine ev_getR (r := 123) dX8_farOf_25 fl_X8_144 rfl rfl rfl ?_
    refine ev_iload_n dX8_farOf_28 rfl ?_
    refine ev_iaload dX8_farOf_29 rfl (by first | omega | (simp [wr_at]; omega) | (simp [wr_at, *]; omega)) (by first | omega | (simp [wr_at]; omega) | (simp [wr_at, *]; omega)) (by decide) ?_
    try rw [hq_5.2 q hq]
    refine ev_ireturn dX8_farOf_30 ?_
    unfold orN
    first
      | (rw [if_pos (by omega)]; exact ⟨rfl, hq_5.1⟩)
      | (rw [if_neg (by omega)]; exact ⟨rfl, hq_5.1⟩)
  · refine ev_iconst dX8_farOf_20 ?_
    refine ev_goto (tgt := 30) dX8_farOf_21 (by decide) ?_
    try rw [hq_5.2 q hq]
    refine ev_ireturn dX8_farOf_30 ?_
    unfold orN
    first
      | (rw [if_pos (by omega)]; exact ⟨rfl, hq_5.1⟩)
      | (rw [if_neg (by omega)]; exact ⟨rfl, hq_5.1⟩)
theorem m_far (μ σ : Mem) (P n nr nb nl w wt : Nat) (f t : Nat → Nat) (hM : MRp μ σ P n nr nb nl w wt f t) (b p q : Int) (hb : inR b) (hp : inR p) (hq : inR q) : Con yX8_far cX8_far 4 (some .int) 5 122 [.ref 79, .int (iI b), .int (iI p), .int (iI q)] μ (AnsIP (farZ n nb (fun b => dst σ P n nr nl w wt f t b 0 0) b p q) (fun ν => Same s123 μ ν)) := by
  refine con_of (by decide) rfl (Nat.le_of_ble_eq_true rfl) (ok_IP rfl) ?_
  refine ev_w (fun hR => ?_)
  have hR0 := hR
  obtain ⟨hPO, hMP, hwc⟩ := id hM
  obtain ⟨hPR, ⟨hnb, hnb4⟩, ⟨hnl, hnl4⟩, hpo, hro, hbo, hlo⟩ := id hPO
  obtain ⟨hP, hn, hn8, hnr, hnr12, hft⟩ := id hPR
  obtain ⟨⟨cn, cr, cb, cl⟩, mp, mr, mbo, ml⟩ := id hMP
  refine ev_aload_n dX8_far_0 rfl ?_
  refine ev_iload_n dX8_far_1 rfl ?_
  refine ev_callVI dX8_far_2 kv_X8_330 (m_isBoy μ b nb (by assumption) cb (by omega)) rfl rfl (ci := 8) rfl rfl ⟨by decide, by decide⟩ (Nat.le_of_ble_eq_true rfl) ?_
  refine ev_w (fun hR => ?_)
  refine ev_if_eq (tgt := 35) dX8_far_5 (by decide) (by first | exact hR.1 _ _ | exact hR0.1 _ _ | assumption | exact ⟨by omega, by omega⟩ | exact ⟨by simp [wr_at]; omega, by simp [wr_at]; omega⟩ | exact b2_R _ | exact bC_R _ | exact band_R _ _ | exact bor_R _ _ | exact bshl_R _ _ | exact bshr_R _ _ | exact bxor_R _ _ | exact bs_R (by omega) | decide) (fun h_5 => ?_) (fun h_5 => ?_)
  · refine ev_ldcw (z := -1000000001) dX8_far_35 kc_X8_316 (by decide) ?_
    refine ev_ireturn dX8_far_38 ?_
    first
      | (have z := b2_eq h_5; rw [farZ, if_pos (fun y => z y.1)]; exact ⟨rfl, Same.rf⟩)
      | (have z := b2_eq h_13; rw [farZ, if_pos (fun y => z y.2.1)]; exact ⟨rfl, Same.rf⟩)
      | (have z := b2_eq h_21; rw [farZ, if_pos (fun y => z y.2.2)]; exact ⟨rfl, Same.rf⟩)
      | (rw [farZ, if_neg (fun z => z ⟨q0, q1, q2⟩)]; exact ⟨rfl, hq_29⟩)
  · refine ev_aload_n dX8_far_8 rfl ?_
    refine ev_iload_n dX8_far_9 rfl ?_
    refine ev_callVI dX8_far_10 kv_X8_312 (m_isPole μ p n (by assumption) cn (by omega)) rfl rfl (ci := 8) rfl rfl ⟨by decide, by decide⟩ (Nat.le_of_ble_eq_true rfl) ?_
    refine ev_w (fun hR => ?_)
    refine ev_if_eq (tgt := 35) dX8_far_13 (by decide) (by first | exact hR.1 _ _ | exact hR0.1 _ _ | assumption | exact ⟨by omega, by omega⟩ | exact ⟨by simp [wr_at]; omega, by simp [wr_at]; omega⟩ | exact b2_R _ | exact bC_R _ | exact band_R _ _ | exact bor_R _ _ | exact bshl_R _ _ | exact bshr_R _ _ | exact bxor_R _ _ | exact bs_R (by omega) | decide) (fun h_13 => ?_) (fun h_13 => ?_)
    · refine ev_ldcw (z := -1000000001) dX8_far_35 kc_X8_316 (by decide) ?_
      refine ev_ireturn dX8_far_38 ?_
      first
        | (have z := b2_eq h_5; rw [farZ, if_pos (fun y => z y.1)]; exact ⟨rfl, Same.rf⟩)
        | (have z := b2_eq h_13; rw [farZ, if_pos (fun y => z y.2.1)]; exact ⟨rfl, Same.rf⟩)
        | (have z := b2_eq h_21; rw [farZ, if_pos (fun y => z y.2.2)]; exact ⟨rfl, Same.rf⟩)
        | (rw [farZ, if_neg (fun z => z ⟨q0, q1, q2⟩)]; exact ⟨rfl, hq_29⟩)
    · refine ev_aload_n dX8_far_16 rfl ?_
      refine ev_iload_n dX8_far_17 rfl ?_
      refine ev_callVI dX8_far_18 kv_X8_312 (m_isPole μ q n (by assumption) cn (by omega)) rfl rfl (ci := 8) rfl rfl ⟨by decide, by decide⟩ (Nat.le_of_ble_eq_true rfl) ?_
      refine ev_w (fun hR => ?_)
      refine ev_if_eq (tgt := 35) dX8_far_21 (by decide) (by first | exact hR.1 _ _ | exact hR0.1 _ _ | assumption | exact ⟨by omega, by omega⟩ | exact ⟨by simp [wr_at]; omega, by simp [wr_at]; omega⟩ | exact b2_R _ | exact bC_R _ | exact band_R _ _ | exact bor_R _ _ | exact bshl_R _ _ | exact bshr_R _ _ | exact bxor_R _ _ | exact bs_R (by omega) | decide) (fun h_21 => ?_) (fun h_21 => ?_)
      · refine ev_ldcw (z := -1000000001) dX8_far_35 kc_X8_316 (by decide) ?_
        refine ev_ireturn dX8_far_38 ?_
        first
          | (have z := b2_eq h_5; rw [farZ, if_pos (fun y => z y.1)]; exact ⟨rfl, Same.rf⟩)
          | (have z := b2_eq h_13; rw [farZ, if_pos (fun y => z y.2.1)]; exact ⟨rfl, Same.rf⟩)
          | (have z := b2_eq h_21; rw [farZ, if_pos (fun y => z y.2.2)]; exact ⟨rfl, Same.rf⟩)
          | (rw [farZ, if_neg (fun z => z ⟨q0, q1, q2⟩)]; exact ⟨rfl, hq_29⟩)
      · have q0 := b2_ne h_5
        have q1 := b2_ne h_13
        have q2 := b2_ne h_21
        obtain ⟨b, rfl⟩ := Int.eq_ofNat_of_zero_le q0.1
        obtain ⟨p, rfl⟩ := Int.eq_ofNat_of_zero_le q1.1
        obtain ⟨q, rfl⟩ := Int.eq_ofNat_of_zero_le q2.1
        refine ev_aload_n dX8_far_24 rfl ?_
        refine ev_iload_n dX8_far_25 rfl ?_
        refine ev_iload_n dX8_far_26 rfl ?_
        refine ev_iload_n dX8_far_27 rfl ?_
        refine ev_iconst dX8_far_28 ?_
        refine ev_callVP dX8_far_29 kv_X8_393 (m_farOf μ σ P n nr nb nl w wt f t hM b p q (by omega) (by omega) (by omega) 0 (Or.inl rfl)) rfl rfl (ci := 8) rfl rfl ⟨by decide, by decide⟩ (Nat.le_of_ble_eq_true rfl) ?_
        rintro v_29 τ_29 ⟨rfl, hq_29⟩
        refine ev_w (fun hR => ?_)
        refine ev_goto (tgt := 38) dX8_far_32 (by decide) ?_
        refine ev_ireturn dX8_far_38 ?_
        first
          | (have z := b2_eq h_5; rw [farZ, if_pos (fun y => z y.1)]; exact ⟨rfl, Same.rf⟩)
          | (have z := b2_eq h_13; rw [farZ, if_pos (fun y => z y.2.1)]; exact ⟨rfl, Same.rf⟩)
          | (have z := b2_eq h_21; rw [farZ, if_pos (fun y => z y.2.2)]; exact ⟨rfl, Same.rf⟩)
          | (rw [farZ, if_neg (fun z => z ⟨q0, q1, q2⟩)]; exact ⟨rfl, hq_29⟩)
set_option maxHeartbeats 2000000 in
theorem m_pays (μ σ : Mem) (P n nr nb nl mb w wt dv : Nat) (f t : Nat → Nat) (hMO : MOk μ σ P n nr nb nl mb w wt dv f t) (l b p q wd c : Int) (hl : inR l) (hb : inR b) (hp : inR p) (hq : inR q) (hwd : inR wd) (hc : inR c) : Con yX8_pays cX8_pays 9 (some .int) 5 122 [.ref 79, .int (iI l), .int (iI b), .int (iI p), .int (iI q), .int (iI wd), .int (iI c)] μ (AnsIP (paysZ n nb nl (apartZ σ (P + 1) (P + 2)) (fun b => dst σ P n nr nl w wt f t b 0 0) (σ.1 (P + 15)) l b p q wd c) (fun ν => Same s123 μ ν)) := by
  refine con_of (by decide) rfl (Nat.le_of_ble_eq_true rfl) (ok_IP rfl) ?_
  refine ev_w (fun hR => ?_)
  have hR0 := hR
  have hM := hMO.rp
  obtain ⟨hPO, hMP, hwc⟩ := id hM
  obtain ⟨hPR, ⟨hnb, hnb4⟩, ⟨hnl, hnl4⟩, hpo, hro, hbo, hlo⟩ := id hPO
  obtain ⟨hP, hn, hn8, hnr, hnr12, hft⟩ := id hPR
  obtain ⟨⟨cn, cr, cb, cl⟩, mp, mr, mbo, ml⟩ := id hMP
  refine ev_aload_n dX8_pays_0 rfl ?_
  refine ev_iload_n dX8_pays_1 rfl ?_
  refine ev_callVI dX8_pays_2 kv_X8_336 (m_isLoad μ l nl (by assumption) cl (by omega)) rfl rfl (ci := 8) rfl rfl ⟨by decide, by decide⟩ (Nat.le_of_ble_eq_true rfl) ?_
  refine ev_w (fun hR => ?_)
  refine ev_if_eq (tgt := 26) dX8_pays_5 (by decide) (by first | exact hR.1 _ _ | exact hR0.1 _ _ | assumption | exact ⟨by omega, by omega⟩ | exact ⟨by simp [wr_at]; omega, by simp [wr_at]; omega⟩ | exact b2_R _ | exact bC_R _ | exact band_R _ _ | exact bor_R _ _ | exact bshl_R _ _ | exact bshr_R _ _ | exact bxor_R _ _ | exact bs_R (by omega) | decide) (fun h_5 => ?_) (fun h_5 => ?_)
  · refine ev_ldcw (z := -1000000001) dX8_pays_26 kc_X8_316 (by decide) ?_
    refine ev_ireturn dX8_pays_29 ?_
    first
      | (have z := b2_eq h_5; rw [paysZ, if_pos (fun y => z y.1)]; exact ⟨rfl, Same.rf⟩)
      | (have z := b2_eq h_13; rw [paysZ, if_pos (fun y => z y.2.1)]; exact ⟨rfl, Same.rf⟩)
      | (have z := b2_eq (by omega : b2 ((0 ≤ p ∧ p < (n : Int)) ∧ (0 ≤ q ∧ q < (n : Int)) ∧ p ≠ q) = 0); rw [paysZ, if_pos (fun y => z y.2.2)]; exact ⟨rfl, Same.rf⟩)
  · refine ev_aload_n dX8_pays_8 rfl ?_
    refine ev_iload_n dX8_pays_9 rfl ?_
    refine ev_callVI dX8_pays_10 kv_X8_330 (m_isBoy μ b nb (by assumption) cb (by omega)) rfl rfl (ci := 8) rfl rfl ⟨by decide, by decide⟩ (Nat.le_of_ble_eq_true rfl) ?_
    refine ev_w (fun hR => ?_)
    refine ev_if_eq (tgt := 26) dX8_pays_13 (by decide) (by first | exact hR.1 _ _ | exact hR0.1 _ _ | assumption | exact ⟨by omega, by omega⟩ | exact ⟨by simp [wr_at]; omega, by simp [wr_at]; omega⟩ | exact b2_R _ | exact bC_R _ | exact band_R _ _ | exact bor_R _ _ | exact bshl_R _ _ | exact bshr_R _ _ | exact bxor_R _ _ | exact bs_R (by omega) | decide) (fun h_13 => ?_) (fun h_13 => ?_)
    · refine ev_ldcw (z := -1000000001) dX8_pays_26 kc_X8_316 (by decide) ?_
      refine ev_ireturn dX8_pays_29 ?_
      first
        | (have z := b2_eq h_5; rw [paysZ, if_pos (fun y => z y.1)]; exact ⟨rfl, Same.rf⟩)
        | (have z := b2_eq h_13; rw [paysZ, if_pos (fun y => z y.2.1)]; exact ⟨rfl, Same.rf⟩)
        | (have z := b2_eq (by omega : b2 ((0 ≤ p ∧ p < (n : Int)) ∧ (0 ≤ q ∧ q < (n : Int)) ∧ p ≠ q) = 0); rw [paysZ, if_pos (fun y => z y.2.2)]; exact ⟨rfl, Same.rf⟩)
    · refine ev_aload_n dX8_pays_16 rfl ?_
      refine ev_iload_n dX8_pays_17 rfl ?_
      refine ev_iload dX8_pays_18 rfl ?_
      refine ev_callVI dX8_pays_20 kv_X8_447 (m_areTwo μ σ P n nr nb nl mb w wt dv f t hMO p q hp hq) rfl rfl (ci := 8) rfl rfl ⟨by decide, by decide⟩ (Nat.le_of_ble_eq_true rfl) ?_
      refine ev_w (fun hR => ?_)
      refine ev_if_ne (tgt := 30) dX8_pays_23 (by decide) (by first | exact hR.1 _ _ | exact hR0.1 _ _ | assumption | exact ⟨by omega, by omega⟩ | exact ⟨by simp [wr_at]; omega, by simp [wr_at]; omega⟩ | exact b2_R _ | exact bC_R _ | exact band_R _ _ | exact bor_R _ _ | exact bshl_R _ _ | exact bshr_R _ _ | exact bxor_R _ _ | exact bs_R (by omega) | decide) (fun h_23 => ?_) (fun h_23 => ?_)
      · have q0 := b2_ne h_5
        have q1 := b2_ne h_13
        have q2 := b2_ne h_23
        have hif : ¬ ¬ ((0 ≤ l ∧ l < (nl : Int)) ∧ (0 ≤ b ∧ b < (nb : Int)) ∧ (0 ≤ p ∧ p < (n : Int)) ∧ (0 ≤ q ∧ q < (n : Int)) ∧ p ≠ q) := fun y => y ⟨q0, q1, q2⟩
        refine ev_iload dX8_pays_30 rfl ?_
        refine ev_i2l dX8_pays_32 hwd ?_
        refine ev_lconst (z := 0) dX8_pays_33 (by decide) ?_
        refine ev_ldc2 (z := 99) dX8_pays_34 kl_X8_368 (by decide) ?_
        refine ev_callSI dX8_pays_37 ks_X8_180 (m_in μ wd 0 99 ⟨by omega, by omega⟩ (by decide) (by decide)) rfl rfl ⟨by decide, by decide⟩ (Nat.le_of_ble_eq_true rfl) ?_
        refine ev_w (fun hR => ?_)
        refine ev_if_eq (tgt := 56) dX8_pays_40 (by decide) (by first | exact hR.1 _ _ | exact hR0.1 _ _ | assumption | exact ⟨by omega, by omega⟩ | exact ⟨by simp [wr_at]; omega, by simp [wr_at]; omega⟩ | exact b2_R _ | exact bC_R _ | exact band_R _ _ | exact bor_R _ _ | exact bshl_R _ _ | exact bshr_R _ _ | exact bxor_R _ _ | exact bs_R (by omega) | decide) (fun h_40 => ?_) (fun h_40 => ?_)
        · refine ev_ldc (z := -1000000002) dX8_pays_56 kc_X8_204 (by decide) ?_
          refine ev_ireturn dX8_pays_58 ?_
          first
            | (have z := b2_eq h_40; rw [paysZ, if_neg hif, if_pos (fun y => z y.1)]; exact ⟨rfl, Same.rf⟩)
            | (have z := b2_eq (by omega : b2 (0 ≤ c ∧ c ≤ 99) = 0); rw [paysZ, if_neg hif, if_pos (fun y => z y.2)]; exact ⟨rfl, Same.rf⟩)
        · refine ev_iload dX8_pays_43 rfl ?_
          refine ev_i2l dX8_pays_45 hc ?_
          refine ev_lconst (z := 0) dX8_pays_46 (by decide) ?_
          refine ev_ldc2 (z := 99) dX8_pays_47 kl_X8_368 (by decide) ?_
          refine ev_callSI dX8_pays_50 ks_X8_180 (m_in μ c 0 99 ⟨by omega, by omega⟩ (by decide) (by decide)) rfl rfl ⟨by decide, by decide⟩ (Nat.le_of_ble_eq_true rfl) ?_
          refine ev_w (fun hR => ?_)
          refine ev_if_ne (tgt := 59) dX8_pays_53 (by decide) (by first | exact hR.1 _ _ | exact hR0.1 _ _ | assumption | exact ⟨by omega, by omega⟩ | exact ⟨by simp [wr_at]; omega, by simp [wr_at]; omega⟩ | exact b2_R _ | exact bC_R _ | exact band_R _ _ | exact bor_R _ _ | exact bshl_R _ _ | exact bshr_R _ _ | exact bxor_R _ _ | exact bs_R (by omega) | decide) (fun h_53 => ?_) (fun h_53 => ?_)
          · have w0 := b2_ne h_40
            have w1 := b2_ne h_53
            have hif2 : ¬ ¬ ((0 ≤ wd ∧ wd ≤ 99) ∧ (0 ≤ c ∧ c ≤ 99)) := fun y => y ⟨w0, w1⟩
            obtain ⟨l, rfl⟩ := Int.eq_ofNat_of_zero_le q0.1
            obtain ⟨b, rfl⟩ := Int.eq_ofNat_of_zero_le q1.1
            obtain ⟨p, rfl⟩ := Int.eq_ofNat_of_zero_le q2.1.1
            obtain ⟨q, rfl⟩ := Int.eq_ofNat_of_zero_le q2.2.1.1
            have hbn : b < nb := by omega
            have hpn : p < n := by omega
            have hqn : q < n := by omega
            have hln : l < nl := by omega
            have hap := apart_R hPO hpn hqn
            have hD := (dst_dist (w := w) (wt := wt) (s := 0) (dry := 0) hPO hbn).1 p q hpn hqn
            have hwo := (hlo l hln).2.2.2.2.1
            refine ev_aload_n dX8_pays_59 rfl ?_
            refine ev_iload_n dX8_pays_60 rfl ?_
            refine ev_iload dX8_pays_61 rfl ?_
            refine ev_iload dX8_pays_63 rfl ?_
            refine ev_callVI dX8_pays_65 kv_X8_450 (m_oddsOf μ σ P n nr nb nl mb w wt dv f t hMO p q hpn hqn wd (by omega) (by omega)) rfl rfl (ci := 8) rfl rfl ⟨by decide, by decide⟩ (Nat.le_of_ble_eq_true rfl) ?_
            refine ev_w (fun hR => ?_)
            refine ev_istore dX8_pays_68 rfl (by decide) rfl ?_
            refine ev_aload_n dX8_pays_70 rfl ?_
            refine ev_iload_n dX8_pays_71 rfl ?_
            refine ev_iload_n dX8_pays_72 rfl ?_
            refine ev_iload dX8_pays_73 rfl ?_
            refine ev_iconst dX8_pays_75 ?_
            refine ev_callVP dX8_pays_76 kv_X8_393 (m_farOf μ σ P n nr nb nl w wt f t hM b p q hbn hpn hqn 0 (Or.inl rfl)) rfl rfl (ci := 8) rfl rfl ⟨by decide, by decide⟩ (Nat.le_of_ble_eq_true rfl) ?_
            rintro v_76 τ_76 ⟨rfl, hq_76⟩
            refine ev_w (fun hR => ?_)
            refine ev_istore dX8_pays_79 rfl (by decide) rfl ?_
            have hS9 := hq_76
            generalize hod : max 0 (100 - apartZ σ (P + 1) (P + 2) (p : Int) (q : Int) - wd) = od at *
            have hod2 : 0 ≤ od ∧ od ≤ 100 := by omega
            have hfz : orN (dst σ P n nr nl w wt f t b 0 0 p q) = -1 ∨ orN (dst σ P n nr nl w wt f t b 0 0 p q) = dst σ P n nr nl w wt f t b 0 0 p q := by
              unfold orN; split
              · exact Or.inl rfl
              · exact Or.inr rfl
            have hfz2 : ¬ dst σ P n nr nl w wt f t b 0 0 p q < 1000000 ↔ orN (dst σ P n nr nl w wt f t b 0 0 p q) = -1 := by
              unfold orN; split <;> omega
            have hgoal : paysZ n nb nl (apartZ σ (P + 1) (P + 2)) (fun b => dst σ P n nr nl w wt f t b 0 0) (σ.1 (P + 15)) l b p q wd c = if ¬ dst σ P n nr nl w wt f t b 0 0 p q < 1000000 then (if 0 < od then 1 else 0) else if (σ.1 (P + 15) l * (100 - od)).tdiv 100 < dst σ P n nr nl w wt f t b 0 0 p q * c then 1 else 0 := by
              unfold paysZ
              rw [if_neg hif, if_neg hif2]
              rw [hod]
              rfl
            rw [hgoal]
            generalize hd9 : dst σ P n nr nl w wt f t b 0 0 p q = d9 at *
            generalize ho9 : orN d9 = o9 at *
            refine ev_iload dX8_pays_81 rfl ?_
            refine ev_if_ge (tgt := 97) dX8_pays_83 (by decide) ⟨by omega, by omega⟩ (fun h_83 => ?_) (fun h_83 => ?_)
            · have hdd : o9 = d9 := by omega
              have h93 : (τ_76).1 93 (l : Int) = σ.1 (P + 15) l := by rw [hS9.at (by unfold s123; decide)]; exact (ml l hln).2.2.2.1
              have hp1 : 0 ≤ σ.1 (P + 15) l * (100 - od) ∧ σ.1 (P + 15) l * (100 - od) ≤ 99900 := by
                refine ⟨Int.mul_nonneg (by omega) (by omega), ?_⟩
                have := Int.mul_le_mul (show σ.1 (P + 15) l ≤ 999 by omega) (show 100 - od ≤ 100 by omega) (by omega) (by omega)
                omega
              have hp2 : 0 ≤ o9 * c ∧ o9 * c ≤ 99000000 := by
                refine ⟨Int.mul_nonneg (by omega) (by omega), ?_⟩
                have := Int.mul_le_mul (show o9 ≤ 1000000 by omega) (show c ≤ 99 by omega) (by omega) (by omega)
                omega
              have hp3 : 0 ≤ (σ.1 (P + 15) l * (100 - od)).tdiv 100 ∧ (σ.1 (P + 15) l * (100 - od)).tdiv 100 ≤ 99900 := ⟨Int.tdiv_nonneg hp1.1 (by decide), by have := Int.tdiv_le_self 100 hp1.1; omega⟩
              refine ev_aload_n dX8_pays_97 rfl ?_
              refine ev_getR (r := 93) dX8_pays_98 fl_X8_49 rfl rfl rfl ?_
              refine ev_iload_n dX8_pays_101 rfl ?_
              refine ev_iaload dX8_pays_102 rfl (by first | omega | (simp [wr_at]; omega) | (simp [wr_at, *]; omega)) (by first | omega | (simp [wr_at]; omega) | (simp [wr_at, *]; omega)) (by decide) ?_
              rw [h93]
              refine ev_bipush dX8_pays_103 (by decide) ?_
              refine ev_iload dX8_pays_105 rfl ?_
              refine ev_isub dX8_pays_107 ?_
              refine ev_imul dX8_pays_108 ?_
              refine ev_bipush dX8_pays_109 (by decide) ?_
              refine ev_idiv dX8_pays_111 ⟨by omega, by omega⟩ (by decide) (by omega) (by omega) ?_
              refine ev_iload dX8_pays_112 rfl ?_
              refine ev_iload dX8_pays_114 rfl ?_
              refine ev_imul dX8_pays_116 ?_
              refine ev_icmp_ge (tgt := 124) dX8_pays_117 (by decide) ⟨by omega, by omega⟩ ⟨by omega, by omega⟩ (fun h_117 => ?_) (fun h_117 => ?_)
              · refine ev_iconst dX8_pays_124 ?_
                refine ev_ireturn dX8_pays_125 ?_
                rw [if_neg (fun y => by have := hfz2.mp y; omega)]
                rw [hdd] at h_117
                first
                  | (rw [if_pos (by omega)]; exact ⟨rfl, hS9⟩)
                  | (rw [if_neg (by omega)]; exact ⟨rfl, hS9⟩)
              · refine ev_iconst dX8_pays_120 ?_
                refine ev_goto (tgt := 125) dX8_pays_121 (by decide) ?_
                refine ev_ireturn dX8_pays_125 ?_
                rw [if_neg (fun y => by have := hfz2.mp y; omega)]
                rw [hdd] at h_117
                first
                  | (rw [if_pos (by omega)]; exact ⟨rfl, hS9⟩)
                  | (rw [if_neg (by omega)]; exact ⟨rfl, hS9⟩)
            · refine ev_iload dX8_pays_86 rfl ?_
              refine ev_if_le (tgt := 95) dX8_pays_88 (by decide) ⟨by omega, by omega⟩ (fun h_88 => ?_) (fun h_88 => ?_)
              · refine ev_iconst dX8_pays_95 ?_
                refine ev_ireturn dX8_pays_96 ?_
                rw [if_pos (hfz2.mpr (by omega))]
                first
                  | (rw [if_pos (by omega)]; exact ⟨rfl, hS9⟩)
                  | (rw [if_neg (by omega)]; exact ⟨rfl, hS9⟩)
              · refine ev_iconst dX8_pays_91 ?_
                refine ev_goto (tgt := 96) dX8_pays_92 (by decide) ?_
                refine ev_ireturn dX8_pays_96 ?_
                rw [if_pos (hfz2.mpr (by omega))]
                first
                  | (rw [if_pos (by omega)]; exact ⟨rfl, hS9⟩)
                  | (rw [if_neg (by omega)]; exact ⟨rfl, hS9⟩)
          · refine ev_ldc (z := -1000000002) dX8_pays_56 kc_X8_204 (by decide) ?_
            refine ev_ireturn dX8_pays_58 ?_
            first
              | (have z := b2_eq h_40; rw [paysZ, if_neg hif, if_pos (fun y => z y.1)]; exact ⟨rfl, Same.rf⟩)
              | (have z := b2_eq (by omega : b2 (0 ≤ c ∧ c ≤ 99) = 0); rw [paysZ, if_neg hif, if_pos (fun y => z y.2)]; exact ⟨rfl, Same.rf⟩)
      · refine ev_ldcw (z := -1000000001) dX8_pays_26 kc_X8_316 (by decide) ?_
        refine ev_ireturn dX8_pays_29 ?_
        first
          | (have z := b2_eq h_5; rw [paysZ, if_pos (fun y => z y.1)]; exact ⟨rfl, Same.rf⟩)
          | (have z := b2_eq h_13; rw [paysZ, if_pos (fun y => z y.2.1)]; exact ⟨rfl, Same.rf⟩)
          | (have z := b2_eq (by omega : b2 ((0 ≤ p ∧ p < (n : Int)) ∧ (0 ≤ q ∧ q < (n : Int)) ∧ p ≠ q) = 0); rw [paysZ, if_pos (fun y => z y.2.2)]; exact ⟨rfl, Same.rf⟩)
theorem m_canCome (μ σ : Mem) (P n nr nb nl w wt : Nat) (f t : Nat → Nat) (hM : MRp μ σ P n nr nb nl w wt f t) (b p q : Nat) (hb : b < nb) (hp : p < n) (hq : q < n) (mm : Int) (hmm : -100000 ≤ mm ∧ mm ≤ 100000) : Con yX8_canCome cX8_canCome 6 (some .boolean) 5 122 [.ref 79, .int (iI b), .int (iI p), .int (iI q), .int (iI mm)] μ (AnsIP (b2 (dst σ P n nr nl w wt f t b 0 1 p q ≤ mm)) (fun ν => Same s123 μ ν)) := by
  refine con_of (by decide) rfl (Nat.le_of_ble_eq_true rfl) (ok_ZP rfl (b2_01 _)) ?_
  refine ev_w (fun hR => ?_)
  have hR0 := hR
  obtain ⟨hPO, hMP, hwc⟩ := id hM
  obtain ⟨hPR, ⟨hnb, hnb4⟩, ⟨hnl, hnl4⟩, hpo, hro, hbo, hlo⟩ := id hPO
  obtain ⟨hP, hn, hn8, hnr, hnr12, hft⟩ := id hPR
  obtain ⟨⟨cn, cr, cb, cl⟩, mp, mr, mbo, ml⟩ := id hMP
  have hD := (dst_dist (w := w) (wt := wt) (s := 0) (dry := 1) hPO hb).1 p q hp hq
  refine ev_aload_n dX8_canCome_0 rfl ?_
  refine ev_iload_n dX8_canCome_1 rfl ?_
  refine ev_iload_n dX8_canCome_2 rfl ?_
  refine ev_iload_n dX8_canCome_3 rfl ?_
  refine ev_iconst dX8_canCome_4 ?_
  refine ev_callVP dX8_canCome_5 kv_X8_393 (m_farOf μ σ P n nr nb nl w wt f t hM b p q hb hp hq 1 (Or.inr rfl)) rfl rfl (ci := 8) rfl rfl ⟨by decide, by decide⟩ (Nat.le_of_ble_eq_true rfl) ?_
  rintro v_5 τ_5 ⟨rfl, hq_5⟩
  refine ev_w (fun hR => ?_)
  refine ev_istore dX8_canCome_8 rfl (by decide) rfl ?_
  have ho9 : (dst σ P n nr nl w wt f t b 0 1 p q < 1000000 ∧ orN (dst σ P n nr nl w wt f t b 0 1 p q) = dst σ P n nr nl w wt f t b 0 1 p q) ∨ (1000000 ≤ dst σ P n nr nl w wt f t b 0 1 p q ∧ orN (dst σ P n nr nl w wt f t b 0 1 p q) = -1) := by
    unfold orN
    split
    · exact Or.inr ⟨by omega, rfl⟩
    · exact Or.inl ⟨by omega, rfl⟩
  generalize hd9 : dst σ P n nr nl w wt f t b 0 1 p q = d9 at *
  generalize orN d9 = o9 at *
  refine ev_iload dX8_canCome_10 rfl ?_
  refine ev_if_lt (tgt := 26) dX8_canCome_12 (by decide) ⟨by omega, by omega⟩ (fun h_12 => ?_) (fun h_12 => ?_)
  · refine ev_iconst dX8_canCome_26 ?_
    refine ev_ireturn dX8_canCome_27 ?_
    first
      | (rw [b2_t (by omega)]; exact ⟨rfl, hq_5⟩)
      | (rw [b2_f (by omega)]; exact ⟨rfl, hq_5⟩)
  · refine ev_iload dX8_canCome_15 rfl ?_
    refine ev_iload dX8_canCome_17 rfl ?_
    refine ev_icmp_gt (tgt := 26) dX8_canCome_19 (by decide) ⟨by omega, by omega⟩ ⟨by omega, by omega⟩ (fun h_19 => ?_) (fun h_19 => ?_)
    · refine ev_iconst dX8_canCome_26 ?_
      refine ev_ireturn dX8_canCome_27 ?_
      first
        | (rw [b2_t (by omega)]; exact ⟨rfl, hq_5⟩)
        | (rw [b2_f (by omega)]; exact ⟨rfl, hq_5⟩)
    · refine ev_iconst dX8_canCome_22 ?_
      refine ev_goto (tgt := 27) dX8_canCome_23 (by decide) ?_
      refine ev_ireturn dX8_canCome_27 ?_
      first
        | (rw [b2_t (by omega)]; exact ⟨rfl, hq_5⟩)
        | (rw [b2_f (by omega)]; exact ⟨rfl, hq_5⟩)
