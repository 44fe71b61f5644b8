theorem bsp_R (p : Nat → Bool) {n : Nat} (h : n < 12) : inR ((bs p n + 2 ^ n : Nat) : Int) := by
  have h1 := bs_lt p n
  have h2 : 2 ^ n < 2 ^ 12 := Nat.pow_lt_pow_right (by decide) h
  generalize 2 ^ n = N at *
  exact ⟨by omega, by omega⟩
theorem k_readRope (σ : Mem) (P L i : Nat) (d : PD) (hP : P = 3 ∨ P = 20) (hL5 : L ≤ 500) (hiL : i ≤ L) (hI : RdI σ σ P L i) (hD : PRep σ P d) (hA : RAt σ P d) (hK : PDok d) (hf : d.1 1 < 12) : Con yX3_readRope cX3_readRope 3 (some .boolean) 3 66 [.ref 1, .ref P] σ (AnsQ (BodyQ σ P L (ropeR (fun j : Nat => σ.1 2 j) L d i))) := by
  refine con_of (by decide) rfl (Nat.le_of_ble_eq_true rfl) (ok_QZ rfl (fun z τ h => h.z)) ?_
  refine ev_w (fun hR => ?_)
  have hR0 := hR
  obtain ⟨hcn, hrw⟩ := id hD
  have hnp : σ.1 P 0 = d.1 0 := hcn 0 (by decide)
  have hnr : σ.1 P 1 = d.1 1 := hcn 1 (by decide)
  have hnb : σ.1 P 2 = d.1 2 := hcn 2 (by decide)
  have hnl : σ.1 P 3 = d.1 3 := hcn 3 (by decide)
  obtain ⟨kp8, kr12, kb4, kl4, kp, kr, kb, kl⟩ := id hK
  have hp2 : 2 ^ (d.1 1) < 2 ^ 12 := Nat.pow_lt_pow_right (by decide) hf
  refine ev_aload_n dX3_readRope_0 rfl ?_
  refine ev_getI (kz := 1) dX3_readRope_1 fl_X3_74 (plO hP) rfl rfl ?_
  rw [hnr]
  refine ev_istore_n dX3_readRope_4 rfl (by decide) rfl ?_
  refine ev_aload_n dX3_readRope_5 rfl ?_
  refine ev_iconst dX3_readRope_6 ?_
  refine ev_aload_n dX3_readRope_7 rfl ?_
  refine ev_getI (kz := 0) dX3_readRope_8 fl_X3_59 (plO hP) rfl rfl ?_
  rw [hnp]
  refine ev_iconst dX3_readRope_11 ?_
  refine ev_isub dX3_readRope_12 ?_
  refine ev_callVP dX3_readRope_13 kv_X3_99 (k_num hI hP hL5 hiL 0 (((d.1 0 : Nat) : Int) - 1) (by decide) ⟨by omega, by omega⟩) rfl rfl (ci := 3) rfl rfl ⟨by decide, by decide⟩ (Nat.le_of_ble_eq_true rfl) ?_
  rintro v_13 τ_13 ⟨z_13, rfl, hz_13⟩
  refine ev_w (fun hR => ?_)
  refine ev_if_ne (tgt := 21) dX3_readRope_16 (by decide) hz_13.R (fun h_16 => ?_) (fun h_16 => ?_)
  · obtain ⟨x1, a1, e1, hN1, hS1⟩ := hz_13.ok h_16
    have hb1 := numR_ok hN1 hiL
    have hi1 := hI.num hS1
    obtain ⟨f1, rfl⟩ : ∃ f1 : Nat, x1 = f1 := ⟨x1.toNat, by omega⟩
    refine ev_aload_n dX3_readRope_21 rfl ?_
    refine ev_getR (r := P + 5) dX3_readRope_22 fl_X3_112 (plO hP) rfl rfl ?_
    refine ev_iload_n dX3_readRope_25 rfl ?_
    refine ev_aload_n dX3_readRope_26 rfl ?_
    refine ev_getI (kz := 6) dX3_readRope_27 fl_X3_31 rfl rfl rfl ?_
    rw [hS1.2]
    refine ev_iastore dX3_readRope_30 (plA5 hP) (by first | omega | (simp [wr_at]; omega) | (simp [wr_at, *]; omega)) (by first | omega | (simp [wr_at]; omega) | (simp [wr_at, *]; omega)) (by decide) (by first | exact hR.1 _ _ | exact hR0.1 _ _ | assumption | exact ⟨by omega, by omega⟩ | exact ⟨by simp [wr_at]; omega, by simp [wr_at]; omega⟩ | exact b2_R _ | exact band_R _ _ | exact bor_R _ _ | exact bshl_R _ _ | exact bshr_R _ _ | exact bxor_R _ _ | exact bs_R (by omega) | decide) ?_
    refine ev_w (fun hR => ?_)
    have hj1 := hi1.wr hP (c := P + 5) ((d.1 1 : Nat) : Int) (f1 : Int) (by omega) (by omega)
    have hm1 : (wr τ_13 (P + 5) ((d.1 1 : Nat) : Int) (f1 : Int)).1 (P + 5) ((d.1 1 : Nat) : Int) = f1 := wr_eq _ _ _ _
    have hm2 : (wr τ_13 (P + 5) ((d.1 1 : Nat) : Int) (f1 : Int)).1 P 0 = d.1 0 := by rw [wr_nec _ (by omega), hS1.at (by omega)]; exact hnp
    refine ev_aload_n dX3_readRope_31 rfl ?_
    refine ev_aload_n dX3_readRope_32 rfl ?_
    refine ev_aload_n dX3_readRope_33 rfl ?_
    refine ev_getR (r := P + 5) dX3_readRope_34 fl_X3_112 (plO hP) rfl rfl ?_
    refine ev_iload_n dX3_readRope_37 rfl ?_
    refine ev_iaload dX3_readRope_38 (plA5 hP) (by first | omega | (simp [wr_at]; omega) | (simp [wr_at, *]; omega)) (by first | omega | (simp [wr_at]; omega) | (simp [wr_at, *]; omega)) (by decide) ?_
    rw [hm1]
    refine ev_callVP dX3_readRope_39 kv_X3_115 (k_other hj1 hP hL5 (by omega) (d.1 0) hm2 kp8 (f1 : Int) ⟨by omega, by omega⟩) rfl rfl (ci := 3) rfl rfl ⟨by decide, by decide⟩ (Nat.le_of_ble_eq_true rfl) ?_
    rintro v_39 τ_39 ⟨z_39, rfl, hz_39⟩
    refine ev_w (fun hR => ?_)
    refine ev_if_ne (tgt := 47) dX3_readRope_42 (by decide) hz_39.R (fun h_42 => ?_) (fun h_42 => ?_)
    · obtain ⟨x2, a2, e2, hN2, hS2⟩ := hz_39.ok h_42
      have hb2 := othR_ok hN2 hb1.2.2.2.2
      have hi2 := hj1.num hS2
      obtain ⟨t1, rfl⟩ : ∃ t1 : Nat, x2 = t1 := ⟨x2.toNat, by omega⟩
      refine ev_aload_n dX3_readRope_47 rfl ?_
      refine ev_getR (r := P + 6) dX3_readRope_48 fl_X3_119 (plO hP) rfl rfl ?_
      refine ev_iload_n dX3_readRope_51 rfl ?_
      refine ev_aload_n dX3_readRope_52 rfl ?_
      refine ev_getI (kz := 6) dX3_readRope_53 fl_X3_31 rfl rfl rfl ?_
      rw [hS2.2]
      refine ev_iastore dX3_readRope_56 (plA6 hP) (by first | omega | (simp [wr_at]; omega) | (simp [wr_at, *]; omega)) (by first | omega | (simp [wr_at]; omega) | (simp [wr_at, *]; omega)) (by decide) (by first | exact hR.1 _ _ | exact hR0.1 _ _ | assumption | exact ⟨by omega, by omega⟩ | exact ⟨by simp [wr_at]; omega, by simp [wr_at]; omega⟩ | exact b2_R _ | exact band_R _ _ | exact bor_R _ _ | exact bshl_R _ _ | exact bshr_R _ _ | exact bxor_R _ _ | exact bs_R (by omega) | decide) ?_
      refine ev_w (fun hR => ?_)
      have hj2 := hi2.wr hP (c := P + 6) ((d.1 1 : Nat) : Int) (t1 : Int) (by omega) (by omega)
      refine ev_aload_n dX3_readRope_57 rfl ?_
      refine ev_iconst dX3_readRope_58 ?_
      refine ev_bipush dX3_readRope_59 (by decide) ?_
      refine ev_callVP dX3_readRope_61 kv_X3_99 (k_num hj2 hP hL5 (by omega) 1 99 (by decide) (by decide)) rfl rfl (ci := 3) rfl rfl ⟨by decide, by decide⟩ (Nat.le_of_ble_eq_true rfl) ?_
      rintro v_61 τ_61 ⟨z_61, rfl, hz_61⟩
      refine ev_w (fun hR => ?_)
      refine ev_if_ne (tgt := 69) dX3_readRope_64 (by decide) hz_61.R (fun h_64 => ?_) (fun h_64 => ?_)
      · obtain ⟨x3, a3, e3, hN3, hS3⟩ := hz_61.ok h_64
        have hb3 := numR_ok hN3 hb2.2.2.2.2.1
        have hi3 := hj2.num hS3
        refine ev_aload_n dX3_readRope_69 rfl ?_
        refine ev_getR (r := P + 7) dX3_readRope_70 fl_X3_122 (plO hP) rfl rfl ?_
        refine ev_iload_n dX3_readRope_73 rfl ?_
        refine ev_aload_n dX3_readRope_74 rfl ?_
        refine ev_getI (kz := 6) dX3_readRope_75 fl_X3_31 rfl rfl rfl ?_
        rw [hS3.2]
        refine ev_iastore dX3_readRope_78 (plA7 hP) (by first | omega | (simp [wr_at]; omega) | (simp [wr_at, *]; omega)) (by first | omega | (simp [wr_at]; omega) | (simp [wr_at, *]; omega)) (by decide) (by first | exact hR.1 _ _ | exact hR0.1 _ _ | assumption | exact ⟨by omega, by omega⟩ | exact ⟨by simp [wr_at]; omega, by simp [wr_at]; omega⟩ | exact b2_R _ | exact band_R _ _ | exact bor_R _ _ | exact bshl_R _ _ | exact bshr_R _ _ | exact bxor_R _ _ | exact bs_R (by omega) | decide) ?_
        refine ev_w (fun hR => ?_)
        have hj3 := hi3.wr hP (c := P + 7) ((d.1 1 : Nat) : Int) x3 (by omega) (by omega)
        refine ev_aload_n dX3_readRope_79 rfl ?_
        refine ev_iconst dX3_readRope_80 ?_
        refine ev_sipush dX3_readRope_81 (by decide) ?_
        refine ev_callVP dX3_readRope_84 kv_X3_99 (k_num hj3 hP hL5 (by omega) 1 999 (by decide) (by decide)) rfl rfl (ci := 3) rfl rfl ⟨by decide, by decide⟩ (Nat.le_of_ble_eq_true rfl) ?_
        rintro v_84 τ_84 ⟨z_84, rfl, hz_84⟩
        refine ev_w (fun hR => ?_)
        refine ev_if_ne (tgt := 92) dX3_readRope_87 (by decide) hz_84.R (fun h_87 => ?_) (fun h_87 => ?_)
        · obtain ⟨x4, a4, e4, hN4, hS4⟩ := hz_84.ok h_87
          have hb4 := numR_ok hN4 hb3.2.2.2.2
          have hi4 := hj3.num hS4
          refine ev_aload_n dX3_readRope_92 rfl ?_
          refine ev_getR (r := P + 8) dX3_readRope_93 fl_X3_125 (plO hP) rfl rfl ?_
          refine ev_iload_n dX3_readRope_96 rfl ?_
          refine ev_aload_n dX3_readRope_97 rfl ?_
          refine ev_getI (kz := 6) dX3_readRope_98 fl_X3_31 rfl rfl rfl ?_
          rw [hS4.2]
          refine ev_iastore dX3_readRope_101 (plA8 hP) (by first | omega | (simp [wr_at]; omega) | (simp [wr_at, *]; omega)) (by first | omega | (simp [wr_at]; omega) | (simp [wr_at, *]; omega)) (by decide) (by first | exact hR.1 _ _ | exact hR0.1 _ _ | assumption | exact ⟨by omega, by omega⟩ | exact ⟨by simp [wr_at]; omega, by simp [wr_at]; omega⟩ | exact b2_R _ | exact band_R _ _ | exact bor_R _ _ | exact bshl_R _ _ | exact bshr_R _ _ | exact bxor_R _ _ | exact bs_R (by omega) | decide) ?_
          refine ev_w (fun hR => ?_)
          have hj4 := hi4.wr hP (c := P + 8) ((d.1 1 : Nat) : Int) x4 (by omega) (by omega)
          have hm4 : ∀ c k, c ≠ 1 → (wr τ_84 (P + 8) ((d.1 1 : Nat) : Int) x4).1 c k = if c = P + 8 ∧ k = ((d.1 1 : Nat) : Int) then x4 else if c = P + 7 ∧ k = ((d.1 1 : Nat) : Int) then x3 else if c = P + 6 ∧ k = ((d.1 1 : Nat) : Int) then (t1 : Int) else if c = P + 5 ∧ k = ((d.1 1 : Nat) : Int) then (f1 : Int) else σ.1 c k := by
            intro c k hc
            rw [wr_at, hS4.at hc, wr_at, hS3.at hc, wr_at, hS2.at hc, wr_at, hS1.at hc]
          have hg1 : (wr τ_84 (P + 8) ((d.1 1 : Nat) : Int) x4).1 (P + 5) ((d.1 1 : Nat) : Int) = f1 := by
            rw [hm4 _ _ (by omega)]
            repeat' (first | rw [if_pos (by omega)] | rw [if_neg (by omega)])
          have hg2 : (wr τ_84 (P + 8) ((d.1 1 : Nat) : Int) x4).1 (P + 4) (f1 : Nat) = (bs (fun r => decide (d.2 5 r = f1 ∨ d.2 6 r = f1)) (d.1 1) : Nat) := by
            rw [hm4 _ _ (by omega)]
            repeat' (first | rw [if_pos (by omega)] | rw [if_neg (by omega)])
            exact hA f1 (by omega)
          refine ev_aload_n dX3_readRope_102 rfl ?_
          refine ev_getR (r := P + 4) dX3_readRope_103 fl_X3_128 (plO hP) rfl rfl ?_
          refine ev_aload_n dX3_readRope_106 rfl ?_
          refine ev_getR (r := P + 5) dX3_readRope_107 fl_X3_112 (plO hP) rfl rfl ?_
          refine ev_iload_n dX3_readRope_110 rfl ?_
          refine ev_iaload dX3_readRope_111 (plA5 hP) (by first | omega | (simp [wr_at]; omega) | (simp [wr_at, *]; omega)) (by first | omega | (simp [wr_at]; omega) | (simp [wr_at, *]; omega)) (by decide) ?_
          rw [hg1]
          refine ev_dup2 dX3_readRope_112 rfl rfl ?_
          refine ev_iaload dX3_readRope_113 (plA4 hP) (by first | omega | (simp [wr_at]; omega) | (simp [wr_at, *]; omega)) (by first | omega | (simp [wr_at]; omega) | (simp [wr_at, *]; omega)) (by decide) ?_
          refine ev_iconst dX3_readRope_114 ?_
          refine ev_iload_n dX3_readRope_115 rfl ?_
          refine ev_ishl dX3_readRope_116 ?_
          refine ev_ior dX3_readRope_117 ?_
          rw [hg2, bs_bor _ (by omega)]
          refine ev_iastore dX3_readRope_118 (plA4 hP) (by first | omega | (simp [wr_at]; omega) | (simp [wr_at, *]; omega)) (by first | omega | (simp [wr_at]; omega) | (simp [wr_at, *]; omega)) (by decide) (bsp_R _ hf) ?_
          refine ev_w (fun hR => ?_)
          have hj5 := hj4.wr hP (c := P + 4) (f1 : Nat) ((bs (fun r => decide (d.2 5 r = f1 ∨ d.2 6 r = f1)) (d.1 1) + 2 ^ (d.1 1) : Nat) : Int) (by omega) (by omega)
          have hm5 : ∀ c k, c ≠ 1 → (wr (wr τ_84 (P + 8) ((d.1 1 : Nat) : Int) x4) (P + 4) (f1 : Nat) ((bs (fun r => decide (d.2 5 r = f1 ∨ d.2 6 r = f1)) (d.1 1) + 2 ^ (d.1 1) : Nat) : Int)).1 c k = if c = P + 4 ∧ k = (f1 : Int) then ((bs (fun r => decide (d.2 5 r = f1 ∨ d.2 6 r = f1)) (d.1 1) + 2 ^ (d.1 1) : Nat) : Int) else if c = P + 8 ∧ k = ((d.1 1 : Nat) : Int) then x4 else if c = P + 7 ∧ k = ((d.1 1 : Nat) : Int) then x3 else if c = P + 6 ∧ k = ((d.1 1 : Nat) : Int) then (t1 : Int) else if c = P + 5 ∧ k = ((d.1 1 : Nat) : Int) then (f1 : Int) else σ.1 c k := by
            intro c k hc
            rw [wr_at, wr_at, hS4.at hc, wr_at, hS3.at hc, wr_at, hS2.at hc, wr_at, hS1.at hc]
          have hg3 : (wr (wr τ_84 (P + 8) ((d.1 1 : Nat) : Int) x4) (P + 4) (f1 : Nat) ((bs (fun r => decide (d.2 5 r = f1 ∨ d.2 6 r = f1)) (d.1 1) + 2 ^ (d.1 1) : Nat) : Int)).1 (P + 6) ((d.1 1 : Nat) : Int) = t1 := by
            rw [hm5 _ _ (by omega)]
            repeat' (first | rw [if_pos (by omega)] | rw [if_neg (by omega)])
          have hg4 : (wr (wr τ_84 (P + 8) ((d.1 1 : Nat) : Int) x4) (P + 4) (f1 : Nat) ((bs (fun r => decide (d.2 5 r = f1 ∨ d.2 6 r = f1)) (d.1 1) + 2 ^ (d.1 1) : Nat) : Int)).1 (P + 4) (t1 : Nat) = (bs (fun r => decide (d.2 5 r = t1 ∨ d.2 6 r = t1)) (d.1 1) : Nat) := by
            rw [hm5 _ _ (by omega)]
            repeat' (first | rw [if_pos (by omega)] | rw [if_neg (by omega)])
            exact hA t1 (by omega)
          refine ev_aload_n dX3_readRope_119 rfl ?_
          refine ev_getR (r := P + 4) dX3_readRope_120 fl_X3_128 (plO hP) rfl rfl ?_
          refine ev_aload_n dX3_readRope_123 rfl ?_
          refine ev_getR (r := P + 6) dX3_readRope_124 fl_X3_119 (plO hP) rfl rfl ?_
          refine ev_iload_n dX3_readRope_127 rfl ?_
          refine ev_iaload dX3_readRope_128 (plA6 hP) (by first | omega | (simp [wr_at]; omega) | (simp [wr_at, *]; omega)) (by first | omega | (simp [wr_at]; omega) | (simp [wr_at, *]; omega)) (by decide) ?_
          rw [hg3]
          refine ev_dup2 dX3_readRope_129 rfl rfl ?_
          refine ev_iaload dX3_readRope_130 (plA4 hP) (by first | omega | (simp [wr_at]; omega) | (simp [wr_at, *]; omega)) (by first | omega | (simp [wr_at]; omega) | (simp [wr_at, *]; omega)) (by decide) ?_
          refine ev_iconst dX3_readRope_131 ?_
          refine ev_iload_n dX3_readRope_132 rfl ?_
          refine ev_ishl dX3_readRope_133 ?_
          refine ev_ior dX3_readRope_134 ?_
          rw [hg4, bs_bor _ (by omega)]
          refine ev_iastore dX3_readRope_135 (plA4 hP) (by first | omega | (simp [wr_at]; omega) | (simp [wr_at, *]; omega)) (by first | omega | (simp [wr_at]; omega) | (simp [wr_at, *]; omega)) (by decide) (bsp_R _ hf) ?_
          refine ev_w (fun hR => ?_)
          have hj6 := hj5.wr hP (c := P + 4) (t1 : Nat) ((bs (fun r => decide (d.2 5 r = t1 ∨ d.2 6 r = t1)) (d.1 1) + 2 ^ (d.1 1) : Nat) : Int) (by omega) (by omega)
          have hm6 : ∀ c k, c ≠ 1 → (wr (wr (wr τ_84 (P + 8) ((d.1 1 : Nat) : Int) x4) (P + 4) (f1 : Nat) ((bs (fun r => decide (d.2 5 r = f1 ∨ d.2 6 r = f1)) (d.1 1) + 2 ^ (d.1 1) : Nat) : Int)) (P + 4) (t1 : Nat) ((bs (fun r => decide (d.2 5 r = t1 ∨ d.2 6 r = t1)) (d.1 1) + 2 ^ (d.1 1) : Nat) : Int)).1 c k = if c = P + 4 ∧ k = (t1 : Int) then ((bs (fun r => decide (d.2 5 r = t1 ∨ d.2 6 r = t1)) (d.1 1) + 2 ^ (d.1 1) : Nat) : Int) else if c = P + 4 ∧ k = (f1 : Int) then ((bs (fun r => decide (d.2 5 r = f1 ∨ d.2 6 r = f1)) (d.1 1) + 2 ^ (d.1 1) : Nat) : Int) else if c = P + 8 ∧ k = ((d.1 1 : Nat) : Int) then x4 else if c = P + 7 ∧ k = ((d.1 1 : Nat) : Int) then x3 else if c = P + 6 ∧ k = ((d.1 1 : Nat) : Int) then (t1 : Int) else if c = P + 5 ∧ k = ((d.1 1 : Nat) : Int) then (f1 : Int) else σ.1 c k := by
            intro c k hc
            rw [wr_at, wr_at, wr_at, hS4.at hc, wr_at, hS3.at hc, wr_at, hS2.at hc, wr_at, hS1.at hc]
          have hg5 : (wr (wr (wr τ_84 (P + 8) ((d.1 1 : Nat) : Int) x4) (P + 4) (f1 : Nat) ((bs (fun r => decide (d.2 5 r = f1 ∨ d.2 6 r = f1)) (d.1 1) + 2 ^ (d.1 1) : Nat) : Int)) (P + 4) (t1 : Nat) ((bs (fun r => decide (d.2 5 r = t1 ∨ d.2 6 r = t1)) (d.1 1) + 2 ^ (d.1 1) : Nat) : Int)).1 P 1 = ((d.1 1 : Nat) : Int) := by
            rw [hm6 _ _ (by omega)]
            repeat' (first | rw [if_pos (by omega)] | rw [if_neg (by omega)])
            exact hnr
          refine ev_aload_n dX3_readRope_136 rfl ?_
          refine ev_dup dX3_readRope_137 rfl ?_
          refine ev_getI (kz := 1) dX3_readRope_138 fl_X3_74 (plO hP) rfl rfl ?_
          rw [hg5]
          refine ev_iconst dX3_readRope_141 ?_
          refine ev_iadd dX3_readRope_142 ?_
          refine ev_putI (kz := 1) dX3_readRope_143 fp_X3_74 (plO hP) rfl rfl (by first | exact hR.1 _ _ | exact hR0.1 _ _ | assumption | exact ⟨by omega, by omega⟩ | exact ⟨by simp [wr_at]; omega, by simp [wr_at]; omega⟩ | exact b2_R _ | exact band_R _ _ | exact bor_R _ _ | exact bshl_R _ _ | exact bshr_R _ _ | exact bxor_R _ _ | exact bs_R (by omega) | decide) ?_
          refine ev_w (fun hR => ?_)
          refine ev_iconst dX3_readRope_146 ?_
          refine ev_ireturn dX3_readRope_147 ?_
          have hj7 := hj6.wr hP (c := P) 1 (((d.1 1 : Nat) : Int) + 1) (by omega) (by omega)
          refine ⟨1, rfl, Or.inr ⟨rfl, addD d 1 (v5 5 (f1 : Int) (t1 : Int) x3 x4 0), e4, ?_, ?_⟩⟩
          · unfold ropeR
            simp only [hN1, hN2, hN3, hN4]
          have hm : ∀ c k, c ≠ 1 → (wr (wr (wr (wr τ_84 (P + 8) ((d.1 1 : Nat) : Int) x4) (P + 4) (f1 : Nat) ((bs (fun r => decide (d.2 5 r = f1 ∨ d.2 6 r = f1)) (d.1 1) + 2 ^ (d.1 1) : Nat) : Int)) (P + 4) (t1 : Nat) ((bs (fun r => decide (d.2 5 r = t1 ∨ d.2 6 r = t1)) (d.1 1) + 2 ^ (d.1 1) : Nat) : Int)) P 1 (((d.1 1 : Nat) : Int) + 1)).1 c k = if c = P ∧ k = 1 then ((d.1 1 : Nat) : Int) + 1 else if c = P + 4 ∧ k = (t1 : Int) then ((bs (fun r => decide (d.2 5 r = t1 ∨ d.2 6 r = t1)) (d.1 1) + 2 ^ (d.1 1) : Nat) : Int) else if c = P + 4 ∧ k = (f1 : Int) then ((bs (fun r => decide (d.2 5 r = f1 ∨ d.2 6 r = f1)) (d.1 1) + 2 ^ (d.1 1) : Nat) : Int) else if c = P + 8 ∧ k = ((d.1 1 : Nat) : Int) then x4 else if c = P + 7 ∧ k = ((d.1 1 : Nat) : Int) then x3 else if c = P + 6 ∧ k = ((d.1 1 : Nat) : Int) then (t1 : Int) else if c = P + 5 ∧ k = ((d.1 1 : Nat) : Int) then (f1 : Int) else σ.1 c k := by
            intro c k hc
            rw [wr_at, wr_at, wr_at, wr_at, hS4.at hc, wr_at, hS3.at hc, wr_at, hS2.at hc, wr_at, hS1.at hc]
          refine ⟨hj7.1, hj7.2.1, hj7.2.2.1, hj7.2.2.2, PRepG.add (τ := wr (wr (wr (wr τ_84 (P + 8) ((d.1 1 : Nat) : Int) x4) (P + 4) (f1 : Nat) ((bs (fun r => decide (d.2 5 r = f1 ∨ d.2 6 r = f1)) (d.1 1) + 2 ^ (d.1 1) : Nat) : Int)) (P + 4) (t1 : Nat) ((bs (fun r => decide (d.2 5 r = t1 ∨ d.2 6 r = t1)) (d.1 1) + 2 ^ (d.1 1) : Nat) : Int)) P 1 (((d.1 1 : Nat) : Int) + 1)) hD 1 _ ?_ ?_ ?_ ?_, ?_⟩
          · rw [hm _ _ (by omega), if_pos ⟨rfl, rfl⟩]
          · intro k hk hne
            unfold fld4
            rw [hm _ _ (by omega)]
            repeat' (first | rw [if_pos (by omega)] | rw [if_neg (by omega)])
          · intro j hj hg
            have hjj : j = 5 ∨ j = 6 ∨ j = 7 ∨ j = 8 := by
              unfold row at hj
              unfold grp at hg
              repeat (first | omega | split at hg)
            rw [hm _ _ (by omega)]
            rcases hjj with rfl | rfl | rfl | rfl
            · unfold v5
              repeat' (first | rw [if_pos (by omega)] | rw [if_neg (by omega)])
            · unfold v5
              repeat' (first | rw [if_pos (by omega)] | rw [if_neg (by omega)])
            · unfold v5
              repeat' (first | rw [if_pos (by omega)] | rw [if_neg (by omega)])
            · unfold v5
              repeat' (first | rw [if_pos (by omega)] | rw [if_neg (by omega)])
          · intro j hj p hp
            have hj2 : 1 ≤ j ∧ j ≤ 16 ∧ j ≠ 4 := hj
            rw [hm _ _ (by omega)]
            have hgp : (5 ≤ j ∧ j ≤ 8) → p < d.1 1 := fun q => by
              have e : grp j = 1 := by unfold grp; repeat' (first | omega | split)
              rw [e] at hp
              exact hp
            have hgp2 : ¬ ((5 ≤ j ∧ j ≤ 8)) ∨ p < d.1 1 := by
              by_cases q : (5 ≤ j ∧ j ≤ 8)
              · exact Or.inr (hgp q)
              · exact Or.inl q
            repeat' (first | rw [if_pos (by omega)] | rw [if_neg (by omega)])
          · intro p hpp
            rw [hm _ _ (by omega)]
            have hcg : bs (fun r => decide ((addD d 1 (v5 5 (f1 : Int) (t1 : Int) x3 x4 0)).2 5 r = p ∨ (addD d 1 (v5 5 (f1 : Int) (t1 : Int) x3 x4 0)).2 6 r = p)) (d.1 1) = bs (fun r => decide (d.2 5 r = p ∨ d.2 6 r = p)) (d.1 1) := by
              refine bs_congr (fun r hr => ?_)
              rw [addD_r, addD_r, if_neg (fun q => by have := q.2; omega), if_neg (fun q => by have := q.2; omega)]
            have hc1 : (addD d 1 (v5 5 (f1 : Int) (t1 : Int) x3 x4 0)).1 1 = d.1 1 + 1 := rfl
            have hv5 : (addD d 1 (v5 5 (f1 : Int) (t1 : Int) x3 x4 0)).2 5 (d.1 1) = f1 := by rw [addD_r, if_pos ⟨rfl, rfl⟩]; rfl
            have hv6 : (addD d 1 (v5 5 (f1 : Int) (t1 : Int) x3 x4 0)).2 6 (d.1 1) = t1 := by rw [addD_r, if_pos ⟨rfl, rfl⟩]; rfl
            rw [hc1]
            by_cases q1 : p = f1
            · subst q1
              rw [bs_t (by rw [hv5]; exact decide_eq_true (Or.inl rfl)), hcg]
              repeat' (first | rw [if_pos (by omega)] | rw [if_neg (by omega)])
            · by_cases q2 : p = t1
              · subst q2
                rw [bs_t (by rw [hv6]; exact decide_eq_true (Or.inr rfl)), hcg]
                repeat' (first | rw [if_pos (by omega)] | rw [if_neg (by omega)])
              · rw [bs_f (by rw [hv5, hv6]; exact decide_eq_false (by omega)), hcg]
                repeat' (first | rw [if_pos (by omega)] | rw [if_neg (by omega)])
                exact hA p hpp
        · refine ev_iconst dX3_readRope_90 ?_
          refine ev_ireturn dX3_readRope_91 ?_
          obtain ⟨f, w, hN, hF⟩ := hz_84.bad h_87
          refine ⟨0, rfl, Or.inl ⟨rfl, f, w, ?_, hj3.bad hF⟩⟩
          unfold ropeR
          simp only [hN1, hN2, hN3, hN]
      · refine ev_iconst dX3_readRope_67 ?_
        refine ev_ireturn dX3_readRope_68 ?_
        obtain ⟨f, w, hN, hF⟩ := hz_61.bad h_64
        refine ⟨0, rfl, Or.inl ⟨rfl, f, w, ?_, hj2.bad hF⟩⟩
        unfold ropeR
        simp only [hN1, hN2, hN]
    · refine ev_iconst dX3_readRope_45 ?_
      refine ev_ireturn dX3_readRope_46 ?_
      obtain ⟨f, w, hN, hF⟩ := hz_39.bad h_42
      refine ⟨0, rfl, Or.inl ⟨rfl, f, w, ?_, hj1.bad hF⟩⟩
      unfold ropeR
      simp only [hN1, hN]
  · refine ev_iconst dX3_readRope_19 ?_
    refine ev_ireturn dX3_readRope_20 ?_
    obtain ⟨f, w, hN, hF⟩ := hz_13.bad h_16
    refine ⟨0, rfl, Or.inl ⟨rfl, f, w, ?_, hI.bad hF⟩⟩
    unfold ropeR
    simp only [hN]
theorem k_readBoy (σ : Mem) (P L i : Nat) (d : PD) (hP : P = 3 ∨ P = 20) (hL5 : L ≤ 500) (hiL : i ≤ L) (hI : RdI σ σ P L i) (hD : PRep σ P d) (hA : RAt σ P d) (hK : PDok d) (hf : d.1 2 < 4) : Con yX3_readBoy cX3_readBoy 3 (some .boolean) 2 44 [.ref 1, .ref P] σ (AnsQ (BodyQ σ P L (boyR (fun j : Nat => σ.1 2 j) L d i))) := by
  refine con_of (by decide) rfl (Nat.le_of_ble_eq_true rfl) (ok_QZ rfl (fun z τ h => h.z)) ?_
  refine ev_w (fun hR => ?_)
  have hR0 := hR
  obtain ⟨hcn, hrw⟩ := id hD
  have hnp : σ.1 P 0 = d.1 0 := hcn 0 (by decide)
  have hnr : σ.1 P 1 = d.1 1 := hcn 1 (by decide)
  have hnb : σ.1 P 2 = d.1 2 := hcn 2 (by decide)
  have hnl : σ.1 P 3 = d.1 3 := hcn 3 (by decide)
  obtain ⟨kp8, kr12, kb4, kl4, kp, kr, kb, kl⟩ := id hK
  refine ev_aload_n dX3_readBoy_0 rfl ?_
  refine ev_getI (kz := 2) dX3_readBoy_1 fl_X3_82 (plO hP) rfl rfl ?_
  rw [hnb]
  refine ev_istore_n dX3_readBoy_4 rfl (by decide) rfl ?_
  refine ev_aload_n dX3_readBoy_5 rfl ?_
  refine ev_iconst dX3_readBoy_6 ?_
  refine ev_aload_n dX3_readBoy_7 rfl ?_
  refine ev_getI (kz := 0) dX3_readBoy_8 fl_X3_59 (plO hP) rfl rfl ?_
  rw [hnp]
  refine ev_iconst dX3_readBoy_11 ?_
  refine ev_isub dX3_readBoy_12 ?_
  refine ev_callVP dX3_readBoy_13 kv_X3_99 (k_num hI hP hL5 hiL 0 (((d.1 0 : Nat) : Int) - 1) (by decide) ⟨by omega, by omega⟩) rfl rfl (ci := 3) rfl rfl ⟨by decide, by decide⟩ (Nat.le_of_ble_eq_true rfl) ?_
  rintro v_13 τ_13 ⟨z_13, rfl, hz_13⟩
  refine ev_w (fun hR => ?_)
  refine ev_if_ne (tgt := 21) dX3_readBoy_16 (by decide) hz_13.R (fun h_16 => ?_) (fun h_16 => ?_)
  · obtain ⟨x1, a1, e1, hN1, hS1⟩ := hz_13.ok h_16
    have hb1 := numR_ok hN1 hiL
    have hi1 := hI.num hS1
    have hq2 : τ_13.1 P 2 = d.1 2 := by rw [hS1.at (by omega)]; exact hnb
    have hct : cnt (fun b => decide (τ_13.1 (P + 9) b = x1)) (d.1 2) = cnt (fun b => decide (d.2 9 b = x1)) (d.1 2) := cnt_congr (fun b hb => by rw [hS1.at (by omega), hrw 9 (by unfold row; omega) b hb])
    have hbe : τ_13.1 (P + 3) x1 = d.2 3 x1.toNat := by
      have := hrw 3 (by unfold row; omega) x1.toNat (by show x1.toNat < d.1 0; omega)
      rw [hS1.at (by omega), ← this, Int.toNat_of_nonneg hb1.1]
    have hcl := cnt_le (fun b => decide (d.2 9 b = x1)) (d.1 2)
    have kbx := kp x1.toNat (by omega)
    have g5 := hS1.1.2.2.2.2
    refine ev_aload_n dX3_readBoy_21 rfl ?_
    refine ev_aload_n dX3_readBoy_22 rfl ?_
    refine ev_getI (kz := 6) dX3_readBoy_23 fl_X3_31 rfl rfl rfl ?_
    rw [hS1.2]
    refine ev_callVI dX3_readBoy_26 kv_X3_131 (k_boysTold τ_13 P (d.1 2) x1 hP ⟨by omega, by omega⟩ hq2 kb4) rfl (plO hP) (ci := 2) rfl rfl ⟨by decide, by decide⟩ (Nat.le_of_ble_eq_true rfl) ?_
    refine ev_w (fun hR => ?_)
    rw [hct]
    refine ev_aload_n dX3_readBoy_29 rfl ?_
    refine ev_getR (r := P + 3) dX3_readBoy_30 fl_X3_109 (plO hP) rfl rfl ?_
    refine ev_aload_n dX3_readBoy_33 rfl ?_
    refine ev_getI (kz := 6) dX3_readBoy_34 fl_X3_31 rfl rfl rfl ?_
    rw [hS1.2]
    refine ev_iaload dX3_readBoy_37 (plA3 hP) (by first | omega | (simp [wr_at]; omega) | (simp [wr_at, *]; omega)) (by first | omega | (simp [wr_at]; omega) | (simp [wr_at, *]; omega)) (by decide) ?_
    rw [hbe]
    refine ev_icmp_lt (tgt := 51) dX3_readBoy_38 (by decide) (by first | exact hR.1 _ _ | exact hR0.1 _ _ | assumption | exact ⟨by omega, by omega⟩ | exact ⟨by simp [wr_at]; omega, by simp [wr_at]; omega⟩ | exact b2_R _ | exact band_R _ _ | exact bor_R _ _ | exact bshl_R _ _ | exact bshr_R _ _ | exact bxor_R _ _ | exact bs_R (by omega) | decide) (by first | exact hR.1 _ _ | exact hR0.1 _ _ | assumption | exact ⟨by omega, by omega⟩ | exact ⟨by simp [wr_at]; omega, by simp [wr_at]; omega⟩ | exact b2_R _ | exact band_R _ _ | exact bor_R _ _ | exact bshl_R _ _ | exact bshr_R _ _ | exact bxor_R _ _ | exact bs_R (by omega) | decide) (fun h_38 => ?_) (fun h_38 => ?_)
    · have hnf : ¬ d.2 3 x1.toNat ≤ (cnt (fun b => decide (d.2 9 b = x1)) (d.1 2) : Nat) := by omega
      refine ev_aload_n dX3_readBoy_51 rfl ?_
      refine ev_getR (r := P + 9) dX3_readBoy_52 fl_X3_135 (plO hP) rfl rfl ?_
      refine ev_iload_n dX3_readBoy_55 rfl ?_
      refine ev_aload_n dX3_readBoy_56 rfl ?_
      refine ev_getI (kz := 6) dX3_readBoy_57 fl_X3_31 rfl rfl rfl ?_
      rw [hS1.2]
      refine ev_iastore dX3_readBoy_60 (plA9 hP) (by first | omega | (simp [wr_at]; omega) | (simp [wr_at, *]; omega)) (by first | omega | (simp [wr_at]; omega) | (simp [wr_at, *]; omega)) (by decide) (by first | exact hR.1 _ _ | exact hR0.1 _ _ | assumption | exact ⟨by omega, by omega⟩ | exact ⟨by simp [wr_at]; omega, by simp [wr_at]; omega⟩ | exact b2_R _ | exact band_R _ _ | exact bor_R _ _ | exact bshl_R _ _ | exact bshr_R _ _ | exact bxor_R _ _ | exact bs_R (by omega) | decide) ?_
      refine ev_w (fun hR => ?_)
      have hj1 := hi1.wr hP (c := P + 9) ((d.1 2 : Nat) : Int) x1 (by omega) (by omega)
      refine ev_aload_n dX3_readBoy_61 rfl ?_
      refine ev_iconst dX3_readBoy_62 ?_
      refine ev_sipush dX3_readBoy_63 (by decide) ?_
      refine ev_callVP dX3_readBoy_66 kv_X3_99 (k_num hj1 hP hL5 (by omega) 1 200 (by decide) (by decide)) rfl rfl (ci := 3) rfl rfl ⟨by decide, by decide⟩ (Nat.le_of_ble_eq_true rfl) ?_
      rintro v_66 τ_66 ⟨z_66, rfl, hz_66⟩
      refine ev_w (fun hR => ?_)
      refine ev_if_ne (tgt := 74) dX3_readBoy_69 (by decide) hz_66.R (fun h_69 => ?_) (fun h_69 => ?_)
      · obtain ⟨x2, a2, e2, hN2, hS2⟩ := hz_66.ok h_69
        have hb2 := numR_ok hN2 hb1.2.2.2.2
        have hi2 := hj1.num hS2
        refine ev_aload_n dX3_readBoy_74 rfl ?_
        refine ev_getR (r := P + 10) dX3_readBoy_75 fl_X3_138 (plO hP) rfl rfl ?_
        refine ev_iload_n dX3_readBoy_78 rfl ?_
        refine ev_aload_n dX3_readBoy_79 rfl ?_
        refine ev_getI (kz := 6) dX3_readBoy_80 fl_X3_31 rfl rfl rfl ?_
        rw [hS2.2]
        refine ev_iastore dX3_readBoy_83 (plA10 hP) (by first | omega | (simp [wr_at]; omega) | (simp [wr_at, *]; omega)) (by first | omega | (simp [wr_at]; omega) | (simp [wr_at, *]; omega)) (by decide) (by first | exact hR.1 _ _ | exact hR0.1 _ _ | assumption | exact ⟨by omega, by omega⟩ | exact ⟨by simp [wr_at]; omega, by simp [wr_at]; omega⟩ | exact b2_R _ | exact band_R _ _ | exact bor_R _ _ | exact bshl_R _ _ | exact bshr_R _ _ | exact bxor_R _ _ | exact bs_R (by omega) | decide) ?_
        refine ev_w (fun hR => ?_)
        have hj2 := hi2.wr hP (c := P + 10) ((d.1 2 : Nat) : Int) x2 (by omega) (by omega)
        refine ev_aload_n dX3_readBoy_84 rfl ?_
        refine ev_iconst dX3_readBoy_85 ?_
        refine ev_bipush dX3_readBoy_86 (by decide) ?_
        refine ev_callVP dX3_readBoy_88 kv_X3_99 (k_num hj2 hP hL5 (by omega) 1 50 (by decide) (by decide)) rfl rfl (ci := 3) rfl rfl ⟨by decide, by decide⟩ (Nat.le_of_ble_eq_true rfl) ?_
        rintro v_88 τ_88 ⟨z_88, rfl, hz_88⟩
        refine ev_w (fun hR => ?_)
        refine ev_if_ne (tgt := 96) dX3_readBoy_91 (by decide) hz_88.R (fun h_91 => ?_) (fun h_91 => ?_)
        · obtain ⟨x3, a3, e3, hN3, hS3⟩ := hz_88.ok h_91
          have hb3 := numR_ok hN3 hb2.2.2.2.2
          have hi3 := hj2.num hS3
          refine ev_aload_n dX3_readBoy_96 rfl ?_
          refine ev_getR (r := P + 11) dX3_readBoy_97 fl_X3_141 (plO hP) rfl rfl ?_
          refine ev_iload_n dX3_readBoy_100 rfl ?_
          refine ev_aload_n dX3_readBoy_101 rfl ?_
          refine ev_getI (kz := 6) dX3_readBoy_102 fl_X3_31 rfl rfl rfl ?_
          rw [hS3.2]
          refine ev_iastore dX3_readBoy_105 (plA11 hP) (by first | omega | (simp [wr_at]; omega) | (simp [wr_at, *]; omega)) (by first | omega | (simp [wr_at]; omega) | (simp [wr_at, *]; omega)) (by decide) (by first | exact hR.1 _ _ | exact hR0.1 _ _ | assumption | exact ⟨by omega, by omega⟩ | exact ⟨by simp [wr_at]; omega, by simp [wr_at]; omega⟩ | exact b2_R _ | exact band_R _ _ | exact bor_R _ _ | exact bshl_R _ _ | exact bshr_R _ _ | exact bxor_R _ _ | exact bs_R (by omega) | decide) ?_
          refine ev_w (fun hR => ?_)
          have hj3 := hi3.wr hP (c := P + 11) ((d.1 2 : Nat) : Int) x3 (by omega) (by omega)
          have hm3 : ∀ c k, c ≠ 1 → (wr τ_88 (P + 11) ((d.1 2 : Nat) : Int) x3).1 c k = if c = P + 11 ∧ k = ((d.1 2 : Nat) : Int) then x3 else if c = P + 10 ∧ k = ((d.1 2 : Nat) : Int) then x2 else if c = P + 9 ∧ k = ((d.1 2 : Nat) : Int) then x1 else σ.1 c k := by
            intro c k hc
            rw [wr_at, hS3.at hc, wr_at, hS2.at hc, wr_at, hS1.at hc]
          have hm0 : (wr τ_88 (P + 11) ((d.1 2 : Nat) : Int) x3).1 P 2 = ((d.1 2 : Nat) : Int) := by
            rw [hm3 _ _ (by omega)]
            repeat' (first | rw [if_pos (by omega)] | rw [if_neg (by omega)])
            exact hnb
          refine ev_aload_n dX3_readBoy_106 rfl ?_
          refine ev_dup dX3_readBoy_107 rfl ?_
          refine ev_getI (kz := 2) dX3_readBoy_108 fl_X3_82 (plO hP) rfl rfl ?_
          rw [hm0]
          refine ev_iconst dX3_readBoy_111 ?_
          refine ev_iadd dX3_readBoy_112 ?_
          refine ev_putI (kz := 2) dX3_readBoy_113 fp_X3_82 (plO hP) rfl rfl (by first | exact hR.1 _ _ | exact hR0.1 _ _ | assumption | exact ⟨by omega, by omega⟩ | exact ⟨by simp [wr_at]; omega, by simp [wr_at]; omega⟩ | exact b2_R _ | exact band_R _ _ | exact bor_R _ _ | exact bshl_R _ _ | exact bshr_R _ _ | exact bxor_R _ _ | exact bs_R (by omega) | decide) ?_
          refine ev_w (fun hR => ?_)
          refine ev_iconst dX3_readBoy_116 ?_
          refine ev_ireturn dX3_readBoy_117 ?_
          have hj4 := hj3.wr hP (c := P) 2 (((d.1 2 : Nat) : Int) + 1) (by omega) (by omega)
          refine ⟨1, rfl, Or.inr ⟨rfl, addD d 2 (v3 9 x1 x2 x3), e3, ?_, ?_⟩⟩
          · unfold boyR
            simp only [hN1, hnf, if_false, hN2, hN3]
          have hm : ∀ c k, c ≠ 1 → (wr (wr τ_88 (P + 11) ((d.1 2 : Nat) : Int) x3) P 2 (((d.1 2 : Nat) : Int) + 1)).1 c k = if c = P ∧ k = 2 then ((d.1 2 : Nat) : Int) + 1 else if c = P + 11 ∧ k = ((d.1 2 : Nat) : Int) then x3 else if c = P + 10 ∧ k = ((d.1 2 : Nat) : Int) then x2 else if c = P + 9 ∧ k = ((d.1 2 : Nat) : Int) then x1 else σ.1 c k := by
            intro c k hc
            rw [wr_at, wr_at, hS3.at hc, wr_at, hS2.at hc, wr_at, hS1.at hc]
          refine ⟨hj4.1, hj4.2.1, hj4.2.2.1, hj4.2.2.2, PRepG.add (τ := wr (wr τ_88 (P + 11) ((d.1 2 : Nat) : Int) x3) P 2 (((d.1 2 : Nat) : Int) + 1)) hD 2 _ ?_ ?_ ?_ ?_, ?_⟩
          · rw [hm _ _ (by omega), if_pos ⟨rfl, rfl⟩]
          · intro k hk hne
            unfold fld4
            rw [hm _ _ (by omega)]
            repeat' (first | rw [if_pos (by omega)] | rw [if_neg (by omega)])
          · intro j hj hg
            have hjj : j = 9 ∨ j = 10 ∨ j = 11 := by
              unfold row at hj
              unfold grp at hg
              repeat (first | omega | split at hg)
            rw [hm _ _ (by omega)]
            rcases hjj with rfl | rfl | rfl
            · unfold v3
              repeat' (first | rw [if_pos (by omega)] | rw [if_neg (by omega)])
            · unfold v3
              repeat' (first | rw [if_pos (by omega)] | rw [if_neg (by omega)])
            · unfold v3
              repeat' (first | rw [if_pos (by omega)] | rw [if_neg (by omega)])
          · intro j hj p hp
            have hj2 : 1 ≤ j ∧ j ≤ 16 ∧ j ≠ 4 := hj
            rw [hm _ _ (by omega)]
            have hgp : (9 ≤ j ∧ j ≤ 11) → p < d.1 2 := fun q => by
              have e : grp j = 2 := by unfold grp; repeat' (first | omega | split)
              rw [e] at hp
              exact hp
            have hgp2 : ¬ ((9 ≤ j ∧ j ≤ 11)) ∨ p < d.1 2 := by
              by_cases q : (9 ≤ j ∧ j ≤ 11)
              · exact Or.inr (hgp q)
              · exact Or.inl q
            repeat' (first | rw [if_pos (by omega)] | rw [if_neg (by omega)])
          · intro p hpp
            rw [hm _ _ (by omega)]
            repeat' (first | rw [if_pos (by omega)] | rw [if_neg (by omega)])
            exact hA p hpp
        · refine ev_iconst dX3_readBoy_94 ?_
          refine ev_ireturn dX3_readBoy_95 ?_
          obtain ⟨f, w, hN, hF⟩ := hz_88.bad h_91
          refine ⟨0, rfl, Or.inl ⟨rfl, f, w, ?_, hj2.bad hF⟩⟩
          unfold boyR
          simp only [hN1, hN2, hnf, if_false, hN]
      · refine ev_iconst dX3_readBoy_72 ?_
        refine ev_ireturn dX3_readBoy_73 ?_
        obtain ⟨f, w, hN, hF⟩ := hz_66.bad h_69
        refine ⟨0, rfl, Or.inl ⟨rfl, f, w, ?_, hj1.bad hF⟩⟩
        unfold boyR
        simp only [hN1, hnf, if_false, hN]
    · refine ev_aload_n dX3_readBoy_41 rfl ?_
      refine ev_iconst dX3_readBoy_42 ?_
      refine ev_aload_n dX3_readBoy_43 rfl ?_
      refine ev_getI (kz := 5) dX3_readBoy_44 fl_X3_28 rfl rfl rfl ?_
      rw [g5]
      refine ev_callVI dX3_readBoy_47 kv_X3_96 (k_fail τ_13 4 _ (by decide) ⟨by omega, by omega⟩) rfl rfl (ci := 3) rfl rfl ⟨by decide, by decide⟩ (Nat.le_of_ble_eq_true rfl) ?_
      refine ev_w (fun hR => ?_)
      refine ev_ireturn dX3_readBoy_50 ?_
      refine ⟨0, rfl, Or.inl ⟨rfl, 4, a1, ?_, hI.bad (hS1.1.fail 4 a1)⟩⟩
      unfold boyR
      simp only [hN1]
      rw [if_pos (by omega)]
  · refine ev_iconst dX3_readBoy_19 ?_
    refine ev_ireturn dX3_readBoy_20 ?_
    obtain ⟨f, w, hN, hF⟩ := hz_13.bad h_16
    refine ⟨0, rfl, Or.inl ⟨rfl, f, w, ?_, hI.bad hF⟩⟩
    unfold boyR
    simp only [hN]
theorem k_knd {σ τ : Mem} {P L i : Nat} (h : RdI σ τ P L i) (hP : P = 3 ∨ P = 20) (hL5 : L ≤ 500) (hiL : i ≤ L) : Con yX3_readKind cX3_readKind 1 (some .boolean) 8 196 [.ref 1] τ (AnsQ (NumQ τ L (kndR (fun j : Nat => σ.1 2 j) L i))) := by
  have q := k_readKind τ L i h.2.1 hL5 h.2.2.2 hiL
  rw [h.c hP] at q
  exact q
theorem k_readLoad (σ : Mem) (P L i : Nat) (d : PD) (hP : P = 3 ∨ P = 20) (hL5 : L ≤ 500) (hiL : i ≤ L) (hI : RdI σ σ P L i) (hD : PRep σ P d) (hA : RAt σ P d) (hK : PDok d) (hf : d.1 3 < 4) : Con yX3_readLoad cX3_readLoad 3 (some .boolean) 9 216 [.ref 1, .ref P] σ (AnsQ (BodyQ σ P L (loadR (fun j : Nat => σ.1 2 j) L d i))) := by
  refine con_of (by decide) rfl (Nat.le_of_ble_eq_true rfl) (ok_QZ rfl (fun z τ h => h.z)) ?_
  refine ev_w (fun hR => ?_)
  have hR0 := hR
  obtain ⟨hcn, hrw⟩ := id hD
  have hnp : σ.1 P 0 = d.1 0 := hcn 0 (by decide)
  have hnr : σ.1 P 1 = d.1 1 := hcn 1 (by decide)
  have hnb : σ.1 P 2 = d.1 2 := hcn 2 (by decide)
  have hnl : σ.1 P 3 = d.1 3 := hcn 3 (by decide)
  obtain ⟨kp8, kr12, kb4, kl4, kp, kr, kb, kl⟩ := id hK
  refine ev_aload_n dX3_readLoad_0 rfl ?_
  refine ev_getI (kz := 3) dX3_readLoad_1 fl_X3_90 (plO hP) rfl rfl ?_
  rw [hnl]
  refine ev_istore_n dX3_readLoad_4 rfl (by decide) rfl ?_
  refine ev_aload_n dX3_readLoad_5 rfl ?_
  refine ev_iconst dX3_readLoad_6 ?_
  refine ev_aload_n dX3_readLoad_7 rfl ?_
  refine ev_getI (kz := 0) dX3_readLoad_8 fl_X3_59 (plO hP) rfl rfl ?_
  rw [hnp]
  refine ev_iconst dX3_readLoad_11 ?_
  refine ev_isub dX3_readLoad_12 ?_
  refine ev_callVP dX3_readLoad_13 kv_X3_99 (k_num hI hP hL5 hiL 0 (((d.1 0 : Nat) : Int) - 1) (by decide) ⟨by omega, by omega⟩) rfl rfl (ci := 3) rfl rfl ⟨by decide, by decide⟩ (Nat.le_of_ble_eq_true rfl) ?_
  rintro v_13 τ_13 ⟨z_13, rfl, hz_13⟩
  refine ev_w (fun hR => ?_)
  refine ev_if_ne (tgt := 21) dX3_readLoad_16 (by decide) hz_13.R (fun h_16 => ?_) (fun h_16 => ?_)
  · obtain ⟨x1, a1, e1, hN1, hS1⟩ := hz_13.ok h_16
    have hb1 := numR_ok hN1 hiL
    have hi1 := hI.num hS1
    refine ev_aload_n dX3_readLoad_21 rfl ?_
    refine ev_getR (r := P + 12) dX3_readLoad_22 fl_X3_144 (plO hP) rfl rfl ?_
    refine ev_iload_n dX3_readLoad_25 rfl ?_
    refine ev_aload_n dX3_readLoad_26 rfl ?_
    refine ev_getI (kz := 6) dX3_readLoad_27 fl_X3_31 rfl rfl rfl ?_
    rw [hS1.2]
    refine ev_iastore dX3_readLoad_30 (plA12 hP) (by first | omega | (simp [wr_at]; omega) | (simp [wr_at, *]; omega)) (by first | omega | (simp [wr_at]; omega) | (simp [wr_at, *]; omega)) (by decide) (by first | exact hR.1 _ _ | exact hR0.1 _ _ | assumption | exact ⟨by omega, by omega⟩ | exact ⟨by simp [wr_at]; omega, by simp [wr_at]; omega⟩ | exact b2_R _ | exact band_R _ _ | exact bor_R _ _ | exact bshl_R _ _ | exact bshr_R _ _ | exact bxor_R _ _ | exact bs_R (by omega) | decide) ?_
    refine ev_w (fun hR => ?_)
    have hj1 := hi1.wr hP (c := P + 12) ((d.1 3 : Nat) : Int) x1 (by omega) (by omega)
    have hm1 : (wr τ_13 (P + 12) ((d.1 3 : Nat) : Int) x1).1 (P + 12) ((d.1 3 : Nat) : Int) = x1 := wr_eq _ _ _ _
    have hm2 : (wr τ_13 (P + 12) ((d.1 3 : Nat) : Int) x1).1 P 0 = d.1 0 := by rw [wr_nec _ (by omega), hS1.at (by omega)]; exact hnp
    refine ev_aload_n dX3_readLoad_31 rfl ?_
    refine ev_aload_n dX3_readLoad_32 rfl ?_
    refine ev_aload_n dX3_readLoad_33 rfl ?_
    refine ev_getR (r := P + 12) dX3_readLoad_34 fl_X3_144 (plO hP) rfl rfl ?_
    refine ev_iload_n dX3_readLoad_37 rfl ?_
    refine ev_iaload dX3_readLoad_38 (plA12 hP) (by first | omega | (simp [wr_at]; omega) | (simp [wr_at, *]; omega)) (by first | omega | (simp [wr_at]; omega) | (simp [wr_at, *]; omega)) (by decide) ?_
    rw [hm1]
    refine ev_callVP dX3_readLoad_39 kv_X3_115 (k_other hj1 hP hL5 (by omega) (d.1 0) hm2 kp8 x1 ⟨by omega, by omega⟩) rfl rfl (ci := 3) rfl rfl ⟨by decide, by decide⟩ (Nat.le_of_ble_eq_true rfl) ?_
    rintro v_39 τ_39 ⟨z_39, rfl, hz_39⟩
    refine ev_w (fun hR => ?_)
    refine ev_if_ne (tgt := 47) dX3_readLoad_42 (by decide) hz_39.R (fun h_42 => ?_) (fun h_42 => ?_)
    · obtain ⟨x2, a2, e2, hN2, hS2⟩ := hz_39.ok h_42
      have hb2 := othR_ok hN2 hb1.2.2.2.2
      have hi2 := hj1.num hS2
      refine ev_aload_n dX3_readLoad_47 rfl ?_
      refine ev_getR (r := P + 13) dX3_readLoad_48 fl_X3_147 (plO hP) rfl rfl ?_
      refine ev_iload_n dX3_readLoad_51 rfl ?_
      refine ev_aload_n dX3_readLoad_52 rfl ?_
      refine ev_getI (kz := 6) dX3_readLoad_53 fl_X3_31 rfl rfl rfl ?_
      rw [hS2.2]
      refine ev_iastore dX3_readLoad_56 (plA13 hP) (by first | omega | (simp [wr_at]; omega) | (simp [wr_at, *]; omega)) (by first | omega | (simp [wr_at]; omega) | (simp [wr_at, *]; omega)) (by decide) (by first | exact hR.1 _ _ | exact hR0.1 _ _ | assumption | exact ⟨by omega, by omega⟩ | exact ⟨by simp [wr_at]; omega, by simp [wr_at]; omega⟩ | exact b2_R _ | exact band_R _ _ | exact bor_R _ _ | exact bshl_R _ _ | exact bshr_R _ _ | exact bxor_R _ _ | exact bs_R (by omega) | decide) ?_
      refine ev_w (fun hR => ?_)
      have hj2 := hi2.wr hP (c := P + 13) ((d.1 3 : Nat) : Int) x2 (by omega) (by omega)
      refine ev_aload_n dX3_readLoad_57 rfl ?_
      refine ev_iconst dX3_readLoad_58 ?_
      refine ev_sipush dX3_readLoad_59 (by decide) ?_
      refine ev_callVP dX3_readLoad_62 kv_X3_99 (k_num hj2 hP hL5 (by omega) 0 200 (by decide) (by decide)) rfl rfl (ci := 3) rfl rfl ⟨by decide, by decide⟩ (Nat.le_of_ble_eq_true rfl) ?_
      rintro v_62 τ_62 ⟨z_62, rfl, hz_62⟩
      refine ev_w (fun hR => ?_)
      refine ev_if_ne (tgt := 70) dX3_readLoad_65 (by decide) hz_62.R (fun h_65 => ?_) (fun h_65 => ?_)
      · obtain ⟨x3, a3, e3, hN3, hS3⟩ := hz_62.ok h_65
        have hb3 := numR_ok hN3 hb2.2.2.2.2.1
        have hi3 := hj2.num hS3
        refine ev_aload_n dX3_readLoad_70 rfl ?_
        refine ev_getR (r := P + 14) dX3_readLoad_71 fl_X3_150 (plO hP) rfl rfl ?_
        refine ev_iload_n dX3_readLoad_74 rfl ?_
        refine ev_aload_n dX3_readLoad_75 rfl ?_
        refine ev_getI (kz := 6) dX3_readLoad_76 fl_X3_31 rfl rfl rfl ?_
        rw [hS3.2]
        refine ev_iastore dX3_readLoad_79 (plA14 hP) (by first | omega | (simp [wr_at]; omega) | (simp [wr_at, *]; omega)) (by first | omega | (simp [wr_at]; omega) | (simp [wr_at, *]; omega)) (by decide) (by first | exact hR.1 _ _ | exact hR0.1 _ _ | assumption | exact ⟨by omega, by omega⟩ | exact ⟨by simp [wr_at]; omega, by simp [wr_at]; omega⟩ | exact b2_R _ | exact band_R _ _ | exact bor_R _ _ | exact bshl_R _ _ | exact bshr_R _ _ | exact bxor_R _ _ | exact bs_R (by omega) | decide) ?_
        refine ev_w (fun hR => ?_)
        have hj3 := hi3.wr hP (c := P + 14) ((d.1 3 : Nat) : Int) x3 (by omega) (by omega)
        refine ev_aload_n dX3_readLoad_80 rfl ?_
        refine ev_iconst dX3_readLoad_81 ?_
        refine ev_sipush dX3_readLoad_82 (by decide) ?_
        refine ev_callVP dX3_readLoad_85 kv_X3_99 (k_num hj3 hP hL5 (by omega) 0 999 (by decide) (by decide)) rfl rfl (ci := 3) rfl rfl ⟨by decide, by decide⟩ (Nat.le_of_ble_eq_true rfl) ?_
        rintro v_85 τ_85 ⟨z_85, rfl, hz_85⟩
        refine ev_w (fun hR => ?_)
        refine ev_if_ne (tgt := 93) dX3_readLoad_88 (by decide) hz_85.R (fun h_88 => ?_) (fun h_88 => ?_)
        · obtain ⟨x4, a4, e4, hN4, hS4⟩ := hz_85.ok h_88
          have hb4 := numR_ok hN4 hb3.2.2.2.2
          have hi4 := hj3.num hS4
          refine ev_aload_n dX3_readLoad_93 rfl ?_
          refine ev_getR (r := P + 15) dX3_readLoad_94 fl_X3_153 (plO hP) rfl rfl ?_
          refine ev_iload_n dX3_readLoad_97 rfl ?_
          refine ev_aload_n dX3_readLoad_98 rfl ?_
          refine ev_getI (kz := 6) dX3_readLoad_99 fl_X3_31 rfl rfl rfl ?_
          rw [hS4.2]
          refine ev_iastore dX3_readLoad_102 (plA15 hP) (by first | omega | (simp [wr_at]; omega) | (simp [wr_at, *]; omega)) (by first | omega | (simp [wr_at]; omega) | (simp [wr_at, *]; omega)) (by decide) (by first | exact hR.1 _ _ | exact hR0.1 _ _ | assumption | exact ⟨by omega, by omega⟩ | exact ⟨by simp [wr_at]; omega, by simp [wr_at]; omega⟩ | exact b2_R _ | exact band_R _ _ | exact bor_R _ _ | exact bshl_R _ _ | exact bshr_R _ _ | exact bxor_R _ _ | exact bs_R (by omega) | decide) ?_
          refine ev_w (fun hR => ?_)
          have hj4 := hi4.wr hP (c := P + 15) ((d.1 3 : Nat) : Int) x4 (by omega) (by omega)
          refine ev_aload_n dX3_readLoad_103 rfl ?_
          refine ev_callVP dX3_readLoad_104 kv_X3_156 (k_knd hj4 hP hL5 (by omega)) rfl rfl (ci := 3) rfl rfl ⟨by decide, by decide⟩ (Nat.le_of_ble_eq_true rfl) ?_
          rintro v_104 τ_104 ⟨z_104, rfl, hz_104⟩
          refine ev_w (fun hR => ?_)
          refine ev_if_ne (tgt := 112) dX3_readLoad_107 (by decide) hz_104.R (fun h_107 => ?_) (fun h_107 => ?_)
          · obtain ⟨x5, a5, e5, hN5, hS5⟩ := hz_104.ok h_107
            have hb5 := kndR_ok hN5 hb4.2.2.2.2
            have hi5 := hj4.num hS5
            refine ev_aload_n dX3_readLoad_112 rfl ?_
            refine ev_getR (r := P + 16) dX3_readLoad_113 fl_X3_159 (plO hP) rfl rfl ?_
            refine ev_iload_n dX3_readLoad_116 rfl ?_
            refine ev_aload_n dX3_readLoad_117 rfl ?_
            refine ev_getI (kz := 6) dX3_readLoad_118 fl_X3_31 rfl rfl rfl ?_
            rw [hS5.2]
            refine ev_iastore dX3_readLoad_121 (plA16 hP) (by first | omega | (simp [wr_at]; omega) | (simp [wr_at, *]; omega)) (by first | omega | (simp [wr_at]; omega) | (simp [wr_at, *]; omega)) (by decide) (by first | exact hR.1 _ _ | exact hR0.1 _ _ | assumption | exact ⟨by omega, by omega⟩ | exact ⟨by simp [wr_at]; omega, by simp [wr_at]; omega⟩ | exact b2_R _ | exact band_R _ _ | exact bor_R _ _ | exact bshl_R _ _ | exact bshr_R _ _ | exact bxor_R _ _ | exact bs_R (by omega) | decide) ?_
            refine ev_w (fun hR => ?_)
            have hj5 := hi5.wr hP (c := P + 16) ((d.1 3 : Nat) : Int) x5 (by omega) (by omega)
            have hm3 : ∀ c k, c ≠ 1 → (wr τ_104 (P + 16) ((d.1 3 : Nat) : Int) x5).1 c k = if c = P + 16 ∧ k = ((d.1 3 : Nat) : Int) then x5 else if c = P + 15 ∧ k = ((d.1 3 : Nat) : Int) then x4 else if c = P + 14 ∧ k = ((d.1 3 : Nat) : Int) then x3 else if c = P + 13 ∧ k = ((d.1 3 : Nat) : Int) then x2 else if c = P + 12 ∧ k = ((d.1 3 : Nat) : Int) then x1 else σ.1 c k := by
              intro c k hc
              rw [wr_at, hS5.at hc, wr_at, hS4.at hc, wr_at, hS3.at hc, wr_at, hS2.at hc, wr_at, hS1.at hc]
            have hm0 : (wr τ_104 (P + 16) ((d.1 3 : Nat) : Int) x5).1 P 3 = ((d.1 3 : Nat) : Int) := by
              rw [hm3 _ _ (by omega)]
              repeat' (first | rw [if_pos (by omega)] | rw [if_neg (by omega)])
              exact hnl
            refine ev_aload_n dX3_readLoad_122 rfl ?_
            refine ev_dup dX3_readLoad_123 rfl ?_
            refine ev_getI (kz := 3) dX3_readLoad_124 fl_X3_90 (plO hP) rfl rfl ?_
            rw [hm0]
            refine ev_iconst dX3_readLoad_127 ?_
            refine ev_iadd dX3_readLoad_128 ?_
            refine ev_putI (kz := 3) dX3_readLoad_129 fp_X3_90 (plO hP) rfl rfl (by first | exact hR.1 _ _ | exact hR0.1 _ _ | assumption | exact ⟨by omega, by omega⟩ | exact ⟨by simp [wr_at]; omega, by simp [wr_at]; omega⟩ | exact b2_R _ | exact band_R _ _ | exact bor_R _ _ | exact bshl_R _ _ | exact bshr_R _ _ | exact bxor_R _ _ | exact bs_R (by omega) | decide) ?_
            refine ev_w (fun hR => ?_)
            refine ev_iconst dX3_readLoad_132 ?_
            refine ev_ireturn dX3_readLoad_133 ?_
            have hj6 := hj5.wr hP (c := P) 3 (((d.1 3 : Nat) : Int) + 1) (by omega) (by omega)
            refine ⟨1, rfl, Or.inr ⟨rfl, addD d 3 (v5 12 x1 x2 x3 x4 x5), e5, ?_, ?_⟩⟩
            · unfold loadR
              simp only [hN1, hN2, hN3, hN4, hN5]
            have hm : ∀ c k, c ≠ 1 → (wr (wr τ_104 (P + 16) ((d.1 3 : Nat) : Int) x5) P 3 (((d.1 3 : Nat) : Int) + 1)).1 c k = if c = P ∧ k = 3 then ((d.1 3 : Nat) : Int) + 1 else if c = P + 16 ∧ k = ((d.1 3 : Nat) : Int) then x5 else if c = P + 15 ∧ k = ((d.1 3 : Nat) : Int) then x4 else if c = P + 14 ∧ k = ((d.1 3 : Nat) : Int) then x3 else if c = P + 13 ∧ k = ((d.1 3 : Nat) : Int) then x2 else if c = P + 12 ∧ k = ((d.1 3 : Nat) : Int) then x1 else σ.1 c k := by
              intro c k hc
              rw [wr_at, wr_at, hS5.at hc, wr_at, hS4.at hc, wr_at, hS3.at hc, wr_at, hS2.at hc, wr_at, hS1.at hc]
            refine ⟨hj6.1, hj6.2.1, hj6.2.2.1, hj6.2.2.2, PRepG.add (τ := wr (wr τ_104 (P + 16) ((d.1 3 : Nat) : Int) x5) P 3 (((d.1 3 : Nat) : Int) + 1)) hD 3 _ ?_ ?_ ?_ ?_, ?_⟩
            · rw [hm _ _ (by omega), if_pos ⟨rfl, rfl⟩]
            · intro k hk hne
              unfold fld4
              rw [hm _ _ (by omega)]
              repeat' (first | rw [if_pos (by omega)] | rw [if_neg (by omega)])
            · intro j hj hg
              have hjj : j = 12 ∨ j = 13 ∨ j = 14 ∨ j = 15 ∨ j = 16 := by
                unfold row at hj
                unfold grp at hg
                repeat (first | omega | split at hg)
              rw [hm _ _ (by omega)]
              rcases hjj with rfl | rfl | rfl | rfl | rfl
              · unfold v5
                repeat' (first | rw [if_pos (by omega)] | rw [if_neg (by omega)])
              · unfold v5
                repeat' (first | rw [if_pos (by omega)] | rw [if_neg (by omega)])
              · unfold v5
                repeat' (first | rw [if_pos (by omega)] | rw [if_neg (by omega)])
              · unfold v5
                repeat' (first | rw [if_pos (by omega)] | rw [if_neg (by omega)])
              · unfold v5
                repeat' (first | rw [if_pos (by omega)] | rw [if_neg (by omega)])
            · intro j hj p hp
              have hj2 : 1 ≤ j ∧ j ≤ 16 ∧ j ≠ 4 := hj
              rw [hm _ _ (by omega)]
              have hgp : (12 ≤ j ∧ j ≤ 16) → p < d.1 3 := fun q => by
                have e : grp j = 3 := by unfold grp; repeat' (first | omega | split)
                rw [e] at hp
                exact hp
              have hgp2 : ¬ ((12 ≤ j ∧ j ≤ 16)) ∨ p < d.1 3 := by
                by_cases q : (12 ≤ j ∧ j ≤ 16)
                · exact Or.inr (hgp q)
                · exact Or.inl q
              repeat' (first | rw [if_pos (by omega)] | rw [if_neg (by omega)])
            · intro p hpp
              rw [hm _ _ (by omega)]
              repeat' (first | rw [if_pos (by omega)] | rw [if_neg (by omega)])
              exact hA p hpp
          · refine ev_iconst dX3_readLoad_110 ?_
            refine ev_ireturn dX3_readLoad_111 ?_
            obtain ⟨f, w, hN, hF⟩ := hz_104.bad h_107
            refine ⟨0, rfl, Or.inl ⟨rfl, f, w, ?_, hj4.bad hF⟩⟩
            unfold loadR
            simp only [hN1, hN2, hN3, hN4, hN]
        · refine ev_iconst dX3_readLoad_91 ?_
          refine ev_ireturn dX3_readLoad_92 ?_
          obtain ⟨f, w, hN, hF⟩ := hz_85.bad h_88
          refine ⟨0, rfl, Or.inl ⟨rfl, f, w, ?_, hj3.bad hF⟩⟩
          unfold loadR
          simp only [hN1, hN2, hN3, hN]
      · refine ev_iconst dX3_readLoad_68 ?_
        refine ev_ireturn dX3_readLoad_69 ?_
        obtain ⟨f, w, hN, hF⟩ := hz_62.bad h_65
        refine ⟨0, rfl, Or.inl ⟨rfl, f, w, ?_, hj2.bad hF⟩⟩
        unfold loadR
        simp only [hN1, hN2, hN]
    · refine ev_iconst dX3_readLoad_45 ?_
      refine ev_ireturn dX3_readLoad_46 ?_
      obtain ⟨f, w, hN, hF⟩ := hz_39.bad h_42
      refine ⟨0, rfl, Or.inl ⟨rfl, f, w, ?_, hj1.bad hF⟩⟩
      unfold loadR
      simp only [hN1, hN]
  · refine ev_iconst dX3_readLoad_19 ?_
    refine ev_ireturn dX3_readLoad_20 ?_
    obtain ⟨f, w, hN, hF⟩ := hz_13.bad h_16
    refine ⟨0, rfl, Or.inl ⟨rfl, f, w, ?_, hI.bad hF⟩⟩
    unfold loadR
    simp only [hN]
