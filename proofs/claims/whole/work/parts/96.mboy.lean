set_option maxHeartbeats 2000000 in
theorem m_takeBoy (μ : Mem) (c : Nat → Int) (L i : Nat) (d : PD) (hT : TX μ c L) (hiL : i ≤ L) (hS : SoFr μ μ d i) (hK : PDok d) (hf : d.1 2 < 4) : Con yX8_takeBoy cX8_takeBoy 4 (some .int) 3 73 [.ref 79] μ (AnsQ (BodM μ (boyR c L d i))) := by
  refine con_of (by decide) rfl (Nat.le_of_ble_eq_true rfl) (ok_Q rfl) ?_
  refine ev_w (fun hR => ?_)
  have hR0 := hR
  have hL5 := hT.2.1
  obtain ⟨k0, k1, k2, k3, kp, kr, kb, kl⟩ := id hK
  have hc0 : ∀ {ν e}, SoFr μ ν d e → ν.1 79 43 = d.1 0 ∧ ν.1 79 47 = d.1 1 ∧ ν.1 79 52 = d.1 2 ∧ ν.1 79 56 = d.1 3 := fun {ν e} h => ⟨h.2.2.2.1 0 (by decide), h.2.2.2.1 1 (by decide), h.2.2.2.1 2 (by decide), h.2.2.2.1 3 (by decide)⟩
  have htx : ∀ {ν e}, SoFr μ ν d e → TX ν c L := fun {ν e} h => hT.rs h.1
  refine ev_aload_n dX8_takeBoy_0 rfl ?_
  refine ev_aload_n dX8_takeBoy_1 rfl ?_
  refine ev_getR (r := 115) dX8_takeBoy_2 fl_X8_120 rfl rfl rfl ?_
  refine ev_aload_n dX8_takeBoy_5 rfl ?_
  refine ev_getI (kz := 52) dX8_takeBoy_6 fl_X8_268 rfl rfl rfl ?_
  rw [(hc0 hS).2.2.1]
  refine ev_iconst dX8_takeBoy_9 ?_
  refine ev_aload_n dX8_takeBoy_10 rfl ?_
  refine ev_getI (kz := 43) dX8_takeBoy_11 fl_X8_254 rfl rfl rfl ?_
  rw [(hc0 hS).1]
  refine ev_iconst dX8_takeBoy_14 ?_
  refine ev_isub dX8_takeBoy_15 ?_
  refine ev_callVP dX8_takeBoy_16 kv_X8_257 (m_into μ c L i hT hS.2.2.1 hiL 0 ((d.1 0 : Int) - 1) (by first | decide | exact ⟨by omega, by omega⟩) (by first | decide | exact ⟨by omega, by omega⟩) 115 4 rfl (by decide) (d.1 2) (by omega)) rfl rfl (ci := 8) rfl rfl ⟨by decide, by decide⟩ (Nat.le_of_ble_eq_true rfl) ?_
  rintro v_16 τ_16 ⟨z_16, rfl, hq_16⟩
  refine ev_w (fun hR => ?_)
  refine ev_istore_n dX8_takeBoy_19 rfl (by decide) rfl ?_
  rcases into_S hS (show row 9 from ⟨by decide, by decide, by decide⟩) hq_16 with ⟨f1, w1, r1, rfl, f0, f4, hrs, hw, hcn⟩ | ⟨x1, a1, e1, r1, rfl, S1, vv1, ot1, nu1, na1⟩
  · refine ev_iload_n dX8_takeBoy_20 rfl ?_
    refine ev_if_le (tgt := 26) dX8_takeBoy_21 (by decide) (by first | exact hR.1 _ _ | exact hR0.1 _ _ | assumption | exact ⟨by omega, by omega⟩ | exact ⟨by simp [wr_at]; omega, by simp [wr_at]; omega⟩ | exact b2_R _ | exact bC_R _ | exact band_R _ _ | exact bor_R _ _ | exact bshl_R _ _ | exact bshr_R _ _ | exact bxor_R _ _ | exact bs_R (by omega) | decide) (fun h_21 => ?_) (fun h_21 => ?_)
    · exfalso; omega
    · refine ev_iload_n dX8_takeBoy_24 rfl ?_
      refine ev_ireturn dX8_takeBoy_25 ?_
      refine ⟨_, rfl, Or.inl ⟨_, _, (by unfold boyR; rw [r1]), rfl, f0, f4, hrs, hw⟩⟩
  · have n1 := numR_ok r1 hiL
    refine ev_iload_n dX8_takeBoy_20 rfl ?_
    refine ev_if_le (tgt := 26) dX8_takeBoy_21 (by decide) (by first | exact hR.1 _ _ | exact hR0.1 _ _ | assumption | exact ⟨by omega, by omega⟩ | exact ⟨by simp [wr_at]; omega, by simp [wr_at]; omega⟩ | exact b2_R _ | exact bC_R _ | exact band_R _ _ | exact bor_R _ _ | exact bshl_R _ _ | exact bshr_R _ _ | exact bxor_R _ _ | exact bs_R (by omega) | decide) (fun h_21 => ?_) (fun h_21 => ?_)
    · have cntl : ∀ j : Nat, j ≤ d.1 2 → Ev RX8 cX8_takeBoy 4 3 73 (AnsQ (BodM μ (boyR c L d i))) 30 [some (.ref 79), some (.int (iI 0)), some (.int (iI (cnt (fun b => decide (d.2 9 b = x1)) j : Nat))), some (.int (iI (j : Nat)))] [] τ_16 := by
        refine for_up (d.1 2) (fun j hj ihj => ?_)
        refine ev_w (fun hR => ?_)
        have hcl := cnt_le (fun b => decide (d.2 9 b = x1)) j
        have hsu : cnt (fun b => decide (d.2 9 b = x1)) (j + 1) = cnt (fun b => decide (d.2 9 b = x1)) j + (if decide (d.2 9 j = x1) then 1 else 0) := rfl
        refine ev_iload_n dX8_takeBoy_30 rfl ?_
        refine ev_aload_n dX8_takeBoy_31 rfl ?_
        refine ev_getI (kz := 52) dX8_takeBoy_32 fl_X8_268 rfl rfl rfl ?_
        rw [(hc0 S1).2.2.1]
        refine ev_icmp_ge (tgt := 65) dX8_takeBoy_35 (by decide) (by first | exact hR.1 _ _ | exact hR0.1 _ _ | assumption | exact ⟨by omega, by omega⟩ | exact ⟨by simp [wr_at]; omega, by simp [wr_at]; omega⟩ | exact b2_R _ | exact bC_R _ | exact band_R _ _ | exact bor_R _ _ | exact bshl_R _ _ | exact bshr_R _ _ | exact bxor_R _ _ | exact bs_R (by omega) | decide) (by first | exact hR.1 _ _ | exact hR0.1 _ _ | assumption | exact ⟨by omega, by omega⟩ | exact ⟨by simp [wr_at]; omega, by simp [wr_at]; omega⟩ | exact b2_R _ | exact bC_R _ | exact band_R _ _ | exact bor_R _ _ | exact bshl_R _ _ | exact bshr_R _ _ | exact bxor_R _ _ | exact bs_R (by omega) | decide) (fun h_35 => ?_) (fun h_35 => ?_)
        · obtain rfl : j = d.1 2 := by omega
          have hpn : x1.toNat < d.1 0 := by omega
          have e110 : τ_16.1 110 x1 = d.2 3 x1.toNat := by
            have q := S1.2.2.2.2 3 ⟨by decide, by decide, by decide⟩ x1.toNat hpn
            rw [show ((x1.toNat : Nat) : Int) = x1 by omega] at q
            exact q
          have hkp := (kp x1.toNat hpn).2.2
          refine ev_iload_n dX8_takeBoy_65 rfl ?_
          refine ev_aload_n dX8_takeBoy_66 rfl ?_
          refine ev_getR (r := 110) dX8_takeBoy_67 fl_X8_105 rfl rfl rfl ?_
          refine ev_aload_n dX8_takeBoy_70 rfl ?_
          refine ev_getI (kz := 41) dX8_takeBoy_71 fl_X8_248 rfl rfl rfl ?_
          rw [nu1]
          refine ev_iaload dX8_takeBoy_74 rfl (by first | omega | (simp [wr_at]; omega) | (simp [wr_at, *]; omega)) (by first | omega | (simp [wr_at]; omega) | (simp [wr_at, *]; omega)) (by decide) ?_
          rw [e110]
          refine ev_icmp_lt (tgt := 88) dX8_takeBoy_75 (by decide) (by first | exact hR.1 _ _ | exact hR0.1 _ _ | assumption | exact ⟨by omega, by omega⟩ | exact ⟨by simp [wr_at]; omega, by simp [wr_at]; omega⟩ | exact b2_R _ | exact bC_R _ | exact band_R _ _ | exact bor_R _ _ | exact bshl_R _ _ | exact bshr_R _ _ | exact bxor_R _ _ | exact bs_R (by omega) | decide) (by first | exact hR.1 _ _ | exact hR0.1 _ _ | assumption | exact ⟨by omega, by omega⟩ | exact ⟨by simp [wr_at]; omega, by simp [wr_at]; omega⟩ | exact b2_R _ | exact bC_R _ | exact band_R _ _ | exact bor_R _ _ | exact bshl_R _ _ | exact bshr_R _ _ | exact bxor_R _ _ | exact bs_R (by omega) | decide) (fun h_75 => ?_) (fun h_75 => ?_)
          · have hno : ¬ d.2 3 x1.toNat ≤ (cnt (fun b => decide (d.2 9 b = x1)) (d.1 2) : Nat) := by omega
            refine ev_aload_n dX8_takeBoy_88 rfl ?_
            refine ev_aload_n dX8_takeBoy_89 rfl ?_
            refine ev_getR (r := 116) dX8_takeBoy_90 fl_X8_123 rfl rfl rfl ?_
            refine ev_aload_n dX8_takeBoy_93 rfl ?_
            refine ev_getI (kz := 52) dX8_takeBoy_94 fl_X8_268 rfl rfl rfl ?_
            rw [(hc0 S1).2.2.1]
            refine ev_iconst dX8_takeBoy_97 ?_
            refine ev_sipush dX8_takeBoy_98 (by decide) ?_
            refine ev_callVP dX8_takeBoy_101 kv_X8_257 (m_into _ c L e1 (htx S1) S1.2.2.1 n1.2.2.2.2 1 200 (by first | decide | exact ⟨by omega, by omega⟩) (by first | decide | exact ⟨by omega, by omega⟩) 116 4 rfl (by decide) (d.1 2) (by omega)) rfl rfl (ci := 8) rfl rfl ⟨by decide, by decide⟩ (Nat.le_of_ble_eq_true rfl) ?_
            rintro v_101 τ_101 ⟨z_101, rfl, hq_101⟩
            refine ev_w (fun hR => ?_)
            refine ev_istore_n dX8_takeBoy_104 rfl (by decide) rfl ?_
            rcases into_S S1 (show row 10 from ⟨by decide, by decide, by decide⟩) hq_101 with ⟨f2, w2, r2, rfl, f0, f4, hrs, hw, hcn⟩ | ⟨x2, a2, e2, r2, rfl, S2, vv2, ot2, nu2, na2⟩
            · refine ev_iload_n dX8_takeBoy_105 rfl ?_
              refine ev_if_le (tgt := 113) dX8_takeBoy_106 (by decide) (by first | exact hR.1 _ _ | exact hR0.1 _ _ | assumption | exact ⟨by omega, by omega⟩ | exact ⟨by simp [wr_at]; omega, by simp [wr_at]; omega⟩ | exact b2_R _ | exact bC_R _ | exact band_R _ _ | exact bor_R _ _ | exact bshl_R _ _ | exact bshr_R _ _ | exact bxor_R _ _ | exact bs_R (by omega) | decide) (fun h_106 => ?_) (fun h_106 => ?_)
              · exfalso; omega
              · refine ev_iload_n dX8_takeBoy_109 rfl ?_
                refine ev_goto (tgt := 128) dX8_takeBoy_110 (by decide) ?_
                refine ev_istore_n dX8_takeBoy_128 rfl (by decide) rfl ?_
                refine ev_aload_n dX8_takeBoy_129 rfl ?_
                refine ev_dup dX8_takeBoy_130 rfl ?_
                refine ev_getI (kz := 52) dX8_takeBoy_131 fl_X8_268 rfl rfl rfl ?_
                refine ev_iconst dX8_takeBoy_134 ?_
                refine ev_iadd dX8_takeBoy_135 ?_
                refine ev_putI (kz := 52) dX8_takeBoy_136 fp_X8_268 rfl rfl rfl (by have := hcn 2 (by decide); rw [show fM 2 = 52 from rfl] at this; rw [this]; exact ⟨by omega, by omega⟩) ?_
                refine ev_w (fun hR => ?_)
                refine ev_iload_n dX8_takeBoy_139 rfl ?_
                refine ev_ireturn dX8_takeBoy_140 ?_
                refine ⟨_, rfl, Or.inl ⟨_, _, (by unfold boyR; rw [r1]; dsimp only; rw [if_neg hno, r2]), rfl, f0, f4, hrs.wf _ (by unfold PF; omega), ?_⟩⟩
                exact hw.wf _ (by decide) (by decide)
            · have n2 := numR_ok r2 n1.2.2.2.2
              refine ev_iload_n dX8_takeBoy_105 rfl ?_
              refine ev_if_le (tgt := 113) dX8_takeBoy_106 (by decide) (by first | exact hR.1 _ _ | exact hR0.1 _ _ | assumption | exact ⟨by omega, by omega⟩ | exact ⟨by simp [wr_at]; omega, by simp [wr_at]; omega⟩ | exact b2_R _ | exact bC_R _ | exact band_R _ _ | exact bor_R _ _ | exact bshl_R _ _ | exact bshr_R _ _ | exact bxor_R _ _ | exact bs_R (by omega) | decide) (fun h_106 => ?_) (fun h_106 => ?_)
              · refine ev_aload_n dX8_takeBoy_113 rfl ?_
                refine ev_aload_n dX8_takeBoy_114 rfl ?_
                refine ev_getR (r := 117) dX8_takeBoy_115 fl_X8_126 rfl rfl rfl ?_
                refine ev_aload_n dX8_takeBoy_118 rfl ?_
                refine ev_getI (kz := 52) dX8_takeBoy_119 fl_X8_268 rfl rfl rfl ?_
                rw [(hc0 S2).2.2.1]
                refine ev_iconst dX8_takeBoy_122 ?_
                refine ev_bipush dX8_takeBoy_123 (by decide) ?_
                refine ev_callVP dX8_takeBoy_125 kv_X8_257 (m_into _ c L e2 (htx S2) S2.2.2.1 n2.2.2.2.2 1 50 (by first | decide | exact ⟨by omega, by omega⟩) (by first | decide | exact ⟨by omega, by omega⟩) 117 4 rfl (by decide) (d.1 2) (by omega)) rfl rfl (ci := 8) rfl rfl ⟨by decide, by decide⟩ (Nat.le_of_ble_eq_true rfl) ?_
                rintro v_125 τ_125 ⟨z_125, rfl, hq_125⟩
                refine ev_w (fun hR => ?_)
                refine ev_istore_n dX8_takeBoy_128 rfl (by decide) rfl ?_
                rcases into_S S2 (show row 11 from ⟨by decide, by decide, by decide⟩) hq_125 with ⟨f3, w3, r3, rfl, f0, f4, hrs, hw, hcn⟩ | ⟨x3, a3, e3, r3, rfl, S3, vv3, ot3, nu3, na3⟩
                · refine ev_aload_n dX8_takeBoy_129 rfl ?_
                  refine ev_dup dX8_takeBoy_130 rfl ?_
                  refine ev_getI (kz := 52) dX8_takeBoy_131 fl_X8_268 rfl rfl rfl ?_
                  refine ev_iconst dX8_takeBoy_134 ?_
                  refine ev_iadd dX8_takeBoy_135 ?_
                  refine ev_putI (kz := 52) dX8_takeBoy_136 fp_X8_268 rfl rfl rfl (by have := hcn 2 (by decide); rw [show fM 2 = 52 from rfl] at this; rw [this]; exact ⟨by omega, by omega⟩) ?_
                  refine ev_w (fun hR => ?_)
                  refine ev_iload_n dX8_takeBoy_139 rfl ?_
                  refine ev_ireturn dX8_takeBoy_140 ?_
                  refine ⟨_, rfl, Or.inl ⟨_, _, (by unfold boyR; rw [r1]; dsimp only; rw [if_neg hno, r2]; dsimp only; rw [r3]), rfl, f0, f4, hrs.wf _ (by unfold PF; omega), ?_⟩⟩
                  exact hw.wf _ (by decide) (by decide)
                · refine ev_aload_n dX8_takeBoy_129 rfl ?_
                  refine ev_dup dX8_takeBoy_130 rfl ?_
                  refine ev_getI (kz := 52) dX8_takeBoy_131 fl_X8_268 rfl rfl rfl ?_
                  rw [(hc0 S3).2.2.1]
                  refine ev_iconst dX8_takeBoy_134 ?_
                  refine ev_iadd dX8_takeBoy_135 ?_
                  refine ev_putI (kz := 52) dX8_takeBoy_136 fp_X8_268 rfl rfl rfl (by first | exact hR.1 _ _ | exact hR0.1 _ _ | assumption | exact ⟨by omega, by omega⟩ | exact ⟨by simp [wr_at]; omega, by simp [wr_at]; omega⟩ | exact b2_R _ | exact bC_R _ | exact band_R _ _ | exact bor_R _ _ | exact bshl_R _ _ | exact bshr_R _ _ | exact bxor_R _ _ | exact bs_R (by omega) | decide) ?_
                  refine ev_w (fun hR => ?_)
                  refine ev_iload_n dX8_takeBoy_139 rfl ?_
                  refine ev_ireturn dX8_takeBoy_140 ?_
                  refine ⟨_, rfl, Or.inr ⟨addD d 2 (v3 9 x1 x2 x3), e3, by unfold boyR; rw [r1]; dsimp only; rw [if_neg hno, r2]; dsimp only; rw [r3], rfl, ?_⟩⟩
                  refine stp_add (g := 2) S3 (by decide) _ (fun j hj hg => ?_)
                  have hj9 : j = 9 ∨ j = 10 ∨ j = 11 := by
                    obtain ⟨h1, h2, h3⟩ := hj
                    unfold grp at hg
                    split at hg
                    · omega
                    · split at hg
                      · omega
                      · split at hg <;> omega
                  rcases hj9 with rfl | rfl | rfl
                  · show τ_125.1 115 _ = x1
                    rw [ot3 115 (by decide) (by decide) (by decide), ot2 115 (by decide) (by decide) (by decide)]; exact vv1
                  · show τ_125.1 116 _ = x2
                    rw [ot3 116 (by decide) (by decide) (by decide)]; exact vv2
                  · exact vv3
              · exfalso; omega
          · refine ev_aload_n dX8_takeBoy_78 rfl ?_
            refine ev_iconst dX8_takeBoy_79 ?_
            refine ev_aload_n dX8_takeBoy_80 rfl ?_
            refine ev_getI (kz := 42) dX8_takeBoy_81 fl_X8_245 rfl rfl rfl ?_
            rw [na1]
            refine ev_callVI dX8_takeBoy_84 kv_X8_241 (m_fails _ 4 (a1 : Int) (by decide) ⟨by omega, by omega⟩) rfl rfl (ci := 8) rfl rfl ⟨by decide, by decide⟩ (Nat.le_of_ble_eq_true rfl) ?_
            refine ev_w (fun hR => ?_)
            refine ev_ireturn dX8_takeBoy_87 ?_
            refine ⟨4, rfl, Or.inl ⟨4, a1, ?_, rfl, by decide, by decide, S1.1.wf _ (by unfold PF; omega), FA.mk S1.2.2.1 (by omega)⟩⟩
            unfold boyR
            rw [r1]
            dsimp only
            rw [if_pos (by omega)]
        · have e115 : τ_16.1 115 (j : Int) = d.2 9 j := S1.2.2.2.2 9 ⟨by decide, by decide, by decide⟩ j (by show j < d.1 2; omega)
          have hdj := (kb j (by omega)).1
          refine ev_iload_n dX8_takeBoy_38 rfl ?_
          refine ev_aload_n dX8_takeBoy_39 rfl ?_
          refine ev_getR (r := 115) dX8_takeBoy_40 fl_X8_120 rfl rfl rfl ?_
          refine ev_iload_n dX8_takeBoy_43 rfl ?_
          refine ev_iaload dX8_takeBoy_44 rfl (by first | omega | (simp [wr_at]; omega) | (simp [wr_at, *]; omega)) (by first | omega | (simp [wr_at]; omega) | (simp [wr_at, *]; omega)) (by decide) ?_
          rw [e115]
          refine ev_aload_n dX8_takeBoy_45 rfl ?_
          refine ev_getI (kz := 41) dX8_takeBoy_46 fl_X8_248 rfl rfl rfl ?_
          rw [nu1]
          refine ev_icmp_ne (tgt := 56) dX8_takeBoy_49 (by decide) ⟨by omega, by omega⟩ ⟨by omega, by omega⟩ (fun h_49 => ?_) (fun h_49 => ?_)
          · refine ev_iconst dX8_takeBoy_56 ?_
            refine ev_iadd dX8_takeBoy_57 ?_
            refine ev_istore_n dX8_takeBoy_58 rfl (by decide) rfl ?_
            refine ev_iinc dX8_takeBoy_59 rfl rfl (by decide) rfl ?_
            refine ev_goto (tgt := 30) dX8_takeBoy_62 (by decide) ?_
            have q := ihj (by omega)
            rw [hsu] at q
            first
              | (rw [if_pos (decide_eq_true h_49)] at q
                 exact q)
              | (rw [if_neg (by simpa using h_49), Nat.add_zero] at q
                 rw [Int.add_zero]
                 exact q)
          · refine ev_iconst dX8_takeBoy_52 ?_
            refine ev_goto (tgt := 57) dX8_takeBoy_53 (by decide) ?_
            refine ev_iadd dX8_takeBoy_57 ?_
            refine ev_istore_n dX8_takeBoy_58 rfl (by decide) rfl ?_
            refine ev_iinc dX8_takeBoy_59 rfl rfl (by decide) rfl ?_
            refine ev_goto (tgt := 30) dX8_takeBoy_62 (by decide) ?_
            have q := ihj (by omega)
            rw [hsu] at q
            first
              | (rw [if_pos (decide_eq_true h_49)] at q
                 exact q)
              | (rw [if_neg (by simpa using h_49), Nat.add_zero] at q
                 rw [Int.add_zero]
                 exact q)
      refine ev_iconst dX8_takeBoy_26 ?_
      refine ev_istore_n dX8_takeBoy_27 rfl (by decide) rfl ?_
      refine ev_iconst dX8_takeBoy_28 ?_
      refine ev_istore_n dX8_takeBoy_29 rfl (by decide) rfl ?_
      exact cntl 0 (by omega)
    · exfalso; omega
set_option maxHeartbeats 4000000 in
theorem m_takeLoad (μ : Mem) (c : Nat → Int) (L i : Nat) (d : PD) (hT : TX μ c L) (hiL : i ≤ L) (hS : SoFr μ μ d i) (hK : PDok d) (hf : d.1 3 < 4) : Con yX8_takeLoad cX8_takeLoad 3 (some .int) 4 97 [.ref 79] μ (AnsQ (BodM μ (loadR c L d i))) := by
  refine con_of (by decide) rfl (Nat.le_of_ble_eq_true rfl) (ok_Q rfl) ?_
  refine ev_w (fun hR => ?_)
  have hR0 := hR
  have hL5 := hT.2.1
  obtain ⟨k0, k1, k2, k3, kp, kr, kb, kl⟩ := id hK
  have hc0 : ∀ {ν e}, SoFr μ ν d e → ν.1 79 43 = d.1 0 ∧ ν.1 79 47 = d.1 1 ∧ ν.1 79 52 = d.1 2 ∧ ν.1 79 56 = d.1 3 := fun {ν e} h => ⟨h.2.2.2.1 0 (by decide), h.2.2.2.1 1 (by decide), h.2.2.2.1 2 (by decide), h.2.2.2.1 3 (by decide)⟩
  have htx : ∀ {ν e}, SoFr μ ν d e → TX ν c L := fun {ν e} h => hT.rs h.1
  refine ev_aload_n dX8_takeLoad_0 rfl ?_
  refine ev_aload_n dX8_takeLoad_1 rfl ?_
  refine ev_getR (r := 118) dX8_takeLoad_2 fl_X8_129 rfl rfl rfl ?_
  refine ev_aload_n dX8_takeLoad_5 rfl ?_
  refine ev_getR (r := 119) dX8_takeLoad_6 fl_X8_132 rfl rfl rfl ?_
  refine ev_aload_n dX8_takeLoad_9 rfl ?_
  refine ev_getI (kz := 56) dX8_takeLoad_10 fl_X8_271 rfl rfl rfl ?_
  rw [(hc0 hS).2.2.2]
  refine ev_callVP dX8_takeLoad_13 kv_X8_264 (m_twoL μ c L i d hT hiL hS hK hf) rfl rfl (ci := 8) rfl rfl ⟨by decide, by decide⟩ (Nat.le_of_ble_eq_true rfl) ?_
  rintro v_13 τ_13 ⟨z_13, rfl, hq_13⟩
  refine ev_w (fun hR => ?_)
  refine ev_istore_n dX8_takeLoad_16 rfl (by decide) rfl ?_
  rcases hq_13 with ⟨f1, w1, r1, rfl, f0, f4, hrs, hw, hcn⟩ | ⟨x1, a1, e1, x2, a2, e2, r1, r2, rfl, S2, vv1, vv2, ot2⟩
  · refine ev_iload_n dX8_takeLoad_17 rfl ?_
    refine ev_if_le (tgt := 25) dX8_takeLoad_18 (by decide) (by first | exact hR.1 _ _ | exact hR0.1 _ _ | assumption | exact ⟨by omega, by omega⟩ | exact ⟨by simp [wr_at]; omega, by simp [wr_at]; omega⟩ | exact b2_R _ | exact bC_R _ | exact band_R _ _ | exact bor_R _ _ | exact bshl_R _ _ | exact bshr_R _ _ | exact bxor_R _ _ | exact bs_R (by omega) | decide) (fun h_18 => ?_) (fun h_18 => ?_)
    · exfalso; omega
    · refine ev_iload_n dX8_takeLoad_21 rfl ?_
      refine ev_goto (tgt := 41) dX8_takeLoad_22 (by decide) ?_
      refine ev_istore_n dX8_takeLoad_41 rfl (by decide) rfl ?_
      refine ev_iload_n dX8_takeLoad_42 rfl ?_
      refine ev_if_le (tgt := 50) dX8_takeLoad_43 (by decide) (by first | exact hR.1 _ _ | exact hR0.1 _ _ | assumption | exact ⟨by omega, by omega⟩ | exact ⟨by simp [wr_at]; omega, by simp [wr_at]; omega⟩ | exact b2_R _ | exact bC_R _ | exact band_R _ _ | exact bor_R _ _ | exact bshl_R _ _ | exact bshr_R _ _ | exact bxor_R _ _ | exact bs_R (by omega) | decide) (fun h_43 => ?_) (fun h_43 => ?_)
      · exfalso; omega
      · refine ev_iload_n dX8_takeLoad_46 rfl ?_
        refine ev_goto (tgt := 66) dX8_takeLoad_47 (by decide) ?_
        refine ev_istore_n dX8_takeLoad_66 rfl (by decide) rfl ?_
        refine ev_iload_n dX8_takeLoad_67 rfl ?_
        refine ev_if_le (tgt := 73) dX8_takeLoad_68 (by decide) (by first | exact hR.1 _ _ | exact hR0.1 _ _ | assumption | exact ⟨by omega, by omega⟩ | exact ⟨by simp [wr_at]; omega, by simp [wr_at]; omega⟩ | exact b2_R _ | exact bC_R _ | exact band_R _ _ | exact bor_R _ _ | exact bshl_R _ _ | exact bshr_R _ _ | exact bxor_R _ _ | exact bs_R (by omega) | decide) (fun h_68 => ?_) (fun h_68 => ?_)
        · exfalso; omega
        · refine ev_iload_n dX8_takeLoad_71 rfl ?_
          refine ev_ireturn dX8_takeLoad_72 ?_
          refine ⟨_, rfl, Or.inl ⟨_, _, (loadR_two r1), rfl, f0, f4, hrs, hw⟩⟩
  · have n1 := numR_ok r1 hiL
    have n2 := othR_ok r2 n1.2.2.2.2
    refine ev_iload_n dX8_takeLoad_17 rfl ?_
    refine ev_if_le (tgt := 25) dX8_takeLoad_18 (by decide) (by first | exact hR.1 _ _ | exact hR0.1 _ _ | assumption | exact ⟨by omega, by omega⟩ | exact ⟨by simp [wr_at]; omega, by simp [wr_at]; omega⟩ | exact b2_R _ | exact bC_R _ | exact band_R _ _ | exact bor_R _ _ | exact bshl_R _ _ | exact bshr_R _ _ | exact bxor_R _ _ | exact bs_R (by omega) | decide) (fun h_18 => ?_) (fun h_18 => ?_)
    · refine ev_aload_n dX8_takeLoad_25 rfl ?_
      refine ev_aload_n dX8_takeLoad_26 rfl ?_
      refine ev_getR (r := 120) dX8_takeLoad_27 fl_X8_135 rfl rfl rfl ?_
      refine ev_aload_n dX8_takeLoad_30 rfl ?_
      refine ev_getI (kz := 56) dX8_takeLoad_31 fl_X8_271 rfl rfl rfl ?_
      rw [(hc0 S2).2.2.2]
      refine ev_iconst dX8_takeLoad_34 ?_
      refine ev_sipush dX8_takeLoad_35 (by decide) ?_
      refine ev_callVP dX8_takeLoad_38 kv_X8_257 (m_into _ c L e2 (htx S2) S2.2.2.1 n2.2.2.2.2.1 0 200 (by first | decide | exact ⟨by omega, by omega⟩) (by first | decide | exact ⟨by omega, by omega⟩) 120 4 rfl (by decide) (d.1 3) (by omega)) rfl rfl (ci := 8) rfl rfl ⟨by decide, by decide⟩ (Nat.le_of_ble_eq_true rfl) ?_
      rintro v_38 τ_38 ⟨z_38, rfl, hq_38⟩
      refine ev_w (fun hR => ?_)
      refine ev_istore_n dX8_takeLoad_41 rfl (by decide) rfl ?_
      rcases into_S S2 (show row 14 from ⟨by decide, by decide, by decide⟩) hq_38 with ⟨f3, w3, r3, rfl, f0, f4, hrs, hw, hcn⟩ | ⟨x3, a3, e3, r3, rfl, S3, vv3, ot3, nu3, na3⟩
      · refine ev_iload_n dX8_takeLoad_42 rfl ?_
        refine ev_if_le (tgt := 50) dX8_takeLoad_43 (by decide) (by first | exact hR.1 _ _ | exact hR0.1 _ _ | assumption | exact ⟨by omega, by omega⟩ | exact ⟨by simp [wr_at]; omega, by simp [wr_at]; omega⟩ | exact b2_R _ | exact bC_R _ | exact band_R _ _ | exact bor_R _ _ | exact bshl_R _ _ | exact bshr_R _ _ | exact bxor_R _ _ | exact bs_R (by omega) | decide) (fun h_43 => ?_) (fun h_43 => ?_)
        · exfalso; omega
        · refine ev_iload_n dX8_takeLoad_46 rfl ?_
          refine ev_goto (tgt := 66) dX8_takeLoad_47 (by decide) ?_
          refine ev_istore_n dX8_takeLoad_66 rfl (by decide) rfl ?_
          refine ev_iload_n dX8_takeLoad_67 rfl ?_
          refine ev_if_le (tgt := 73) dX8_takeLoad_68 (by decide) (by first | exact hR.1 _ _ | exact hR0.1 _ _ | assumption | exact ⟨by omega, by omega⟩ | exact ⟨by simp [wr_at]; omega, by simp [wr_at]; omega⟩ | exact b2_R _ | exact bC_R _ | exact band_R _ _ | exact bor_R _ _ | exact bshl_R _ _ | exact bshr_R _ _ | exact bxor_R _ _ | exact bs_R (by omega) | decide) (fun h_68 => ?_) (fun h_68 => ?_)
          · exfalso; omega
          · refine ev_iload_n dX8_takeLoad_71 rfl ?_
            refine ev_ireturn dX8_takeLoad_72 ?_
            refine ⟨_, rfl, Or.inl ⟨_, _, (by unfold loadR; rw [r1]; dsimp only; rw [r2]; dsimp only; rw [r3]), rfl, f0, f4, hrs, hw⟩⟩
      · have n3 := numR_ok r3 n2.2.2.2.2.1
        refine ev_iload_n dX8_takeLoad_42 rfl ?_
        refine ev_if_le (tgt := 50) dX8_takeLoad_43 (by decide) (by first | exact hR.1 _ _ | exact hR0.1 _ _ | assumption | exact ⟨by omega, by omega⟩ | exact ⟨by simp [wr_at]; omega, by simp [wr_at]; omega⟩ | exact b2_R _ | exact bC_R _ | exact band_R _ _ | exact bor_R _ _ | exact bshl_R _ _ | exact bshr_R _ _ | exact bxor_R _ _ | exact bs_R (by omega) | decide) (fun h_43 => ?_) (fun h_43 => ?_)
        · refine ev_aload_n dX8_takeLoad_50 rfl ?_
          refine ev_aload_n dX8_takeLoad_51 rfl ?_
          refine ev_getR (r := 121) dX8_takeLoad_52 fl_X8_138 rfl rfl rfl ?_
          refine ev_aload_n dX8_takeLoad_55 rfl ?_
          refine ev_getI (kz := 56) dX8_takeLoad_56 fl_X8_271 rfl rfl rfl ?_
          rw [(hc0 S3).2.2.2]
          refine ev_iconst dX8_takeLoad_59 ?_
          refine ev_sipush dX8_takeLoad_60 (by decide) ?_
          refine ev_callVP dX8_takeLoad_63 kv_X8_257 (m_into _ c L e3 (htx S3) S3.2.2.1 n3.2.2.2.2 0 999 (by first | decide | exact ⟨by omega, by omega⟩) (by first | decide | exact ⟨by omega, by omega⟩) 121 4 rfl (by decide) (d.1 3) (by omega)) rfl rfl (ci := 8) rfl rfl ⟨by decide, by decide⟩ (Nat.le_of_ble_eq_true rfl) ?_
          rintro v_63 τ_63 ⟨z_63, rfl, hq_63⟩
          refine ev_w (fun hR => ?_)
          refine ev_istore_n dX8_takeLoad_66 rfl (by decide) rfl ?_
          rcases into_S S3 (show row 15 from ⟨by decide, by decide, by decide⟩) hq_63 with ⟨f4, w4, r4, rfl, f0, f4, hrs, hw, hcn⟩ | ⟨x4, a4, e4, r4, rfl, S4, vv4, ot4, nu4, na4⟩
          · refine ev_iload_n dX8_takeLoad_67 rfl ?_
            refine ev_if_le (tgt := 73) dX8_takeLoad_68 (by decide) (by first | exact hR.1 _ _ | exact hR0.1 _ _ | assumption | exact ⟨by omega, by omega⟩ | exact ⟨by simp [wr_at]; omega, by simp [wr_at]; omega⟩ | exact b2_R _ | exact bC_R _ | exact band_R _ _ | exact bor_R _ _ | exact bshl_R _ _ | exact bshr_R _ _ | exact bxor_R _ _ | exact bs_R (by omega) | decide) (fun h_68 => ?_) (fun h_68 => ?_)
            · exfalso; omega
            · refine ev_iload_n dX8_takeLoad_71 rfl ?_
              refine ev_ireturn dX8_takeLoad_72 ?_
              refine ⟨_, rfl, Or.inl ⟨_, _, (by unfold loadR; rw [r1]; dsimp only; rw [r2]; dsimp only; rw [r3]; dsimp only; rw [r4]), rfl, f0, f4, hrs, hw⟩⟩
          · have n4 := numR_ok r4 n3.2.2.2.2
            refine ev_iload_n dX8_takeLoad_67 rfl ?_
            refine ev_if_le (tgt := 73) dX8_takeLoad_68 (by decide) (by first | exact hR.1 _ _ | exact hR0.1 _ _ | assumption | exact ⟨by omega, by omega⟩ | exact ⟨by simp [wr_at]; omega, by simp [wr_at]; omega⟩ | exact b2_R _ | exact bC_R _ | exact band_R _ _ | exact bor_R _ _ | exact bshl_R _ _ | exact bshr_R _ _ | exact bxor_R _ _ | exact bs_R (by omega) | decide) (fun h_68 => ?_) (fun h_68 => ?_)
            · have haw9 : ∃ aw, sk c L e4 = aw := ⟨_, rfl⟩
              obtain ⟨aw, haw⟩ := haw9
              have hew9 : ∃ ew, scan (isA c) L aw = ew := ⟨_, rfl⟩
              obtain ⟨ew, hew⟩ := hew9
              have haL : aw ≤ L := by rw [← haw]; exact scan_le n4.2.2.2.2
              have hawe : aw ≤ ew := by rw [← hew]; exact scan_ge _ _ _
              have heL : ew ≤ L := by rw [← hew]; exact scan_le haL
              have hlet : ∀ j, aw ≤ j → j < ew → isA c j = true := fun j h1 h2 => scan_in h1 (by rw [hew]; exact h2)
              refine ev_aload_n dX8_takeLoad_73 rfl ?_
              refine ev_callVP dX8_takeLoad_74 kv_X8_274 (m_readWord _ c L e4 (htx S4) S4.2.2.1 n4.2.2.2.2) rfl rfl (ci := 8) rfl rfl ⟨by decide, by decide⟩ (Nat.le_of_ble_eq_true rfl) ?_
              rintro v_74 τ_74 ⟨rfl, hq_74⟩
              refine ev_w (fun hR => ?_)
              rw [haw, hew] at hq_74
              have hwa := hq_74.1
              have hS5 : SoFr μ τ_74 d aw := ⟨S4.1.tr hwa.rs, by rw [hwa.2.1 _ (by decide) (by decide)]; exact S4.2.1, hwa.2.2.1, fun k hk => by
                have := fM_R k
                rw [hwa.2.1 _ (by omega) (by omega)]
                exact S4.2.2.2.1 k hk, fun j hj p hp => by
                have hm := mM_R hj
                rw [hwa.1 _ (by omega)]
                exact S4.2.2.2.2 j hj p hp⟩
              have hsd : τ_74.2 = wv c aw (ew - aw) := hq_74.2
              have hwR := wv_R (c := c) (a := aw) (ew - aw) (fun k hk => of_decide_eq_true (hlet (aw + k) (by omega) (by omega)))
              have hk4 := wrd_iff (c := c) (i := 4) (by decide) hawe hlet
              have hk5 := wrd_iff (c := c) (i := 5) (by decide) hawe hlet
              have hk6 := wrd_iff (c := c) (i := 6) (by decide) hawe hlet
              have hk7 := wrd_iff (c := c) (i := 7) (by decide) hawe hlet
              rw [show cwv 4 = 8740238 from rfl] at hk4
              rw [show cwv 5 = 774797 from rfl] at hk5
              rw [show cwv 6 = 6491892 from rfl] at hk6
              rw [show cwv 7 = 247516 from rfl] at hk7
              generalize hw9 : wv c aw (ew - aw) = w9 at *
              have fin : ∀ z : Int, z = kdK c aw ew → Ev RX8 cX8_takeLoad 3 4 97 (AnsQ (BodM μ (loadR c L d i))) 190 [some (.ref 79), some (.int (iI 0)), some (.int (iI z))] [] τ_74 := by
                intro z hz
                refine ev_w (fun hR => ?_)
                have hzR := kdK_R c aw ew
                rw [← hz] at hzR
                refine ev_iload_n dX8_takeLoad_190 rfl ?_
                refine ev_if_ge (tgt := 204) dX8_takeLoad_191 (by decide) (by first | exact hR.1 _ _ | exact hR0.1 _ _ | assumption | exact ⟨by omega, by omega⟩ | exact ⟨by simp [wr_at]; omega, by simp [wr_at]; omega⟩ | exact b2_R _ | exact bC_R _ | exact band_R _ _ | exact bor_R _ _ | exact bshl_R _ _ | exact bshr_R _ _ | exact bxor_R _ _ | exact bs_R (by omega) | decide) (fun h_191 => ?_) (fun h_191 => ?_)
                · refine ev_aload_n dX8_takeLoad_204 rfl ?_
                  refine ev_getR (r := 122) dX8_takeLoad_205 fl_X8_141 rfl rfl rfl ?_
                  refine ev_aload_n dX8_takeLoad_208 rfl ?_
                  refine ev_getI (kz := 56) dX8_takeLoad_209 fl_X8_271 rfl rfl rfl ?_
                  rw [(hc0 hS5).2.2.2]
                  refine ev_iload_n dX8_takeLoad_212 rfl ?_
                  refine ev_iastore dX8_takeLoad_213 rfl (by first | omega | (simp [wr_at]; omega) | (simp [wr_at, *]; omega)) (by first | omega | (simp [wr_at]; omega) | (simp [wr_at, *]; omega)) (by decide) (by first | exact hR.1 _ _ | exact hR0.1 _ _ | assumption | exact ⟨by omega, by omega⟩ | exact ⟨by simp [wr_at]; omega, by simp [wr_at]; omega⟩ | exact b2_R _ | exact bC_R _ | exact band_R _ _ | exact bor_R _ _ | exact bshl_R _ _ | exact bshr_R _ _ | exact bxor_R _ _ | exact bs_R (by omega) | decide) ?_
                  refine ev_w (fun hR => ?_)
                  refine ev_aload_n dX8_takeLoad_214 rfl ?_
                  refine ev_aload_n dX8_takeLoad_215 rfl ?_
                  refine ev_getI (kz := 40) dX8_takeLoad_216 fl_X8_222 rfl rfl rfl ?_
                  rw [wr_nec _ (by decide), hwa.2.2.2]
                  refine ev_putI (kz := 38) dX8_takeLoad_219 fp_X8_211 rfl rfl rfl (by first | exact hR.1 _ _ | exact hR0.1 _ _ | assumption | exact ⟨by omega, by omega⟩ | exact ⟨by simp [wr_at]; omega, by simp [wr_at]; omega⟩ | exact b2_R _ | exact bC_R _ | exact band_R _ _ | exact bor_R _ _ | exact bshl_R _ _ | exact bshr_R _ _ | exact bxor_R _ _ | exact bs_R (by omega) | decide) ?_
                  refine ev_w (fun hR => ?_)
                  refine ev_aload_n dX8_takeLoad_222 rfl ?_
                  refine ev_dup dX8_takeLoad_223 rfl ?_
                  refine ev_getI (kz := 56) dX8_takeLoad_224 fl_X8_271 rfl rfl rfl ?_
                  rw [wr_nek _ (by decide), wr_nec _ (by decide), (hc0 hS5).2.2.2]
                  refine ev_iconst dX8_takeLoad_227 ?_
                  refine ev_iadd dX8_takeLoad_228 ?_
                  refine ev_putI (kz := 56) dX8_takeLoad_229 fp_X8_271 rfl rfl rfl (by first | exact hR.1 _ _ | exact hR0.1 _ _ | assumption | exact ⟨by omega, by omega⟩ | exact ⟨by simp [wr_at]; omega, by simp [wr_at]; omega⟩ | exact b2_R _ | exact bC_R _ | exact band_R _ _ | exact bor_R _ _ | exact bshl_R _ _ | exact bshr_R _ _ | exact bxor_R _ _ | exact bs_R (by omega) | decide) ?_
                  refine ev_w (fun hR => ?_)
                  refine ev_iconst dX8_takeLoad_232 ?_
                  refine ev_ireturn dX8_takeLoad_233 ?_
                  refine ⟨0, rfl, Or.inr ⟨addD d 3 (v5 12 x1 x2 x3 x4 z), ew, ?_, rfl, ?_⟩⟩
                  · unfold loadR
                    rw [r1]
                    dsimp only
                    rw [r2]
                    dsimp only
                    rw [r3]
                    dsimp only
                    rw [r4]
                    dsimp only
                    unfold kndR
                    rw [haw, hew, if_neg (by omega), ← hz]
                  · have hS6 : SoFr μ (wr (wr τ_74 122 ((d.1 3 : Nat) : Int) z) 79 38 (ew : Int)) d ew := by
                      refine ⟨(hS5.1.wq _ _ (by decide) (by decide)).wf _ (by unfold PF; omega), ?_, wr_eq _ _ _ _, fun k hk => ?_, fun j hj p hp => ?_⟩
                      · rw [wr_nek _ (by decide), wr_nec _ (by decide)]; exact hS5.2.1
                      · have := fM_R k
                        rw [wr_nek _ (by omega), wr_nec _ (by decide)]
                        exact hS5.2.2.2.1 k hk
                      · have hm := mM_R hj
                        rw [wr_nec _ (by omega), wr_at]
                        by_cases e9 : mM j = 122
                        · have h16 : j = 16 := mM_inj hj ⟨by decide, by decide, by decide⟩ e9
                          subst h16
                          have hp3 : p < d.1 3 := hp
                          rw [if_neg (by omega)]
                          exact hS5.2.2.2.2 16 hj p hp
                        · rw [if_neg (fun y => e9 y.1)]
                          exact hS5.2.2.2.2 j hj p hp
                    refine stp_add (g := 3) hS6 (by decide) _ (fun j hj hg => ?_)
                    have hj9 : j = 12 ∨ j = 13 ∨ j = 14 ∨ j = 15 ∨ j = 16 := by
                      obtain ⟨h1, h2, h3⟩ := hj
                      unfold grp at hg
                      split at hg
                      · omega
                      · split at hg
                        · omega
                        · split at hg <;> omega
                    have old : ∀ q, q ≠ 79 → q ≠ 122 → (wr (wr τ_74 122 ((d.1 3 : Nat) : Int) z) 79 38 (ew : Int)).1 q = τ_63.1 q := fun q h1 h2 => by
                      funext k9
                      rw [wr_nec _ h1, wr_nec _ h2, hwa.1 q h1]
                    rcases hj9 with rfl | rfl | rfl | rfl | rfl
                    · rw [show mM 12 = 118 from rfl, old 118 (by decide) (by decide), ot4 118 (by decide) (by decide) (by decide), ot3 118 (by decide) (by decide) (by decide)]; exact vv1
                    · rw [show mM 13 = 119 from rfl, old 119 (by decide) (by decide), ot4 119 (by decide) (by decide) (by decide), ot3 119 (by decide) (by decide) (by decide)]; exact vv2
                    · rw [show mM 14 = 120 from rfl, old 120 (by decide) (by decide), ot4 120 (by decide) (by decide) (by decide)]; exact vv3
                    · rw [show mM 15 = 121 from rfl, old 121 (by decide) (by decide)]; exact vv4
                    · rw [show mM 16 = 122 from rfl, wr_nec _ (by decide), wr_eq]; rfl
                · refine ev_aload_n dX8_takeLoad_194 rfl ?_
                  refine ev_iconst dX8_takeLoad_195 ?_
                  refine ev_aload_n dX8_takeLoad_196 rfl ?_
                  refine ev_getI (kz := 38) dX8_takeLoad_197 fl_X8_211 rfl rfl rfl ?_
                  rw [hwa.2.2.1]
                  refine ev_callVI dX8_takeLoad_200 kv_X8_241 (m_fails _ 1 (aw : Int) (by decide) ⟨by omega, by omega⟩) rfl rfl (ci := 8) rfl rfl ⟨by decide, by decide⟩ (Nat.le_of_ble_eq_true rfl) ?_
                  refine ev_w (fun hR => ?_)
                  refine ev_ireturn dX8_takeLoad_203 ?_
                  refine ⟨1, rfl, Or.inl ⟨1, aw, ?_, rfl, by decide, by decide, hS5.1.wf _ (by unfold PF; omega), FA.mk hS5.2.2.1 (by omega)⟩⟩
                  unfold loadR
                  rw [r1]
                  dsimp only
                  rw [r2]
                  dsimp only
                  rw [r3]
                  dsimp only
                  rw [r4]
                  dsimp only
                  unfold kndR
                  rw [haw, hew, if_pos (by omega)]
              refine ev_aload_n dX8_takeLoad_77 rfl ?_
              refine ev_getJ dX8_takeLoad_78 fl_X8_218 rfl rfl ?_
              rw [hsd]
              refine ev_bipush dX8_takeLoad_81 (by decide) ?_
              refine ev_bipush dX8_takeLoad_83 (by decide) ?_
              refine ev_bipush dX8_takeLoad_85 (by decide) ?_
              refine ev_callSL dX8_takeLoad_87 ks_X8_277 (m_code2 _ 112 108 97 11989 (by decide) (by decide) (by decide) (by decide)) rfl rfl ⟨by decide, by decide⟩ (Nat.le_of_ble_eq_true rfl) ?_
              refine ev_w (fun hR => ?_)
              refine ev_bipush dX8_takeLoad_90 (by decide) ?_
              refine ev_bipush dX8_takeLoad_92 (by decide) ?_
              refine ev_callSL dX8_takeLoad_94 ks_X8_281 (m_longer2 _ 11989 105 110 8740238 (by decide) (by decide) (by decide)) rfl rfl ⟨by decide, by decide⟩ (Nat.le_of_ble_eq_true rfl) ?_
              refine ev_w (fun hR => ?_)
              refine ev_lcmp dX8_takeLoad_97 ⟨by omega, by omega⟩ ⟨by omega, by omega⟩ ?_
              refine ev_if_ne (tgt := 105) dX8_takeLoad_98 (by decide) (cmpz_R _ _) (fun h_98 => ?_) (fun h_98 => ?_)
              · refine ev_aload_n dX8_takeLoad_105 rfl ?_
                refine ev_getJ dX8_takeLoad_106 fl_X8_218 rfl rfl ?_
                rw [hsd]
                refine ev_bipush dX8_takeLoad_109 (by decide) ?_
                refine ev_bipush dX8_takeLoad_111 (by decide) ?_
                refine ev_bipush dX8_takeLoad_113 (by decide) ?_
                refine ev_callSL dX8_takeLoad_115 ks_X8_277 (m_code2 _ 97 108 105 1062 (by decide) (by decide) (by decide) (by decide)) rfl rfl ⟨by decide, by decide⟩ (Nat.le_of_ble_eq_true rfl) ?_
                refine ev_w (fun hR => ?_)
                refine ev_bipush dX8_takeLoad_118 (by decide) ?_
                refine ev_bipush dX8_takeLoad_120 (by decide) ?_
                refine ev_callSL dX8_takeLoad_122 ks_X8_281 (m_longer2 _ 1062 118 101 774797 (by decide) (by decide) (by decide)) rfl rfl ⟨by decide, by decide⟩ (Nat.le_of_ble_eq_true rfl) ?_
                refine ev_w (fun hR => ?_)
                refine ev_lcmp dX8_takeLoad_125 ⟨by omega, by omega⟩ ⟨by omega, by omega⟩ ?_
                refine ev_if_ne (tgt := 133) dX8_takeLoad_126 (by decide) (cmpz_R _ _) (fun h_126 => ?_) (fun h_126 => ?_)
                · refine ev_aload_n dX8_takeLoad_133 rfl ?_
                  refine ev_getJ dX8_takeLoad_134 fl_X8_218 rfl rfl ?_
                  rw [hsd]
                  refine ev_bipush dX8_takeLoad_137 (by decide) ?_
                  refine ev_bipush dX8_takeLoad_139 (by decide) ?_
                  refine ev_bipush dX8_takeLoad_141 (by decide) ?_
                  refine ev_callSL dX8_takeLoad_143 ks_X8_277 (m_code2 _ 108 101 118 8905 (by decide) (by decide) (by decide) (by decide)) rfl rfl ⟨by decide, by decide⟩ (Nat.le_of_ble_eq_true rfl) ?_
                  refine ev_w (fun hR => ?_)
                  refine ev_bipush dX8_takeLoad_146 (by decide) ?_
                  refine ev_bipush dX8_takeLoad_148 (by decide) ?_
                  refine ev_callSL dX8_takeLoad_150 ks_X8_281 (m_longer2 _ 8905 101 108 6491892 (by decide) (by decide) (by decide)) rfl rfl ⟨by decide, by decide⟩ (Nat.le_of_ble_eq_true rfl) ?_
                  refine ev_w (fun hR => ?_)
                  refine ev_lcmp dX8_takeLoad_153 ⟨by omega, by omega⟩ ⟨by omega, by omega⟩ ?_
                  refine ev_if_ne (tgt := 161) dX8_takeLoad_154 (by decide) (cmpz_R _ _) (fun h_154 => ?_) (fun h_154 => ?_)
                  · refine ev_aload_n dX8_takeLoad_161 rfl ?_
                    refine ev_getJ dX8_takeLoad_162 fl_X8_218 rfl rfl ?_
                    rw [hsd]
                    refine ev_bipush dX8_takeLoad_165 (by decide) ?_
                    refine ev_bipush dX8_takeLoad_167 (by decide) ?_
                    refine ev_bipush dX8_takeLoad_169 (by decide) ?_
                    refine ev_callSL dX8_takeLoad_171 ks_X8_277 (m_code2 _ 108 111 110 9167 (by decide) (by decide) (by decide) (by decide)) rfl rfl ⟨by decide, by decide⟩ (Nat.le_of_ble_eq_true rfl) ?_
                    refine ev_w (fun hR => ?_)
                    refine ev_bipush dX8_takeLoad_174 (by decide) ?_
                    refine ev_iconst dX8_takeLoad_176 ?_
                    refine ev_callSL dX8_takeLoad_177 ks_X8_281 (m_longer2 _ 9167 103 0 247516 (by decide) (by decide) (by decide)) rfl rfl ⟨by decide, by decide⟩ (Nat.le_of_ble_eq_true rfl) ?_
                    refine ev_w (fun hR => ?_)
                    refine ev_lcmp dX8_takeLoad_180 ⟨by omega, by omega⟩ ⟨by omega, by omega⟩ ?_
                    refine ev_if_ne (tgt := 188) dX8_takeLoad_181 (by decide) (cmpz_R _ _) (fun h_181 => ?_) (fun h_181 => ?_)
                    · refine ev_iconst dX8_takeLoad_188 ?_
                      refine ev_istore_n dX8_takeLoad_189 rfl (by decide) rfl ?_
                      refine fin _ ?_
                      unfold kdK
                      have c0 := cmpz_eq (a := w9) (b := 8740238)
                      have c1 := cmpz_eq (a := w9) (b := 774797)
                      have c2 := cmpz_eq (a := w9) (b := 6491892)
                      have c3 := cmpz_eq (a := w9) (b := 247516)
                      first
                        | (rw [if_pos (hk4.mpr (c0.mp (by omega)))])
                        | (rw [if_neg (fun y => h_98 (c0.mpr (hk4.mp y))), if_pos (hk5.mpr (c1.mp (by omega)))])
                        | (rw [if_neg (fun y => h_98 (c0.mpr (hk4.mp y))), if_neg (fun y => h_126 (c1.mpr (hk5.mp y))), if_pos (hk6.mpr (c2.mp (by omega)))])
                        | (rw [if_neg (fun y => h_98 (c0.mpr (hk4.mp y))), if_neg (fun y => h_126 (c1.mpr (hk5.mp y))), if_neg (fun y => h_154 (c2.mpr (hk6.mp y))), if_pos (hk7.mpr (c3.mp (by omega)))])
                        | (rw [if_neg (fun y => h_98 (c0.mpr (hk4.mp y))), if_neg (fun y => h_126 (c1.mpr (hk5.mp y))), if_neg (fun y => h_154 (c2.mpr (hk6.mp y))), if_neg (fun y => h_181 (c3.mpr (hk7.mp y)))])
                    · refine ev_iconst dX8_takeLoad_184 ?_
                      refine ev_goto (tgt := 189) dX8_takeLoad_185 (by decide) ?_
                      refine ev_istore_n dX8_takeLoad_189 rfl (by decide) rfl ?_
                      refine fin _ ?_
                      unfold kdK
                      have c0 := cmpz_eq (a := w9) (b := 8740238)
                      have c1 := cmpz_eq (a := w9) (b := 774797)
                      have c2 := cmpz_eq (a := w9) (b := 6491892)
                      have c3 := cmpz_eq (a := w9) (b := 247516)
                      first
                        | (rw [if_pos (hk4.mpr (c0.mp (by omega)))])
                        | (rw [if_neg (fun y => h_98 (c0.mpr (hk4.mp y))), if_pos (hk5.mpr (c1.mp (by omega)))])
                        | (rw [if_neg (fun y => h_98 (c0.mpr (hk4.mp y))), if_neg (fun y => h_126 (c1.mpr (hk5.mp y))), if_pos (hk6.mpr (c2.mp (by omega)))])
                        | (rw [if_neg (fun y => h_98 (c0.mpr (hk4.mp y))), if_neg (fun y => h_126 (c1.mpr (hk5.mp y))), if_neg (fun y => h_154 (c2.mpr (hk6.mp y))), if_pos (hk7.mpr (c3.mp (by omega)))])
                        | (rw [if_neg (fun y => h_98 (c0.mpr (hk4.mp y))), if_neg (fun y => h_126 (c1.mpr (hk5.mp y))), if_neg (fun y => h_154 (c2.mpr (hk6.mp y))), if_neg (fun y => h_181 (c3.mpr (hk7.mp y)))])
                  · refine ev_iconst dX8_takeLoad_157 ?_
                    refine ev_goto (tgt := 189) dX8_takeLoad_158 (by decide) ?_
                    refine ev_istore_n dX8_takeLoad_189 rfl (by decide) rfl ?_
                    refine fin _ ?_
                    unfold kdK
                    have c0 := cmpz_eq (a := w9) (b := 8740238)
                    have c1 := cmpz_eq (a := w9) (b := 774797)
                    have c2 := cmpz_eq (a := w9) (b := 6491892)
                    have c3 := cmpz_eq (a := w9) (b := 247516)
                    first
                      | (rw [if_pos (hk4.mpr (c0.mp (by omega)))])
                      | (rw [if_neg (fun y => h_98 (c0.mpr (hk4.mp y))), if_pos (hk5.mpr (c1.mp (by omega)))])
                      | (rw [if_neg (fun y => h_98 (c0.mpr (hk4.mp y))), if_neg (fun y => h_126 (c1.mpr (hk5.mp y))), if_pos (hk6.mpr (c2.mp (by omega)))])
                      | (rw [if_neg (fun y => h_98 (c0.mpr (hk4.mp y))), if_neg (fun y => h_126 (c1.mpr (hk5.mp y))), if_neg (fun y => h_154 (c2.mpr (hk6.mp y))), if_pos (hk7.mpr (c3.mp (by omega)))])
                      | (rw [if_neg (fun y => h_98 (c0.mpr (hk4.mp y))), if_neg (fun y => h_126 (c1.mpr (hk5.mp y))), if_neg (fun y => h_154 (c2.mpr (hk6.mp y))), if_neg (fun y => h_181 (c3.mpr (hk7.mp y)))])
                · refine ev_iconst dX8_takeLoad_129 ?_
                  refine ev_goto (tgt := 189) dX8_takeLoad_130 (by decide) ?_
                  refine ev_istore_n dX8_takeLoad_189 rfl (by decide) rfl ?_
                  refine fin _ ?_
                  unfold kdK
                  have c0 := cmpz_eq (a := w9) (b := 8740238)
                  have c1 := cmpz_eq (a := w9) (b := 774797)
                  have c2 := cmpz_eq (a := w9) (b := 6491892)
                  have c3 := cmpz_eq (a := w9) (b := 247516)
                  first
                    | (rw [if_pos (hk4.mpr (c0.mp (by omega)))])
                    | (rw [if_neg (fun y => h_98 (c0.mpr (hk4.mp y))), if_pos (hk5.mpr (c1.mp (by omega)))])
                    | (rw [if_neg (fun y => h_98 (c0.mpr (hk4.mp y))), if_neg (fun y => h_126 (c1.mpr (hk5.mp y))), if_pos (hk6.mpr (c2.mp (by omega)))])
                    | (rw [if_neg (fun y => h_98 (c0.mpr (hk4.mp y))), if_neg (fun y => h_126 (c1.mpr (hk5.mp y))), if_neg (fun y => h_154 (c2.mpr (hk6.mp y))), if_pos (hk7.mpr (c3.mp (by omega)))])
                    | (rw [if_neg (fun y => h_98 (c0.mpr (hk4.mp y))), if_neg (fun y => h_126 (c1.mpr (hk5.mp y))), if_neg (fun y => h_154 (c2.mpr (hk6.mp y))), if_neg (fun y => h_181 (c3.mpr (hk7.mp y)))])
              · refine ev_iconst dX8_takeLoad_101 ?_
                refine ev_goto (tgt := 189) dX8_takeLoad_102 (by decide) ?_
                refine ev_istore_n dX8_takeLoad_189 rfl (by decide) rfl ?_
                refine fin _ ?_
                unfold kdK
                have c0 := cmpz_eq (a := w9) (b := 8740238)
                have c1 := cmpz_eq (a := w9) (b := 774797)
                have c2 := cmpz_eq (a := w9) (b := 6491892)
                have c3 := cmpz_eq (a := w9) (b := 247516)
                first
                  | (rw [if_pos (hk4.mpr (c0.mp (by omega)))])
                  | (rw [if_neg (fun y => h_98 (c0.mpr (hk4.mp y))), if_pos (hk5.mpr (c1.mp (by omega)))])
                  | (rw [if_neg (fun y => h_98 (c0.mpr (hk4.mp y))), if_neg (fun y => h_126 (c1.mpr (hk5.mp y))), if_pos (hk6.mpr (c2.mp (by omega)))])
                  | (rw [if_neg (fun y => h_98 (c0.mpr (hk4.mp y))), if_neg (fun y => h_126 (c1.mpr (hk5.mp y))), if_neg (fun y => h_154 (c2.mpr (hk6.mp y))), if_pos (hk7.mpr (c3.mp (by omega)))])
                  | (rw [if_neg (fun y => h_98 (c0.mpr (hk4.mp y))), if_neg (fun y => h_126 (c1.mpr (hk5.mp y))), if_neg (fun y => h_154 (c2.mpr (hk6.mp y))), if_neg (fun y => h_181 (c3.mpr (hk7.mp y)))])
            · exfalso; omega
        · exfalso; omega
    · exfalso; omega
