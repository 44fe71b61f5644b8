theorem m_draw (μ : Mem) (n : Int) (hn : inR n) (hn0 : 1 ≤ n) (hs : 0 ≤ μ.1 79 34) : Con yX8_draw cX8_draw 2 (some .int) 0 0 [.ref 79, .int (iI n)] μ (AnsI (((nseed (μ.1 79 34)).tdiv 65536).tmod n) (wr μ 79 34 (nseed (μ.1 79 34)))) := by
  refine con_of (by decide) rfl (Nat.le_of_ble_eq_true rfl) (ok_I rfl) ?_
  refine ev_w (fun hR => ?_)
  have hR0 := hR
  have hns := nseed_R (μ.1 79 34)
  have hs2 := hR.1 79 34
  refine ev_aload_n dX8_draw_0 rfl ?_
  refine ev_aload_n dX8_draw_1 rfl ?_
  refine ev_getI (kz := 34) dX8_draw_2 fl_X8_373 rfl rfl rfl ?_
  refine ev_i2l dX8_draw_5 (by first | exact hR.1 _ _ | exact hR0.1 _ _ | assumption | exact ⟨by omega, by omega⟩ | exact ⟨by simp [wr_at]; omega, by simp [wr_at]; omega⟩ | exact b2_R _ | exact bC_R _ | exact band_R _ _ | exact bor_R _ _ | exact bshl_R _ _ | exact bshr_R _ _ | exact bxor_R _ _ | exact bs_R (by omega) | decide) ?_
  refine ev_ldc2 (z := 1103515245) dX8_draw_6 kl_X8_376 (by decide) ?_
  refine ev_lmul dX8_draw_9 ?_
  refine ev_ldc2 (z := 12345) dX8_draw_10 kl_X8_378 (by decide) ?_
  refine ev_ladd dX8_draw_13 ?_
  refine ev_ldc2 (z := 2147483648) dX8_draw_14 kl_X8_380 (by decide) ?_
  refine ev_lrem dX8_draw_17 (by decide) ?_
  rw [lrem31 (by omega) (by omega)]
  refine ev_l2i dX8_draw_18 ?_
  rw [show (μ.1 79 34 * 1103515245 + 12345) % 2147483648 = nseed (μ.1 79 34) from rfl]
  refine ev_putI (kz := 34) dX8_draw_19 fp_X8_373 rfl rfl rfl (by first | exact hR.1 _ _ | exact hR0.1 _ _ | assumption | exact ⟨by omega, by omega⟩ | exact ⟨by simp [wr_at]; omega, by simp [wr_at]; omega⟩ | exact b2_R _ | exact bC_R _ | exact band_R _ _ | exact bor_R _ _ | exact bshl_R _ _ | exact bshr_R _ _ | exact bxor_R _ _ | exact bs_R (by omega) | decide) ?_
  refine ev_w (fun hR => ?_)
  have e0 := wr_eq μ 79 34 (nseed (μ.1 79 34))
  refine ev_aload_n dX8_draw_22 rfl ?_
  refine ev_getI (kz := 34) dX8_draw_23 fl_X8_373 rfl rfl rfl ?_
  rw [e0]
  refine ev_ldcw (z := 65536) dX8_draw_26 kc_X8_382 (by decide) ?_
  refine ev_idiv dX8_draw_29 (by first | exact hR.1 _ _ | exact hR0.1 _ _ | assumption | exact ⟨by omega, by omega⟩ | exact ⟨by simp [wr_at]; omega, by simp [wr_at]; omega⟩ | exact b2_R _ | exact bC_R _ | exact band_R _ _ | exact bor_R _ _ | exact bshl_R _ _ | exact bshr_R _ _ | exact bxor_R _ _ | exact bs_R (by omega) | decide) (by first | exact hR.1 _ _ | exact hR0.1 _ _ | assumption | exact ⟨by omega, by omega⟩ | exact ⟨by simp [wr_at]; omega, by simp [wr_at]; omega⟩ | exact b2_R _ | exact bC_R _ | exact band_R _ _ | exact bor_R _ _ | exact bshl_R _ _ | exact bshr_R _ _ | exact bxor_R _ _ | exact bs_R (by omega) | decide) (by omega) (by omega) ?_
  refine ev_iload_n dX8_draw_30 rfl ?_
  refine ev_irem dX8_draw_31 (by have := Int.tdiv_le_self 65536 hns.1; have := Int.tdiv_nonneg hns.1 (show (0:Int) ≤ 65536 by decide); exact ⟨by omega, by omega⟩) (by have := Int.tdiv_le_self 65536 hns.1; have := Int.tdiv_nonneg hns.1 (show (0:Int) ≤ 65536 by decide); exact ⟨by omega, by omega⟩) (by omega) (by omega) ?_
  refine ev_ireturn dX8_draw_32 ?_
  exact ⟨rfl, rfl⟩
theorem stL2_w (σ : Mem) : ∀ r, (stL2 σ r).1 37 3 = σ.1 37 3 := by
  intro r
  induction r with
  | zero => rfl
  | succ r ih =>
    show (st2 (stL2 σ r) r).1 37 3 = _
    unfold st2 wetM sdM
    rw [wr_nek _ (by decide), wr_nek _ (by decide)]
    exact ih
theorem st1_w (σ : Mem) (nb : Nat) (q : Int) (r : Nat) : wN (st1 σ nb q r) = if ((wN σ).testBit r = true ∧ fstI (fun i => σ.1 40 i) r nb = -1) ∧ drw σ 100 < q ∧ ¬ σ.1 38 r + drw (sdM σ) 40 < 100 then andn (wN σ) (2 ^ r) else wN σ := by
  unfold st1
  by_cases c1 : (wN σ).testBit r = true ∧ fstI (fun i => σ.1 40 i) r nb = -1
  · rw [if_pos c1]
    by_cases c2 : drw σ 100 < q
    · rw [if_pos c2]
      have e38 : (sdM (sdM σ)).1 38 r = σ.1 38 r := by unfold sdM; rw [wr_nec _ (by decide), wr_nec _ (by decide)]
      have e3 : (sdM (sdM σ)).1 37 3 = σ.1 37 3 := by unfold sdM; rw [wr_nek _ (by decide), wr_nek _ (by decide)]
      by_cases c3 : σ.1 38 r + drw (sdM σ) 40 < 100
      · rw [if_neg (fun y => y.2.2 c3)]
        unfold wN
        rw [wearM_at, e38, if_neg (by omega), if_neg (by omega), e3]
      · rw [if_pos ⟨c1, c2, c3⟩]
        show ((wearM (sdM (sdM σ)) r (drw (sdM σ) 40) (wN σ) r).1 37 3).toNat = _
        rw [wearM_at, e38, if_neg (by omega), if_pos ⟨rfl, rfl, c3⟩]
        rfl
    · rw [if_neg c2, if_neg (fun y => c2 y.2.1)]
      unfold wN sdM
      rw [wr_nek _ (by decide)]
  · rw [if_neg c1, if_neg (fun y => c1 y.1)]
theorem stL1_w (σ : Mem) (nb : Nat) (q : Int) : ∀ r i, r ≤ i → (wN (stL1 σ nb q r)).testBit i = (wN σ).testBit i := by
  intro r
  induction r with
  | zero => intro i _; rfl
  | succ r ih =>
    intro i hi
    show (wN (st1 (stL1 σ nb q r) nb q r)).testBit i = _
    rw [st1_w]
    split
    · rw [andn_bit, ih i (by omega)]
      have : ¬ r = i := by omega
      simp [this]
    · exact ih i (by omega)
theorem andn_andn {w v r : Nat} (h : w.testBit r = true) : andn w (andn v (2 ^ r)) = andn w v ||| 2 ^ r := by
  apply Nat.eq_of_testBit_eq
  intro i
  rw [andn_test, andn_bit, or_bit, andn_test]
  by_cases e : r = i
  · subst e; simp [h]
  · simp [e]
theorem MDy.draw {μ σ : Mem} {nr nb nl : Nat} (h : MDy μ σ nr nb nl) : MDy (wr μ 79 34 (nseed (μ.1 79 34))) (sdM σ) nr nb nl := by
  have := MDy.seedS h (nseed (σ.1 37 2))
  rw [h.1.2.2.2]
  exact this
theorem m_storm (μ σ : Mem) (P n nr nb nl mb w wt dv : Nat) (f t : Nat → Nat) (hM : MOk μ σ P n nr nb nl mb w wt dv f t) (q : Int) (hq : inR q) : Con yX8_storm cX8_storm 4 (some .int) 1 25 [.ref 79, .int (iI q)] μ (fun v ν => if ¬ (0 ≤ q ∧ q ≤ 100) then AnsI (-1000000002) μ v ν else AnsIP (andn w (wN (stormM σ nb nr q)) : Nat) (fun ν => MSame μ ν ∧ MDy ν (stormM σ nb nr q) nr nb nl) v ν) := by
  refine con_of (by decide) rfl (Nat.le_of_ble_eq_true rfl) ((fun v τ h => by repeat (first | exact ok_I rfl v τ h | exact ok_IP rfl v τ h | split at h))) ?_
  refine ev_w (fun hR => ?_)
  have hR0 := hR
  obtain ⟨hPO, hDy, hMP, hMD⟩ := id hM
  obtain ⟨hPR, ⟨hnb, hnb4⟩, ⟨hnl, hnl4⟩, hpo, hro, hbo, hlo⟩ := id hPO
  obtain ⟨hP, hn, hn8, hnr, hnr12, hft⟩ := id hPR
  obtain ⟨⟨cn, cr, cb, cl⟩, mp, mr, mbo, ml⟩ := id hMP
  obtain ⟨⟨dmi, dha, dri, dse⟩, dr, db, dl, dri2⟩ := id hMD
  obtain ⟨k1, k2, k3, k4, k5, k6, k7, k8, k9, k10, k11⟩ := id hDy
  have hww := hDy.w
  have hnP : ∀ k, k ≤ 16 → ¬ sN (P + k) := fun k hk => by unfold sN; omega
  have hL1 := stL1_ok (q := q) hP hDy
  obtain ⟨⟨w2, hD2⟩, hS2⟩ := hL1 nr (Nat.le_refl _)
  have hL2 := stL2_ok hP hD2
  have hwlt : w < 4096 := Nat.lt_of_lt_of_le k4.2 (Nat.pow_le_pow_right (by decide) hnr12)
  have hal := fun v => andn_le w v
  have loop2 : (0 ≤ q ∧ q ≤ 100) → ∀ r : Nat, r ≤ nr → ∀ ν, MSame μ ν ∧ MDy ν (stL2 (stL1 σ nb q nr) r) nr nb nl → Ev RX8 cX8_storm 4 1 25 (fun v ν => if ¬ (0 ≤ q ∧ q ≤ 100) then AnsI (-1000000002) μ v ν else AnsIP (andn w (wN (stormM σ nb nr q)) : Nat) (fun ν => MSame μ ν ∧ MDy ν (stormM σ nb nr q) nr nb nl) v ν) 118 [some (.ref 79), some (.int (iI q)), some (.int (iI (andn w (wN (stL1 σ nb q nr)) : Nat))), some (.int (iI (r : Nat)))] [] ν := by
    intro hq9
    refine for_up nr (fun r hr ih => ?_)
    intro ν hν
    obtain ⟨hS, hD⟩ := hν
    refine ev_w (fun hR => ?_)
    have hcr : ν.1 79 4 = nr := by rw [hS.2.1 _ (by decide) (by decide) (by decide) (by decide)]; exact cr
    obtain ⟨⟨wt1, hD1⟩, hSa⟩ := hL2 r hr
    generalize hτ : stL2 (stL1 σ nb q nr) r = τ at *
    have hsuc : stL2 (stL1 σ nb q nr) (r + 1) = st2 τ r := by
      show st2 (stL2 (stL1 σ nb q nr) r) r = _
      rw [hτ]
    have hwt9 : wtN τ = wt1 := by have := hD1.2.2.2.2.1.1; unfold wtN; omega
    have hsd : 0 ≤ ν.1 79 34 := by rw [hD.1.2.2.2]; exact hD1.2.2.1
    refine ev_iload_n dX8_storm_118 rfl ?_
    refine ev_aload_n dX8_storm_119 rfl ?_
    refine ev_getI (kz := 4) dX8_storm_120 fl_X8_184 rfl rfl rfl ?_
    rw [hcr]
    refine ev_icmp_ge (tgt := 152) dX8_storm_123 (by decide) (by first | exact hR.1 _ _ | exact hR0.1 _ _ | assumption | exact ⟨by omega, by omega⟩ | exact ⟨by simp [wr_at]; omega, by simp [wr_at]; omega⟩ | exact b2_R _ | exact bC_R _ | exact band_R _ _ | exact bor_R _ _ | exact bshl_R _ _ | exact bshr_R _ _ | exact bxor_R _ _ | exact bs_R (by omega) | decide) (by first | exact hR.1 _ _ | exact hR0.1 _ _ | assumption | exact ⟨by omega, by omega⟩ | exact ⟨by simp [wr_at]; omega, by simp [wr_at]; omega⟩ | exact b2_R _ | exact bC_R _ | exact band_R _ _ | exact bor_R _ _ | exact bshl_R _ _ | exact bshr_R _ _ | exact bxor_R _ _ | exact bs_R (by omega) | decide) (fun h_123 => ?_) (fun h_123 => ?_)
    · refine ev_iload_n dX8_storm_152 rfl ?_
      refine ev_ireturn dX8_storm_153 ?_
      obtain rfl : r = nr := by omega
      rw [if_neg (fun y => y hq9)]
      have e : wN (stormM σ nb r q) = wN (stL1 σ nb q r) := by
        unfold wN stormM
        rw [stL2_w]
      rw [e]
      refine ⟨rfl, hS, ?_⟩
      unfold stormM
      rw [hτ]
      exact hD
    · refine ev_aload_n dX8_storm_126 rfl ?_
      refine ev_getR (r := 96) dX8_storm_127 fl_X8_58 rfl rfl rfl ?_
      refine ev_iload_n dX8_storm_130 rfl ?_
      refine ev_aload_n dX8_storm_131 rfl ?_
      refine ev_iconst dX8_storm_132 ?_
      refine ev_callVI dX8_storm_133 kv_X8_385 (m_draw ν 2 (by decide) (by decide) hsd) rfl rfl (ci := 8) rfl rfl ⟨by decide, by decide⟩ (Nat.le_of_ble_eq_true rfl) ?_
      refine ev_w (fun hR => ?_)
      refine ev_iconst dX8_storm_136 ?_
      refine ev_icmp_ne (tgt := 144) dX8_storm_137 (by decide) (by have := drw_R τ (n := 2) (by decide); unfold drw at this; rw [← hD.1.2.2.2] at this; exact ⟨by omega, by omega⟩) (by decide) (fun h_137 => ?_) (fun h_137 => ?_)
      · refine ev_iconst dX8_storm_144 ?_
        refine ev_zastore dX8_storm_145 rfl (by first | omega | (simp [wr_at]; omega) | (simp [wr_at, *]; omega)) (by first | omega | (simp [wr_at]; omega) | (simp [wr_at, *]; omega)) (by decide) (by first | exact Or.inl rfl | exact Or.inr rfl | omega) ?_
        refine ev_w (fun hR => ?_)
        refine ev_iinc dX8_storm_146 rfl rfl (by decide) rfl ?_
        refine ev_goto (tgt := 118) dX8_storm_149 (by decide) ?_
        first
          | (rw [hsuc] at ih
             refine ih (by omega) _ ⟨(hS.wf _ (by decide)).wrc _ _ (by decide) (by decide), ?_⟩
             unfold st2
             rw [hwt9, if_pos (by unfold drw; rw [← hD.1.2.2.2]; exact h_137)]
             exact MDy.wetS (MDy.draw hD) wt1 r (by unfold sdM; rw [wr_nek _ (by decide)]; exact hD1.2.2.2.2.1.1) _ (by decide))
          | (rw [hsuc] at ih
             refine ih (by omega) _ ⟨(hS.wf _ (by decide)).wrc _ _ (by decide) (by decide), ?_⟩
             unfold st2
             rw [hwt9, if_neg (by unfold drw; rw [← hD.1.2.2.2]; exact h_137)]
             exact MDy.wetS (MDy.draw hD) wt1 r (by unfold sdM; rw [wr_nek _ (by decide)]; exact hD1.2.2.2.2.1.1) _ (by decide))
      · refine ev_iconst dX8_storm_140 ?_
        refine ev_goto (tgt := 145) dX8_storm_141 (by decide) ?_
        refine ev_zastore dX8_storm_145 rfl (by first | omega | (simp [wr_at]; omega) | (simp [wr_at, *]; omega)) (by first | omega | (simp [wr_at]; omega) | (simp [wr_at, *]; omega)) (by decide) (by first | exact Or.inl rfl | exact Or.inr rfl | omega) ?_
        refine ev_w (fun hR => ?_)
        refine ev_iinc dX8_storm_146 rfl rfl (by decide) rfl ?_
        refine ev_goto (tgt := 118) dX8_storm_149 (by decide) ?_
        first
          | (rw [hsuc] at ih
             refine ih (by omega) _ ⟨(hS.wf _ (by decide)).wrc _ _ (by decide) (by decide), ?_⟩
             unfold st2
             rw [hwt9, if_pos (by unfold drw; rw [← hD.1.2.2.2]; exact h_137)]
             exact MDy.wetS (MDy.draw hD) wt1 r (by unfold sdM; rw [wr_nek _ (by decide)]; exact hD1.2.2.2.2.1.1) _ (by decide))
          | (rw [hsuc] at ih
             refine ih (by omega) _ ⟨(hS.wf _ (by decide)).wrc _ _ (by decide) (by decide), ?_⟩
             unfold st2
             rw [hwt9, if_neg (by unfold drw; rw [← hD.1.2.2.2]; exact h_137)]
             exact MDy.wetS (MDy.draw hD) wt1 r (by unfold sdM; rw [wr_nek _ (by decide)]; exact hD1.2.2.2.2.1.1) _ (by decide))
  have loop1 : (0 ≤ q ∧ q ≤ 100) → ∀ r : Nat, r ≤ nr → ∀ ν, MSame μ ν ∧ MDy ν (stL1 σ nb q r) nr nb nl → Ev RX8 cX8_storm 4 1 25 (fun v ν => if ¬ (0 ≤ q ∧ q ≤ 100) then AnsI (-1000000002) μ v ν else AnsIP (andn w (wN (stormM σ nb nr q)) : Nat) (fun ν => MSame μ ν ∧ MDy ν (stormM σ nb nr q) nr nb nl) v ν) 19 [some (.ref 79), some (.int (iI q)), some (.int (iI (andn w (wN (stL1 σ nb q r)) : Nat))), some (.int (iI (r : Nat)))] [] ν := by
    intro hq9
    refine for_up nr (fun r hr ih => ?_)
    intro ν hν
    obtain ⟨hS, hD⟩ := hν
    refine ev_w (fun hR => ?_)
    have hcr : ν.1 79 4 = nr := by rw [hS.2.1 _ (by decide) (by decide) (by decide) (by decide)]; exact cr
    have hcb : ν.1 79 9 = nb := by rw [hS.2.1 _ (by decide) (by decide) (by decide) (by decide)]; exact cb
    obtain ⟨⟨w1, hD1⟩, hSa⟩ := hL1 r hr
    have hPO2 := hPO.same hSa hnP
    have hwbit := stL1_w σ nb q r r (Nat.le_refl _)
    have hws := st1_w (stL1 σ nb q r) nb q r
    have hla := loop2 hq9
    generalize hτ : stL1 σ nb q r = τ at *
    have hMo : MOk ν τ P n nr nb nl mb w1 wt dv f t := MOk.mk2 hMP hS hPO2 hD1 (fun k hk => hSa.1 _ (hnP k hk)) hD
    have hsuc : stL1 σ nb q (r + 1) = st1 τ nb q r := by
      show st1 (stL1 σ nb q r) nb q r = _
      rw [hτ]
    rw [hsuc] at ih
    have hw9 : wN τ = w1 := hD1.w.1
    have hw0 : wN σ = w := hDy.w.1
    rw [hw9, hw0] at hwbit
    rw [hw9] at hws ⊢
    have hse : ν.1 79 34 = τ.1 37 2 := hD.1.2.2.2
    have hsd : 0 ≤ ν.1 79 34 := by rw [hse]; exact hD1.2.2.1
    refine ev_iload_n dX8_storm_19 rfl ?_
    refine ev_aload_n dX8_storm_20 rfl ?_
    refine ev_getI (kz := 4) dX8_storm_21 fl_X8_184 rfl rfl rfl ?_
    rw [hcr]
    refine ev_icmp_ge (tgt := 116) dX8_storm_24 (by decide) (by first | exact hR.1 _ _ | exact hR0.1 _ _ | assumption | exact ⟨by omega, by omega⟩ | exact ⟨by simp [wr_at]; omega, by simp [wr_at]; omega⟩ | exact b2_R _ | exact bC_R _ | exact band_R _ _ | exact bor_R _ _ | exact bshl_R _ _ | exact bshr_R _ _ | exact bxor_R _ _ | exact bs_R (by omega) | decide) (by first | exact hR.1 _ _ | exact hR0.1 _ _ | assumption | exact ⟨by omega, by omega⟩ | exact ⟨by simp [wr_at]; omega, by simp [wr_at]; omega⟩ | exact b2_R _ | exact bC_R _ | exact band_R _ _ | exact bor_R _ _ | exact bshl_R _ _ | exact bshr_R _ _ | exact bxor_R _ _ | exact bs_R (by omega) | decide) (fun h_24 => ?_) (fun h_24 => ?_)
    · refine ev_iconst dX8_storm_116 ?_
      refine ev_istore_n dX8_storm_117 rfl (by decide) rfl ?_
      obtain rfl : r = nr := by omega
      rw [hτ, hw9] at hla
      exact hla 0 (by omega) ν ⟨hS, by show MDy ν τ r nb nl; exact hD⟩
    · have hrn : r < nr := by omega
      have h38 := hD1.2.2.2.2.2.2.2.1 r hrn
      have hd1 := drw_R τ (n := 100) (by decide)
      have hd2 := drw_R (sdM τ) (n := 40) (by decide)
      have hdr1 : ((nseed (ν.1 79 34)).tdiv 65536).tmod 100 = drw τ 100 := by rw [hse]; rfl
      have e95 : ν.1 95 (r : Int) = τ.1 38 (r : Int) := (hD.2.1 r hrn).1
      refine ev_aload_n dX8_storm_27 rfl ?_
      refine ev_getR (r := 97) dX8_storm_28 fl_X8_62 rfl rfl rfl ?_
      refine ev_iload_n dX8_storm_31 rfl ?_
      refine ev_zaload dX8_storm_32 rfl (by first | omega | (simp [wr_at]; omega) | (simp [wr_at, *]; omega)) (by first | omega | (simp [wr_at]; omega) | (simp [wr_at, *]; omega)) (by decide) ?_
      refine ev_if_ne (tgt := 110) dX8_storm_33 (by decide) (by first | exact hR.1 _ _ | exact hR0.1 _ _ | assumption | exact ⟨by omega, by omega⟩ | exact ⟨by simp [wr_at]; omega, by simp [wr_at]; omega⟩ | exact b2_R _ | exact bC_R _ | exact band_R _ _ | exact bor_R _ _ | exact bshl_R _ _ | exact bshr_R _ _ | exact bxor_R _ _ | exact bs_R (by omega) | decide) (fun h_33 => ?_) (fun h_33 => ?_)
      · refine ev_iinc dX8_storm_110 rfl rfl (by decide) rfl ?_
        refine ev_goto (tgt := 19) dX8_storm_113 (by decide) ?_
        first
          | (exfalso; omega)
          | (have e9 : st1 τ nb q r = τ := by
               unfold st1
               rw [if_neg (fun y => ?_)]
               rw [hw9] at y
               first
                 | (rw [hMo.cut hrn] at h_33; exact h_33 (b2_f (by rw [y.1]; decide)))
                 | (have y2 : fstI (fun b => τ.1 40 b) (r : Int) nb = -1 := y.2
                    omega)
             rw [e9, hw9] at ih
             have q9 := ih (by omega) ν ⟨hS, hD⟩
             exact q9)
          | (have e9 : st1 τ nb q r = sdM τ := by
               unfold st1
               rw [hw9, if_pos ⟨hcb9, hfs⟩, if_neg (by omega)]
             rw [e9] at ih hws
             rw [if_neg (fun y => by omega)] at hws
             rw [hws] at ih
             exact ih (by omega) _ ⟨hS.wf _ (by decide), MDy.draw hD⟩)
          | (have e9 : st1 τ nb q r = wearM (sdM (sdM τ)) r (drw (sdM τ) 40) w1 r := by
               unfold st1
               rw [hw9, if_pos ⟨hcb9, hfs⟩, if_pos (by omega)]
             have e38 : (sdM (sdM τ)).1 38 (r : Int) = τ.1 38 (r : Int) := by unfold sdM; rw [wr_nec _ (by decide), wr_nec _ (by decide)]
             rw [e9] at ih hws
             have hDw := MDy.wearS (MDy.draw (MDy.draw hD)) w1 r (by unfold sdM; rw [wr_nek _ (by decide), wr_nek _ (by decide)]; exact hD1.2.2.2.1.1) (drw (sdM τ) 40) 0 (by rw [e38]; rw [b2_f (fun y => by rcases y with y | y; rw [hcb9] at y; exact absurd y (by decide); exact y (by omega))])
             rw [e38] at hDw
             rw [if_neg (fun y => y.2.2 (by omega))] at hws
             rw [hws] at ih
             have hSw : MSame μ (wr (wr (wr (wr ν 79 34 (nseed (ν.1 79 34))) 79 34 (nseed ((wr ν 79 34 (nseed (ν.1 79 34))).1 79 34))) 95 (r : Int) (τ.1 38 (r : Int) + drw (sdM τ) 40)) 97 (r : Int) 0) := (((hS.wf _ (by decide)).wf _ (by decide)).wrc _ _ (by decide) (by decide)).wrc _ _ (by decide) (by decide)
             have q9 := ih (by omega) _ ⟨hSw, hDw⟩
             rw [show bor ((andn w w1 : Nat) : Int) 0 = ((andn w w1 : Nat) : Int) from by have := bor_nat (andn w w1) 0 (by have := hal w1; omega) (by decide); rw [Nat.or_zero] at this; exact this]
             exact q9)
          | (have e9 : st1 τ nb q r = wearM (sdM (sdM τ)) r (drw (sdM τ) 40) w1 r := by
               unfold st1
               rw [hw9, if_pos ⟨hcb9, hfs⟩, if_pos (by omega)]
             have e38 : (sdM (sdM τ)).1 38 (r : Int) = τ.1 38 (r : Int) := by unfold sdM; rw [wr_nec _ (by decide), wr_nec _ (by decide)]
             rw [e9] at ih hws
             have hDw := MDy.wearS (MDy.draw (MDy.draw hD)) w1 r (by unfold sdM; rw [wr_nek _ (by decide), wr_nek _ (by decide)]; exact hD1.2.2.2.1.1) (drw (sdM τ) 40) 1 (by rw [e38]; rw [b2_t (Or.inr (by omega))])
             rw [e38] at hDw
             rw [if_pos ⟨⟨hcb9, hfs⟩, by omega, by omega⟩] at hws
             rw [hws] at ih
             have hSw : MSame μ (wr (wr (wr (wr ν 79 34 (nseed (ν.1 79 34))) 79 34 (nseed ((wr ν 79 34 (nseed (ν.1 79 34))).1 79 34))) 95 (r : Int) (τ.1 38 (r : Int) + drw (sdM τ) 40)) 97 (r : Int) 1) := (((hS.wf _ (by decide)).wf _ (by decide)).wrc _ _ (by decide) (by decide)).wrc _ _ (by decide) (by decide)
             have q9 := ih (by omega) _ ⟨hSw, hDw⟩
             rw [andn_andn (by rw [← hwbit]; exact hcb9)] at q9
             rw [bshl1 r (by omega), bor_nat (andn w w1) (2 ^ r) (by have := hal w1; omega) (Nat.lt_trans (Nat.pow_lt_pow_right (by decide) (show r < 12 by omega)) (by decide))]
             exact q9)
      · refine ev_aload_n dX8_storm_36 rfl ?_
        refine ev_iload_n dX8_storm_37 rfl ?_
        refine ev_callVI dX8_storm_38 kv_X8_327 (m_onRope ν nb hcb hnb4 r ⟨by omega, by omega⟩) rfl rfl (ci := 8) rfl rfl ⟨by decide, by decide⟩ (Nat.le_of_ble_eq_true rfl) ?_
        refine ev_w (fun hR => ?_)
        rw [hMo.onR (by omega)]
        have hfR := fstI_R (fun b => τ.1 40 b) (r : Int) nb
        refine ev_if_ge (tgt := 110) dX8_storm_41 (by decide) ⟨by omega, by omega⟩ (fun h_41 => ?_) (fun h_41 => ?_)
        · refine ev_iinc dX8_storm_110 rfl rfl (by decide) rfl ?_
          refine ev_goto (tgt := 19) dX8_storm_113 (by decide) ?_
          first
            | (exfalso; omega)
            | (have e9 : st1 τ nb q r = τ := by
                 unfold st1
                 rw [if_neg (fun y => ?_)]
                 rw [hw9] at y
                 first
                   | (rw [hMo.cut hrn] at h_33; exact h_33 (b2_f (by rw [y.1]; decide)))
                   | (have y2 : fstI (fun b => τ.1 40 b) (r : Int) nb = -1 := y.2
                      omega)
               rw [e9, hw9] at ih
               have q9 := ih (by omega) ν ⟨hS, hD⟩
               exact q9)
            | (have e9 : st1 τ nb q r = sdM τ := by
                 unfold st1
                 rw [hw9, if_pos ⟨hcb9, hfs⟩, if_neg (by omega)]
               rw [e9] at ih hws
               rw [if_neg (fun y => by omega)] at hws
               rw [hws] at ih
               exact ih (by omega) _ ⟨hS.wf _ (by decide), MDy.draw hD⟩)
            | (have e9 : st1 τ nb q r = wearM (sdM (sdM τ)) r (drw (sdM τ) 40) w1 r := by
                 unfold st1
                 rw [hw9, if_pos ⟨hcb9, hfs⟩, if_pos (by omega)]
               have e38 : (sdM (sdM τ)).1 38 (r : Int) = τ.1 38 (r : Int) := by unfold sdM; rw [wr_nec _ (by decide), wr_nec _ (by decide)]
               rw [e9] at ih hws
               have hDw := MDy.wearS (MDy.draw (MDy.draw hD)) w1 r (by unfold sdM; rw [wr_nek _ (by decide), wr_nek _ (by decide)]; exact hD1.2.2.2.1.1) (drw (sdM τ) 40) 0 (by rw [e38]; rw [b2_f (fun y => by rcases y with y | y; rw [hcb9] at y; exact absurd y (by decide); exact y (by omega))])
               rw [e38] at hDw
               rw [if_neg (fun y => y.2.2 (by omega))] at hws
               rw [hws] at ih
               have hSw : MSame μ (wr (wr (wr (wr ν 79 34 (nseed (ν.1 79 34))) 79 34 (nseed ((wr ν 79 34 (nseed (ν.1 79 34))).1 79 34))) 95 (r : Int) (τ.1 38 (r : Int) + drw (sdM τ) 40)) 97 (r : Int) 0) := (((hS.wf _ (by decide)).wf _ (by decide)).wrc _ _ (by decide) (by decide)).wrc _ _ (by decide) (by decide)
               have q9 := ih (by omega) _ ⟨hSw, hDw⟩
               rw [show bor ((andn w w1 : Nat) : Int) 0 = ((andn w w1 : Nat) : Int) from by have := bor_nat (andn w w1) 0 (by have := hal w1; omega) (by decide); rw [Nat.or_zero] at this; exact this]
               exact q9)
            | (have e9 : st1 τ nb q r = wearM (sdM (sdM τ)) r (drw (sdM τ) 40) w1 r := by
                 unfold st1
                 rw [hw9, if_pos ⟨hcb9, hfs⟩, if_pos (by omega)]
               have e38 : (sdM (sdM τ)).1 38 (r : Int) = τ.1 38 (r : Int) := by unfold sdM; rw [wr_nec _ (by decide), wr_nec _ (by decide)]
               rw [e9] at ih hws
               have hDw := MDy.wearS (MDy.draw (MDy.draw hD)) w1 r (by unfold sdM; rw [wr_nek _ (by decide), wr_nek _ (by decide)]; exact hD1.2.2.2.1.1) (drw (sdM τ) 40) 1 (by rw [e38]; rw [b2_t (Or.inr (by omega))])
               rw [e38] at hDw
               rw [if_pos ⟨⟨hcb9, hfs⟩, by omega, by omega⟩] at hws
               rw [hws] at ih
               have hSw : MSame μ (wr (wr (wr (wr ν 79 34 (nseed (ν.1 79 34))) 79 34 (nseed ((wr ν 79 34 (nseed (ν.1 79 34))).1 79 34))) 95 (r : Int) (τ.1 38 (r : Int) + drw (sdM τ) 40)) 97 (r : Int) 1) := (((hS.wf _ (by decide)).wf _ (by decide)).wrc _ _ (by decide) (by decide)).wrc _ _ (by decide) (by decide)
               have q9 := ih (by omega) _ ⟨hSw, hDw⟩
               rw [andn_andn (by rw [← hwbit]; exact hcb9)] at q9
               rw [bshl1 r (by omega), bor_nat (andn w w1) (2 ^ r) (by have := hal w1; omega) (Nat.lt_trans (Nat.pow_lt_pow_right (by decide) (show r < 12 by omega)) (by decide))]
               exact q9)
        · have hcb9 : w1.testBit r = true := by
            have := h_33
            rw [hMo.cut hrn] at this
            simpa using b2_eq (Decidable.not_not.mp (fun z => z this))
          have hfs : fstI (fun i => τ.1 40 i) (r : Int) nb = -1 := by
            have := fstI_R (fun b => τ.1 40 b) (r : Int) nb
            omega
          refine ev_aload_n dX8_storm_44 rfl ?_
          refine ev_bipush dX8_storm_45 (by decide) ?_
          refine ev_callVI dX8_storm_47 kv_X8_385 (m_draw ν 100 (by decide) (by decide) hsd) rfl rfl (ci := 8) rfl rfl ⟨by decide, by decide⟩ (Nat.le_of_ble_eq_true rfl) ?_
          refine ev_w (fun hR => ?_)
          rw [hdr1]
          refine ev_iload_n dX8_storm_50 rfl ?_
          refine ev_icmp_ge (tgt := 110) dX8_storm_51 (by decide) (by first | exact hR.1 _ _ | exact hR0.1 _ _ | assumption | exact ⟨by omega, by omega⟩ | exact ⟨by simp [wr_at]; omega, by simp [wr_at]; omega⟩ | exact b2_R _ | exact bC_R _ | exact band_R _ _ | exact bor_R _ _ | exact bshl_R _ _ | exact bshr_R _ _ | exact bxor_R _ _ | exact bs_R (by omega) | decide) (by first | exact hR.1 _ _ | exact hR0.1 _ _ | assumption | exact ⟨by omega, by omega⟩ | exact ⟨by simp [wr_at]; omega, by simp [wr_at]; omega⟩ | exact b2_R _ | exact bC_R _ | exact band_R _ _ | exact bor_R _ _ | exact bshl_R _ _ | exact bshr_R _ _ | exact bxor_R _ _ | exact bs_R (by omega) | decide) (fun h_51 => ?_) (fun h_51 => ?_)
          · refine ev_iinc dX8_storm_110 rfl rfl (by decide) rfl ?_
            refine ev_goto (tgt := 19) dX8_storm_113 (by decide) ?_
            first
              | (exfalso; omega)
              | (have e9 : st1 τ nb q r = τ := by
                   unfold st1
                   rw [if_neg (fun y => ?_)]
                   rw [hw9] at y
                   first
                     | (rw [hMo.cut hrn] at h_33; exact h_33 (b2_f (by rw [y.1]; decide)))
                     | (have y2 : fstI (fun b => τ.1 40 b) (r : Int) nb = -1 := y.2
                        omega)
                 rw [e9, hw9] at ih
                 have q9 := ih (by omega) ν ⟨hS, hD⟩
                 exact q9)
              | (have e9 : st1 τ nb q r = sdM τ := by
                   unfold st1
                   rw [hw9, if_pos ⟨hcb9, hfs⟩, if_neg (by omega)]
                 rw [e9] at ih hws
                 rw [if_neg (fun y => by omega)] at hws
                 rw [hws] at ih
                 exact ih (by omega) _ ⟨hS.wf _ (by decide), MDy.draw hD⟩)
              | (have e9 : st1 τ nb q r = wearM (sdM (sdM τ)) r (drw (sdM τ) 40) w1 r := by
                   unfold st1
                   rw [hw9, if_pos ⟨hcb9, hfs⟩, if_pos (by omega)]
                 have e38 : (sdM (sdM τ)).1 38 (r : Int) = τ.1 38 (r : Int) := by unfold sdM; rw [wr_nec _ (by decide), wr_nec _ (by decide)]
                 rw [e9] at ih hws
                 have hDw := MDy.wearS (MDy.draw (MDy.draw hD)) w1 r (by unfold sdM; rw [wr_nek _ (by decide), wr_nek _ (by decide)]; exact hD1.2.2.2.1.1) (drw (sdM τ) 40) 0 (by rw [e38]; rw [b2_f (fun y => by rcases y with y | y; rw [hcb9] at y; exact absurd y (by decide); exact y (by omega))])
                 rw [e38] at hDw
                 rw [if_neg (fun y => y.2.2 (by omega))] at hws
                 rw [hws] at ih
                 have hSw : MSame μ (wr (wr (wr (wr ν 79 34 (nseed (ν.1 79 34))) 79 34 (nseed ((wr ν 79 34 (nseed (ν.1 79 34))).1 79 34))) 95 (r : Int) (τ.1 38 (r : Int) + drw (sdM τ) 40)) 97 (r : Int) 0) := (((hS.wf _ (by decide)).wf _ (by decide)).wrc _ _ (by decide) (by decide)).wrc _ _ (by decide) (by decide)
                 have q9 := ih (by omega) _ ⟨hSw, hDw⟩
                 rw [show bor ((andn w w1 : Nat) : Int) 0 = ((andn w w1 : Nat) : Int) from by have := bor_nat (andn w w1) 0 (by have := hal w1; omega) (by decide); rw [Nat.or_zero] at this; exact this]
                 exact q9)
              | (have e9 : st1 τ nb q r = wearM (sdM (sdM τ)) r (drw (sdM τ) 40) w1 r := by
                   unfold st1
                   rw [hw9, if_pos ⟨hcb9, hfs⟩, if_pos (by omega)]
                 have e38 : (sdM (sdM τ)).1 38 (r : Int) = τ.1 38 (r : Int) := by unfold sdM; rw [wr_nec _ (by decide), wr_nec _ (by decide)]
                 rw [e9] at ih hws
                 have hDw := MDy.wearS (MDy.draw (MDy.draw hD)) w1 r (by unfold sdM; rw [wr_nek _ (by decide), wr_nek _ (by decide)]; exact hD1.2.2.2.1.1) (drw (sdM τ) 40) 1 (by rw [e38]; rw [b2_t (Or.inr (by omega))])
                 rw [e38] at hDw
                 rw [if_pos ⟨⟨hcb9, hfs⟩, by omega, by omega⟩] at hws
                 rw [hws] at ih
                 have hSw : MSame μ (wr (wr (wr (wr ν 79 34 (nseed (ν.1 79 34))) 79 34 (nseed ((wr ν 79 34 (nseed (ν.1 79 34))).1 79 34))) 95 (r : Int) (τ.1 38 (r : Int) + drw (sdM τ) 40)) 97 (r : Int) 1) := (((hS.wf _ (by decide)).wf _ (by decide)).wrc _ _ (by decide) (by decide)).wrc _ _ (by decide) (by decide)
                 have q9 := ih (by omega) _ ⟨hSw, hDw⟩
                 rw [andn_andn (by rw [← hwbit]; exact hcb9)] at q9
                 rw [bshl1 r (by omega), bor_nat (andn w w1) (2 ^ r) (by have := hal w1; omega) (Nat.lt_trans (Nat.pow_lt_pow_right (by decide) (show r < 12 by omega)) (by decide))]
                 exact q9)
          · refine ev_aload_n dX8_storm_54 rfl ?_
            refine ev_getR (r := 95) dX8_storm_55 fl_X8_55 rfl rfl rfl ?_
            refine ev_iload_n dX8_storm_58 rfl ?_
            refine ev_dup2 dX8_storm_59 rfl rfl ?_
            refine ev_iaload dX8_storm_60 rfl (by first | omega | (simp [wr_at]; omega) | (simp [wr_at, *]; omega)) (by first | omega | (simp [wr_at]; omega) | (simp [wr_at, *]; omega)) (by decide) ?_
            rw [wr_nec _ (by decide), e95]
            refine ev_aload_n dX8_storm_61 rfl ?_
            refine ev_bipush dX8_storm_62 (by decide) ?_
            refine ev_callVI dX8_storm_64 kv_X8_385 (m_draw _ 40 (by decide) (by decide) (by rw [wr_eq]; exact (nseed_R _).1)) rfl rfl (ci := 8) rfl rfl ⟨by decide, by decide⟩ (Nat.le_of_ble_eq_true rfl) ?_
            refine ev_w (fun hR => ?_)
            have hdr2 : ((nseed ((wr ν 79 34 (nseed (ν.1 79 34))).1 79 34)).tdiv 65536).tmod 40 = drw (sdM τ) 40 := by
              rw [wr_eq, hse]
              unfold drw sdM
              rw [wr_eq]
            rw [hdr2]
            refine ev_iadd dX8_storm_67 ?_
            refine ev_iastore dX8_storm_68 rfl (by first | omega | (simp [wr_at]; omega) | (simp [wr_at, *]; omega)) (by first | omega | (simp [wr_at]; omega) | (simp [wr_at, *]; omega)) (by decide) (by first | exact hR.1 _ _ | exact hR0.1 _ _ | assumption | exact ⟨by omega, by omega⟩ | exact ⟨by simp [wr_at]; omega, by simp [wr_at]; omega⟩ | exact b2_R _ | exact bC_R _ | exact band_R _ _ | exact bor_R _ _ | exact bshl_R _ _ | exact bshr_R _ _ | exact bxor_R _ _ | exact bs_R (by omega) | decide) ?_
            refine ev_w (fun hR => ?_)
            refine ev_aload_n dX8_storm_69 rfl ?_
            refine ev_getR (r := 97) dX8_storm_70 fl_X8_62 rfl rfl rfl ?_
            refine ev_iload_n dX8_storm_73 rfl ?_
            refine ev_aload_n dX8_storm_74 rfl ?_
            refine ev_getR (r := 95) dX8_storm_75 fl_X8_55 rfl rfl rfl ?_
            refine ev_iload_n dX8_storm_78 rfl ?_
            refine ev_iaload dX8_storm_79 rfl (by first | omega | (simp [wr_at]; omega) | (simp [wr_at, *]; omega)) (by first | omega | (simp [wr_at]; omega) | (simp [wr_at, *]; omega)) (by decide) ?_
            rw [wr_eq]
            refine ev_bipush dX8_storm_80 (by decide) ?_
            refine ev_icmp_lt (tgt := 89) dX8_storm_82 (by decide) (by first | exact hR.1 _ _ | exact hR0.1 _ _ | assumption | exact ⟨by omega, by omega⟩ | exact ⟨by simp [wr_at]; omega, by simp [wr_at]; omega⟩ | exact b2_R _ | exact bC_R _ | exact band_R _ _ | exact bor_R _ _ | exact bshl_R _ _ | exact bshr_R _ _ | exact bxor_R _ _ | exact bs_R (by omega) | decide) (by first | exact hR.1 _ _ | exact hR0.1 _ _ | assumption | exact ⟨by omega, by omega⟩ | exact ⟨by simp [wr_at]; omega, by simp [wr_at]; omega⟩ | exact b2_R _ | exact bC_R _ | exact band_R _ _ | exact bor_R _ _ | exact bshl_R _ _ | exact bshr_R _ _ | exact bxor_R _ _ | exact bs_R (by omega) | decide) (fun h_82 => ?_) (fun h_82 => ?_)
            · refine ev_iconst dX8_storm_89 ?_
              refine ev_zastore dX8_storm_90 rfl (by first | omega | (simp [wr_at]; omega) | (simp [wr_at, *]; omega)) (by first | omega | (simp [wr_at]; omega) | (simp [wr_at, *]; omega)) (by decide) (by first | exact Or.inl rfl | exact Or.inr rfl | omega) ?_
              refine ev_w (fun hR => ?_)
              refine ev_iload_n dX8_storm_91 rfl ?_
              refine ev_aload_n dX8_storm_92 rfl ?_
              refine ev_getR (r := 97) dX8_storm_93 fl_X8_62 rfl rfl rfl ?_
              refine ev_iload_n dX8_storm_96 rfl ?_
              refine ev_zaload dX8_storm_97 rfl (by first | omega | (simp [wr_at]; omega) | (simp [wr_at, *]; omega)) (by first | omega | (simp [wr_at]; omega) | (simp [wr_at, *]; omega)) (by decide) ?_
              rw [wr_eq]
              refine ev_if_eq (tgt := 107) dX8_storm_98 (by decide) (by first | exact hR.1 _ _ | exact hR0.1 _ _ | assumption | exact ⟨by omega, by omega⟩ | exact ⟨by simp [wr_at]; omega, by simp [wr_at]; omega⟩ | exact b2_R _ | exact bC_R _ | exact band_R _ _ | exact bor_R _ _ | exact bshl_R _ _ | exact bshr_R _ _ | exact bxor_R _ _ | exact bs_R (by omega) | decide) (fun h_98 => ?_) (fun h_98 => ?_)
              · refine ev_iconst dX8_storm_107 ?_
                refine ev_ior dX8_storm_108 ?_
                refine ev_istore_n dX8_storm_109 rfl (by decide) rfl ?_
                refine ev_iinc dX8_storm_110 rfl rfl (by decide) rfl ?_
                refine ev_goto (tgt := 19) dX8_storm_113 (by decide) ?_
                first
                  | (exfalso; omega)
                  | (have e9 : st1 τ nb q r = τ := by
                       unfold st1
                       rw [if_neg (fun y => ?_)]
                       rw [hw9] at y
                       first
                         | (rw [hMo.cut hrn] at h_33; exact h_33 (b2_f (by rw [y.1]; decide)))
                         | (have y2 : fstI (fun b => τ.1 40 b) (r : Int) nb = -1 := y.2
                            omega)
                     rw [e9, hw9] at ih
                     have q9 := ih (by omega) ν ⟨hS, hD⟩
                     exact q9)
                  | (have e9 : st1 τ nb q r = sdM τ := by
                       unfold st1
                       rw [hw9, if_pos ⟨hcb9, hfs⟩, if_neg (by omega)]
                     rw [e9] at ih hws
                     rw [if_neg (fun y => by omega)] at hws
                     rw [hws] at ih
                     exact ih (by omega) _ ⟨hS.wf _ (by decide), MDy.draw hD⟩)
                  | (have e9 : st1 τ nb q r = wearM (sdM (sdM τ)) r (drw (sdM τ) 40) w1 r := by
                       unfold st1
                       rw [hw9, if_pos ⟨hcb9, hfs⟩, if_pos (by omega)]
                     have e38 : (sdM (sdM τ)).1 38 (r : Int) = τ.1 38 (r : Int) := by unfold sdM; rw [wr_nec _ (by decide), wr_nec _ (by decide)]
                     rw [e9] at ih hws
                     have hDw := MDy.wearS (MDy.draw (MDy.draw hD)) w1 r (by unfold sdM; rw [wr_nek _ (by decide), wr_nek _ (by decide)]; exact hD1.2.2.2.1.1) (drw (sdM τ) 40) 0 (by rw [e38]; rw [b2_f (fun y => by rcases y with y | y; rw [hcb9] at y; exact absurd y (by decide); exact y (by omega))])
                     rw [e38] at hDw
                     rw [if_neg (fun y => y.2.2 (by omega))] at hws
                     rw [hws] at ih
                     have hSw : MSame μ (wr (wr (wr (wr ν 79 34 (nseed (ν.1 79 34))) 79 34 (nseed ((wr ν 79 34 (nseed (ν.1 79 34))).1 79 34))) 95 (r : Int) (τ.1 38 (r : Int) + drw (sdM τ) 40)) 97 (r : Int) 0) := (((hS.wf _ (by decide)).wf _ (by decide)).wrc _ _ (by decide) (by decide)).wrc _ _ (by decide) (by decide)
                     have q9 := ih (by omega) _ ⟨hSw, hDw⟩
                     rw [show bor ((andn w w1 : Nat) : Int) 0 = ((andn w w1 : Nat) : Int) from by have := bor_nat (andn w w1) 0 (by have := hal w1; omega) (by decide); rw [Nat.or_zero] at this; exact this]
                     exact q9)
                  | (have e9 : st1 τ nb q r = wearM (sdM (sdM τ)) r (drw (sdM τ) 40) w1 r := by
                       unfold st1
                       rw [hw9, if_pos ⟨hcb9, hfs⟩, if_pos (by omega)]
                     have e38 : (sdM (sdM τ)).1 38 (r : Int) = τ.1 38 (r : Int) := by unfold sdM; rw [wr_nec _ (by decide), wr_nec _ (by decide)]
                     rw [e9] at ih hws
                     have hDw := MDy.wearS (MDy.draw (MDy.draw hD)) w1 r (by unfold sdM; rw [wr_nek _ (by decide), wr_nek _ (by decide)]; exact hD1.2.2.2.1.1) (drw (sdM τ) 40) 1 (by rw [e38]; rw [b2_t (Or.inr (by omega))])
                     rw [e38] at hDw
                     rw [if_pos ⟨⟨hcb9, hfs⟩, by omega, by omega⟩] at hws
                     rw [hws] at ih
                     have hSw : MSame μ (wr (wr (wr (wr ν 79 34 (nseed (ν.1 79 34))) 79 34 (nseed ((wr ν 79 34 (nseed (ν.1 79 34))).1 79 34))) 95 (r : Int) (τ.1 38 (r : Int) + drw (sdM τ) 40)) 97 (r : Int) 1) := (((hS.wf _ (by decide)).wf _ (by decide)).wrc _ _ (by decide) (by decide)).wrc _ _ (by decide) (by decide)
                     have q9 := ih (by omega) _ ⟨hSw, hDw⟩
                     rw [andn_andn (by rw [← hwbit]; exact hcb9)] at q9
                     rw [bshl1 r (by omega), bor_nat (andn w w1) (2 ^ r) (by have := hal w1; omega) (Nat.lt_trans (Nat.pow_lt_pow_right (by decide) (show r < 12 by omega)) (by decide))]
                     exact q9)
              · refine ev_iconst dX8_storm_101 ?_
                refine ev_iload_n dX8_storm_102 rfl ?_
                refine ev_ishl dX8_storm_103 ?_
                refine ev_goto (tgt := 108) dX8_storm_104 (by decide) ?_
                refine ev_ior dX8_storm_108 ?_
                refine ev_istore_n dX8_storm_109 rfl (by decide) rfl ?_
                refine ev_iinc dX8_storm_110 rfl rfl (by decide) rfl ?_
                refine ev_goto (tgt := 19) dX8_storm_113 (by decide) ?_
                first
                  | (exfalso; omega)
                  | (have e9 : st1 τ nb q r = τ := by
                       unfold st1
                       rw [if_neg (fun y => ?_)]
                       rw [hw9] at y
                       first
                         | (rw [hMo.cut hrn] at h_33; exact h_33 (b2_f (by rw [y.1]; decide)))
                         | (have y2 : fstI (fun b => τ.1 40 b) (r : Int) nb = -1 := y.2
                            omega)
                     rw [e9, hw9] at ih
                     have q9 := ih (by omega) ν ⟨hS, hD⟩
                     exact q9)
                  | (have e9 : st1 τ nb q r = sdM τ := by
                       unfold st1
                       rw [hw9, if_pos ⟨hcb9, hfs⟩, if_neg (by omega)]
                     rw [e9] at ih hws
                     rw [if_neg (fun y => by omega)] at hws
                     rw [hws] at ih
                     exact ih (by omega) _ ⟨hS.wf _ (by decide), MDy.draw hD⟩)
                  | (have e9 : st1 τ nb q r = wearM (sdM (sdM τ)) r (drw (sdM τ) 40) w1 r := by
                       unfold st1
                       rw [hw9, if_pos ⟨hcb9, hfs⟩, if_pos (by omega)]
                     have e38 : (sdM (sdM τ)).1 38 (r : Int) = τ.1 38 (r : Int) := by unfold sdM; rw [wr_nec _ (by decide), wr_nec _ (by decide)]
                     rw [e9] at ih hws
                     have hDw := MDy.wearS (MDy.draw (MDy.draw hD)) w1 r (by unfold sdM; rw [wr_nek _ (by decide), wr_nek _ (by decide)]; exact hD1.2.2.2.1.1) (drw (sdM τ) 40) 0 (by rw [e38]; rw [b2_f (fun y => by rcases y with y | y; rw [hcb9] at y; exact absurd y (by decide); exact y (by omega))])
                     rw [e38] at hDw
                     rw [if_neg (fun y => y.2.2 (by omega))] at hws
                     rw [hws] at ih
                     have hSw : MSame μ (wr (wr (wr (wr ν 79 34 (nseed (ν.1 79 34))) 79 34 (nseed ((wr ν 79 34 (nseed (ν.1 79 34))).1 79 34))) 95 (r : Int) (τ.1 38 (r : Int) + drw (sdM τ) 40)) 97 (r : Int) 0) := (((hS.wf _ (by decide)).wf _ (by decide)).wrc _ _ (by decide) (by decide)).wrc _ _ (by decide) (by decide)
                     have q9 := ih (by omega) _ ⟨hSw, hDw⟩
                     rw [show bor ((andn w w1 : Nat) : Int) 0 = ((andn w w1 : Nat) : Int) from by have := bor_nat (andn w w1) 0 (by have := hal w1; omega) (by decide); rw [Nat.or_zero] at this; exact this]
                     exact q9)
                  | (have e9 : st1 τ nb q r = wearM (sdM (sdM τ)) r (drw (sdM τ) 40) w1 r := by
                       unfold st1
                       rw [hw9, if_pos ⟨hcb9, hfs⟩, if_pos (by omega)]
                     have e38 : (sdM (sdM τ)).1 38 (r : Int) = τ.1 38 (r : Int) := by unfold sdM; rw [wr_nec _ (by decide), wr_nec _ (by decide)]
                     rw [e9] at ih hws
                     have hDw := MDy.wearS (MDy.draw (MDy.draw hD)) w1 r (by unfold sdM; rw [wr_nek _ (by decide), wr_nek _ (by decide)]; exact hD1.2.2.2.1.1) (drw (sdM τ) 40) 1 (by rw [e38]; rw [b2_t (Or.inr (by omega))])
                     rw [e38] at hDw
                     rw [if_pos ⟨⟨hcb9, hfs⟩, by omega, by omega⟩] at hws
                     rw [hws] at ih
                     have hSw : MSame μ (wr (wr (wr (wr ν 79 34 (nseed (ν.1 79 34))) 79 34 (nseed ((wr ν 79 34 (nseed (ν.1 79 34))).1 79 34))) 95 (r : Int) (τ.1 38 (r : Int) + drw (sdM τ) 40)) 97 (r : Int) 1) := (((hS.wf _ (by decide)).wf _ (by decide)).wrc _ _ (by decide) (by decide)).wrc _ _ (by decide) (by decide)
                     have q9 := ih (by omega) _ ⟨hSw, hDw⟩
                     rw [andn_andn (by rw [← hwbit]; exact hcb9)] at q9
                     rw [bshl1 r (by omega), bor_nat (andn w w1) (2 ^ r) (by have := hal w1; omega) (Nat.lt_trans (Nat.pow_lt_pow_right (by decide) (show r < 12 by omega)) (by decide))]
                     exact q9)
            · refine ev_iconst dX8_storm_85 ?_
              refine ev_goto (tgt := 90) dX8_storm_86 (by decide) ?_
              refine ev_zastore dX8_storm_90 rfl (by first | omega | (simp [wr_at]; omega) | (simp [wr_at, *]; omega)) (by first | omega | (simp [wr_at]; omega) | (simp [wr_at, *]; omega)) (by decide) (by first | exact Or.inl rfl | exact Or.inr rfl | omega) ?_
              refine ev_w (fun hR => ?_)
              refine ev_iload_n dX8_storm_91 rfl ?_
              refine ev_aload_n dX8_storm_92 rfl ?_
              refine ev_getR (r := 97) dX8_storm_93 fl_X8_62 rfl rfl rfl ?_
              refine ev_iload_n dX8_storm_96 rfl ?_
              refine ev_zaload dX8_storm_97 rfl (by first | omega | (simp [wr_at]; omega) | (simp [wr_at, *]; omega)) (by first | omega | (simp [wr_at]; omega) | (simp [wr_at, *]; omega)) (by decide) ?_
              rw [wr_eq]
              refine ev_if_eq (tgt := 107) dX8_storm_98 (by decide) (by first | exact hR.1 _ _ | exact hR0.1 _ _ | assumption | exact ⟨by omega, by omega⟩ | exact ⟨by simp [wr_at]; omega, by simp [wr_at]; omega⟩ | exact b2_R _ | exact bC_R _ | exact band_R _ _ | exact bor_R _ _ | exact bshl_R _ _ | exact bshr_R _ _ | exact bxor_R _ _ | exact bs_R (by omega) | decide) (fun h_98 => ?_) (fun h_98 => ?_)
              · refine ev_iconst dX8_storm_107 ?_
                refine ev_ior dX8_storm_108 ?_
                refine ev_istore_n dX8_storm_109 rfl (by decide) rfl ?_
                refine ev_iinc dX8_storm_110 rfl rfl (by decide) rfl ?_
                refine ev_goto (tgt := 19) dX8_storm_113 (by decide) ?_
                first
                  | (exfalso; omega)
                  | (have e9 : st1 τ nb q r = τ := by
                       unfold st1
                       rw [if_neg (fun y => ?_)]
                       rw [hw9] at y
                       first
                         | (rw [hMo.cut hrn] at h_33; exact h_33 (b2_f (by rw [y.1]; decide)))
                         | (have y2 : fstI (fun b => τ.1 40 b) (r : Int) nb = -1 := y.2
                            omega)
                     rw [e9, hw9] at ih
                     have q9 := ih (by omega) ν ⟨hS, hD⟩
                     exact q9)
                  | (have e9 : st1 τ nb q r = sdM τ := by
                       unfold st1
                       rw [hw9, if_pos ⟨hcb9, hfs⟩, if_neg (by omega)]
                     rw [e9] at ih hws
                     rw [if_neg (fun y => by omega)] at hws
                     rw [hws] at ih
                     exact ih (by omega) _ ⟨hS.wf _ (by decide), MDy.draw hD⟩)
                  | (have e9 : st1 τ nb q r = wearM (sdM (sdM τ)) r (drw (sdM τ) 40) w1 r := by
                       unfold st1
                       rw [hw9, if_pos ⟨hcb9, hfs⟩, if_pos (by omega)]
                     have e38 : (sdM (sdM τ)).1 38 (r : Int) = τ.1 38 (r : Int) := by unfold sdM; rw [wr_nec _ (by decide), wr_nec _ (by decide)]
                     rw [e9] at ih hws
                     have hDw := MDy.wearS (MDy.draw (MDy.draw hD)) w1 r (by unfold sdM; rw [wr_nek _ (by decide), wr_nek _ (by decide)]; exact hD1.2.2.2.1.1) (drw (sdM τ) 40) 0 (by rw [e38]; rw [b2_f (fun y => by rcases y with y | y; rw [hcb9] at y; exact absurd y (by decide); exact y (by omega))])
                     rw [e38] at hDw
                     rw [if_neg (fun y => y.2.2 (by omega))] at hws
                     rw [hws] at ih
                     have hSw : MSame μ (wr (wr (wr (wr ν 79 34 (nseed (ν.1 79 34))) 79 34 (nseed ((wr ν 79 34 (nseed (ν.1 79 34))).1 79 34))) 95 (r : Int) (τ.1 38 (r : Int) + drw (sdM τ) 40)) 97 (r : Int) 0) := (((hS.wf _ (by decide)).wf _ (by decide)).wrc _ _ (by decide) (by decide)).wrc _ _ (by decide) (by decide)
                     have q9 := ih (by omega) _ ⟨hSw, hDw⟩
                     rw [show bor ((andn w w1 : Nat) : Int) 0 = ((andn w w1 : Nat) : Int) from by have := bor_nat (andn w w1) 0 (by have := hal w1; omega) (by decide); rw [Nat.or_zero] at this; exact this]
                     exact q9)
                  | (have e9 : st1 τ nb q r = wearM (sdM (sdM τ)) r (drw (sdM τ) 40) w1 r := by
                       unfold st1
                       rw [hw9, if_pos ⟨hcb9, hfs⟩, if_pos (by omega)]
                     have e38 : (sdM (sdM τ)).1 38 (r : Int) = τ.1 38 (r : Int) := by unfold sdM; rw [wr_nec _ (by decide), wr_nec _ (by decide)]
                     rw [e9] at ih hws
                     have hDw := MDy.wearS (MDy.draw (MDy.draw hD)) w1 r (by unfold sdM; rw [wr_nek _ (by decide), wr_nek _ (by decide)]; exact hD1.2.2.2.1.1) (drw (sdM τ) 40) 1 (by rw [e38]; rw [b2_t (Or.inr (by omega))])
                     rw [e38] at hDw
                     rw [if_pos ⟨⟨hcb9, hfs⟩, by omega, by omega⟩] at hws
                     rw [hws] at ih
                     have hSw : MSame μ (wr (wr (wr (wr ν 79 34 (nseed (ν.1 79 34))) 79 34 (nseed ((wr ν 79 34 (nseed (ν.1 79 34))).1 79 34))) 95 (r : Int) (τ.1 38 (r : Int) + drw (sdM τ) 40)) 97 (r : Int) 1) := (((hS.wf _ (by decide)).wf _ (by decide)).wrc _ _ (by decide) (by decide)).wrc _ _ (by decide) (by decide)
                     have q9 := ih (by omega) _ ⟨hSw, hDw⟩
                     rw [andn_andn (by rw [← hwbit]; exact hcb9)] at q9
                     rw [bshl1 r (by omega), bor_nat (andn w w1) (2 ^ r) (by have := hal w1; omega) (Nat.lt_trans (Nat.pow_lt_pow_right (by decide) (show r < 12 by omega)) (by decide))]
                     exact q9)
              · refine ev_iconst dX8_storm_101 ?_
                refine ev_iload_n dX8_storm_102 rfl ?_
                refine ev_ishl dX8_storm_103 ?_
                refine ev_goto (tgt := 108) dX8_storm_104 (by decide) ?_
                refine ev_ior dX8_storm_108 ?_
                refine ev_istore_n dX8_storm_109 rfl (by decide) rfl ?_
                refine ev_iinc dX8_storm_110 rfl rfl (by decide) rfl ?_
                refine ev_goto (tgt := 19) dX8_storm_113 (by decide) ?_
                first
                  | (exfalso; omega)
                  | (have e9 : st1 τ nb q r = τ := by
                       unfold st1
                       rw [if_neg (fun y => ?_)]
                       rw [hw9] at y
                       first
                         | (rw [hMo.cut hrn] at h_33; exact h_33 (b2_f (by rw [y.1]; decide)))
                         | (have y2 : fstI (fun b => τ.1 40 b) (r : Int) nb = -1 := y.2
                            omega)
                     rw [e9, hw9] at ih
                     have q9 := ih (by omega) ν ⟨hS, hD⟩
                     exact q9)
                  | (have e9 : st1 τ nb q r = sdM τ := by
                       unfold st1
                       rw [hw9, if_pos ⟨hcb9, hfs⟩, if_neg (by omega)]
                     rw [e9] at ih hws
                     rw [if_neg (fun y => by omega)] at hws
                     rw [hws] at ih
                     exact ih (by omega) _ ⟨hS.wf _ (by decide), MDy.draw hD⟩)
                  | (have e9 : st1 τ nb q r = wearM (sdM (sdM τ)) r (drw (sdM τ) 40) w1 r := by
                       unfold st1
                       rw [hw9, if_pos ⟨hcb9, hfs⟩, if_pos (by omega)]
                     have e38 : (sdM (sdM τ)).1 38 (r : Int) = τ.1 38 (r : Int) := by unfold sdM; rw [wr_nec _ (by decide), wr_nec _ (by decide)]
                     rw [e9] at ih hws
                     have hDw := MDy.wearS (MDy.draw (MDy.draw hD)) w1 r (by unfold sdM; rw [wr_nek _ (by decide), wr_nek _ (by decide)]; exact hD1.2.2.2.1.1) (drw (sdM τ) 40) 0 (by rw [e38]; rw [b2_f (fun y => by rcases y with y | y; rw [hcb9] at y; exact absurd y (by decide); exact y (by omega))])
                     rw [e38] at hDw
                     rw [if_neg (fun y => y.2.2 (by omega))] at hws
                     rw [hws] at ih
                     have hSw : MSame μ (wr (wr (wr (wr ν 79 34 (nseed (ν.1 79 34))) 79 34 (nseed ((wr ν 79 34 (nseed (ν.1 79 34))).1 79 34))) 95 (r : Int) (τ.1 38 (r : Int) + drw (sdM τ) 40)) 97 (r : Int) 0) := (((hS.wf _ (by decide)).wf _ (by decide)).wrc _ _ (by decide) (by decide)).wrc _ _ (by decide) (by decide)
                     have q9 := ih (by omega) _ ⟨hSw, hDw⟩
                     rw [show bor ((andn w w1 : Nat) : Int) 0 = ((andn w w1 : Nat) : Int) from by have := bor_nat (andn w w1) 0 (by have := hal w1; omega) (by decide); rw [Nat.or_zero] at this; exact this]
                     exact q9)
                  | (have e9 : st1 τ nb q r = wearM (sdM (sdM τ)) r (drw (sdM τ) 40) w1 r := by
                       unfold st1
                       rw [hw9, if_pos ⟨hcb9, hfs⟩, if_pos (by omega)]
                     have e38 : (sdM (sdM τ)).1 38 (r : Int) = τ.1 38 (r : Int) := by unfold sdM; rw [wr_nec _ (by decide), wr_nec _ (by decide)]
                     rw [e9] at ih hws
                     have hDw := MDy.wearS (MDy.draw (MDy.draw hD)) w1 r (by unfold sdM; rw [wr_nek _ (by decide), wr_nek _ (by decide)]; exact hD1.2.2.2.1.1) (drw (sdM τ) 40) 1 (by rw [e38]; rw [b2_t (Or.inr (by omega))])
                     rw [e38] at hDw
                     rw [if_pos ⟨⟨hcb9, hfs⟩, by omega, by omega⟩] at hws
                     rw [hws] at ih
                     have hSw : MSame μ (wr (wr (wr (wr ν 79 34 (nseed (ν.1 79 34))) 79 34 (nseed ((wr ν 79 34 (nseed (ν.1 79 34))).1 79 34))) 95 (r : Int) (τ.1 38 (r : Int) + drw (sdM τ) 40)) 97 (r : Int) 1) := (((hS.wf _ (by decide)).wf _ (by decide)).wrc _ _ (by decide) (by decide)).wrc _ _ (by decide) (by decide)
                     have q9 := ih (by omega) _ ⟨hSw, hDw⟩
                     rw [andn_andn (by rw [← hwbit]; exact hcb9)] at q9
                     rw [bshl1 r (by omega), bor_nat (andn w w1) (2 ^ r) (by have := hal w1; omega) (Nat.lt_trans (Nat.pow_lt_pow_right (by decide) (show r < 12 by omega)) (by decide))]
                     exact q9)
  refine ev_iload_n dX8_storm_0 rfl ?_
  refine ev_i2l dX8_storm_1 hq ?_
  refine ev_lconst (z := 0) dX8_storm_2 (by decide) ?_
  refine ev_ldc2 (z := 100) dX8_storm_3 kl_X8_383 (by decide) ?_
  refine ev_callSI dX8_storm_6 ks_X8_180 (m_in μ q 0 100 ⟨by omega, by omega⟩ (by decide) (by decide)) rfl rfl ⟨by decide, by decide⟩ (Nat.le_of_ble_eq_true rfl) ?_
  refine ev_w (fun hR => ?_)
  refine ev_if_ne (tgt := 15) dX8_storm_9 (by decide) (by first | exact hR.1 _ _ | exact hR0.1 _ _ | assumption | exact ⟨by omega, by omega⟩ | exact ⟨by simp [wr_at]; omega, by simp [wr_at]; omega⟩ | exact b2_R _ | exact bC_R _ | exact band_R _ _ | exact bor_R _ _ | exact bshl_R _ _ | exact bshr_R _ _ | exact bxor_R _ _ | exact bs_R (by omega) | decide) (fun h_9 => ?_) (fun h_9 => ?_)
  · refine ev_iconst dX8_storm_15 ?_
    refine ev_istore_n dX8_storm_16 rfl (by decide) rfl ?_
    refine ev_iconst dX8_storm_17 ?_
    refine ev_istore_n dX8_storm_18 rfl (by decide) rfl ?_
    have h9 := loop1 (b2_ne h_9) 0 (by omega) μ ⟨MSame.rf, hM.2.2.2⟩
    rw [show wN (stL1 σ nb q 0) = w from hDy.w.1, show andn w w = 0 from andn_zero.mpr (fun i h => h)] at h9
    exact h9
  · refine ev_ldc (z := -1000000002) dX8_storm_12 kc_X8_204 (by decide) ?_
    refine ev_ireturn dX8_storm_14 ?_
    rw [if_pos (b2_eq (by omega : b2 (0 ≤ q ∧ q ≤ 100) = 0))]
    exact ⟨rfl, rfl⟩
