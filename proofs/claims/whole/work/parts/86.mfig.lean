theorem m_figure (μ : Mem) (st l : Nat) (hst : st < 1000) (hl : l < 4) : Con yX8_figure cX8_figure 2 (some .int) 0 0 [.int (iI st), .int (iI l)] μ (AnsI (fig st l : Nat) μ) := by
  refine con_of (by decide) rfl (Nat.le_of_ble_eq_true rfl) (ok_I rfl) ?_
  refine ev_w (fun hR => ?_)
  have hR0 := hR
  refine ev_iload_n dX8_figure_0 rfl ?_
  refine ev_iload_n dX8_figure_1 rfl ?_
  refine ev_if_ne (tgt := 9) dX8_figure_2 (by decide) (by first | exact hR.1 _ _ | exact hR0.1 _ _ | assumption | exact ⟨by omega, by omega⟩ | exact ⟨by simp [wr_at]; omega, by simp [wr_at]; omega⟩ | exact b2_R _ | exact bC_R _ | exact band_R _ _ | exact bor_R _ _ | exact bshl_R _ _ | exact bshr_R _ _ | exact bxor_R _ _ | exact bs_R (by omega) | decide) (fun h_2 => ?_) (fun h_2 => ?_)
  · refine ev_iload_n dX8_figure_9 rfl ?_
    refine ev_iconst dX8_figure_10 ?_
    refine ev_icmp_ne (tgt := 18) dX8_figure_11 (by decide) (by first | exact hR.1 _ _ | exact hR0.1 _ _ | assumption | exact ⟨by omega, by omega⟩ | exact ⟨by simp [wr_at]; omega, by simp [wr_at]; omega⟩ | exact b2_R _ | exact bC_R _ | exact band_R _ _ | exact bor_R _ _ | exact bshl_R _ _ | exact bshr_R _ _ | exact bxor_R _ _ | exact bs_R (by omega) | decide) (by first | exact hR.1 _ _ | exact hR0.1 _ _ | assumption | exact ⟨by omega, by omega⟩ | exact ⟨by simp [wr_at]; omega, by simp [wr_at]; omega⟩ | exact b2_R _ | exact bC_R _ | exact band_R _ _ | exact bor_R _ _ | exact bshl_R _ _ | exact bshr_R _ _ | exact bxor_R _ _ | exact bs_R (by omega) | decide) (fun h_11 => ?_) (fun h_11 => ?_)
    · refine ev_iload_n dX8_figure_18 rfl ?_
      refine ev_iconst dX8_figure_19 ?_
      refine ev_icmp_ne (tgt := 28) dX8_figure_20 (by decide) (by first | exact hR.1 _ _ | exact hR0.1 _ _ | assumption | exact ⟨by omega, by omega⟩ | exact ⟨by simp [wr_at]; omega, by simp [wr_at]; omega⟩ | exact b2_R _ | exact bC_R _ | exact band_R _ _ | exact bor_R _ _ | exact bshl_R _ _ | exact bshr_R _ _ | exact bxor_R _ _ | exact bs_R (by omega) | decide) (by first | exact hR.1 _ _ | exact hR0.1 _ _ | assumption | exact ⟨by omega, by omega⟩ | exact ⟨by simp [wr_at]; omega, by simp [wr_at]; omega⟩ | exact b2_R _ | exact bC_R _ | exact band_R _ _ | exact bor_R _ _ | exact bshl_R _ _ | exact bshr_R _ _ | exact bxor_R _ _ | exact bs_R (by omega) | decide) (fun h_20 => ?_) (fun h_20 => ?_)
      · refine ev_bipush dX8_figure_28 (by decide) ?_
        refine ev_idiv dX8_figure_30 (by first | exact hR.1 _ _ | exact hR0.1 _ _ | assumption | exact ⟨by omega, by omega⟩ | exact ⟨by simp [wr_at]; omega, by simp [wr_at]; omega⟩ | exact b2_R _ | exact bC_R _ | exact band_R _ _ | exact bor_R _ _ | exact bshl_R _ _ | exact bshr_R _ _ | exact bxor_R _ _ | exact bs_R (by omega) | decide) (by first | exact hR.1 _ _ | exact hR0.1 _ _ | assumption | exact ⟨by omega, by omega⟩ | exact ⟨by simp [wr_at]; omega, by simp [wr_at]; omega⟩ | exact b2_R _ | exact bC_R _ | exact band_R _ _ | exact bor_R _ _ | exact bshl_R _ _ | exact bshr_R _ _ | exact bxor_R _ _ | exact bs_R (by omega) | decide) (by omega) (by omega) ?_
        refine ev_iconst dX8_figure_31 ?_
        refine ev_irem dX8_figure_32 (by rw [Int.tdiv_eq_ediv_of_nonneg (by omega)]; exact ⟨by omega, by omega⟩) (by decide) (by omega) (by omega) ?_
        refine ev_ireturn dX8_figure_33 ?_
        first
          | (obtain rfl : l = 0 := by omega
             have e9 : ((st : Int).tdiv 1).tmod 3 = ((st / 1 % 3 : Nat) : Int) := by
               rw [Int.tdiv_eq_ediv_of_nonneg (by omega), Int.tmod_eq_emod_of_nonneg (by omega)]
               omega
             rw [e9]
             exact ⟨rfl, rfl⟩)
          | (obtain rfl : l = 1 := by omega
             have e9 : ((st : Int).tdiv 3).tmod 3 = ((st / 3 % 3 : Nat) : Int) := by
               rw [Int.tdiv_eq_ediv_of_nonneg (by omega), Int.tmod_eq_emod_of_nonneg (by omega)]
               omega
             rw [e9]
             exact ⟨rfl, rfl⟩)
          | (obtain rfl : l = 2 := by omega
             have e9 : ((st : Int).tdiv 9).tmod 3 = ((st / 9 % 3 : Nat) : Int) := by
               rw [Int.tdiv_eq_ediv_of_nonneg (by omega), Int.tmod_eq_emod_of_nonneg (by omega)]
               omega
             rw [e9]
             exact ⟨rfl, rfl⟩)
          | (obtain rfl : l = 3 := by omega
             have e9 : ((st : Int).tdiv 27).tmod 3 = ((st / 27 % 3 : Nat) : Int) := by
               rw [Int.tdiv_eq_ediv_of_nonneg (by omega), Int.tmod_eq_emod_of_nonneg (by omega)]
               omega
             rw [e9]
             exact ⟨rfl, rfl⟩)
      · refine ev_bipush dX8_figure_23 (by decide) ?_
        refine ev_goto (tgt := 30) dX8_figure_25 (by decide) ?_
        refine ev_idiv dX8_figure_30 (by first | exact hR.1 _ _ | exact hR0.1 _ _ | assumption | exact ⟨by omega, by omega⟩ | exact ⟨by simp [wr_at]; omega, by simp [wr_at]; omega⟩ | exact b2_R _ | exact bC_R _ | exact band_R _ _ | exact bor_R _ _ | exact bshl_R _ _ | exact bshr_R _ _ | exact bxor_R _ _ | exact bs_R (by omega) | decide) (by first | exact hR.1 _ _ | exact hR0.1 _ _ | assumption | exact ⟨by omega, by omega⟩ | exact ⟨by simp [wr_at]; omega, by simp [wr_at]; omega⟩ | exact b2_R _ | exact bC_R _ | exact band_R _ _ | exact bor_R _ _ | exact bshl_R _ _ | exact bshr_R _ _ | exact bxor_R _ _ | exact bs_R (by omega) | decide) (by omega) (by omega) ?_
        refine ev_iconst dX8_figure_31 ?_
        refine ev_irem dX8_figure_32 (by rw [Int.tdiv_eq_ediv_of_nonneg (by omega)]; exact ⟨by omega, by omega⟩) (by decide) (by omega) (by omega) ?_
        refine ev_ireturn dX8_figure_33 ?_
        first
          | (obtain rfl : l = 0 := by omega
             have e9 : ((st : Int).tdiv 1).tmod 3 = ((st / 1 % 3 : Nat) : Int) := by
               rw [Int.tdiv_eq_ediv_of_nonneg (by omega), Int.tmod_eq_emod_of_nonneg (by omega)]
               omega
             rw [e9]
             exact ⟨rfl, rfl⟩)
          | (obtain rfl : l = 1 := by omega
             have e9 : ((st : Int).tdiv 3).tmod 3 = ((st / 3 % 3 : Nat) : Int) := by
               rw [Int.tdiv_eq_ediv_of_nonneg (by omega), Int.tmod_eq_emod_of_nonneg (by omega)]
               omega
             rw [e9]
             exact ⟨rfl, rfl⟩)
          | (obtain rfl : l = 2 := by omega
             have e9 : ((st : Int).tdiv 9).tmod 3 = ((st / 9 % 3 : Nat) : Int) := by
               rw [Int.tdiv_eq_ediv_of_nonneg (by omega), Int.tmod_eq_emod_of_nonneg (by omega)]
               omega
             rw [e9]
             exact ⟨rfl, rfl⟩)
          | (obtain rfl : l = 3 := by omega
             have e9 : ((st : Int).tdiv 27).tmod 3 = ((st / 27 % 3 : Nat) : Int) := by
               rw [Int.tdiv_eq_ediv_of_nonneg (by omega), Int.tmod_eq_emod_of_nonneg (by omega)]
               omega
             rw [e9]
             exact ⟨rfl, rfl⟩)
    · refine ev_iconst dX8_figure_14 ?_
      refine ev_goto (tgt := 30) dX8_figure_15 (by decide) ?_
      refine ev_idiv dX8_figure_30 (by first | exact hR.1 _ _ | exact hR0.1 _ _ | assumption | exact ⟨by omega, by omega⟩ | exact ⟨by simp [wr_at]; omega, by simp [wr_at]; omega⟩ | exact b2_R _ | exact bC_R _ | exact band_R _ _ | exact bor_R _ _ | exact bshl_R _ _ | exact bshr_R _ _ | exact bxor_R _ _ | exact bs_R (by omega) | decide) (by first | exact hR.1 _ _ | exact hR0.1 _ _ | assumption | exact ⟨by omega, by omega⟩ | exact ⟨by simp [wr_at]; omega, by simp [wr_at]; omega⟩ | exact b2_R _ | exact bC_R _ | exact band_R _ _ | exact bor_R _ _ | exact bshl_R _ _ | exact bshr_R _ _ | exact bxor_R _ _ | exact bs_R (by omega) | decide) (by omega) (by omega) ?_
      refine ev_iconst dX8_figure_31 ?_
      refine ev_irem dX8_figure_32 (by rw [Int.tdiv_eq_ediv_of_nonneg (by omega)]; exact ⟨by omega, by omega⟩) (by decide) (by omega) (by omega) ?_
      refine ev_ireturn dX8_figure_33 ?_
      first
        | (obtain rfl : l = 0 := by omega
           have e9 : ((st : Int).tdiv 1).tmod 3 = ((st / 1 % 3 : Nat) : Int) := by
             rw [Int.tdiv_eq_ediv_of_nonneg (by omega), Int.tmod_eq_emod_of_nonneg (by omega)]
             omega
           rw [e9]
           exact ⟨rfl, rfl⟩)
        | (obtain rfl : l = 1 := by omega
           have e9 : ((st : Int).tdiv 3).tmod 3 = ((st / 3 % 3 : Nat) : Int) := by
             rw [Int.tdiv_eq_ediv_of_nonneg (by omega), Int.tmod_eq_emod_of_nonneg (by omega)]
             omega
           rw [e9]
           exact ⟨rfl, rfl⟩)
        | (obtain rfl : l = 2 := by omega
           have e9 : ((st : Int).tdiv 9).tmod 3 = ((st / 9 % 3 : Nat) : Int) := by
             rw [Int.tdiv_eq_ediv_of_nonneg (by omega), Int.tmod_eq_emod_of_nonneg (by omega)]
             omega
           rw [e9]
           exact ⟨rfl, rfl⟩)
        | (obtain rfl : l = 3 := by omega
           have e9 : ((st : Int).tdiv 27).tmod 3 = ((st / 27 % 3 : Nat) : Int) := by
             rw [Int.tdiv_eq_ediv_of_nonneg (by omega), Int.tmod_eq_emod_of_nonneg (by omega)]
             omega
           rw [e9]
           exact ⟨rfl, rfl⟩)
  · refine ev_iconst dX8_figure_5 ?_
    refine ev_goto (tgt := 30) dX8_figure_6 (by decide) ?_
    refine ev_idiv dX8_figure_30 (by first | exact hR.1 _ _ | exact hR0.1 _ _ | assumption | exact ⟨by omega, by omega⟩ | exact ⟨by simp [wr_at]; omega, by simp [wr_at]; omega⟩ | exact b2_R _ | exact bC_R _ | exact band_R _ _ | exact bor_R _ _ | exact bshl_R _ _ | exact bshr_R _ _ | exact bxor_R _ _ | exact bs_R (by omega) | decide) (by first | exact hR.1 _ _ | exact hR0.1 _ _ | assumption | exact ⟨by omega, by omega⟩ | exact ⟨by simp [wr_at]; omega, by simp [wr_at]; omega⟩ | exact b2_R _ | exact bC_R _ | exact band_R _ _ | exact bor_R _ _ | exact bshl_R _ _ | exact bshr_R _ _ | exact bxor_R _ _ | exact bs_R (by omega) | decide) (by omega) (by omega) ?_
    refine ev_iconst dX8_figure_31 ?_
    refine ev_irem dX8_figure_32 (by rw [Int.tdiv_eq_ediv_of_nonneg (by omega)]; exact ⟨by omega, by omega⟩) (by decide) (by omega) (by omega) ?_
    refine ev_ireturn dX8_figure_33 ?_
    first
      | (obtain rfl : l = 0 := by omega
         have e9 : ((st : Int).tdiv 1).tmod 3 = ((st / 1 % 3 : Nat) : Int) := by
           rw [Int.tdiv_eq_ediv_of_nonneg (by omega), Int.tmod_eq_emod_of_nonneg (by omega)]
           omega
         rw [e9]
         exact ⟨rfl, rfl⟩)
      | (obtain rfl : l = 1 := by omega
         have e9 : ((st : Int).tdiv 3).tmod 3 = ((st / 3 % 3 : Nat) : Int) := by
           rw [Int.tdiv_eq_ediv_of_nonneg (by omega), Int.tmod_eq_emod_of_nonneg (by omega)]
           omega
         rw [e9]
         exact ⟨rfl, rfl⟩)
      | (obtain rfl : l = 2 := by omega
         have e9 : ((st : Int).tdiv 9).tmod 3 = ((st / 9 % 3 : Nat) : Int) := by
           rw [Int.tdiv_eq_ediv_of_nonneg (by omega), Int.tmod_eq_emod_of_nonneg (by omega)]
           omega
         rw [e9]
         exact ⟨rfl, rfl⟩)
      | (obtain rfl : l = 3 := by omega
         have e9 : ((st : Int).tdiv 27).tmod 3 = ((st / 27 % 3 : Nat) : Int) := by
           rw [Int.tdiv_eq_ediv_of_nonneg (by omega), Int.tmod_eq_emod_of_nonneg (by omega)]
           omega
         rw [e9]
         exact ⟨rfl, rfl⟩)
theorem m_unit (μ : Mem) (l : Nat) (hl : l < 4) : Con yX8_unit cX8_unit 1 (some .int) 0 0 [.int (iI l)] μ (AnsI (3 ^ l : Nat) μ) := by
  refine con_of (by decide) rfl (Nat.le_of_ble_eq_true rfl) (ok_I rfl) ?_
  refine ev_w (fun hR => ?_)
  have hR0 := hR
  refine ev_iload_n dX8_unit_0 rfl ?_
  refine ev_if_ne (tgt := 8) dX8_unit_1 (by decide) (by first | exact hR.1 _ _ | exact hR0.1 _ _ | assumption | exact ⟨by omega, by omega⟩ | exact ⟨by simp [wr_at]; omega, by simp [wr_at]; omega⟩ | exact b2_R _ | exact bC_R _ | exact band_R _ _ | exact bor_R _ _ | exact bshl_R _ _ | exact bshr_R _ _ | exact bxor_R _ _ | exact bs_R (by omega) | decide) (fun h_1 => ?_) (fun h_1 => ?_)
  · refine ev_iload_n dX8_unit_8 rfl ?_
    refine ev_iconst dX8_unit_9 ?_
    refine ev_icmp_ne (tgt := 17) dX8_unit_10 (by decide) (by first | exact hR.1 _ _ | exact hR0.1 _ _ | assumption | exact ⟨by omega, by omega⟩ | exact ⟨by simp [wr_at]; omega, by simp [wr_at]; omega⟩ | exact b2_R _ | exact bC_R _ | exact band_R _ _ | exact bor_R _ _ | exact bshl_R _ _ | exact bshr_R _ _ | exact bxor_R _ _ | exact bs_R (by omega) | decide) (by first | exact hR.1 _ _ | exact hR0.1 _ _ | assumption | exact ⟨by omega, by omega⟩ | exact ⟨by simp [wr_at]; omega, by simp [wr_at]; omega⟩ | exact b2_R _ | exact bC_R _ | exact band_R _ _ | exact bor_R _ _ | exact bshl_R _ _ | exact bshr_R _ _ | exact bxor_R _ _ | exact bs_R (by omega) | decide) (fun h_10 => ?_) (fun h_10 => ?_)
    · refine ev_iload_n dX8_unit_17 rfl ?_
      refine ev_iconst dX8_unit_18 ?_
      refine ev_icmp_ne (tgt := 27) dX8_unit_19 (by decide) (by first | exact hR.1 _ _ | exact hR0.1 _ _ | assumption | exact ⟨by omega, by omega⟩ | exact ⟨by simp [wr_at]; omega, by simp [wr_at]; omega⟩ | exact b2_R _ | exact bC_R _ | exact band_R _ _ | exact bor_R _ _ | exact bshl_R _ _ | exact bshr_R _ _ | exact bxor_R _ _ | exact bs_R (by omega) | decide) (by first | exact hR.1 _ _ | exact hR0.1 _ _ | assumption | exact ⟨by omega, by omega⟩ | exact ⟨by simp [wr_at]; omega, by simp [wr_at]; omega⟩ | exact b2_R _ | exact bC_R _ | exact band_R _ _ | exact bor_R _ _ | exact bshl_R _ _ | exact bshr_R _ _ | exact bxor_R _ _ | exact bs_R (by omega) | decide) (fun h_19 => ?_) (fun h_19 => ?_)
      · refine ev_bipush dX8_unit_27 (by decide) ?_
        refine ev_ireturn dX8_unit_29 ?_
        first
          | (obtain rfl : l = 0 := by omega
             exact ⟨rfl, rfl⟩)
          | (obtain rfl : l = 1 := by omega
             exact ⟨rfl, rfl⟩)
          | (obtain rfl : l = 2 := by omega
             exact ⟨rfl, rfl⟩)
          | (obtain rfl : l = 3 := by omega
             exact ⟨rfl, rfl⟩)
      · refine ev_bipush dX8_unit_22 (by decide) ?_
        refine ev_goto (tgt := 29) dX8_unit_24 (by decide) ?_
        refine ev_ireturn dX8_unit_29 ?_
        first
          | (obtain rfl : l = 0 := by omega
             exact ⟨rfl, rfl⟩)
          | (obtain rfl : l = 1 := by omega
             exact ⟨rfl, rfl⟩)
          | (obtain rfl : l = 2 := by omega
             exact ⟨rfl, rfl⟩)
          | (obtain rfl : l = 3 := by omega
             exact ⟨rfl, rfl⟩)
    · refine ev_iconst dX8_unit_13 ?_
      refine ev_goto (tgt := 29) dX8_unit_14 (by decide) ?_
      refine ev_ireturn dX8_unit_29 ?_
      first
        | (obtain rfl : l = 0 := by omega
           exact ⟨rfl, rfl⟩)
        | (obtain rfl : l = 1 := by omega
           exact ⟨rfl, rfl⟩)
        | (obtain rfl : l = 2 := by omega
           exact ⟨rfl, rfl⟩)
        | (obtain rfl : l = 3 := by omega
           exact ⟨rfl, rfl⟩)
  · refine ev_iconst dX8_unit_4 ?_
    refine ev_goto (tgt := 29) dX8_unit_5 (by decide) ?_
    refine ev_ireturn dX8_unit_29 ?_
    first
      | (obtain rfl : l = 0 := by omega
         exact ⟨rfl, rfl⟩)
      | (obtain rfl : l = 1 := by omega
         exact ⟨rfl, rfl⟩)
      | (obtain rfl : l = 2 := by omega
         exact ⟨rfl, rfl⟩)
      | (obtain rfl : l = 3 := by omega
         exact ⟨rfl, rfl⟩)
theorem m_carriedIn (μ : Mem) (st : Nat) (hst : st < 1000) : Con yX8_carriedIn cX8_carriedIn 4 (some .int) 1 21 [.ref 79, .int (iI st)] μ (AnsI (cSet st : Nat) μ) := by
  refine con_of (by decide) rfl (Nat.le_of_ble_eq_true rfl) (ok_I rfl) ?_
  refine ev_w (fun hR => ?_)
  have hR0 := hR
  have loop : ∀ i : Nat, i ≤ 4 → Ev RX8 cX8_carriedIn 4 1 21 (AnsI (cSet st : Nat) μ) 4 [some (.ref 79), some (.int (iI st)), some (.int (iI (bs (fun l => decide (fig st l = 1)) i : Nat))), some (.int (iI (i : Nat)))] [] μ := by
    refine for_up 4 (fun i hi ih => ?_)
    refine ev_w (fun hR => ?_)
    have hfl := fig_lt st i
    refine ev_iload_n dX8_carriedIn_4 rfl ?_
    refine ev_iconst dX8_carriedIn_5 ?_
    refine ev_icmp_ge (tgt := 34) dX8_carriedIn_6 (by decide) (by first | exact hR.1 _ _ | exact hR0.1 _ _ | assumption | exact ⟨by omega, by omega⟩ | exact ⟨by simp [wr_at]; omega, by simp [wr_at]; omega⟩ | exact b2_R _ | exact bC_R _ | exact band_R _ _ | exact bor_R _ _ | exact bshl_R _ _ | exact bshr_R _ _ | exact bxor_R _ _ | exact bs_R (by omega) | decide) (by first | exact hR.1 _ _ | exact hR0.1 _ _ | assumption | exact ⟨by omega, by omega⟩ | exact ⟨by simp [wr_at]; omega, by simp [wr_at]; omega⟩ | exact b2_R _ | exact bC_R _ | exact band_R _ _ | exact bor_R _ _ | exact bshl_R _ _ | exact bshr_R _ _ | exact bxor_R _ _ | exact bs_R (by omega) | decide) (fun h_6 => ?_) (fun h_6 => ?_)
    · refine ev_iload_n dX8_carriedIn_34 rfl ?_
      refine ev_ireturn dX8_carriedIn_35 ?_
      obtain rfl : i = 4 := by omega
      exact ⟨rfl, rfl⟩
    · refine ev_iload_n dX8_carriedIn_9 rfl ?_
      refine ev_iload_n dX8_carriedIn_10 rfl ?_
      refine ev_iload_n dX8_carriedIn_11 rfl ?_
      refine ev_callSI dX8_carriedIn_12 ks_X8_396 (m_figure μ st i hst (by omega)) rfl rfl ⟨by decide, by decide⟩ (Nat.le_of_ble_eq_true rfl) ?_
      refine ev_w (fun hR => ?_)
      refine ev_iconst dX8_carriedIn_15 ?_
      refine ev_icmp_ne (tgt := 25) dX8_carriedIn_16 (by decide) (by first | exact hR.1 _ _ | exact hR0.1 _ _ | assumption | exact ⟨by omega, by omega⟩ | exact ⟨by simp [wr_at]; omega, by simp [wr_at]; omega⟩ | exact b2_R _ | exact bC_R _ | exact band_R _ _ | exact bor_R _ _ | exact bshl_R _ _ | exact bshr_R _ _ | exact bxor_R _ _ | exact bs_R (by omega) | decide) (by first | exact hR.1 _ _ | exact hR0.1 _ _ | assumption | exact ⟨by omega, by omega⟩ | exact ⟨by simp [wr_at]; omega, by simp [wr_at]; omega⟩ | exact b2_R _ | exact bC_R _ | exact band_R _ _ | exact bor_R _ _ | exact bshl_R _ _ | exact bshr_R _ _ | exact bxor_R _ _ | exact bs_R (by omega) | decide) (fun h_16 => ?_) (fun h_16 => ?_)
      · refine ev_iconst dX8_carriedIn_25 ?_
        refine ev_ior dX8_carriedIn_26 ?_
        refine ev_istore_n dX8_carriedIn_27 rfl (by decide) rfl ?_
        refine ev_iinc dX8_carriedIn_28 rfl rfl (by decide) rfl ?_
        refine ev_goto (tgt := 4) dX8_carriedIn_31 (by decide) ?_
        first
          | (rw [bs_ort (p := (fun l => decide (fig st l = 1))) (n := i) (by omega) (decide_eq_true (by omega))]; exact ih (by omega))
          | (rw [bs_or0 (p := (fun l => decide (fig st l = 1))) (n := i) (by omega) (decide_eq_false (by omega))]; exact ih (by omega))
      · refine ev_iconst dX8_carriedIn_19 ?_
        refine ev_iload_n dX8_carriedIn_20 rfl ?_
        refine ev_ishl dX8_carriedIn_21 ?_
        refine ev_goto (tgt := 26) dX8_carriedIn_22 (by decide) ?_
        refine ev_ior dX8_carriedIn_26 ?_
        refine ev_istore_n dX8_carriedIn_27 rfl (by decide) rfl ?_
        refine ev_iinc dX8_carriedIn_28 rfl rfl (by decide) rfl ?_
        refine ev_goto (tgt := 4) dX8_carriedIn_31 (by decide) ?_
        first
          | (rw [bs_ort (p := (fun l => decide (fig st l = 1))) (n := i) (by omega) (decide_eq_true (by omega))]; exact ih (by omega))
          | (rw [bs_or0 (p := (fun l => decide (fig st l = 1))) (n := i) (by omega) (decide_eq_false (by omega))]; exact ih (by omega))
  refine ev_iconst dX8_carriedIn_0 ?_
  refine ev_istore_n dX8_carriedIn_1 rfl (by decide) rfl ?_
  refine ev_iconst dX8_carriedIn_2 ?_
  refine ev_istore_n dX8_carriedIn_3 rfl (by decide) rfl ?_
  exact loop 0 (by omega)
theorem m_laidAt (μ σ : Mem) (P n nr nb nl mb w wt dv : Nat) (f t : Nat → Nat) (hMO : MOk μ σ P n nr nb nl mb w wt dv f t) (st p : Nat) (hst : st < 81) (hp : p < n) : Con yX8_laidAt cX8_laidAt 5 (some .int) 1 21 [.ref 79, .int (iI st), .int (iI p)] μ (AnsI (laidN (fun k => decide (toZ σ P k = p)) st nl : Nat) μ) := by
  refine con_of (by decide) rfl (Nat.le_of_ble_eq_true rfl) (ok_I rfl) ?_
  refine ev_w (fun hR => ?_)
  have hR0 := hR
  have hM := hMO.rp
  obtain ⟨hPO, hMP, hwc⟩ := id hM
  obtain ⟨hPR, ⟨hnb, hnb4⟩, ⟨hnl, hnl4⟩, hpo, hro, hbo, hlo⟩ := id hPO
  obtain ⟨hP, hn, hn8, hnr, hnr12, hft⟩ := id hPR
  obtain ⟨⟨cn, cr, cb, cl⟩, mp, mr, mbo, ml⟩ := id hMP
  have pw : ∀ i, i < 4 → 3 ^ i ≤ 27 := by decide
  have loop : ∀ i : Nat, i ≤ nl → Ev RX8 cX8_laidAt 5 1 21 (AnsI (laidN (fun k => decide (toZ σ P k = p)) st nl : Nat) μ) 5 [some (.ref 79), some (.int (iI st)), some (.int (iI p)), some (.int (iI (laidN (fun k => decide (toZ σ P k = p)) st i : Nat))), some (.int (iI (i : Nat)))] [] μ := by
    refine for_up nl (fun i hi ih => ?_)
    refine ev_w (fun hR => ?_)
    have hfl := fig_lt st i
    have h81 := (laid_ok (q := fun k => decide (toZ σ P k = p)) hst i (by omega)).1
    have hsu : laidN (fun k => decide (toZ σ P k = p)) st (i + 1) = laidN (fun k => decide (toZ σ P k = p)) st i + (if fig st i = 1 ∧ decide (toZ σ P i = p) = true then 3 ^ i else 0) := rfl
    refine ev_iload dX8_laidAt_5 rfl ?_
    refine ev_aload_n dX8_laidAt_7 rfl ?_
    refine ev_getI (kz := 13) dX8_laidAt_8 fl_X8_190 rfl rfl rfl ?_
    rw [cl]
    refine ev_icmp_ge (tgt := 53) dX8_laidAt_11 (by decide) (by first | exact hR.1 _ _ | exact hR0.1 _ _ | assumption | exact ⟨by omega, by omega⟩ | exact ⟨by simp [wr_at]; omega, by simp [wr_at]; omega⟩ | exact b2_R _ | exact bC_R _ | exact band_R _ _ | exact bor_R _ _ | exact bshl_R _ _ | exact bshr_R _ _ | exact bxor_R _ _ | exact bs_R (by omega) | decide) (by first | exact hR.1 _ _ | exact hR0.1 _ _ | assumption | exact ⟨by omega, by omega⟩ | exact ⟨by simp [wr_at]; omega, by simp [wr_at]; omega⟩ | exact b2_R _ | exact bC_R _ | exact band_R _ _ | exact bor_R _ _ | exact bshl_R _ _ | exact bshr_R _ _ | exact bxor_R _ _ | exact bs_R (by omega) | decide) (fun h_11 => ?_) (fun h_11 => ?_)
    · refine ev_iload_n dX8_laidAt_53 rfl ?_
      refine ev_ireturn dX8_laidAt_54 ?_
      obtain rfl : i = nl := by omega
      exact ⟨rfl, rfl⟩
    · have e91 : μ.1 91 (i : Int) = (toZ σ P i : Int) := by
        rw [(ml i (by omega)).2.1]
        have := (hlo i (by omega)).2.1
        unfold toZ
        omega
      have htn : toZ σ P i < n := by
        have := (hlo i (by omega)).2.1
        unfold toZ
        omega
      have hu := pw i (by omega)
      refine ev_iload_n dX8_laidAt_14 rfl ?_
      refine ev_iload_n dX8_laidAt_15 rfl ?_
      refine ev_iload dX8_laidAt_16 rfl ?_
      refine ev_callSI dX8_laidAt_18 ks_X8_396 (m_figure μ st i (by omega) (by omega)) rfl rfl ⟨by decide, by decide⟩ (Nat.le_of_ble_eq_true rfl) ?_
      refine ev_w (fun hR => ?_)
      refine ev_iconst dX8_laidAt_21 ?_
      refine ev_icmp_ne (tgt := 44) dX8_laidAt_22 (by decide) (by first | exact hR.1 _ _ | exact hR0.1 _ _ | assumption | exact ⟨by omega, by omega⟩ | exact ⟨by simp [wr_at]; omega, by simp [wr_at]; omega⟩ | exact b2_R _ | exact bC_R _ | exact band_R _ _ | exact bor_R _ _ | exact bshl_R _ _ | exact bshr_R _ _ | exact bxor_R _ _ | exact bs_R (by omega) | decide) (by first | exact hR.1 _ _ | exact hR0.1 _ _ | assumption | exact ⟨by omega, by omega⟩ | exact ⟨by simp [wr_at]; omega, by simp [wr_at]; omega⟩ | exact b2_R _ | exact bC_R _ | exact band_R _ _ | exact bor_R _ _ | exact bshl_R _ _ | exact bshr_R _ _ | exact bxor_R _ _ | exact bs_R (by omega) | decide) (fun h_22 => ?_) (fun h_22 => ?_)
      · refine ev_iconst dX8_laidAt_44 ?_
        refine ev_iadd dX8_laidAt_45 ?_
        refine ev_istore_n dX8_laidAt_46 rfl (by decide) rfl ?_
        refine ev_iinc dX8_laidAt_47 rfl rfl (by decide) rfl ?_
        refine ev_goto (tgt := 5) dX8_laidAt_50 (by decide) ?_
        have q := ih (by omega)
        rw [hsu] at q
        first
          | (rw [if_pos ⟨by omega, decide_eq_true (by omega)⟩] at q; exact q)
          | (rw [if_neg (fun z => by have := z.1; omega)] at q; exact q)
          | (rw [if_neg (fun z => by have := of_decide_eq_true z.2; omega)] at q; exact q)
      · refine ev_aload_n dX8_laidAt_25 rfl ?_
        refine ev_getR (r := 91) dX8_laidAt_26 fl_X8_43 rfl rfl rfl ?_
        refine ev_iload dX8_laidAt_29 rfl ?_
        refine ev_iaload dX8_laidAt_31 rfl (by first | omega | (simp [wr_at]; omega) | (simp [wr_at, *]; omega)) (by first | omega | (simp [wr_at]; omega) | (simp [wr_at, *]; omega)) (by decide) ?_
        rw [e91]
        refine ev_iload_n dX8_laidAt_32 rfl ?_
        refine ev_icmp_ne (tgt := 44) dX8_laidAt_33 (by decide) (by first | exact hR.1 _ _ | exact hR0.1 _ _ | assumption | exact ⟨by omega, by omega⟩ | exact ⟨by simp [wr_at]; omega, by simp [wr_at]; omega⟩ | exact b2_R _ | exact bC_R _ | exact band_R _ _ | exact bor_R _ _ | exact bshl_R _ _ | exact bshr_R _ _ | exact bxor_R _ _ | exact bs_R (by omega) | decide) (by first | exact hR.1 _ _ | exact hR0.1 _ _ | assumption | exact ⟨by omega, by omega⟩ | exact ⟨by simp [wr_at]; omega, by simp [wr_at]; omega⟩ | exact b2_R _ | exact bC_R _ | exact band_R _ _ | exact bor_R _ _ | exact bshl_R _ _ | exact bshr_R _ _ | exact bxor_R _ _ | exact bs_R (by omega) | decide) (fun h_33 => ?_) (fun h_33 => ?_)
        · refine ev_iconst dX8_laidAt_44 ?_
          refine ev_iadd dX8_laidAt_45 ?_
          refine ev_istore_n dX8_laidAt_46 rfl (by decide) rfl ?_
          refine ev_iinc dX8_laidAt_47 rfl rfl (by decide) rfl ?_
          refine ev_goto (tgt := 5) dX8_laidAt_50 (by decide) ?_
          have q := ih (by omega)
          rw [hsu] at q
          first
            | (rw [if_pos ⟨by omega, decide_eq_true (by omega)⟩] at q; exact q)
            | (rw [if_neg (fun z => by have := z.1; omega)] at q; exact q)
            | (rw [if_neg (fun z => by have := of_decide_eq_true z.2; omega)] at q; exact q)
        · refine ev_iload dX8_laidAt_36 rfl ?_
          refine ev_callSI dX8_laidAt_38 ks_X8_399 (m_unit μ i (by omega)) rfl rfl ⟨by decide, by decide⟩ (Nat.le_of_ble_eq_true rfl) ?_
          refine ev_w (fun hR => ?_)
          refine ev_goto (tgt := 45) dX8_laidAt_41 (by decide) ?_
          refine ev_iadd dX8_laidAt_45 ?_
          refine ev_istore_n dX8_laidAt_46 rfl (by decide) rfl ?_
          refine ev_iinc dX8_laidAt_47 rfl rfl (by decide) rfl ?_
          refine ev_goto (tgt := 5) dX8_laidAt_50 (by decide) ?_
          have q := ih (by omega)
          rw [hsu] at q
          first
            | (rw [if_pos ⟨by omega, decide_eq_true (by omega)⟩] at q; exact q)
            | (rw [if_neg (fun z => by have := z.1; omega)] at q; exact q)
            | (rw [if_neg (fun z => by have := of_decide_eq_true z.2; omega)] at q; exact q)
  refine ev_iload_n dX8_laidAt_0 rfl ?_
  refine ev_istore_n dX8_laidAt_1 rfl (by decide) rfl ?_
  refine ev_iconst dX8_laidAt_2 ?_
  refine ev_istore dX8_laidAt_3 rfl (by decide) rfl ?_
  exact loop 0 (by omega)
theorem m_better (ν : Mem) (a : Nat) (v : Int) (ha : a < 648) (hv : inR v) : Con yX8_better cX8_better 4 (some .boolean) 0 0 [.ref 79, .int (iI a), .int (iI v)] ν (AnsI (b2 (v < ν.1 124 a)) (if v < ν.1 124 a then wr ν 124 a v else ν)) := by
  refine con_of (by decide) rfl (Nat.le_of_ble_eq_true rfl) (ok_Z rfl (b2_01 _)) ?_
  refine ev_w (fun hR => ?_)
  have hR0 := hR
  have hself : wr ν 124 (a : Int) (ν.1 124 (a : Int)) = ν := by
    refine mem_ext (fun c k => ?_) rfl
    rw [wr_at]
    split
    next e => obtain ⟨rfl, rfl⟩ := e; rfl
    next => rfl
  refine ev_iload_n dX8_better_0 rfl ?_
  refine ev_aload_n dX8_better_1 rfl ?_
  refine ev_getR (r := 124) dX8_better_2 fl_X8_147 rfl rfl rfl ?_
  refine ev_iload_n dX8_better_5 rfl ?_
  refine ev_iaload dX8_better_6 rfl (by first | omega | (simp [wr_at]; omega) | (simp [wr_at, *]; omega)) (by first | omega | (simp [wr_at]; omega) | (simp [wr_at, *]; omega)) (by decide) ?_
  refine ev_icmp_ge (tgt := 14) dX8_better_7 (by decide) (by first | exact hR.1 _ _ | exact hR0.1 _ _ | assumption | exact ⟨by omega, by omega⟩ | exact ⟨by simp [wr_at]; omega, by simp [wr_at]; omega⟩ | exact b2_R _ | exact bC_R _ | exact band_R _ _ | exact bor_R _ _ | exact bshl_R _ _ | exact bshr_R _ _ | exact bxor_R _ _ | exact bs_R (by omega) | decide) (by first | exact hR.1 _ _ | exact hR0.1 _ _ | assumption | exact ⟨by omega, by omega⟩ | exact ⟨by simp [wr_at]; omega, by simp [wr_at]; omega⟩ | exact b2_R _ | exact bC_R _ | exact band_R _ _ | exact bor_R _ _ | exact bshl_R _ _ | exact bshr_R _ _ | exact bxor_R _ _ | exact bs_R (by omega) | decide) (fun h_7 => ?_) (fun h_7 => ?_)
  · refine ev_iconst dX8_better_14 ?_
    refine ev_istore_n dX8_better_15 rfl (by decide) rfl ?_
    refine ev_aload_n dX8_better_16 rfl ?_
    refine ev_getR (r := 124) dX8_better_17 fl_X8_147 rfl rfl rfl ?_
    refine ev_iload_n dX8_better_20 rfl ?_
    refine ev_iload_n dX8_better_21 rfl ?_
    refine ev_if_eq (tgt := 29) dX8_better_22 (by decide) (by first | exact hR.1 _ _ | exact hR0.1 _ _ | assumption | exact ⟨by omega, by omega⟩ | exact ⟨by simp [wr_at]; omega, by simp [wr_at]; omega⟩ | exact b2_R _ | exact bC_R _ | exact band_R _ _ | exact bor_R _ _ | exact bshl_R _ _ | exact bshr_R _ _ | exact bxor_R _ _ | exact bs_R (by omega) | decide) (fun h_22 => ?_) (fun h_22 => ?_)
    · refine ev_aload_n dX8_better_29 rfl ?_
      refine ev_getR (r := 124) dX8_better_30 fl_X8_147 rfl rfl rfl ?_
      refine ev_iload_n dX8_better_33 rfl ?_
      refine ev_iaload dX8_better_34 rfl (by first | omega | (simp [wr_at]; omega) | (simp [wr_at, *]; omega)) (by first | omega | (simp [wr_at]; omega) | (simp [wr_at, *]; omega)) (by decide) ?_
      refine ev_iastore dX8_better_35 rfl (by first | omega | (simp [wr_at]; omega) | (simp [wr_at, *]; omega)) (by first | omega | (simp [wr_at]; omega) | (simp [wr_at, *]; omega)) (by decide) (by first | exact hR.1 _ _ | exact hR0.1 _ _ | assumption | exact ⟨by omega, by omega⟩ | exact ⟨by simp [wr_at]; omega, by simp [wr_at]; omega⟩ | exact b2_R _ | exact bC_R _ | exact band_R _ _ | exact bor_R _ _ | exact bshl_R _ _ | exact bshr_R _ _ | exact bxor_R _ _ | exact bs_R (by omega) | decide) ?_
      refine ev_w (fun hR => ?_)
      refine ev_iload_n dX8_better_36 rfl ?_
      refine ev_ireturn dX8_better_37 ?_
      first
        | (exfalso; omega)
        | (rw [b2_t (by omega), if_pos (by omega)]; exact ⟨rfl, rfl⟩)
        | (rw [b2_f (by omega), if_neg (by omega), hself]; exact ⟨rfl, rfl⟩)
    · refine ev_iload_n dX8_better_25 rfl ?_
      refine ev_goto (tgt := 35) dX8_better_26 (by decide) ?_
      refine ev_iastore dX8_better_35 rfl (by first | omega | (simp [wr_at]; omega) | (simp [wr_at, *]; omega)) (by first | omega | (simp [wr_at]; omega) | (simp [wr_at, *]; omega)) (by decide) (by first | exact hR.1 _ _ | exact hR0.1 _ _ | assumption | exact ⟨by omega, by omega⟩ | exact ⟨by simp [wr_at]; omega, by simp [wr_at]; omega⟩ | exact b2_R _ | exact bC_R _ | exact band_R _ _ | exact bor_R _ _ | exact bshl_R _ _ | exact bshr_R _ _ | exact bxor_R _ _ | exact bs_R (by omega) | decide) ?_
      refine ev_w (fun hR => ?_)
      refine ev_iload_n dX8_better_36 rfl ?_
      refine ev_ireturn dX8_better_37 ?_
      first
        | (exfalso; omega)
        | (rw [b2_t (by omega), if_pos (by omega)]; exact ⟨rfl, rfl⟩)
        | (rw [b2_f (by omega), if_neg (by omega), hself]; exact ⟨rfl, rfl⟩)
  · refine ev_iconst dX8_better_10 ?_
    refine ev_goto (tgt := 15) dX8_better_11 (by decide) ?_
    refine ev_istore_n dX8_better_15 rfl (by decide) rfl ?_
    refine ev_aload_n dX8_better_16 rfl ?_
    refine ev_getR (r := 124) dX8_better_17 fl_X8_147 rfl rfl rfl ?_
    refine ev_iload_n dX8_better_20 rfl ?_
    refine ev_iload_n dX8_better_21 rfl ?_
    refine ev_if_eq (tgt := 29) dX8_better_22 (by decide) (by first | exact hR.1 _ _ | exact hR0.1 _ _ | assumption | exact ⟨by omega, by omega⟩ | exact ⟨by simp [wr_at]; omega, by simp [wr_at]; omega⟩ | exact b2_R _ | exact bC_R _ | exact band_R _ _ | exact bor_R _ _ | exact bshl_R _ _ | exact bshr_R _ _ | exact bxor_R _ _ | exact bs_R (by omega) | decide) (fun h_22 => ?_) (fun h_22 => ?_)
    · refine ev_aload_n dX8_better_29 rfl ?_
      refine ev_getR (r := 124) dX8_better_30 fl_X8_147 rfl rfl rfl ?_
      refine ev_iload_n dX8_better_33 rfl ?_
      refine ev_iaload dX8_better_34 rfl (by first | omega | (simp [wr_at]; omega) | (simp [wr_at, *]; omega)) (by first | omega | (simp [wr_at]; omega) | (simp [wr_at, *]; omega)) (by decide) ?_
      refine ev_iastore dX8_better_35 rfl (by first | omega | (simp [wr_at]; omega) | (simp [wr_at, *]; omega)) (by first | omega | (simp [wr_at]; omega) | (simp [wr_at, *]; omega)) (by decide) (by first | exact hR.1 _ _ | exact hR0.1 _ _ | assumption | exact ⟨by omega, by omega⟩ | exact ⟨by simp [wr_at]; omega, by simp [wr_at]; omega⟩ | exact b2_R _ | exact bC_R _ | exact band_R _ _ | exact bor_R _ _ | exact bshl_R _ _ | exact bshr_R _ _ | exact bxor_R _ _ | exact bs_R (by omega) | decide) ?_
      refine ev_w (fun hR => ?_)
      refine ev_iload_n dX8_better_36 rfl ?_
      refine ev_ireturn dX8_better_37 ?_
      first
        | (exfalso; omega)
        | (rw [b2_t (by omega), if_pos (by omega)]; exact ⟨rfl, rfl⟩)
        | (rw [b2_f (by omega), if_neg (by omega), hself]; exact ⟨rfl, rfl⟩)
    · refine ev_iload_n dX8_better_25 rfl ?_
      refine ev_goto (tgt := 35) dX8_better_26 (by decide) ?_
      refine ev_iastore dX8_better_35 rfl (by first | omega | (simp [wr_at]; omega) | (simp [wr_at, *]; omega)) (by first | omega | (simp [wr_at]; omega) | (simp [wr_at, *]; omega)) (by decide) (by first | exact hR.1 _ _ | exact hR0.1 _ _ | assumption | exact ⟨by omega, by omega⟩ | exact ⟨by simp [wr_at]; omega, by simp [wr_at]; omega⟩ | exact b2_R _ | exact bC_R _ | exact band_R _ _ | exact bor_R _ _ | exact bshl_R _ _ | exact bshr_R _ _ | exact bxor_R _ _ | exact bs_R (by omega) | decide) ?_
      refine ev_w (fun hR => ?_)
      refine ev_iload_n dX8_better_36 rfl ?_
      refine ev_ireturn dX8_better_37 ?_
      first
        | (exfalso; omega)
        | (rw [b2_t (by omega), if_pos (by omega)]; exact ⟨rfl, rfl⟩)
        | (rw [b2_f (by omega), if_neg (by omega), hself]; exact ⟨rfl, rfl⟩)
