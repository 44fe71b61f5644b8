theorem k_isOnRope (σ : Mem) (b : Int) (h0 : 0 ≤ b) (h1 : b < 4) : Con yX5_isOnRope cX5_isOnRope 2 (some .boolean) 0 0 [.ref 37, .int (iI b)] σ (AnsI (b2 (σ.1 40 b ≠ -1)) σ) := by
  refine con_of (by decide) rfl (Nat.le_of_ble_eq_true rfl) (ok_Z rfl (b2_01 _)) ?_
  refine ev_w (fun hR => ?_)
  have hR0 := hR
  refine ev_aload_n dX5_isOnRope_0 rfl ?_
  refine ev_getR (r := 40) dX5_isOnRope_1 fl_X5_18 rfl rfl rfl ?_
  refine ev_iload_n dX5_isOnRope_4 rfl ?_
  refine ev_iaload dX5_isOnRope_5 rfl (by first | omega | (simp [wr_at]; omega) | (simp [wr_at, *]; omega)) (by first | omega | (simp [wr_at]; omega) | (simp [wr_at, *]; omega)) (by decide) ?_
  refine ev_iconst dX5_isOnRope_6 ?_
  refine ev_icmp_eq (tgt := 14) dX5_isOnRope_7 (by decide) (by first | exact hR.1 _ _ | exact hR0.1 _ _ | assumption | exact ⟨by omega, by omega⟩ | exact ⟨by simp [wr_at]; omega, by simp [wr_at]; omega⟩ | exact b2_R _ | exact band_R _ _ | exact bor_R _ _ | exact bshl_R _ _ | exact bshr_R _ _ | exact bxor_R _ _ | exact bs_R (by omega) | decide) (by first | exact hR.1 _ _ | exact hR0.1 _ _ | assumption | exact ⟨by omega, by omega⟩ | exact ⟨by simp [wr_at]; omega, by simp [wr_at]; omega⟩ | exact b2_R _ | exact band_R _ _ | exact bor_R _ _ | exact bshl_R _ _ | exact bshr_R _ _ | exact bxor_R _ _ | exact bs_R (by omega) | decide) (fun h_7 => ?_) (fun h_7 => ?_)
  · refine ev_iconst dX5_isOnRope_14 ?_
    refine ev_ireturn dX5_isOnRope_15 ?_
    first
      | exact ⟨by rw [b2_t (by assumption)], rfl⟩
      | exact ⟨by rw [b2_f (by simpa using h_7)], rfl⟩
  · refine ev_iconst dX5_isOnRope_10 ?_
    refine ev_goto (tgt := 15) dX5_isOnRope_11 (by decide) ?_
    refine ev_ireturn dX5_isOnRope_15 ?_
    first
      | exact ⟨by rw [b2_t (by assumption)], rfl⟩
      | exact ⟨by rw [b2_f (by simpa using h_7)], rfl⟩
theorem k_boyOn (σ : Mem) (r : Int) (n : Nat) (hr : inR r) (hn : n ≤ 4) : Con yX5_boyOn cX5_boyOn 4 (some .int) 0 0 [.ref 37, .int (iI r), .int (iI n)] σ (AnsI (fstI (fun b => σ.1 40 b) r n) σ) := by
  refine con_of (by decide) rfl (Nat.le_of_ble_eq_true rfl) (ok_I rfl) ?_
  refine ev_w (fun hR => ?_)
  have hR0 := hR
  have loop : ∀ i : Nat, i ≤ n → (∀ b : Nat, b < i → σ.1 40 b ≠ r) → Ev RX5 cX5_boyOn 4 0 0 (AnsI (fstI (fun b => σ.1 40 b) r n) σ) 2 [some (.ref 37), some (.int (iI r)), some (.int (iI n)), some (.int (iI (i : Nat)))] [] σ := by
    refine for_up n (fun i hi ih hb => ?_)
    refine ev_w (fun hR => ?_)
    refine ev_iload_n dX5_boyOn_2 rfl ?_
    refine ev_iload_n dX5_boyOn_3 rfl ?_
    refine ev_icmp_ge (tgt := 25) dX5_boyOn_4 (by decide) (by first | exact hR.1 _ _ | exact hR0.1 _ _ | assumption | exact ⟨by omega, by omega⟩ | exact ⟨by simp [wr_at]; omega, by simp [wr_at]; omega⟩ | exact b2_R _ | exact band_R _ _ | exact bor_R _ _ | exact bshl_R _ _ | exact bshr_R _ _ | exact bxor_R _ _ | exact bs_R (by omega) | decide) (by first | exact hR.1 _ _ | exact hR0.1 _ _ | assumption | exact ⟨by omega, by omega⟩ | exact ⟨by simp [wr_at]; omega, by simp [wr_at]; omega⟩ | exact b2_R _ | exact band_R _ _ | exact bor_R _ _ | exact bshl_R _ _ | exact bshr_R _ _ | exact bxor_R _ _ | exact bs_R (by omega) | decide) (fun h_4 => ?_) (fun h_4 => ?_)
    · refine ev_iconst dX5_boyOn_25 ?_
      refine ev_ireturn dX5_boyOn_26 ?_
      exact ⟨by rw [fstI_none (fun b hb2 => hb b (by omega))], rfl⟩
    · refine ev_aload_n dX5_boyOn_7 rfl ?_
      refine ev_getR (r := 40) dX5_boyOn_8 fl_X5_18 rfl rfl rfl ?_
      refine ev_iload_n dX5_boyOn_11 rfl ?_
      refine ev_iaload dX5_boyOn_12 rfl (by first | omega | (simp [wr_at]; omega) | (simp [wr_at, *]; omega)) (by first | omega | (simp [wr_at]; omega) | (simp [wr_at, *]; omega)) (by decide) ?_
      refine ev_iload_n dX5_boyOn_13 rfl ?_
      refine ev_icmp_ne (tgt := 19) dX5_boyOn_14 (by decide) (by first | exact hR.1 _ _ | exact hR0.1 _ _ | assumption | exact ⟨by omega, by omega⟩ | exact ⟨by simp [wr_at]; omega, by simp [wr_at]; omega⟩ | exact b2_R _ | exact band_R _ _ | exact bor_R _ _ | exact bshl_R _ _ | exact bshr_R _ _ | exact bxor_R _ _ | exact bs_R (by omega) | decide) (by first | exact hR.1 _ _ | exact hR0.1 _ _ | assumption | exact ⟨by omega, by omega⟩ | exact ⟨by simp [wr_at]; omega, by simp [wr_at]; omega⟩ | exact b2_R _ | exact band_R _ _ | exact bor_R _ _ | exact bshl_R _ _ | exact bshr_R _ _ | exact bxor_R _ _ | exact bs_R (by omega) | decide) (fun h_14 => ?_) (fun h_14 => ?_)
      · refine ev_iinc dX5_boyOn_19 rfl rfl (by decide) rfl ?_
        refine ev_goto (tgt := 2) dX5_boyOn_22 (by decide) ?_
        refine ih (by omega) (fun b hb2 => ?_)
        by_cases e : b = i
        · subst e; assumption
        · exact hb b (by omega)
      · refine ev_iload_n dX5_boyOn_17 rfl ?_
        refine ev_ireturn dX5_boyOn_18 ?_
        exact ⟨by rw [fstI_at (i := i) (by omega) hb (by assumption)], rfl⟩
  refine ev_iconst dX5_boyOn_0 ?_
  refine ev_istore_n dX5_boyOn_1 rfl (by decide) rfl ?_
  exact loop 0 (by omega) (fun b hb => by omega)
theorem k_boysAt (σ : Mem) (p : Int) (n : Nat) (hp : inR p) (hn : n ≤ 4) : Con yX5_boysAt cX5_boysAt 5 (some .int) 0 0 [.ref 37, .int (iI p), .int (iI n)] σ (AnsI (bs (fun b => decide (σ.1 40 b = -1 ∧ σ.1 39 b = p)) n) σ) := by
  refine con_of (by decide) rfl (Nat.le_of_ble_eq_true rfl) (ok_I rfl) ?_
  refine ev_w (fun hR => ?_)
  have hR0 := hR
  have loop : ∀ i : Nat, i ≤ n → Ev RX5 cX5_boysAt 5 0 0 (AnsI (bs (fun b => decide (σ.1 40 b = -1 ∧ σ.1 39 b = p)) n) σ) 5 [some (.ref 37), some (.int (iI p)), some (.int (iI n)), some (.int (iI (bs (fun b => decide (σ.1 40 b = -1 ∧ σ.1 39 b = p)) i : Nat))), some (.int (iI (i : Nat)))] [] σ := by
    refine for_up n (fun i hi ih => ?_)
    refine ev_w (fun hR => ?_)
    refine ev_iload dX5_boysAt_5 rfl ?_
    refine ev_iload_n dX5_boysAt_7 rfl ?_
    refine ev_icmp_ge (tgt := 46) dX5_boysAt_8 (by decide) (by first | exact hR.1 _ _ | exact hR0.1 _ _ | assumption | exact ⟨by omega, by omega⟩ | exact ⟨by simp [wr_at]; omega, by simp [wr_at]; omega⟩ | exact b2_R _ | exact band_R _ _ | exact bor_R _ _ | exact bshl_R _ _ | exact bshr_R _ _ | exact bxor_R _ _ | exact bs_R (by omega) | decide) (by first | exact hR.1 _ _ | exact hR0.1 _ _ | assumption | exact ⟨by omega, by omega⟩ | exact ⟨by simp [wr_at]; omega, by simp [wr_at]; omega⟩ | exact b2_R _ | exact band_R _ _ | exact bor_R _ _ | exact bshl_R _ _ | exact bshr_R _ _ | exact bxor_R _ _ | exact bs_R (by omega) | decide) (fun h_8 => ?_) (fun h_8 => ?_)
    · refine ev_iload_n dX5_boysAt_46 rfl ?_
      refine ev_ireturn dX5_boysAt_47 ?_
      obtain rfl : i = n := by omega
      exact ⟨rfl, rfl⟩
    · refine ev_aload_n dX5_boysAt_11 rfl ?_
      refine ev_getR (r := 40) dX5_boysAt_12 fl_X5_18 rfl rfl rfl ?_
      refine ev_iload dX5_boysAt_15 rfl ?_
      refine ev_iaload dX5_boysAt_17 rfl (by first | omega | (simp [wr_at]; omega) | (simp [wr_at, *]; omega)) (by first | omega | (simp [wr_at]; omega) | (simp [wr_at, *]; omega)) (by decide) ?_
      refine ev_iconst dX5_boysAt_18 ?_
      refine ev_icmp_ne (tgt := 40) dX5_boysAt_19 (by decide) (by first | exact hR.1 _ _ | exact hR0.1 _ _ | assumption | exact ⟨by omega, by omega⟩ | exact ⟨by simp [wr_at]; omega, by simp [wr_at]; omega⟩ | exact b2_R _ | exact band_R _ _ | exact bor_R _ _ | exact bshl_R _ _ | exact bshr_R _ _ | exact bxor_R _ _ | exact bs_R (by omega) | decide) (by first | exact hR.1 _ _ | exact hR0.1 _ _ | assumption | exact ⟨by omega, by omega⟩ | exact ⟨by simp [wr_at]; omega, by simp [wr_at]; omega⟩ | exact b2_R _ | exact band_R _ _ | exact bor_R _ _ | exact bshl_R _ _ | exact bshr_R _ _ | exact bxor_R _ _ | exact bs_R (by omega) | decide) (fun h_19 => ?_) (fun h_19 => ?_)
      · refine ev_iinc dX5_boysAt_40 rfl rfl (by decide) rfl ?_
        refine ev_goto (tgt := 5) dX5_boysAt_43 (by decide) ?_
        first
          | (rw [bs_ort (p := fun b => decide (σ.1 40 b = -1 ∧ σ.1 39 b = p)) (n := i) (by omega) (by simp [*])]; exact ih (by omega))
          | (rw [bs_or0 (p := fun b => decide (σ.1 40 b = -1 ∧ σ.1 39 b = p)) (n := i) (by omega) (by simp [*])]; exact ih (by omega))
          | (rw [bs_orf (p := fun b => decide (σ.1 40 b = -1 ∧ σ.1 39 b = p)) (n := i) (by simp [*])]; exact ih (by omega))
      · refine ev_aload_n dX5_boysAt_22 rfl ?_
        refine ev_getR (r := 39) dX5_boysAt_23 fl_X5_15 rfl rfl rfl ?_
        refine ev_iload dX5_boysAt_26 rfl ?_
        refine ev_iaload dX5_boysAt_28 rfl (by first | omega | (simp [wr_at]; omega) | (simp [wr_at, *]; omega)) (by first | omega | (simp [wr_at]; omega) | (simp [wr_at, *]; omega)) (by decide) ?_
        refine ev_iload_n dX5_boysAt_29 rfl ?_
        refine ev_icmp_ne (tgt := 40) dX5_boysAt_30 (by decide) (by first | exact hR.1 _ _ | exact hR0.1 _ _ | assumption | exact ⟨by omega, by omega⟩ | exact ⟨by simp [wr_at]; omega, by simp [wr_at]; omega⟩ | exact b2_R _ | exact band_R _ _ | exact bor_R _ _ | exact bshl_R _ _ | exact bshr_R _ _ | exact bxor_R _ _ | exact bs_R (by omega) | decide) (by first | exact hR.1 _ _ | exact hR0.1 _ _ | assumption | exact ⟨by omega, by omega⟩ | exact ⟨by simp [wr_at]; omega, by simp [wr_at]; omega⟩ | exact b2_R _ | exact band_R _ _ | exact bor_R _ _ | exact bshl_R _ _ | exact bshr_R _ _ | exact bxor_R _ _ | exact bs_R (by omega) | decide) (fun h_30 => ?_) (fun h_30 => ?_)
        · refine ev_iinc dX5_boysAt_40 rfl rfl (by decide) rfl ?_
          refine ev_goto (tgt := 5) dX5_boysAt_43 (by decide) ?_
          first
            | (rw [bs_ort (p := fun b => decide (σ.1 40 b = -1 ∧ σ.1 39 b = p)) (n := i) (by omega) (by simp [*])]; exact ih (by omega))
            | (rw [bs_or0 (p := fun b => decide (σ.1 40 b = -1 ∧ σ.1 39 b = p)) (n := i) (by omega) (by simp [*])]; exact ih (by omega))
            | (rw [bs_orf (p := fun b => decide (σ.1 40 b = -1 ∧ σ.1 39 b = p)) (n := i) (by simp [*])]; exact ih (by omega))
        · refine ev_iload_n dX5_boysAt_33 rfl ?_
          refine ev_iconst dX5_boysAt_34 ?_
          refine ev_iload dX5_boysAt_35 rfl ?_
          refine ev_ishl dX5_boysAt_37 ?_
          refine ev_ior dX5_boysAt_38 ?_
          refine ev_istore_n dX5_boysAt_39 rfl (by decide) rfl ?_
          refine ev_iinc dX5_boysAt_40 rfl rfl (by decide) rfl ?_
          refine ev_goto (tgt := 5) dX5_boysAt_43 (by decide) ?_
          first
            | (rw [bs_ort (p := fun b => decide (σ.1 40 b = -1 ∧ σ.1 39 b = p)) (n := i) (by omega) (by simp [*])]; exact ih (by omega))
            | (rw [bs_or0 (p := fun b => decide (σ.1 40 b = -1 ∧ σ.1 39 b = p)) (n := i) (by omega) (by simp [*])]; exact ih (by omega))
            | (rw [bs_orf (p := fun b => decide (σ.1 40 b = -1 ∧ σ.1 39 b = p)) (n := i) (by simp [*])]; exact ih (by omega))
  refine ev_iconst dX5_boysAt_0 ?_
  refine ev_istore_n dX5_boysAt_1 rfl (by decide) rfl ?_
  refine ev_iconst dX5_boysAt_2 ?_
  refine ev_istore dX5_boysAt_3 rfl (by decide) rfl ?_
  exact loop 0 (by omega)
theorem k_loadsAt (σ : Mem) (p : Int) (n : Nat) (hp : inR p) (hn : n ≤ 4) : Con yX5_loadsAt cX5_loadsAt 5 (some .int) 0 0 [.ref 37, .int (iI p), .int (iI n)] σ (AnsI (bs (fun b => decide (σ.1 42 b = p)) n) σ) := by
  refine con_of (by decide) rfl (Nat.le_of_ble_eq_true rfl) (ok_I rfl) ?_
  refine ev_w (fun hR => ?_)
  have hR0 := hR
  have loop : ∀ i : Nat, i ≤ n → Ev RX5 cX5_loadsAt 5 0 0 (AnsI (bs (fun b => decide (σ.1 42 b = p)) n) σ) 5 [some (.ref 37), some (.int (iI p)), some (.int (iI n)), some (.int (iI (bs (fun b => decide (σ.1 42 b = p)) i : Nat))), some (.int (iI (i : Nat)))] [] σ := by
    refine for_up n (fun i hi ih => ?_)
    refine ev_w (fun hR => ?_)
    refine ev_iload dX5_loadsAt_5 rfl ?_
    refine ev_iload_n dX5_loadsAt_7 rfl ?_
    refine ev_icmp_ge (tgt := 35) dX5_loadsAt_8 (by decide) (by first | exact hR.1 _ _ | exact hR0.1 _ _ | assumption | exact ⟨by omega, by omega⟩ | exact ⟨by simp [wr_at]; omega, by simp [wr_at]; omega⟩ | exact b2_R _ | exact band_R _ _ | exact bor_R _ _ | exact bshl_R _ _ | exact bshr_R _ _ | exact bxor_R _ _ | exact bs_R (by omega) | decide) (by first | exact hR.1 _ _ | exact hR0.1 _ _ | assumption | exact ⟨by omega, by omega⟩ | exact ⟨by simp [wr_at]; omega, by simp [wr_at]; omega⟩ | exact b2_R _ | exact band_R _ _ | exact bor_R _ _ | exact bshl_R _ _ | exact bshr_R _ _ | exact bxor_R _ _ | exact bs_R (by omega) | decide) (fun h_8 => ?_) (fun h_8 => ?_)
    · refine ev_iload_n dX5_loadsAt_35 rfl ?_
      refine ev_ireturn dX5_loadsAt_36 ?_
      obtain rfl : i = n := by omega
      exact ⟨rfl, rfl⟩
    · refine ev_aload_n dX5_loadsAt_11 rfl ?_
      refine ev_getR (r := 42) dX5_loadsAt_12 fl_X5_24 rfl rfl rfl ?_
      refine ev_iload dX5_loadsAt_15 rfl ?_
      refine ev_iaload dX5_loadsAt_17 rfl (by first | omega | (simp [wr_at]; omega) | (simp [wr_at, *]; omega)) (by first | omega | (simp [wr_at]; omega) | (simp [wr_at, *]; omega)) (by decide) ?_
      refine ev_iload_n dX5_loadsAt_18 rfl ?_
      refine ev_icmp_ne (tgt := 29) dX5_loadsAt_19 (by decide) (by first | exact hR.1 _ _ | exact hR0.1 _ _ | assumption | exact ⟨by omega, by omega⟩ | exact ⟨by simp [wr_at]; omega, by simp [wr_at]; omega⟩ | exact b2_R _ | exact band_R _ _ | exact bor_R _ _ | exact bshl_R _ _ | exact bshr_R _ _ | exact bxor_R _ _ | exact bs_R (by omega) | decide) (by first | exact hR.1 _ _ | exact hR0.1 _ _ | assumption | exact ⟨by omega, by omega⟩ | exact ⟨by simp [wr_at]; omega, by simp [wr_at]; omega⟩ | exact b2_R _ | exact band_R _ _ | exact bor_R _ _ | exact bshl_R _ _ | exact bshr_R _ _ | exact bxor_R _ _ | exact bs_R (by omega) | decide) (fun h_19 => ?_) (fun h_19 => ?_)
      · refine ev_iinc dX5_loadsAt_29 rfl rfl (by decide) rfl ?_
        refine ev_goto (tgt := 5) dX5_loadsAt_32 (by decide) ?_
        first
          | (rw [bs_ort (p := fun b => decide (σ.1 42 b = p)) (n := i) (by omega) (by simp [*])]; exact ih (by omega))
          | (rw [bs_or0 (p := fun b => decide (σ.1 42 b = p)) (n := i) (by omega) (by simp [*])]; exact ih (by omega))
          | (rw [bs_orf (p := fun b => decide (σ.1 42 b = p)) (n := i) (by simp [*])]; exact ih (by omega))
      · refine ev_iload_n dX5_loadsAt_22 rfl ?_
        refine ev_iconst dX5_loadsAt_23 ?_
        refine ev_iload dX5_loadsAt_24 rfl ?_
        refine ev_ishl dX5_loadsAt_26 ?_
        refine ev_ior dX5_loadsAt_27 ?_
        refine ev_istore_n dX5_loadsAt_28 rfl (by decide) rfl ?_
        refine ev_iinc dX5_loadsAt_29 rfl rfl (by decide) rfl ?_
        refine ev_goto (tgt := 5) dX5_loadsAt_32 (by decide) ?_
        first
          | (rw [bs_ort (p := fun b => decide (σ.1 42 b = p)) (n := i) (by omega) (by simp [*])]; exact ih (by omega))
          | (rw [bs_or0 (p := fun b => decide (σ.1 42 b = p)) (n := i) (by omega) (by simp [*])]; exact ih (by omega))
          | (rw [bs_orf (p := fun b => decide (σ.1 42 b = p)) (n := i) (by simp [*])]; exact ih (by omega))
  refine ev_iconst dX5_loadsAt_0 ?_
  refine ev_istore_n dX5_loadsAt_1 rfl (by decide) rfl ?_
  refine ev_iconst dX5_loadsAt_2 ?_
  refine ev_istore dX5_loadsAt_3 rfl (by decide) rfl ?_
  exact loop 0 (by omega)
theorem k_carriedBy (σ : Mem) (p : Int) (n : Nat) (hp : inR p) (hn : n ≤ 4) : Con yX5_carriedBy cX5_carriedBy 5 (some .int) 0 0 [.ref 37, .int (iI p), .int (iI n)] σ (AnsI (bs (fun b => decide (σ.1 43 b = p)) n) σ) := by
  refine con_of (by decide) rfl (Nat.le_of_ble_eq_true rfl) (ok_I rfl) ?_
  refine ev_w (fun hR => ?_)
  have hR0 := hR
  have loop : ∀ i : Nat, i ≤ n → Ev RX5 cX5_carriedBy 5 0 0 (AnsI (bs (fun b => decide (σ.1 43 b = p)) n) σ) 5 [some (.ref 37), some (.int (iI p)), some (.int (iI n)), some (.int (iI (bs (fun b => decide (σ.1 43 b = p)) i : Nat))), some (.int (iI (i : Nat)))] [] σ := by
    refine for_up n (fun i hi ih => ?_)
    refine ev_w (fun hR => ?_)
    refine ev_iload dX5_carriedBy_5 rfl ?_
    refine ev_iload_n dX5_carriedBy_7 rfl ?_
    refine ev_icmp_ge (tgt := 35) dX5_carriedBy_8 (by decide) (by first | exact hR.1 _ _ | exact hR0.1 _ _ | assumption | exact ⟨by omega, by omega⟩ | exact ⟨by simp [wr_at]; omega, by simp [wr_at]; omega⟩ | exact b2_R _ | exact band_R _ _ | exact bor_R _ _ | exact bshl_R _ _ | exact bshr_R _ _ | exact bxor_R _ _ | exact bs_R (by omega) | decide) (by first | exact hR.1 _ _ | exact hR0.1 _ _ | assumption | exact ⟨by omega, by omega⟩ | exact ⟨by simp [wr_at]; omega, by simp [wr_at]; omega⟩ | exact b2_R _ | exact band_R _ _ | exact bor_R _ _ | exact bshl_R _ _ | exact bshr_R _ _ | exact bxor_R _ _ | exact bs_R (by omega) | decide) (fun h_8 => ?_) (fun h_8 => ?_)
    · refine ev_iload_n dX5_carriedBy_35 rfl ?_
      refine ev_ireturn dX5_carriedBy_36 ?_
      obtain rfl : i = n := by omega
      exact ⟨rfl, rfl⟩
    · refine ev_aload_n dX5_carriedBy_11 rfl ?_
      refine ev_getR (r := 43) dX5_carriedBy_12 fl_X5_27 rfl rfl rfl ?_
      refine ev_iload dX5_carriedBy_15 rfl ?_
      refine ev_iaload dX5_carriedBy_17 rfl (by first | omega | (simp [wr_at]; omega) | (simp [wr_at, *]; omega)) (by first | omega | (simp [wr_at]; omega) | (simp [wr_at, *]; omega)) (by decide) ?_
      refine ev_iload_n dX5_carriedBy_18 rfl ?_
      refine ev_icmp_ne (tgt := 29) dX5_carriedBy_19 (by decide) (by first | exact hR.1 _ _ | exact hR0.1 _ _ | assumption | exact ⟨by omega, by omega⟩ | exact ⟨by simp [wr_at]; omega, by simp [wr_at]; omega⟩ | exact b2_R _ | exact band_R _ _ | exact bor_R _ _ | exact bshl_R _ _ | exact bshr_R _ _ | exact bxor_R _ _ | exact bs_R (by omega) | decide) (by first | exact hR.1 _ _ | exact hR0.1 _ _ | assumption | exact ⟨by omega, by omega⟩ | exact ⟨by simp [wr_at]; omega, by simp [wr_at]; omega⟩ | exact b2_R _ | exact band_R _ _ | exact bor_R _ _ | exact bshl_R _ _ | exact bshr_R _ _ | exact bxor_R _ _ | exact bs_R (by omega) | decide) (fun h_19 => ?_) (fun h_19 => ?_)
      · refine ev_iinc dX5_carriedBy_29 rfl rfl (by decide) rfl ?_
        refine ev_goto (tgt := 5) dX5_carriedBy_32 (by decide) ?_
        first
          | (rw [bs_ort (p := fun b => decide (σ.1 43 b = p)) (n := i) (by omega) (by simp [*])]; exact ih (by omega))
          | (rw [bs_or0 (p := fun b => decide (σ.1 43 b = p)) (n := i) (by omega) (by simp [*])]; exact ih (by omega))
          | (rw [bs_orf (p := fun b => decide (σ.1 43 b = p)) (n := i) (by simp [*])]; exact ih (by omega))
      · refine ev_iload_n dX5_carriedBy_22 rfl ?_
        refine ev_iconst dX5_carriedBy_23 ?_
        refine ev_iload dX5_carriedBy_24 rfl ?_
        refine ev_ishl dX5_carriedBy_26 ?_
        refine ev_ior dX5_carriedBy_27 ?_
        refine ev_istore_n dX5_carriedBy_28 rfl (by decide) rfl ?_
        refine ev_iinc dX5_carriedBy_29 rfl rfl (by decide) rfl ?_
        refine ev_goto (tgt := 5) dX5_carriedBy_32 (by decide) ?_
        first
          | (rw [bs_ort (p := fun b => decide (σ.1 43 b = p)) (n := i) (by omega) (by simp [*])]; exact ih (by omega))
          | (rw [bs_or0 (p := fun b => decide (σ.1 43 b = p)) (n := i) (by omega) (by simp [*])]; exact ih (by omega))
          | (rw [bs_orf (p := fun b => decide (σ.1 43 b = p)) (n := i) (by simp [*])]; exact ih (by omega))
  refine ev_iconst dX5_carriedBy_0 ?_
  refine ev_istore_n dX5_carriedBy_1 rfl (by decide) rfl ?_
  refine ev_iconst dX5_carriedBy_2 ?_
  refine ev_istore dX5_carriedBy_3 rfl (by decide) rfl ?_
  exact loop 0 (by omega)
