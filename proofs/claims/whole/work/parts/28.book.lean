def bookM (σ : Mem) (b p m : Int) : Mem := wr (wr (wr (wr σ 66 (σ.1 65 0) b) 67 (σ.1 65 0) p) 68 (σ.1 65 0) m) 65 0 (σ.1 65 0 + 1)
theorem k_add (σ : Mem) (b p m : Int) (hb : inR b) (hp : inR p) (hm : inR m) (h0 : 0 ≤ σ.1 65 0) (h1 : σ.1 65 0 < 20) : Con yX0_add cX0_add 4 none 0 0 [.ref 65, .int (iI b), .int (iI p), .int (iI m)] σ (AnsV (bookM σ b p m)) := by
  refine con_of (by decide) rfl (Nat.le_of_ble_eq_true rfl) (ok_V rfl) ?_
  refine ev_w (fun hR => ?_)
  have hR0 := hR
  refine ev_aload_n dX0_add_0 rfl ?_
  refine ev_getI (kz := 0) dX0_add_1 fl_X0_9 rfl rfl rfl ?_
  refine ev_bipush dX0_add_4 (by decide) ?_
  refine ev_icmp_ge (tgt := 49) dX0_add_6 (by decide) (by first | exact hR.1 _ _ | exact hR0.1 _ _ | assumption | exact ⟨by omega, by omega⟩ | exact ⟨by simp [wr_at]; omega, by simp [wr_at]; omega⟩ | exact b2_R _ | exact band_R _ _ | exact bor_R _ _ | exact bshl_R _ _ | exact bshr_R _ _ | exact bxor_R _ _ | exact bs_R (by omega) | decide) (by first | exact hR.1 _ _ | exact hR0.1 _ _ | assumption | exact ⟨by omega, by omega⟩ | exact ⟨by simp [wr_at]; omega, by simp [wr_at]; omega⟩ | exact b2_R _ | exact band_R _ _ | exact bor_R _ _ | exact bshl_R _ _ | exact bshr_R _ _ | exact bxor_R _ _ | exact bs_R (by omega) | decide) (fun h_6 => ?_) (fun h_6 => ?_)
  · refine ev_return dX0_add_49 ?_
    first
      | omega
      | exact ⟨rfl, by simp [bookM, wr_at]⟩
  · refine ev_aload_n dX0_add_9 rfl ?_
    refine ev_getR (r := 66) dX0_add_10 fl_X0_15 rfl rfl rfl ?_
    refine ev_aload_n dX0_add_13 rfl ?_
    refine ev_getI (kz := 0) dX0_add_14 fl_X0_9 rfl rfl rfl ?_
    refine ev_iload_n dX0_add_17 rfl ?_
    refine ev_iastore dX0_add_18 rfl (by first | omega | (simp [wr_at]; omega) | (simp [wr_at, *]; omega)) (by first | omega | (simp [wr_at]; omega) | (simp [wr_at, *]; omega)) (by decide) (by first | exact hR.1 _ _ | exact hR0.1 _ _ | assumption | exact ⟨by omega, by omega⟩ | exact ⟨by simp [wr_at]; omega, by simp [wr_at]; omega⟩ | exact b2_R _ | exact band_R _ _ | exact bor_R _ _ | exact bshl_R _ _ | exact bshr_R _ _ | exact bxor_R _ _ | exact bs_R (by omega) | decide) ?_
    refine ev_w (fun hR => ?_)
    refine ev_aload_n dX0_add_19 rfl ?_
    refine ev_getR (r := 67) dX0_add_20 fl_X0_19 rfl rfl rfl ?_
    refine ev_aload_n dX0_add_23 rfl ?_
    refine ev_getI (kz := 0) dX0_add_24 fl_X0_9 rfl rfl rfl ?_
    refine ev_iload_n dX0_add_27 rfl ?_
    refine ev_iastore dX0_add_28 rfl (by first | omega | (simp [wr_at]; omega) | (simp [wr_at, *]; omega)) (by first | omega | (simp [wr_at]; omega) | (simp [wr_at, *]; omega)) (by decide) (by first | exact hR.1 _ _ | exact hR0.1 _ _ | assumption | exact ⟨by omega, by omega⟩ | exact ⟨by simp [wr_at]; omega, by simp [wr_at]; omega⟩ | exact b2_R _ | exact band_R _ _ | exact bor_R _ _ | exact bshl_R _ _ | exact bshr_R _ _ | exact bxor_R _ _ | exact bs_R (by omega) | decide) ?_
    refine ev_w (fun hR => ?_)
    refine ev_aload_n dX0_add_29 rfl ?_
    refine ev_getR (r := 68) dX0_add_30 fl_X0_22 rfl rfl rfl ?_
    refine ev_aload_n dX0_add_33 rfl ?_
    refine ev_getI (kz := 0) dX0_add_34 fl_X0_9 rfl rfl rfl ?_
    refine ev_iload_n dX0_add_37 rfl ?_
    refine ev_iastore dX0_add_38 rfl (by first | omega | (simp [wr_at]; omega) | (simp [wr_at, *]; omega)) (by first | omega | (simp [wr_at]; omega) | (simp [wr_at, *]; omega)) (by decide) (by first | exact hR.1 _ _ | exact hR0.1 _ _ | assumption | exact ⟨by omega, by omega⟩ | exact ⟨by simp [wr_at]; omega, by simp [wr_at]; omega⟩ | exact b2_R _ | exact band_R _ _ | exact bor_R _ _ | exact bshl_R _ _ | exact bshr_R _ _ | exact bxor_R _ _ | exact bs_R (by omega) | decide) ?_
    refine ev_w (fun hR => ?_)
    refine ev_aload_n dX0_add_39 rfl ?_
    refine ev_dup dX0_add_40 rfl ?_
    refine ev_getI (kz := 0) dX0_add_41 fl_X0_9 rfl rfl rfl ?_
    refine ev_iconst dX0_add_44 ?_
    refine ev_iadd dX0_add_45 ?_
    refine ev_putI (kz := 0) dX0_add_46 fp_X0_9 rfl rfl rfl (by first | exact hR.1 _ _ | exact hR0.1 _ _ | assumption | exact ⟨by omega, by omega⟩ | exact ⟨by simp [wr_at]; omega, by simp [wr_at]; omega⟩ | exact b2_R _ | exact band_R _ _ | exact bor_R _ _ | exact bshl_R _ _ | exact bshr_R _ _ | exact bxor_R _ _ | exact bs_R (by omega) | decide) ?_
    refine ev_w (fun hR => ?_)
    refine ev_return dX0_add_49 ?_
    first
      | omega
      | exact ⟨rfl, by simp [bookM, wr_at]⟩
/-- of the first i sightings of b up to w the last told of the latest minute; behind w the first told of the earliest -/
def lastU (B T : Nat → Int) (b w : Int) : Nat → Int
  | 0 => -1
  | i + 1 => if B i = b ∧ T i ≤ w ∧ (lastU B T b w i = -1 ∨ T (lastU B T b w i).toNat ≤ T i) then i else lastU B T b w i
def nextA (B T : Nat → Int) (b w : Int) : Nat → Int
  | 0 => -1
  | i + 1 => if B i = b ∧ ¬ T i ≤ w ∧ (nextA B T b w i = -1 ∨ T i < T (nextA B T b w i).toNat) then i else nextA B T b w i
theorem lastU_R (B T : Nat → Int) (b w : Int) (i : Nat) : -1 ≤ lastU B T b w i ∧ lastU B T b w i < i := by
  induction i with
  | zero => unfold lastU; omega
  | succ i ih => unfold lastU; split <;> omega
theorem nextA_R (B T : Nat → Int) (b w : Int) (i : Nat) : -1 ≤ nextA B T b w i ∧ nextA B T b w i < i := by
  induction i with
  | zero => unfold nextA; omega
  | succ i ih => unfold nextA; split <;> omega
theorem k_lastUntil (σ : Mem) (b w : Int) (n : Nat) (hb : inR b) (hw : inR w) (hn : σ.1 65 0 = n) (hn20 : n ≤ 20) : Con yX0_lastUntil cX0_lastUntil 5 (some .int) 0 0 [.ref 65, .int (iI b), .int (iI w)] σ (AnsI (lastU (fun i => σ.1 66 i) (fun i => σ.1 68 i) b w n) σ) := by
  refine con_of (by decide) rfl (Nat.le_of_ble_eq_true rfl) (ok_I rfl) ?_
  refine ev_w (fun hR => ?_)
  have hR0 := hR
  have loop : ∀ i : Nat, i ≤ n → ∀ acc : Int, acc = lastU (fun i => σ.1 66 i) (fun i => σ.1 68 i) b w i → Ev RX0 cX0_lastUntil 5 0 0 (AnsI (lastU (fun i => σ.1 66 i) (fun i => σ.1 68 i) b w n) σ) 5 [some (.ref 65), some (.int (iI b)), some (.int (iI w)), some (.int (iI acc)), some (.int (iI (i : Nat)))] [] σ := by
    refine for_up n (fun i hi ih acc hacc => ?_)
    refine ev_w (fun hR => ?_)
    have hr := lastU_R (fun i => σ.1 66 i) (fun i => σ.1 68 i) b w i
    have hs : lastU (fun i => σ.1 66 i) (fun i => σ.1 68 i) b w (i + 1) = if σ.1 66 i = b ∧ σ.1 68 i ≤ w ∧ (lastU (fun i => σ.1 66 i) (fun i => σ.1 68 i) b w i = -1 ∨ σ.1 68 ((lastU (fun i => σ.1 66 i) (fun i => σ.1 68 i) b w i).toNat : Nat) ≤ σ.1 68 i) then (i : Int) else lastU (fun i => σ.1 66 i) (fun i => σ.1 68 i) b w i := rfl
    refine ev_iload dX0_lastUntil_5 rfl ?_
    refine ev_aload_n dX0_lastUntil_7 rfl ?_
    refine ev_getI (kz := 0) dX0_lastUntil_8 fl_X0_9 rfl rfl rfl ?_
    rw [hn]
    refine ev_icmp_ge (tgt := 66) dX0_lastUntil_11 (by decide) (by first | exact hR.1 _ _ | exact hR0.1 _ _ | assumption | exact ⟨by omega, by omega⟩ | exact ⟨by simp [wr_at]; omega, by simp [wr_at]; omega⟩ | exact b2_R _ | exact band_R _ _ | exact bor_R _ _ | exact bshl_R _ _ | exact bshr_R _ _ | exact bxor_R _ _ | exact bs_R (by omega) | decide) (by first | exact hR.1 _ _ | exact hR0.1 _ _ | assumption | exact ⟨by omega, by omega⟩ | exact ⟨by simp [wr_at]; omega, by simp [wr_at]; omega⟩ | exact b2_R _ | exact band_R _ _ | exact bor_R _ _ | exact bshl_R _ _ | exact bshr_R _ _ | exact bxor_R _ _ | exact bs_R (by omega) | decide) (fun h_11 => ?_) (fun h_11 => ?_)
    · refine ev_iload_n dX0_lastUntil_66 rfl ?_
      refine ev_ireturn dX0_lastUntil_67 ?_
      obtain rfl : i = n := by omega
      exact ⟨by rw [hacc], rfl⟩
    · refine ev_aload_n dX0_lastUntil_14 rfl ?_
      refine ev_getR (r := 66) dX0_lastUntil_15 fl_X0_15 rfl rfl rfl ?_
      refine ev_iload dX0_lastUntil_18 rfl ?_
      refine ev_iaload dX0_lastUntil_20 rfl (by first | omega | (simp [wr_at]; omega) | (simp [wr_at, *]; omega)) (by first | omega | (simp [wr_at]; omega) | (simp [wr_at, *]; omega)) (by decide) ?_
      refine ev_iload_n dX0_lastUntil_21 rfl ?_
      refine ev_icmp_ne (tgt := 60) dX0_lastUntil_22 (by decide) (by first | exact hR.1 _ _ | exact hR0.1 _ _ | assumption | exact ⟨by omega, by omega⟩ | exact ⟨by simp [wr_at]; omega, by simp [wr_at]; omega⟩ | exact b2_R _ | exact band_R _ _ | exact bor_R _ _ | exact bshl_R _ _ | exact bshr_R _ _ | exact bxor_R _ _ | exact bs_R (by omega) | decide) (by first | exact hR.1 _ _ | exact hR0.1 _ _ | assumption | exact ⟨by omega, by omega⟩ | exact ⟨by simp [wr_at]; omega, by simp [wr_at]; omega⟩ | exact b2_R _ | exact band_R _ _ | exact bor_R _ _ | exact bshl_R _ _ | exact bshr_R _ _ | exact bxor_R _ _ | exact bs_R (by omega) | decide) (fun h_22 => ?_) (fun h_22 => ?_)
      · refine ev_iinc dX0_lastUntil_60 rfl rfl (by decide) rfl ?_
        refine ev_goto (tgt := 5) dX0_lastUntil_63 (by decide) ?_
        refine ih (by omega) _ ?_
        rw [hs]
        first
          | (rw [if_neg (by omega)]; exact hacc)
          | rw [if_pos (by omega)]
      · refine ev_aload_n dX0_lastUntil_25 rfl ?_
        refine ev_getR (r := 68) dX0_lastUntil_26 fl_X0_22 rfl rfl rfl ?_
        refine ev_iload dX0_lastUntil_29 rfl ?_
        refine ev_iaload dX0_lastUntil_31 rfl (by first | omega | (simp [wr_at]; omega) | (simp [wr_at, *]; omega)) (by first | omega | (simp [wr_at]; omega) | (simp [wr_at, *]; omega)) (by decide) ?_
        refine ev_iload_n dX0_lastUntil_32 rfl ?_
        refine ev_icmp_gt (tgt := 60) dX0_lastUntil_33 (by decide) (by first | exact hR.1 _ _ | exact hR0.1 _ _ | assumption | exact ⟨by omega, by omega⟩ | exact ⟨by simp [wr_at]; omega, by simp [wr_at]; omega⟩ | exact b2_R _ | exact band_R _ _ | exact bor_R _ _ | exact bshl_R _ _ | exact bshr_R _ _ | exact bxor_R _ _ | exact bs_R (by omega) | decide) (by first | exact hR.1 _ _ | exact hR0.1 _ _ | assumption | exact ⟨by omega, by omega⟩ | exact ⟨by simp [wr_at]; omega, by simp [wr_at]; omega⟩ | exact b2_R _ | exact band_R _ _ | exact bor_R _ _ | exact bshl_R _ _ | exact bshr_R _ _ | exact bxor_R _ _ | exact bs_R (by omega) | decide) (fun h_33 => ?_) (fun h_33 => ?_)
        · refine ev_iinc dX0_lastUntil_60 rfl rfl (by decide) rfl ?_
          refine ev_goto (tgt := 5) dX0_lastUntil_63 (by decide) ?_
          refine ih (by omega) _ ?_
          rw [hs]
          first
            | (rw [if_neg (by omega)]; exact hacc)
            | rw [if_pos (by omega)]
        · refine ev_iload_n dX0_lastUntil_36 rfl ?_
          refine ev_iconst dX0_lastUntil_37 ?_
          refine ev_icmp_eq (tgt := 57) dX0_lastUntil_38 (by decide) (by first | exact hR.1 _ _ | exact hR0.1 _ _ | assumption | exact ⟨by omega, by omega⟩ | exact ⟨by simp [wr_at]; omega, by simp [wr_at]; omega⟩ | exact b2_R _ | exact band_R _ _ | exact bor_R _ _ | exact bshl_R _ _ | exact bshr_R _ _ | exact bxor_R _ _ | exact bs_R (by omega) | decide) (by first | exact hR.1 _ _ | exact hR0.1 _ _ | assumption | exact ⟨by omega, by omega⟩ | exact ⟨by simp [wr_at]; omega, by simp [wr_at]; omega⟩ | exact b2_R _ | exact band_R _ _ | exact bor_R _ _ | exact bshl_R _ _ | exact bshr_R _ _ | exact bxor_R _ _ | exact bs_R (by omega) | decide) (fun h_38 => ?_) (fun h_38 => ?_)
          · refine ev_iload dX0_lastUntil_57 rfl ?_
            refine ev_istore_n dX0_lastUntil_59 rfl (by decide) rfl ?_
            refine ev_iinc dX0_lastUntil_60 rfl rfl (by decide) rfl ?_
            refine ev_goto (tgt := 5) dX0_lastUntil_63 (by decide) ?_
            refine ih (by omega) _ ?_
            rw [hs]
            first
              | (rw [if_neg (by omega)]; exact hacc)
              | rw [if_pos (by omega)]
          · refine ev_aload_n dX0_lastUntil_41 rfl ?_
            refine ev_getR (r := 68) dX0_lastUntil_42 fl_X0_22 rfl rfl rfl ?_
            refine ev_iload dX0_lastUntil_45 rfl ?_
            refine ev_iaload dX0_lastUntil_47 rfl (by first | omega | (simp [wr_at]; omega) | (simp [wr_at, *]; omega)) (by first | omega | (simp [wr_at]; omega) | (simp [wr_at, *]; omega)) (by decide) ?_
            refine ev_aload_n dX0_lastUntil_48 rfl ?_
            refine ev_getR (r := 68) dX0_lastUntil_49 fl_X0_22 rfl rfl rfl ?_
            refine ev_iload_n dX0_lastUntil_52 rfl ?_
            refine ev_iaload dX0_lastUntil_53 rfl (by first | omega | (simp [wr_at]; omega) | (simp [wr_at, *]; omega)) (by first | omega | (simp [wr_at]; omega) | (simp [wr_at, *]; omega)) (by decide) ?_
            have hz : σ.1 68 acc = σ.1 68 ((lastU (fun i => σ.1 66 i) (fun i => σ.1 68 i) b w i).toNat : Nat) := by rw [hacc, Int.toNat_of_nonneg (by omega)]
            refine ev_icmp_lt (tgt := 60) dX0_lastUntil_54 (by decide) (by first | exact hR.1 _ _ | exact hR0.1 _ _ | assumption | exact ⟨by omega, by omega⟩ | exact ⟨by simp [wr_at]; omega, by simp [wr_at]; omega⟩ | exact b2_R _ | exact band_R _ _ | exact bor_R _ _ | exact bshl_R _ _ | exact bshr_R _ _ | exact bxor_R _ _ | exact bs_R (by omega) | decide) (by first | exact hR.1 _ _ | exact hR0.1 _ _ | assumption | exact ⟨by omega, by omega⟩ | exact ⟨by simp [wr_at]; omega, by simp [wr_at]; omega⟩ | exact b2_R _ | exact band_R _ _ | exact bor_R _ _ | exact bshl_R _ _ | exact bshr_R _ _ | exact bxor_R _ _ | exact bs_R (by omega) | decide) (fun h_54 => ?_) (fun h_54 => ?_)
            · refine ev_iinc dX0_lastUntil_60 rfl rfl (by decide) rfl ?_
              refine ev_goto (tgt := 5) dX0_lastUntil_63 (by decide) ?_
              refine ih (by omega) _ ?_
              rw [hs]
              first
                | (rw [if_neg (by omega)]; exact hacc)
                | rw [if_pos (by omega)]
            · refine ev_iload dX0_lastUntil_57 rfl ?_
              refine ev_istore_n dX0_lastUntil_59 rfl (by decide) rfl ?_
              refine ev_iinc dX0_lastUntil_60 rfl rfl (by decide) rfl ?_
              refine ev_goto (tgt := 5) dX0_lastUntil_63 (by decide) ?_
              refine ih (by omega) _ ?_
              rw [hs]
              first
                | (rw [if_neg (by omega)]; exact hacc)
                | rw [if_pos (by omega)]
  refine ev_iconst dX0_lastUntil_0 ?_
  refine ev_istore_n dX0_lastUntil_1 rfl (by decide) rfl ?_
  refine ev_iconst dX0_lastUntil_2 ?_
  refine ev_istore dX0_lastUntil_3 rfl (by decide) rfl ?_
  exact loop 0 (by omega) _ rfl
theorem k_firstAfter (σ : Mem) (b w : Int) (n : Nat) (hb : inR b) (hw : inR w) (hn : σ.1 65 0 = n) (hn20 : n ≤ 20) : Con yX0_firstAfter cX0_firstAfter 5 (some .int) 0 0 [.ref 65, .int (iI b), .int (iI w)] σ (AnsI (nextA (fun i => σ.1 66 i) (fun i => σ.1 68 i) b w n) σ) := by
  refine con_of (by decide) rfl (Nat.le_of_ble_eq_true rfl) (ok_I rfl) ?_
  refine ev_w (fun hR => ?_)
  have hR0 := hR
  have loop : ∀ i : Nat, i ≤ n → ∀ acc : Int, acc = nextA (fun i => σ.1 66 i) (fun i => σ.1 68 i) b w i → Ev RX0 cX0_firstAfter 5 0 0 (AnsI (nextA (fun i => σ.1 66 i) (fun i => σ.1 68 i) b w n) σ) 5 [some (.ref 65), some (.int (iI b)), some (.int (iI w)), some (.int (iI acc)), some (.int (iI (i : Nat)))] [] σ := by
    refine for_up n (fun i hi ih acc hacc => ?_)
    refine ev_w (fun hR => ?_)
    have hr := nextA_R (fun i => σ.1 66 i) (fun i => σ.1 68 i) b w i
    have hs : nextA (fun i => σ.1 66 i) (fun i => σ.1 68 i) b w (i + 1) = if σ.1 66 i = b ∧ ¬ σ.1 68 i ≤ w ∧ (nextA (fun i => σ.1 66 i) (fun i => σ.1 68 i) b w i = -1 ∨ σ.1 68 i < σ.1 68 ((nextA (fun i => σ.1 66 i) (fun i => σ.1 68 i) b w i).toNat : Nat)) then (i : Int) else nextA (fun i => σ.1 66 i) (fun i => σ.1 68 i) b w i := rfl
    refine ev_iload dX0_firstAfter_5 rfl ?_
    refine ev_aload_n dX0_firstAfter_7 rfl ?_
    refine ev_getI (kz := 0) dX0_firstAfter_8 fl_X0_9 rfl rfl rfl ?_
    rw [hn]
    refine ev_icmp_ge (tgt := 66) dX0_firstAfter_11 (by decide) (by first | exact hR.1 _ _ | exact hR0.1 _ _ | assumption | exact ⟨by omega, by omega⟩ | exact ⟨by simp [wr_at]; omega, by simp [wr_at]; omega⟩ | exact b2_R _ | exact band_R _ _ | exact bor_R _ _ | exact bshl_R _ _ | exact bshr_R _ _ | exact bxor_R _ _ | exact bs_R (by omega) | decide) (by first | exact hR.1 _ _ | exact hR0.1 _ _ | assumption | exact ⟨by omega, by omega⟩ | exact ⟨by simp [wr_at]; omega, by simp [wr_at]; omega⟩ | exact b2_R _ | exact band_R _ _ | exact bor_R _ _ | exact bshl_R _ _ | exact bshr_R _ _ | exact bxor_R _ _ | exact bs_R (by omega) | decide) (fun h_11 => ?_) (fun h_11 => ?_)
    · refine ev_iload_n dX0_firstAfter_66 rfl ?_
      refine ev_ireturn dX0_firstAfter_67 ?_
      obtain rfl : i = n := by omega
      exact ⟨by rw [hacc], rfl⟩
    · refine ev_aload_n dX0_firstAfter_14 rfl ?_
      refine ev_getR (r := 66) dX0_firstAfter_15 fl_X0_15 rfl rfl rfl ?_
      refine ev_iload dX0_firstAfter_18 rfl ?_
      refine ev_iaload dX0_firstAfter_20 rfl (by first | omega | (simp [wr_at]; omega) | (simp [wr_at, *]; omega)) (by first | omega | (simp [wr_at]; omega) | (simp [wr_at, *]; omega)) (by decide) ?_
      refine ev_iload_n dX0_firstAfter_21 rfl ?_
      refine ev_icmp_ne (tgt := 60) dX0_firstAfter_22 (by decide) (by first | exact hR.1 _ _ | exact hR0.1 _ _ | assumption | exact ⟨by omega, by omega⟩ | exact ⟨by simp [wr_at]; omega, by simp [wr_at]; omega⟩ | exact b2_R _ | exact band_R _ _ | exact bor_R _ _ | exact bshl_R _ _ | exact bshr_R _ _ | exact bxor_R _ _ | exact bs_R (by omega) | decide) (by first | exact hR.1 _ _ | exact hR0.1 _ _ | assumption | exact ⟨by omega, by omega⟩ | exact ⟨by simp [wr_at]; omega, by simp [wr_at]; omega⟩ | exact b2_R _ | exact band_R _ _ | exact bor_R _ _ | exact bshl_R _ _ | exact bshr_R _ _ | exact bxor_R _ _ | exact bs_R (by omega) | decide) (fun h_22 => ?_) (fun h_22 => ?_)
      · refine ev_iinc dX0_firstAfter_60 rfl rfl (by decide) rfl ?_
        refine ev_goto (tgt := 5) dX0_firstAfter_63 (by decide) ?_
        refine ih (by omega) _ ?_
        rw [hs]
        first
          | (rw [if_neg (by omega)]; exact hacc)
          | rw [if_pos (by omega)]
      · refine ev_aload_n dX0_firstAfter_25 rfl ?_
        refine ev_getR (r := 68) dX0_firstAfter_26 fl_X0_22 rfl rfl rfl ?_
        refine ev_iload dX0_firstAfter_29 rfl ?_
        refine ev_iaload dX0_firstAfter_31 rfl (by first | omega | (simp [wr_at]; omega) | (simp [wr_at, *]; omega)) (by first | omega | (simp [wr_at]; omega) | (simp [wr_at, *]; omega)) (by decide) ?_
        refine ev_iload_n dX0_firstAfter_32 rfl ?_
        refine ev_icmp_le (tgt := 60) dX0_firstAfter_33 (by decide) (by first | exact hR.1 _ _ | exact hR0.1 _ _ | assumption | exact ⟨by omega, by omega⟩ | exact ⟨by simp [wr_at]; omega, by simp [wr_at]; omega⟩ | exact b2_R _ | exact band_R _ _ | exact bor_R _ _ | exact bshl_R _ _ | exact bshr_R _ _ | exact bxor_R _ _ | exact bs_R (by omega) | decide) (by first | exact hR.1 _ _ | exact hR0.1 _ _ | assumption | exact ⟨by omega, by omega⟩ | exact ⟨by simp [wr_at]; omega, by simp [wr_at]; omega⟩ | exact b2_R _ | exact band_R _ _ | exact bor_R _ _ | exact bshl_R _ _ | exact bshr_R _ _ | exact bxor_R _ _ | exact bs_R (by omega) | decide) (fun h_33 => ?_) (fun h_33 => ?_)
        · refine ev_iinc dX0_firstAfter_60 rfl rfl (by decide) rfl ?_
          refine ev_goto (tgt := 5) dX0_firstAfter_63 (by decide) ?_
          refine ih (by omega) _ ?_
          rw [hs]
          first
            | (rw [if_neg (by omega)]; exact hacc)
            | rw [if_pos (by omega)]
        · refine ev_iload_n dX0_firstAfter_36 rfl ?_
          refine ev_iconst dX0_firstAfter_37 ?_
          refine ev_icmp_eq (tgt := 57) dX0_firstAfter_38 (by decide) (by first | exact hR.1 _ _ | exact hR0.1 _ _ | assumption | exact ⟨by omega, by omega⟩ | exact ⟨by simp [wr_at]; omega, by simp [wr_at]; omega⟩ | exact b2_R _ | exact band_R _ _ | exact bor_R _ _ | exact bshl_R _ _ | exact bshr_R _ _ | exact bxor_R _ _ | exact bs_R (by omega) | decide) (by first | exact hR.1 _ _ | exact hR0.1 _ _ | assumption | exact ⟨by omega, by omega⟩ | exact ⟨by simp [wr_at]; omega, by simp [wr_at]; omega⟩ | exact b2_R _ | exact band_R _ _ | exact bor_R _ _ | exact bshl_R _ _ | exact bshr_R _ _ | exact bxor_R _ _ | exact bs_R (by omega) | decide) (fun h_38 => ?_) (fun h_38 => ?_)
          · refine ev_iload dX0_firstAfter_57 rfl ?_
            refine ev_istore_n dX0_firstAfter_59 rfl (by decide) rfl ?_
            refine ev_iinc dX0_firstAfter_60 rfl rfl (by decide) rfl ?_
            refine ev_goto (tgt := 5) dX0_firstAfter_63 (by decide) ?_
            refine ih (by omega) _ ?_
            rw [hs]
            first
              | (rw [if_neg (by omega)]; exact hacc)
              | rw [if_pos (by omega)]
          · refine ev_aload_n dX0_firstAfter_41 rfl ?_
            refine ev_getR (r := 68) dX0_firstAfter_42 fl_X0_22 rfl rfl rfl ?_
            refine ev_iload dX0_firstAfter_45 rfl ?_
            refine ev_iaload dX0_firstAfter_47 rfl (by first | omega | (simp [wr_at]; omega) | (simp [wr_at, *]; omega)) (by first | omega | (simp [wr_at]; omega) | (simp [wr_at, *]; omega)) (by decide) ?_
            refine ev_aload_n dX0_firstAfter_48 rfl ?_
            refine ev_getR (r := 68) dX0_firstAfter_49 fl_X0_22 rfl rfl rfl ?_
            refine ev_iload_n dX0_firstAfter_52 rfl ?_
            refine ev_iaload dX0_firstAfter_53 rfl (by first | omega | (simp [wr_at]; omega) | (simp [wr_at, *]; omega)) (by first | omega | (simp [wr_at]; omega) | (simp [wr_at, *]; omega)) (by decide) ?_
            have hz : σ.1 68 acc = σ.1 68 ((nextA (fun i => σ.1 66 i) (fun i => σ.1 68 i) b w i).toNat : Nat) := by rw [hacc, Int.toNat_of_nonneg (by omega)]
            refine ev_icmp_ge (tgt := 60) dX0_firstAfter_54 (by decide) (by first | exact hR.1 _ _ | exact hR0.1 _ _ | assumption | exact ⟨by omega, by omega⟩ | exact ⟨by simp [wr_at]; omega, by simp [wr_at]; omega⟩ | exact b2_R _ | exact band_R _ _ | exact bor_R _ _ | exact bshl_R _ _ | exact bshr_R _ _ | exact bxor_R _ _ | exact bs_R (by omega) | decide) (by first | exact hR.1 _ _ | exact hR0.1 _ _ | assumption | exact ⟨by omega, by omega⟩ | exact ⟨by simp [wr_at]; omega, by simp [wr_at]; omega⟩ | exact b2_R _ | exact band_R _ _ | exact bor_R _ _ | exact bshl_R _ _ | exact bshr_R _ _ | exact bxor_R _ _ | exact bs_R (by omega) | decide) (fun h_54 => ?_) (fun h_54 => ?_)
            · refine ev_iinc dX0_firstAfter_60 rfl rfl (by decide) rfl ?_
              refine ev_goto (tgt := 5) dX0_firstAfter_63 (by decide) ?_
              refine ih (by omega) _ ?_
              rw [hs]
              first
                | (rw [if_neg (by omega)]; exact hacc)
                | rw [if_pos (by omega)]
            · refine ev_iload dX0_firstAfter_57 rfl ?_
              refine ev_istore_n dX0_firstAfter_59 rfl (by decide) rfl ?_
              refine ev_iinc dX0_firstAfter_60 rfl rfl (by decide) rfl ?_
              refine ev_goto (tgt := 5) dX0_firstAfter_63 (by decide) ?_
              refine ih (by omega) _ ?_
              rw [hs]
              first
                | (rw [if_neg (by omega)]; exact hacc)
                | rw [if_pos (by omega)]
  refine ev_iconst dX0_firstAfter_0 ?_
  refine ev_istore_n dX0_firstAfter_1 rfl (by decide) rfl ?_
  refine ev_iconst dX0_firstAfter_2 ?_
  refine ev_istore dX0_firstAfter_3 rfl (by decide) rfl ?_
  exact loop 0 (by omega) _ rfl
theorem k_toldAhead (σ : Mem) (i : Nat) (hi : i < 20) : Con yX0_toldAhead cX0_toldAhead 3 (some .int) 0 0 [.ref 65, .int (iI i)] σ (AnsI (lstI (fun k => σ.1 66 k) (σ.1 66 i) i) σ) := by
  refine con_of (by decide) rfl (Nat.le_of_ble_eq_true rfl) (ok_I rfl) ?_
  refine ev_w (fun hR => ?_)
  have hR0 := hR
  have loop : ∀ k : Nat, k ≤ i → lstI (fun k => σ.1 66 k) (σ.1 66 i) i = lstI (fun k => σ.1 66 k) (σ.1 66 i) k → Ev RX0 cX0_toldAhead 3 0 0 (AnsI (lstI (fun k => σ.1 66 k) (σ.1 66 i) i) σ) 4 [some (.ref 65), some (.int (iI i)), some (.int (iI ((k : Int) - 1)))] [] σ := by
    intro k
    induction k with
    | zero =>
      intro hk he
      refine ev_w (fun hR => ?_)
      refine ev_iload_n dX0_toldAhead_4 rfl ?_
      refine ev_if_lt (tgt := 31) dX0_toldAhead_5 (by decide) (by first | exact hR.1 _ _ | exact hR0.1 _ _ | assumption | exact ⟨by omega, by omega⟩ | exact ⟨by simp [wr_at]; omega, by simp [wr_at]; omega⟩ | exact b2_R _ | exact band_R _ _ | exact bor_R _ _ | exact bshl_R _ _ | exact bshr_R _ _ | exact bxor_R _ _ | exact bs_R (by omega) | decide) (fun h_5 => ?_) (fun h_5 => ?_)
      · refine ev_iconst dX0_toldAhead_31 ?_
        refine ev_ireturn dX0_toldAhead_32 ?_
        exact ⟨by rw [he]; rfl, rfl⟩
      · omega
    | succ k ih =>
      intro hk he
      refine ev_w (fun hR => ?_)
      have e1 : (((k + 1 : Nat) : Int) - 1) = (k : Int) := by omega
      rw [e1]
      refine ev_iload_n dX0_toldAhead_4 rfl ?_
      refine ev_if_lt (tgt := 31) dX0_toldAhead_5 (by decide) (by first | exact hR.1 _ _ | exact hR0.1 _ _ | assumption | exact ⟨by omega, by omega⟩ | exact ⟨by simp [wr_at]; omega, by simp [wr_at]; omega⟩ | exact b2_R _ | exact band_R _ _ | exact bor_R _ _ | exact bshl_R _ _ | exact bshr_R _ _ | exact bxor_R _ _ | exact bs_R (by omega) | decide) (fun h_5 => ?_) (fun h_5 => ?_)
      · omega
      · refine ev_aload_n dX0_toldAhead_8 rfl ?_
        refine ev_getR (r := 66) dX0_toldAhead_9 fl_X0_15 rfl rfl rfl ?_
        refine ev_iload_n dX0_toldAhead_12 rfl ?_
        refine ev_iaload dX0_toldAhead_13 rfl (by first | omega | (simp [wr_at]; omega) | (simp [wr_at, *]; omega)) (by first | omega | (simp [wr_at]; omega) | (simp [wr_at, *]; omega)) (by decide) ?_
        refine ev_aload_n dX0_toldAhead_14 rfl ?_
        refine ev_getR (r := 66) dX0_toldAhead_15 fl_X0_15 rfl rfl rfl ?_
        refine ev_iload_n dX0_toldAhead_18 rfl ?_
        refine ev_iaload dX0_toldAhead_19 rfl (by first | omega | (simp [wr_at]; omega) | (simp [wr_at, *]; omega)) (by first | omega | (simp [wr_at]; omega) | (simp [wr_at, *]; omega)) (by decide) ?_
        refine ev_icmp_ne (tgt := 25) dX0_toldAhead_20 (by decide) (by first | exact hR.1 _ _ | exact hR0.1 _ _ | assumption | exact ⟨by omega, by omega⟩ | exact ⟨by simp [wr_at]; omega, by simp [wr_at]; omega⟩ | exact b2_R _ | exact band_R _ _ | exact bor_R _ _ | exact bshl_R _ _ | exact bshr_R _ _ | exact bxor_R _ _ | exact bs_R (by omega) | decide) (by first | exact hR.1 _ _ | exact hR0.1 _ _ | assumption | exact ⟨by omega, by omega⟩ | exact ⟨by simp [wr_at]; omega, by simp [wr_at]; omega⟩ | exact b2_R _ | exact band_R _ _ | exact bor_R _ _ | exact bshl_R _ _ | exact bshr_R _ _ | exact bxor_R _ _ | exact bs_R (by omega) | decide) (fun h_20 => ?_) (fun h_20 => ?_)
        · refine ev_iinc dX0_toldAhead_25 rfl rfl (by decide) rfl ?_
          refine ev_goto (tgt := 4) dX0_toldAhead_28 (by decide) ?_
          exact ih (by omega) (by rw [he, lstI, if_neg (by assumption)])
        · refine ev_iload_n dX0_toldAhead_23 rfl ?_
          refine ev_ireturn dX0_toldAhead_24 ?_
          exact ⟨by rw [he, lstI, if_pos (by assumption)], rfl⟩
  refine ev_iload_n dX0_toldAhead_0 rfl ?_
  refine ev_iconst dX0_toldAhead_1 ?_
  refine ev_isub dX0_toldAhead_2 ?_
  refine ev_istore_n dX0_toldAhead_3 rfl (by decide) rfl ?_
  exact loop i (by omega) rfl
