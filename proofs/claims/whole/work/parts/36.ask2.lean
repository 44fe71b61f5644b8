def ringZ (k : Int) (A B : Int → Int) (i x : Int) : Int := if ¬ (0 ≤ x ∧ x ≤ 1) then -1000000002 else if ¬ (0 ≤ i ∧ i < k) then -1 else if x = 0 then A i else B i
theorem k_ring (σ : Mem) (i x : Int) (hi : inR i) (hx : inR x) (h0 : σ.1 37 6 ≤ 200) : Con yX7_ring cX7_ring 3 (some .int) 0 0 [.ref 0, .int (iI i), .int (iI x)] σ (AnsI (ringZ (σ.1 37 6) (σ.1 44) (σ.1 45) i x) σ) := by
  refine con_of (by decide) rfl (Nat.le_of_ble_eq_true rfl) (ok_I rfl) ?_
  refine ev_w (fun hR => ?_)
  have hR0 := hR
  refine ev_iload_n dX7_ring_0 rfl ?_
  refine ev_if_lt (tgt := 9) dX7_ring_1 (by decide) (by first | exact hR.1 _ _ | exact hR0.1 _ _ | assumption | exact ⟨by omega, by omega⟩ | exact ⟨by simp [wr_at]; omega, by simp [wr_at]; omega⟩ | exact b2_R _ | exact bC_R _ | exact band_R _ _ | exact bor_R _ _ | exact bshl_R _ _ | exact bshr_R _ _ | exact bxor_R _ _ | exact bs_R (by omega) | decide) (fun h_1 => ?_) (fun h_1 => ?_)
  · refine ev_ldc (z := -1000000002) dX7_ring_9 kc_X7_73 (by decide) ?_
    refine ev_ireturn dX7_ring_11 ?_
    exact ⟨by rw [ringZ, if_pos (by omega)], rfl⟩
  · refine ev_iload_n dX7_ring_4 rfl ?_
    refine ev_iconst dX7_ring_5 ?_
    refine ev_icmp_le (tgt := 12) dX7_ring_6 (by decide) (by first | exact hR.1 _ _ | exact hR0.1 _ _ | assumption | exact ⟨by omega, by omega⟩ | exact ⟨by simp [wr_at]; omega, by simp [wr_at]; omega⟩ | exact b2_R _ | exact bC_R _ | exact band_R _ _ | exact bor_R _ _ | exact bshl_R _ _ | exact bshr_R _ _ | exact bxor_R _ _ | exact bs_R (by omega) | decide) (by first | exact hR.1 _ _ | exact hR0.1 _ _ | assumption | exact ⟨by omega, by omega⟩ | exact ⟨by simp [wr_at]; omega, by simp [wr_at]; omega⟩ | exact b2_R _ | exact bC_R _ | exact band_R _ _ | exact bor_R _ _ | exact bshl_R _ _ | exact bshr_R _ _ | exact bxor_R _ _ | exact bs_R (by omega) | decide) (fun h_6 => ?_) (fun h_6 => ?_)
    · refine ev_iload_n dX7_ring_12 rfl ?_
      refine ev_if_lt (tgt := 27) dX7_ring_13 (by decide) (by first | exact hR.1 _ _ | exact hR0.1 _ _ | assumption | exact ⟨by omega, by omega⟩ | exact ⟨by simp [wr_at]; omega, by simp [wr_at]; omega⟩ | exact b2_R _ | exact bC_R _ | exact band_R _ _ | exact bor_R _ _ | exact bshl_R _ _ | exact bshr_R _ _ | exact bxor_R _ _ | exact bs_R (by omega) | decide) (fun h_13 => ?_) (fun h_13 => ?_)
      · refine ev_iconst dX7_ring_27 ?_
        refine ev_ireturn dX7_ring_28 ?_
        exact ⟨by rw [ringZ, if_neg (by omega), if_pos (by omega)], rfl⟩
      · refine ev_iload_n dX7_ring_16 rfl ?_
        refine ev_aload_n dX7_ring_17 rfl ?_
        refine ev_getR (r := 37) dX7_ring_18 fl_X7_29 rfl rfl rfl ?_
        refine ev_getI (kz := 6) dX7_ring_21 fl_X7_116 rfl rfl rfl ?_
        refine ev_icmp_lt (tgt := 29) dX7_ring_24 (by decide) (by first | exact hR.1 _ _ | exact hR0.1 _ _ | assumption | exact ⟨by omega, by omega⟩ | exact ⟨by simp [wr_at]; omega, by simp [wr_at]; omega⟩ | exact b2_R _ | exact bC_R _ | exact band_R _ _ | exact bor_R _ _ | exact bshl_R _ _ | exact bshr_R _ _ | exact bxor_R _ _ | exact bs_R (by omega) | decide) (by first | exact hR.1 _ _ | exact hR0.1 _ _ | assumption | exact ⟨by omega, by omega⟩ | exact ⟨by simp [wr_at]; omega, by simp [wr_at]; omega⟩ | exact b2_R _ | exact bC_R _ | exact band_R _ _ | exact bor_R _ _ | exact bshl_R _ _ | exact bshr_R _ _ | exact bxor_R _ _ | exact bs_R (by omega) | decide) (fun h_24 => ?_) (fun h_24 => ?_)
        · refine ev_iload_n dX7_ring_29 rfl ?_
          refine ev_if_ne (tgt := 45) dX7_ring_30 (by decide) (by first | exact hR.1 _ _ | exact hR0.1 _ _ | assumption | exact ⟨by omega, by omega⟩ | exact ⟨by simp [wr_at]; omega, by simp [wr_at]; omega⟩ | exact b2_R _ | exact bC_R _ | exact band_R _ _ | exact bor_R _ _ | exact bshl_R _ _ | exact bshr_R _ _ | exact bxor_R _ _ | exact bs_R (by omega) | decide) (fun h_30 => ?_) (fun h_30 => ?_)
          · refine ev_aload_n dX7_ring_45 rfl ?_
            refine ev_getR (r := 37) dX7_ring_46 fl_X7_29 rfl rfl rfl ?_
            refine ev_getR (r := 45) dX7_ring_49 fl_X7_255 rfl rfl rfl ?_
            refine ev_iload_n dX7_ring_52 rfl ?_
            refine ev_iaload dX7_ring_53 rfl (by first | omega | (simp [wr_at]; omega) | (simp [wr_at, *]; omega)) (by first | omega | (simp [wr_at]; omega) | (simp [wr_at, *]; omega)) (by decide) ?_
            refine ev_ireturn dX7_ring_54 ?_
            first
              | (have z : x = 0 := h_30; exact ⟨by rw [ringZ, if_neg (by omega), if_neg (by omega), if_pos z], rfl⟩)
              | (have z : ¬ x = 0 := h_30; exact ⟨by rw [ringZ, if_neg (by omega), if_neg (by omega), if_neg z], rfl⟩)
          · refine ev_aload_n dX7_ring_33 rfl ?_
            refine ev_getR (r := 37) dX7_ring_34 fl_X7_29 rfl rfl rfl ?_
            refine ev_getR (r := 44) dX7_ring_37 fl_X7_252 rfl rfl rfl ?_
            refine ev_iload_n dX7_ring_40 rfl ?_
            refine ev_iaload dX7_ring_41 rfl (by first | omega | (simp [wr_at]; omega) | (simp [wr_at, *]; omega)) (by first | omega | (simp [wr_at]; omega) | (simp [wr_at, *]; omega)) (by decide) ?_
            refine ev_goto (tgt := 54) dX7_ring_42 (by decide) ?_
            refine ev_ireturn dX7_ring_54 ?_
            first
              | (have z : x = 0 := h_30; exact ⟨by rw [ringZ, if_neg (by omega), if_neg (by omega), if_pos z], rfl⟩)
              | (have z : ¬ x = 0 := h_30; exact ⟨by rw [ringZ, if_neg (by omega), if_neg (by omega), if_neg z], rfl⟩)
        · refine ev_iconst dX7_ring_27 ?_
          refine ev_ireturn dX7_ring_28 ?_
          exact ⟨by rw [ringZ, if_neg (by omega), if_pos (by omega)], rfl⟩
    · refine ev_ldc (z := -1000000002) dX7_ring_9 kc_X7_73 (by decide) ?_
      refine ev_ireturn dX7_ring_11 ?_
      exact ⟨by rw [ringZ, if_pos (by omega)], rfl⟩
def two (n : Int) (p q : Int) : Prop := (0 ≤ p ∧ p < n) ∧ (0 ≤ q ∧ q < n) ∧ p ≠ q
def oddsZ (n : Int) (A : Int → Int → Int) (p q wd : Int) : Int := if ¬ ((0 ≤ p ∧ p < n) ∧ (0 ≤ q ∧ q < n) ∧ p ≠ q) then -1000000001 else if ¬ (0 ≤ wd ∧ wd ≤ 99) then -1000000002 else max 0 (100 - A p q - wd)
theorem k_odds (σ : Mem) (P n nr nb nl w wt : Nat) (f t : Nat → Nat) (hPO : PlanOk σ P n nr nb nl f t) (hPI : PlIs σ P) (hBt : Bits σ w wt) (p q wd : Int) (hp : inR p) (hq : inR q) (hwd : inR wd) : Con yX7_odds cX7_odds 4 (some .int) 3 66 [.ref 0, .int (iI p), .int (iI q), .int (iI wd)] σ (AnsI (oddsZ n (apartZ σ (P + 1) (P + 2)) p q wd) σ) := by
  refine con_of (by decide) rfl (Nat.le_of_ble_eq_true rfl) (ok_I rfl) ?_
  refine ev_w (fun hR => ?_)
  have hR0 := hR
  obtain ⟨hPR, ⟨hnb, hnb4⟩, ⟨hnl, hnl4⟩, hpo, hro, hbo, hlo⟩ := id hPO
  obtain ⟨hP, hn, hn8, hnr, hnr12, hft⟩ := id hPR
  obtain ⟨hw, hw2, hwt, hwt2⟩ := id hBt
  have hpl := hPI.q
  refine ev_aload_n dX7_odds_0 rfl ?_
  refine ev_iload_n dX7_odds_1 rfl ?_
  refine ev_callVI dX7_odds_2 kv_X7_122 (k_isPole σ p P hp hP hpl) rfl rfl (ci := 7) rfl rfl ⟨by decide, by decide⟩ (Nat.le_of_ble_eq_true rfl) ?_
  refine ev_w (fun hR => ?_)
  rw [hn]
  refine ev_if_eq (tgt := 21) dX7_odds_5 (by decide) (by first | exact hR.1 _ _ | exact hR0.1 _ _ | assumption | exact ⟨by omega, by omega⟩ | exact ⟨by simp [wr_at]; omega, by simp [wr_at]; omega⟩ | exact b2_R _ | exact bC_R _ | exact band_R _ _ | exact bor_R _ _ | exact bshl_R _ _ | exact bshr_R _ _ | exact bxor_R _ _ | exact bs_R (by omega) | decide) (fun h_5 => ?_) (fun h_5 => ?_)
  · refine ev_ldc (z := -1000000001) dX7_odds_21 kc_X7_126 (by decide) ?_
    refine ev_ireturn dX7_odds_23 ?_
    first
      | (have z := b2_eq h_5; exact ⟨by rw [oddsZ, if_pos (fun y => z y.1)], rfl⟩)
      | (have z := b2_eq h_13; exact ⟨by rw [oddsZ, if_pos (fun y => z y.2.1)], rfl⟩)
      | exact ⟨by rw [oddsZ, if_pos (by omega)], rfl⟩
  · refine ev_aload_n dX7_odds_8 rfl ?_
    refine ev_iload_n dX7_odds_9 rfl ?_
    refine ev_callVI dX7_odds_10 kv_X7_122 (k_isPole σ q P hq hP hpl) rfl rfl (ci := 7) rfl rfl ⟨by decide, by decide⟩ (Nat.le_of_ble_eq_true rfl) ?_
    refine ev_w (fun hR => ?_)
    rw [hn]
    refine ev_if_eq (tgt := 21) dX7_odds_13 (by decide) (by first | exact hR.1 _ _ | exact hR0.1 _ _ | assumption | exact ⟨by omega, by omega⟩ | exact ⟨by simp [wr_at]; omega, by simp [wr_at]; omega⟩ | exact b2_R _ | exact bC_R _ | exact band_R _ _ | exact bor_R _ _ | exact bshl_R _ _ | exact bshr_R _ _ | exact bxor_R _ _ | exact bs_R (by omega) | decide) (fun h_13 => ?_) (fun h_13 => ?_)
    · refine ev_ldc (z := -1000000001) dX7_odds_21 kc_X7_126 (by decide) ?_
      refine ev_ireturn dX7_odds_23 ?_
      first
        | (have z := b2_eq h_5; exact ⟨by rw [oddsZ, if_pos (fun y => z y.1)], rfl⟩)
        | (have z := b2_eq h_13; exact ⟨by rw [oddsZ, if_pos (fun y => z y.2.1)], rfl⟩)
        | exact ⟨by rw [oddsZ, if_pos (by omega)], rfl⟩
    · have q1 := b2_ne h_5
      have q2 := b2_ne h_13
      obtain ⟨p, rfl⟩ := Int.eq_ofNat_of_zero_le q1.1
      obtain ⟨q, rfl⟩ := Int.eq_ofNat_of_zero_le q2.1
      refine ev_iload_n dX7_odds_16 rfl ?_
      refine ev_iload_n dX7_odds_17 rfl ?_
      refine ev_icmp_ne (tgt := 24) dX7_odds_18 (by decide) (by first | exact hR.1 _ _ | exact hR0.1 _ _ | assumption | exact ⟨by omega, by omega⟩ | exact ⟨by simp [wr_at]; omega, by simp [wr_at]; omega⟩ | exact b2_R _ | exact bC_R _ | exact band_R _ _ | exact bor_R _ _ | exact bshl_R _ _ | exact bshr_R _ _ | exact bxor_R _ _ | exact bs_R (by omega) | decide) (by first | exact hR.1 _ _ | exact hR0.1 _ _ | assumption | exact ⟨by omega, by omega⟩ | exact ⟨by simp [wr_at]; omega, by simp [wr_at]; omega⟩ | exact b2_R _ | exact bC_R _ | exact band_R _ _ | exact bor_R _ _ | exact bshl_R _ _ | exact bshr_R _ _ | exact bxor_R _ _ | exact bs_R (by omega) | decide) (fun h_18 => ?_) (fun h_18 => ?_)
      · refine ev_iload_n dX7_odds_24 rfl ?_
        refine ev_if_lt (tgt := 34) dX7_odds_25 (by decide) (by first | exact hR.1 _ _ | exact hR0.1 _ _ | assumption | exact ⟨by omega, by omega⟩ | exact ⟨by simp [wr_at]; omega, by simp [wr_at]; omega⟩ | exact b2_R _ | exact bC_R _ | exact band_R _ _ | exact bor_R _ _ | exact bshl_R _ _ | exact bshr_R _ _ | exact bxor_R _ _ | exact bs_R (by omega) | decide) (fun h_25 => ?_) (fun h_25 => ?_)
        · refine ev_ldc (z := -1000000002) dX7_odds_34 kc_X7_73 (by decide) ?_
          refine ev_ireturn dX7_odds_36 ?_
          exact ⟨by rw [oddsZ, if_neg (by omega), if_pos (by omega)], rfl⟩
        · refine ev_iload_n dX7_odds_28 rfl ?_
          refine ev_bipush dX7_odds_29 (by decide) ?_
          refine ev_icmp_le (tgt := 37) dX7_odds_31 (by decide) (by first | exact hR.1 _ _ | exact hR0.1 _ _ | assumption | exact ⟨by omega, by omega⟩ | exact ⟨by simp [wr_at]; omega, by simp [wr_at]; omega⟩ | exact b2_R _ | exact bC_R _ | exact band_R _ _ | exact bor_R _ _ | exact bshl_R _ _ | exact bshr_R _ _ | exact bxor_R _ _ | exact bs_R (by omega) | decide) (by first | exact hR.1 _ _ | exact hR0.1 _ _ | assumption | exact ⟨by omega, by omega⟩ | exact ⟨by simp [wr_at]; omega, by simp [wr_at]; omega⟩ | exact b2_R _ | exact bC_R _ | exact band_R _ _ | exact bor_R _ _ | exact bshl_R _ _ | exact bshr_R _ _ | exact bxor_R _ _ | exact bs_R (by omega) | decide) (fun h_31 => ?_) (fun h_31 => ?_)
          · refine ev_aload_n dX7_odds_37 rfl ?_
            refine ev_iload_n dX7_odds_38 rfl ?_
            refine ev_iload_n dX7_odds_39 rfl ?_
            refine ev_iload_n dX7_odds_40 rfl ?_
            refine ev_callVI dX7_odds_41 kv_X7_294 (k_throwOdds σ P n nr nb nl w wt f t hPO hPI hBt p q wd (by omega) (by omega) (by omega) (by omega)) rfl rfl (ci := 7) rfl rfl ⟨by decide, by decide⟩ (Nat.le_of_ble_eq_true rfl) ?_
            refine ev_w (fun hR => ?_)
            refine ev_ireturn dX7_odds_44 ?_
            exact ⟨by rw [oddsZ, if_neg (by omega), if_neg (by omega)], rfl⟩
          · refine ev_ldc (z := -1000000002) dX7_odds_34 kc_X7_73 (by decide) ?_
            refine ev_ireturn dX7_odds_36 ?_
            exact ⟨by rw [oddsZ, if_neg (by omega), if_pos (by omega)], rfl⟩
      · refine ev_ldc (z := -1000000001) dX7_odds_21 kc_X7_126 (by decide) ?_
        refine ev_ireturn dX7_odds_23 ?_
        first
          | (have z := b2_eq h_5; exact ⟨by rw [oddsZ, if_pos (fun y => z y.1)], rfl⟩)
          | (have z := b2_eq h_13; exact ⟨by rw [oddsZ, if_pos (fun y => z y.2.1)], rfl⟩)
          | exact ⟨by rw [oddsZ, if_pos (by omega)], rfl⟩
def orN (x : Int) : Int := if x ≥ 1000000 then -1 else x
def farZ (n nb : Int) (D : Nat → Nat → Nat → Int) (b p q : Int) : Int := if ¬ ((0 ≤ b ∧ b < nb) ∧ (0 ≤ p ∧ p < n) ∧ (0 ≤ q ∧ q < n)) then -1000000001 else orN (D b.toNat p.toNat q.toNat)
theorem k_far (σ : Mem) (P n nr nb nl w wt : Nat) (f t : Nat → Nat) (hPO : PlanOk σ P n nr nb nl f t) (hPI : PlIs σ P) (hBt : Bits σ w wt) (b p q : Int) (hb : inR b) (hp : inR p) (hq : inR q) : Con yX7_far cX7_far 4 (some .int) 6 141 [.ref 0, .int (iI b), .int (iI p), .int (iI q)] σ (AnsIP (farZ n nb (fun b => dst σ P n nr nl w wt f t b 0 0) b p q) (fun τ => Same sM σ τ)) := by
  refine con_of (by decide) rfl (Nat.le_of_ble_eq_true rfl) (ok_IP rfl) ?_
  refine ev_w (fun hR => ?_)
  have hR0 := hR
  obtain ⟨hPR, ⟨hnb, hnb4⟩, ⟨hnl, hnl4⟩, hpo, hro, hbo, hlo⟩ := id hPO
  obtain ⟨hP, hn, hn8, hnr, hnr12, hft⟩ := id hPR
  obtain ⟨hw, hw2, hwt, hwt2⟩ := id hBt
  have hpl := hPI.q
  refine ev_aload_n dX7_far_0 rfl ?_
  refine ev_iload_n dX7_far_1 rfl ?_
  refine ev_callVI dX7_far_2 kv_X7_171 (k_isBoy σ b P hb hP hpl) rfl rfl (ci := 7) rfl rfl ⟨by decide, by decide⟩ (Nat.le_of_ble_eq_true rfl) ?_
  refine ev_w (fun hR => ?_)
  rw [hnb]
  refine ev_if_eq (tgt := 24) dX7_far_5 (by decide) (by first | exact hR.1 _ _ | exact hR0.1 _ _ | assumption | exact ⟨by omega, by omega⟩ | exact ⟨by simp [wr_at]; omega, by simp [wr_at]; omega⟩ | exact b2_R _ | exact bC_R _ | exact band_R _ _ | exact bor_R _ _ | exact bshl_R _ _ | exact bshr_R _ _ | exact bxor_R _ _ | exact bs_R (by omega) | decide) (fun h_5 => ?_) (fun h_5 => ?_)
  · refine ev_ldc (z := -1000000001) dX7_far_24 kc_X7_126 (by decide) ?_
    refine ev_ireturn dX7_far_26 ?_
    first
      | (have z := b2_eq h_5; exact ⟨by rw [farZ, if_pos (fun y => z y.1)], Same.rf⟩)
      | (have z := b2_eq h_13; exact ⟨by rw [farZ, if_pos (fun y => z y.2.1)], Same.rf⟩)
      | (have z := b2_eq h_21; exact ⟨by rw [farZ, if_pos (fun y => z y.2.2)], Same.rf⟩)
      | (have z := b2_eq (Decidable.not_not.mp h_21); exact ⟨by rw [farZ, if_pos (fun y => z y.2.2)], Same.rf⟩)
  · refine ev_aload_n dX7_far_8 rfl ?_
    refine ev_iload_n dX7_far_9 rfl ?_
    refine ev_callVI dX7_far_10 kv_X7_122 (k_isPole σ p P hp hP hpl) rfl rfl (ci := 7) rfl rfl ⟨by decide, by decide⟩ (Nat.le_of_ble_eq_true rfl) ?_
    refine ev_w (fun hR => ?_)
    rw [hn]
    refine ev_if_eq (tgt := 24) dX7_far_13 (by decide) (by first | exact hR.1 _ _ | exact hR0.1 _ _ | assumption | exact ⟨by omega, by omega⟩ | exact ⟨by simp [wr_at]; omega, by simp [wr_at]; omega⟩ | exact b2_R _ | exact bC_R _ | exact band_R _ _ | exact bor_R _ _ | exact bshl_R _ _ | exact bshr_R _ _ | exact bxor_R _ _ | exact bs_R (by omega) | decide) (fun h_13 => ?_) (fun h_13 => ?_)
    · refine ev_ldc (z := -1000000001) dX7_far_24 kc_X7_126 (by decide) ?_
      refine ev_ireturn dX7_far_26 ?_
      first
        | (have z := b2_eq h_5; exact ⟨by rw [farZ, if_pos (fun y => z y.1)], Same.rf⟩)
        | (have z := b2_eq h_13; exact ⟨by rw [farZ, if_pos (fun y => z y.2.1)], Same.rf⟩)
        | (have z := b2_eq h_21; exact ⟨by rw [farZ, if_pos (fun y => z y.2.2)], Same.rf⟩)
        | (have z := b2_eq (Decidable.not_not.mp h_21); exact ⟨by rw [farZ, if_pos (fun y => z y.2.2)], Same.rf⟩)
    · refine ev_aload_n dX7_far_16 rfl ?_
      refine ev_iload_n dX7_far_17 rfl ?_
      refine ev_callVI dX7_far_18 kv_X7_122 (k_isPole σ q P hq hP hpl) rfl rfl (ci := 7) rfl rfl ⟨by decide, by decide⟩ (Nat.le_of_ble_eq_true rfl) ?_
      refine ev_w (fun hR => ?_)
      rw [hn]
      refine ev_if_ne (tgt := 27) dX7_far_21 (by decide) (by first | exact hR.1 _ _ | exact hR0.1 _ _ | assumption | exact ⟨by omega, by omega⟩ | exact ⟨by simp [wr_at]; omega, by simp [wr_at]; omega⟩ | exact b2_R _ | exact bC_R _ | exact band_R _ _ | exact bor_R _ _ | exact bshl_R _ _ | exact bshr_R _ _ | exact bxor_R _ _ | exact bs_R (by omega) | decide) (fun h_21 => ?_) (fun h_21 => ?_)
      · have q0 := b2_ne h_5
        have q1 := b2_ne h_13
        have q2 := b2_ne h_21
        obtain ⟨b, rfl⟩ := Int.eq_ofNat_of_zero_le q0.1
        obtain ⟨p, rfl⟩ := Int.eq_ofNat_of_zero_le q1.1
        obtain ⟨q, rfl⟩ := Int.eq_ofNat_of_zero_le q2.1
        have hd := dst_ok (w := w) (wt := wt) (b := b) (s := 0) (dry := 0) hPO (by omega) p q (by omega) (by omega)
        refine ev_aload_n dX7_far_27 rfl ?_
        refine ev_iload_n dX7_far_28 rfl ?_
        refine ev_iload_n dX7_far_29 rfl ?_
        refine ev_iload_n dX7_far_30 rfl ?_
        refine ev_iconst dX7_far_31 ?_
        refine ev_callVP dX7_far_32 kv_X7_258 (k_minutesBetween σ P n nr nb nl w wt f t hPO hPI hBt b p q 0 (by omega) (by omega) (by omega) (Or.inl rfl)) rfl rfl (ci := 7) rfl rfl ⟨by decide, by decide⟩ (Nat.le_of_ble_eq_true rfl) ?_
        rintro v_32 τ_32 ⟨rfl, hS2⟩
        refine ev_w (fun hR => ?_)
        refine ev_callSI dX7_far_35 ks_X7_261 (k_orNone τ_32 _ (by exact ⟨by omega, by omega⟩)) rfl rfl ⟨by decide, by decide⟩ (Nat.le_of_ble_eq_true rfl) ?_
        refine ev_w (fun hR => ?_)
        refine ev_ireturn dX7_far_38 ?_
        exact ⟨by rw [farZ, if_neg (c := ¬ ((0 ≤ (b : Int) ∧ (b : Int) < nb) ∧ (0 ≤ (p : Int) ∧ (p : Int) < n) ∧ (0 ≤ (q : Int) ∧ (q : Int) < n))) (fun y => y ⟨q0, q1, q2⟩)]; rfl, hS2⟩
      · refine ev_ldc (z := -1000000001) dX7_far_24 kc_X7_126 (by decide) ?_
        refine ev_ireturn dX7_far_26 ?_
        first
          | (have z := b2_eq h_5; exact ⟨by rw [farZ, if_pos (fun y => z y.1)], Same.rf⟩)
          | (have z := b2_eq h_13; exact ⟨by rw [farZ, if_pos (fun y => z y.2.1)], Same.rf⟩)
          | (have z := b2_eq h_21; exact ⟨by rw [farZ, if_pos (fun y => z y.2.2)], Same.rf⟩)
          | (have z := b2_eq (Decidable.not_not.mp h_21); exact ⟨by rw [farZ, if_pos (fun y => z y.2.2)], Same.rf⟩)
def paysZ (n nb nl : Int) (A : Int → Int → Int) (D : Nat → Nat → Nat → Int) (wo : Int → Int) (l b p q wd c : Int) : Int :=
  if ¬ ((0 ≤ l ∧ l < nl) ∧ (0 ≤ b ∧ b < nb) ∧ (0 ≤ p ∧ p < n) ∧ (0 ≤ q ∧ q < n) ∧ p ≠ q) then -1000000001 else
  if ¬ ((0 ≤ wd ∧ wd ≤ 99) ∧ (0 ≤ c ∧ c ≤ 99)) then -1000000002 else
  if ¬ D b.toNat p.toNat q.toNat < 1000000 then (if 0 < max 0 (100 - A p q - wd) then 1 else 0) else
  if (wo l * (100 - max 0 (100 - A p q - wd))).tdiv 100 < D b.toNat p.toNat q.toNat * c then 1 else 0
theorem k_pays (σ : Mem) (P n nr nb nl w wt : Nat) (f t : Nat → Nat) (hPO : PlanOk σ P n nr nb nl f t) (hPI : PlIs σ P) (hBt : Bits σ w wt) (l b p q wd c : Int) (hl : inR l) (hb : inR b) (hp : inR p) (hq : inR q) (hwd : inR wd) (hc : inR c) : Con yX7_pays cX7_pays 10 (some .int) 6 141 [.ref 0, .int (iI l), .int (iI b), .int (iI p), .int (iI q), .int (iI wd), .int (iI c)] σ (AnsIP (paysZ n nb nl (apartZ σ (P + 1) (P + 2)) (fun b => dst σ P n nr nl w wt f t b 0 0) (σ.1 (P + 15)) l b p q wd c) (fun τ => Same sM σ τ)) := by
  refine con_of (by decide) rfl (Nat.le_of_ble_eq_true rfl) (ok_IP rfl) ?_
  refine ev_w (fun hR => ?_)
  have hR0 := hR
  obtain ⟨hPR, ⟨hnb, hnb4⟩, ⟨hnl, hnl4⟩, hpo, hro, hbo, hlo⟩ := id hPO
  obtain ⟨hP, hn, hn8, hnr, hnr12, hft⟩ := id hPR
  obtain ⟨hw, hw2, hwt, hwt2⟩ := id hBt
  have hpl := hPI.q
  refine ev_aload_n dX7_pays_0 rfl ?_
  refine ev_iload_n dX7_pays_1 rfl ?_
  refine ev_callVI dX7_pays_2 kv_X7_195 (k_isLoad σ l P hl hP hpl) rfl rfl (ci := 7) rfl rfl ⟨by decide, by decide⟩ (Nat.le_of_ble_eq_true rfl) ?_
  refine ev_w (fun hR => ?_)
  rw [hnl]
  refine ev_if_eq (tgt := 39) dX7_pays_5 (by decide) (by first | exact hR.1 _ _ | exact hR0.1 _ _ | assumption | exact ⟨by omega, by omega⟩ | exact ⟨by simp [wr_at]; omega, by simp [wr_at]; omega⟩ | exact b2_R _ | exact bC_R _ | exact band_R _ _ | exact bor_R _ _ | exact bshl_R _ _ | exact bshr_R _ _ | exact bxor_R _ _ | exact bs_R (by omega) | decide) (fun h_5 => ?_) (fun h_5 => ?_)
  · refine ev_ldc (z := -1000000001) dX7_pays_39 kc_X7_126 (by decide) ?_
    refine ev_ireturn dX7_pays_41 ?_
    first
      | (have z := b2_eq h_5; exact ⟨by rw [paysZ, if_pos (fun y => z y.1)], Same.rf⟩)
      | (have z := b2_eq h_13; exact ⟨by rw [paysZ, if_pos (fun y => z y.2.1)], Same.rf⟩)
      | (have z := b2_eq h_21; exact ⟨by rw [paysZ, if_pos (fun y => z y.2.2.1)], Same.rf⟩)
      | (have z := b2_eq h_30; exact ⟨by rw [paysZ, if_pos (fun y => z y.2.2.2.1)], Same.rf⟩)
      | exact ⟨by rw [paysZ, if_pos (by omega)], Same.rf⟩
  · refine ev_aload_n dX7_pays_8 rfl ?_
    refine ev_iload_n dX7_pays_9 rfl ?_
    refine ev_callVI dX7_pays_10 kv_X7_171 (k_isBoy σ b P hb hP hpl) rfl rfl (ci := 7) rfl rfl ⟨by decide, by decide⟩ (Nat.le_of_ble_eq_true rfl) ?_
    refine ev_w (fun hR => ?_)
    rw [hnb]
    refine ev_if_eq (tgt := 39) dX7_pays_13 (by decide) (by first | exact hR.1 _ _ | exact hR0.1 _ _ | assumption | exact ⟨by omega, by omega⟩ | exact ⟨by simp [wr_at]; omega, by simp [wr_at]; omega⟩ | exact b2_R _ | exact bC_R _ | exact band_R _ _ | exact bor_R _ _ | exact bshl_R _ _ | exact bshr_R _ _ | exact bxor_R _ _ | exact bs_R (by omega) | decide) (fun h_13 => ?_) (fun h_13 => ?_)
    · refine ev_ldc (z := -1000000001) dX7_pays_39 kc_X7_126 (by decide) ?_
      refine ev_ireturn dX7_pays_41 ?_
      first
        | (have z := b2_eq h_5; exact ⟨by rw [paysZ, if_pos (fun y => z y.1)], Same.rf⟩)
        | (have z := b2_eq h_13; exact ⟨by rw [paysZ, if_pos (fun y => z y.2.1)], Same.rf⟩)
        | (have z := b2_eq h_21; exact ⟨by rw [paysZ, if_pos (fun y => z y.2.2.1)], Same.rf⟩)
        | (have z := b2_eq h_30; exact ⟨by rw [paysZ, if_pos (fun y => z y.2.2.2.1)], Same.rf⟩)
        | exact ⟨by rw [paysZ, if_pos (by omega)], Same.rf⟩
    · refine ev_aload_n dX7_pays_16 rfl ?_
      refine ev_iload_n dX7_pays_17 rfl ?_
      refine ev_callVI dX7_pays_18 kv_X7_122 (k_isPole σ p P hp hP hpl) rfl rfl (ci := 7) rfl rfl ⟨by decide, by decide⟩ (Nat.le_of_ble_eq_true rfl) ?_
      refine ev_w (fun hR => ?_)
      rw [hn]
      refine ev_if_eq (tgt := 39) dX7_pays_21 (by decide) (by first | exact hR.1 _ _ | exact hR0.1 _ _ | assumption | exact ⟨by omega, by omega⟩ | exact ⟨by simp [wr_at]; omega, by simp [wr_at]; omega⟩ | exact b2_R _ | exact bC_R _ | exact band_R _ _ | exact bor_R _ _ | exact bshl_R _ _ | exact bshr_R _ _ | exact bxor_R _ _ | exact bs_R (by omega) | decide) (fun h_21 => ?_) (fun h_21 => ?_)
      · refine ev_ldc (z := -1000000001) dX7_pays_39 kc_X7_126 (by decide) ?_
        refine ev_ireturn dX7_pays_41 ?_
        first
          | (have z := b2_eq h_5; exact ⟨by rw [paysZ, if_pos (fun y => z y.1)], Same.rf⟩)
          | (have z := b2_eq h_13; exact ⟨by rw [paysZ, if_pos (fun y => z y.2.1)], Same.rf⟩)
          | (have z := b2_eq h_21; exact ⟨by rw [paysZ, if_pos (fun y => z y.2.2.1)], Same.rf⟩)
          | (have z := b2_eq h_30; exact ⟨by rw [paysZ, if_pos (fun y => z y.2.2.2.1)], Same.rf⟩)
          | exact ⟨by rw [paysZ, if_pos (by omega)], Same.rf⟩
      · refine ev_aload_n dX7_pays_24 rfl ?_
        refine ev_iload dX7_pays_25 rfl ?_
        refine ev_callVI dX7_pays_27 kv_X7_122 (k_isPole σ q P hq hP hpl) rfl rfl (ci := 7) rfl rfl ⟨by decide, by decide⟩ (Nat.le_of_ble_eq_true rfl) ?_
        refine ev_w (fun hR => ?_)
        rw [hn]
        refine ev_if_eq (tgt := 39) dX7_pays_30 (by decide) (by first | exact hR.1 _ _ | exact hR0.1 _ _ | assumption | exact ⟨by omega, by omega⟩ | exact ⟨by simp [wr_at]; omega, by simp [wr_at]; omega⟩ | exact b2_R _ | exact bC_R _ | exact band_R _ _ | exact bor_R _ _ | exact bshl_R _ _ | exact bshr_R _ _ | exact bxor_R _ _ | exact bs_R (by omega) | decide) (fun h_30 => ?_) (fun h_30 => ?_)
        · refine ev_ldc (z := -1000000001) dX7_pays_39 kc_X7_126 (by decide) ?_
          refine ev_ireturn dX7_pays_41 ?_
          first
            | (have z := b2_eq h_5; exact ⟨by rw [paysZ, if_pos (fun y => z y.1)], Same.rf⟩)
            | (have z := b2_eq h_13; exact ⟨by rw [paysZ, if_pos (fun y => z y.2.1)], Same.rf⟩)
            | (have z := b2_eq h_21; exact ⟨by rw [paysZ, if_pos (fun y => z y.2.2.1)], Same.rf⟩)
            | (have z := b2_eq h_30; exact ⟨by rw [paysZ, if_pos (fun y => z y.2.2.2.1)], Same.rf⟩)
            | exact ⟨by rw [paysZ, if_pos (by omega)], Same.rf⟩
        · have q0 := b2_ne h_5
          have q1 := b2_ne h_13
          have q2 := b2_ne h_21
          have q3 := b2_ne h_30
          obtain ⟨l, rfl⟩ := Int.eq_ofNat_of_zero_le q0.1
          obtain ⟨b, rfl⟩ := Int.eq_ofNat_of_zero_le q1.1
          obtain ⟨p, rfl⟩ := Int.eq_ofNat_of_zero_le q2.1
          obtain ⟨q, rfl⟩ := Int.eq_ofNat_of_zero_le q3.1
          have hd := dst_ok (w := w) (wt := wt) (b := b) (s := 0) (dry := 0) hPO (by omega) p q (by omega) (by omega)
          have hwo := (hlo l (by omega)).2.2.2.2.1
          refine ev_iload_n dX7_pays_33 rfl ?_
          refine ev_iload dX7_pays_34 rfl ?_
          refine ev_icmp_ne (tgt := 42) dX7_pays_36 (by decide) (by first | exact hR.1 _ _ | exact hR0.1 _ _ | assumption | exact ⟨by omega, by omega⟩ | exact ⟨by simp [wr_at]; omega, by simp [wr_at]; omega⟩ | exact b2_R _ | exact bC_R _ | exact band_R _ _ | exact bor_R _ _ | exact bshl_R _ _ | exact bshr_R _ _ | exact bxor_R _ _ | exact bs_R (by omega) | decide) (by first | exact hR.1 _ _ | exact hR0.1 _ _ | assumption | exact ⟨by omega, by omega⟩ | exact ⟨by simp [wr_at]; omega, by simp [wr_at]; omega⟩ | exact b2_R _ | exact bC_R _ | exact band_R _ _ | exact bor_R _ _ | exact bshl_R _ _ | exact bshr_R _ _ | exact bxor_R _ _ | exact bs_R (by omega) | decide) (fun h_36 => ?_) (fun h_36 => ?_)
          · refine ev_iload dX7_pays_42 rfl ?_
            refine ev_if_lt (tgt := 66) dX7_pays_44 (by decide) (by first | exact hR.1 _ _ | exact hR0.1 _ _ | assumption | exact ⟨by omega, by omega⟩ | exact ⟨by simp [wr_at]; omega, by simp [wr_at]; omega⟩ | exact b2_R _ | exact bC_R _ | exact band_R _ _ | exact bor_R _ _ | exact bshl_R _ _ | exact bshr_R _ _ | exact bxor_R _ _ | exact bs_R (by omega) | decide) (fun h_44 => ?_) (fun h_44 => ?_)
            · refine ev_ldc (z := -1000000002) dX7_pays_66 kc_X7_73 (by decide) ?_
              refine ev_ireturn dX7_pays_68 ?_
              exact ⟨by rw [paysZ, if_neg (by omega), if_pos (by omega)], Same.rf⟩
            · refine ev_iload dX7_pays_47 rfl ?_
              refine ev_bipush dX7_pays_49 (by decide) ?_
              refine ev_icmp_gt (tgt := 66) dX7_pays_51 (by decide) (by first | exact hR.1 _ _ | exact hR0.1 _ _ | assumption | exact ⟨by omega, by omega⟩ | exact ⟨by simp [wr_at]; omega, by simp [wr_at]; omega⟩ | exact b2_R _ | exact bC_R _ | exact band_R _ _ | exact bor_R _ _ | exact bshl_R _ _ | exact bshr_R _ _ | exact bxor_R _ _ | exact bs_R (by omega) | decide) (by first | exact hR.1 _ _ | exact hR0.1 _ _ | assumption | exact ⟨by omega, by omega⟩ | exact ⟨by simp [wr_at]; omega, by simp [wr_at]; omega⟩ | exact b2_R _ | exact bC_R _ | exact band_R _ _ | exact bor_R _ _ | exact bshl_R _ _ | exact bshr_R _ _ | exact bxor_R _ _ | exact bs_R (by omega) | decide) (fun h_51 => ?_) (fun h_51 => ?_)
              · refine ev_ldc (z := -1000000002) dX7_pays_66 kc_X7_73 (by decide) ?_
                refine ev_ireturn dX7_pays_68 ?_
                exact ⟨by rw [paysZ, if_neg (by omega), if_pos (by omega)], Same.rf⟩
              · refine ev_iload dX7_pays_54 rfl ?_
                refine ev_if_lt (tgt := 66) dX7_pays_56 (by decide) (by first | exact hR.1 _ _ | exact hR0.1 _ _ | assumption | exact ⟨by omega, by omega⟩ | exact ⟨by simp [wr_at]; omega, by simp [wr_at]; omega⟩ | exact b2_R _ | exact bC_R _ | exact band_R _ _ | exact bor_R _ _ | exact bshl_R _ _ | exact bshr_R _ _ | exact bxor_R _ _ | exact bs_R (by omega) | decide) (fun h_56 => ?_) (fun h_56 => ?_)
                · refine ev_ldc (z := -1000000002) dX7_pays_66 kc_X7_73 (by decide) ?_
                  refine ev_ireturn dX7_pays_68 ?_
                  exact ⟨by rw [paysZ, if_neg (by omega), if_pos (by omega)], Same.rf⟩
                · refine ev_iload dX7_pays_59 rfl ?_
                  refine ev_bipush dX7_pays_61 (by decide) ?_
                  refine ev_icmp_le (tgt := 69) dX7_pays_63 (by decide) (by first | exact hR.1 _ _ | exact hR0.1 _ _ | assumption | exact ⟨by omega, by omega⟩ | exact ⟨by simp [wr_at]; omega, by simp [wr_at]; omega⟩ | exact b2_R _ | exact bC_R _ | exact band_R _ _ | exact bor_R _ _ | exact bshl_R _ _ | exact bshr_R _ _ | exact bxor_R _ _ | exact bs_R (by omega) | decide) (by first | exact hR.1 _ _ | exact hR0.1 _ _ | assumption | exact ⟨by omega, by omega⟩ | exact ⟨by simp [wr_at]; omega, by simp [wr_at]; omega⟩ | exact b2_R _ | exact bC_R _ | exact band_R _ _ | exact bor_R _ _ | exact bshl_R _ _ | exact bshr_R _ _ | exact bxor_R _ _ | exact bs_R (by omega) | decide) (fun h_63 => ?_) (fun h_63 => ?_)
                  · refine ev_aload_n dX7_pays_69 rfl ?_
                    refine ev_iload_n dX7_pays_70 rfl ?_
                    refine ev_iload dX7_pays_71 rfl ?_
                    refine ev_iload dX7_pays_73 rfl ?_
                    refine ev_callVI dX7_pays_75 kv_X7_294 (k_throwOdds σ P n nr nb nl w wt f t hPO hPI hBt p q wd (by omega) (by omega) (by omega) (by omega)) rfl rfl (ci := 7) rfl rfl ⟨by decide, by decide⟩ (Nat.le_of_ble_eq_true rfl) ?_
                    refine ev_w (fun hR => ?_)
                    have hod : 0 ≤ max 0 (100 - apartZ σ (P + 1) (P + 2) p q - wd) ∧ max 0 (100 - apartZ σ (P + 1) (P + 2) p q - wd) ≤ 100 := by
                      have : 0 ≤ apartZ σ (P + 1) (P + 2) p q := by unfold apartZ absz; split <;> split <;> omega
                      omega
                    generalize hO : max 0 (100 - apartZ σ (P + 1) (P + 2) p q - wd) = od at hod
                    refine ev_istore dX7_pays_78 rfl (by decide) rfl ?_
                    refine ev_aload_n dX7_pays_80 rfl ?_
                    refine ev_iload_n dX7_pays_81 rfl ?_
                    refine ev_iload_n dX7_pays_82 rfl ?_
                    refine ev_iload dX7_pays_83 rfl ?_
                    refine ev_iconst dX7_pays_85 ?_
                    refine ev_callVP dX7_pays_86 kv_X7_258 (k_minutesBetween σ P n nr nb nl w wt f t hPO hPI hBt b p q 0 (by omega) (by omega) (by omega) (Or.inl rfl)) rfl rfl (ci := 7) rfl rfl ⟨by decide, by decide⟩ (Nat.le_of_ble_eq_true rfl) ?_
                    rintro v_86 τ_86 ⟨rfl, hS2⟩
                    refine ev_w (fun hR => ?_)
                    refine ev_istore dX7_pays_89 rfl (by decide) rfl ?_
                    refine ev_iload dX7_pays_91 rfl ?_
                    refine ev_ldcw (z := 1000000) dX7_pays_93 kc_X7_273 (by decide) ?_
                    refine ev_icmp_lt (tgt := 110) dX7_pays_96 (by decide) (by first | exact hR.1 _ _ | exact hR0.1 _ _ | assumption | exact ⟨by omega, by omega⟩ | exact ⟨by simp [wr_at]; omega, by simp [wr_at]; omega⟩ | exact b2_R _ | exact bC_R _ | exact band_R _ _ | exact bor_R _ _ | exact bshl_R _ _ | exact bshr_R _ _ | exact bxor_R _ _ | exact bs_R (by omega) | decide) (by first | exact hR.1 _ _ | exact hR0.1 _ _ | assumption | exact ⟨by omega, by omega⟩ | exact ⟨by simp [wr_at]; omega, by simp [wr_at]; omega⟩ | exact b2_R _ | exact bC_R _ | exact band_R _ _ | exact bor_R _ _ | exact bshl_R _ _ | exact bshr_R _ _ | exact bxor_R _ _ | exact bs_R (by omega) | decide) (fun h_96 => ?_) (fun h_96 => ?_)
                    · refine ev_aload_n dX7_pays_110 rfl ?_
                      refine ev_getQ (r := P) dX7_pays_111 fl_X7_19 rfl rfl (by rw [hS2.at (by unfold sM; omega)]; exact hpl) ?_
                      refine ev_getR (r := P + 15) dX7_pays_114 fl_X7_207 (plO hP) rfl rfl ?_
                      refine ev_iload_n dX7_pays_117 rfl ?_
                      refine ev_iaload dX7_pays_118 (plA15 hP) (by first | omega | (simp [wr_at]; omega) | (simp [wr_at, *]; omega)) (by first | omega | (simp [wr_at]; omega) | (simp [wr_at, *]; omega)) (by decide) ?_
                      rw [hS2.at (by unfold sM; omega)]
                      have hpr : 0 ≤ σ.1 (P + 15) l * (100 - od) ∧ σ.1 (P + 15) l * (100 - od) ≤ 99900 := by
                        refine ⟨Int.mul_nonneg (by omega) (by omega), ?_⟩
                        have := Int.mul_le_mul (show σ.1 (P + 15) l ≤ 999 by omega) (show 100 - od ≤ 100 by omega) (by omega) (by omega)
                        omega
                      have hpd : 0 ≤ (σ.1 (P + 15) l * (100 - od)).tdiv 100 ∧ (σ.1 (P + 15) l * (100 - od)).tdiv 100 ≤ 99900 := by
                        rw [Int.tdiv_eq_ediv_of_nonneg hpr.1]; omega
                      have hmc : 0 ≤ dst σ P n nr nl w wt f t b 0 0 p q * c ∧ dst σ P n nr nl w wt f t b 0 0 p q * c ≤ 99000000 := by
                        refine ⟨Int.mul_nonneg (by omega) (by omega), ?_⟩
                        have := Int.mul_le_mul (show dst σ P n nr nl w wt f t b 0 0 p q ≤ 1000000 by omega) (show c ≤ 99 by omega) (by omega) (by omega)
                        omega
                      refine ev_bipush dX7_pays_119 (by decide) ?_
                      refine ev_iload dX7_pays_121 rfl ?_
                      refine ev_isub dX7_pays_123 ?_
                      refine ev_imul dX7_pays_124 ?_
                      refine ev_bipush dX7_pays_125 (by decide) ?_
                      refine ev_idiv dX7_pays_127 (by first | exact hR.1 _ _ | exact hR0.1 _ _ | assumption | exact ⟨by omega, by omega⟩ | exact ⟨by simp [wr_at]; omega, by simp [wr_at]; omega⟩ | exact b2_R _ | exact bC_R _ | exact band_R _ _ | exact bor_R _ _ | exact bshl_R _ _ | exact bshr_R _ _ | exact bxor_R _ _ | exact bs_R (by omega) | decide) (by first | exact hR.1 _ _ | exact hR0.1 _ _ | assumption | exact ⟨by omega, by omega⟩ | exact ⟨by simp [wr_at]; omega, by simp [wr_at]; omega⟩ | exact b2_R _ | exact bC_R _ | exact band_R _ _ | exact bor_R _ _ | exact bshl_R _ _ | exact bshr_R _ _ | exact bxor_R _ _ | exact bs_R (by omega) | decide) (by omega) (by omega) ?_
                      refine ev_istore dX7_pays_128 rfl (by decide) rfl ?_
                      refine ev_iload dX7_pays_130 rfl ?_
                      refine ev_iload dX7_pays_132 rfl ?_
                      refine ev_iload dX7_pays_134 rfl ?_
                      refine ev_imul dX7_pays_136 ?_
                      refine ev_icmp_ge (tgt := 144) dX7_pays_137 (by decide) (by first | exact hR.1 _ _ | exact hR0.1 _ _ | assumption | exact ⟨by omega, by omega⟩ | exact ⟨by simp [wr_at]; omega, by simp [wr_at]; omega⟩ | exact b2_R _ | exact bC_R _ | exact band_R _ _ | exact bor_R _ _ | exact bshl_R _ _ | exact bshr_R _ _ | exact bxor_R _ _ | exact bs_R (by omega) | decide) (by first | exact hR.1 _ _ | exact hR0.1 _ _ | assumption | exact ⟨by omega, by omega⟩ | exact ⟨by simp [wr_at]; omega, by simp [wr_at]; omega⟩ | exact b2_R _ | exact bC_R _ | exact band_R _ _ | exact bor_R _ _ | exact bshl_R _ _ | exact bshr_R _ _ | exact bxor_R _ _ | exact bs_R (by omega) | decide) (fun h_137 => ?_) (fun h_137 => ?_)
                      · refine ev_iconst dX7_pays_144 ?_
                        refine ev_ireturn dX7_pays_145 ?_
                        refine ⟨?_, hS2⟩
                        rw [paysZ, if_neg (by omega), if_neg (by omega)]
                        show _ = some (Value.int (iI (if ¬ dst σ P n nr nl w wt f t b 0 0 p q < 1000000 then _ else if (σ.1 (P + 15) l * _).tdiv 100 < dst σ P n nr nl w wt f t b 0 0 p q * c then 1 else 0)))
                        rw [if_neg (by omega), hO]
                        by_cases z : (σ.1 (P + 15) l * (100 - od)).tdiv 100 < dst σ P n nr nl w wt f t b 0 0 p q * c
                        · (rw [if_pos z]) <;> (exfalso; omega)
                        · (rw [if_neg z]) <;> (exfalso; omega)
                      · refine ev_iconst dX7_pays_140 ?_
                        refine ev_goto (tgt := 145) dX7_pays_141 (by decide) ?_
                        refine ev_ireturn dX7_pays_145 ?_
                        refine ⟨?_, hS2⟩
                        rw [paysZ, if_neg (by omega), if_neg (by omega)]
                        show _ = some (Value.int (iI (if ¬ dst σ P n nr nl w wt f t b 0 0 p q < 1000000 then _ else if (σ.1 (P + 15) l * _).tdiv 100 < dst σ P n nr nl w wt f t b 0 0 p q * c then 1 else 0)))
                        rw [if_neg (by omega), hO]
                        by_cases z : (σ.1 (P + 15) l * (100 - od)).tdiv 100 < dst σ P n nr nl w wt f t b 0 0 p q * c
                        · (rw [if_pos z]) <;> (exfalso; omega)
                        · (rw [if_neg z]) <;> (exfalso; omega)
                    · refine ev_iload dX7_pays_99 rfl ?_
                      refine ev_if_le (tgt := 108) dX7_pays_101 (by decide) (by first | exact hR.1 _ _ | exact hR0.1 _ _ | assumption | exact ⟨by omega, by omega⟩ | exact ⟨by simp [wr_at]; omega, by simp [wr_at]; omega⟩ | exact b2_R _ | exact bC_R _ | exact band_R _ _ | exact bor_R _ _ | exact bshl_R _ _ | exact bshr_R _ _ | exact bxor_R _ _ | exact bs_R (by omega) | decide) (fun h_101 => ?_) (fun h_101 => ?_)
                      · refine ev_iconst dX7_pays_108 ?_
                        refine ev_ireturn dX7_pays_109 ?_
                        refine ⟨?_, hS2⟩
                        rw [paysZ, if_neg (by omega), if_neg (by omega)]
                        show _ = some (Value.int (iI (if ¬ dst σ P n nr nl w wt f t b 0 0 p q < 1000000 then _ else _)))
                        rw [if_pos (by assumption), hO]
                        by_cases z : 0 < od
                        · (rw [if_pos z]) <;> (exfalso; omega)
                        · (rw [if_neg z]) <;> (exfalso; omega)
                      · refine ev_iconst dX7_pays_104 ?_
                        refine ev_goto (tgt := 109) dX7_pays_105 (by decide) ?_
                        refine ev_ireturn dX7_pays_109 ?_
                        refine ⟨?_, hS2⟩
                        rw [paysZ, if_neg (by omega), if_neg (by omega)]
                        show _ = some (Value.int (iI (if ¬ dst σ P n nr nl w wt f t b 0 0 p q < 1000000 then _ else _)))
                        rw [if_pos (by assumption), hO]
                        by_cases z : 0 < od
                        · (rw [if_pos z]) <;> (exfalso; omega)
                        · (rw [if_neg z]) <;> (exfalso; omega)
                  · refine ev_ldc (z := -1000000002) dX7_pays_66 kc_X7_73 (by decide) ?_
                    refine ev_ireturn dX7_pays_68 ?_
                    exact ⟨by rw [paysZ, if_neg (by omega), if_pos (by omega)], Same.rf⟩
          · refine ev_ldc (z := -1000000001) dX7_pays_39 kc_X7_126 (by decide) ?_
            refine ev_ireturn dX7_pays_41 ?_
            first
              | (have z := b2_eq h_5; exact ⟨by rw [paysZ, if_pos (fun y => z y.1)], Same.rf⟩)
              | (have z := b2_eq h_13; exact ⟨by rw [paysZ, if_pos (fun y => z y.2.1)], Same.rf⟩)
              | (have z := b2_eq h_21; exact ⟨by rw [paysZ, if_pos (fun y => z y.2.2.1)], Same.rf⟩)
              | (have z := b2_eq h_30; exact ⟨by rw [paysZ, if_pos (fun y => z y.2.2.2.1)], Same.rf⟩)
              | exact ⟨by rw [paysZ, if_pos (by omega)], Same.rf⟩
theorem k_see (σ : Mem) (P n nr nb nl w wt : Nat) (f t : Nat → Nat) (hPO : PlanOk σ P n nr nb nl f t) (hPI : PlIs σ P) (hBt : Bits σ w wt) (k : Nat) (hBk : BookOk σ n nb k) (b p m : Int) (hb : inR b) (hp : inR p) (hm : inR m) : Con yX7_see cX7_see 4 (some .int) 1 23 [.ref 0, .int (iI b), .int (iI p), .int (iI m)] σ (fun v τ => if ¬ ((0 ≤ b ∧ b < nb) ∧ (0 ≤ p ∧ p < n)) then AnsI (-1000000001) σ v τ else if ¬ (0 ≤ m ∧ m ≤ 9999) then AnsI (-1000000002) σ v τ else if ¬ k < 20 then AnsI (-1000000004) σ v τ else AnsI (k + 1 : Nat) (bookM σ b p m) v τ) := by
  refine con_of (by decide) rfl (Nat.le_of_ble_eq_true rfl) ((fun v τ h => by split at h; exact ok_I rfl v τ h; split at h; exact ok_I rfl v τ h; split at h; exact ok_I rfl v τ h; exact ok_I rfl v τ h)) ?_
  refine ev_w (fun hR => ?_)
  have hR0 := hR
  obtain ⟨hPR, ⟨hnb, hnb4⟩, ⟨hnl, hnl4⟩, hpo, hro, hbo, hlo⟩ := id hPO
  obtain ⟨hP, hn, hn8, hnr, hnr12, hft⟩ := id hPR
  obtain ⟨hw, hw2, hwt, hwt2⟩ := id hBt
  have hpl := hPI.q
  obtain ⟨hk, hk20, hbk⟩ := id hBk
  refine ev_aload_n dX7_see_0 rfl ?_
  refine ev_iload_n dX7_see_1 rfl ?_
  refine ev_callVI dX7_see_2 kv_X7_171 (k_isBoy σ b P hb hP hpl) rfl rfl (ci := 7) rfl rfl ⟨by decide, by decide⟩ (Nat.le_of_ble_eq_true rfl) ?_
  refine ev_w (fun hR => ?_)
  rw [hnb]
  refine ev_if_eq (tgt := 16) dX7_see_5 (by decide) (by first | exact hR.1 _ _ | exact hR0.1 _ _ | assumption | exact ⟨by omega, by omega⟩ | exact ⟨by simp [wr_at]; omega, by simp [wr_at]; omega⟩ | exact b2_R _ | exact bC_R _ | exact band_R _ _ | exact bor_R _ _ | exact bshl_R _ _ | exact bshr_R _ _ | exact bxor_R _ _ | exact bs_R (by omega) | decide) (fun h_5 => ?_) (fun h_5 => ?_)
  · refine ev_ldc (z := -1000000001) dX7_see_16 kc_X7_126 (by decide) ?_
    refine ev_ireturn dX7_see_18 ?_
    first
      | (have z := b2_eq h_5; rw [if_pos (fun y => z y.1)]; exact ⟨rfl, rfl⟩)
      | (have z := b2_eq h_13; rw [if_pos (fun y => z y.2)]; exact ⟨rfl, rfl⟩)
      | (have z := b2_eq (Decidable.not_not.mp h_13); rw [if_pos (fun y => z y.2)]; exact ⟨rfl, rfl⟩)
  · refine ev_aload_n dX7_see_8 rfl ?_
    refine ev_iload_n dX7_see_9 rfl ?_
    refine ev_callVI dX7_see_10 kv_X7_122 (k_isPole σ p P hp hP hpl) rfl rfl (ci := 7) rfl rfl ⟨by decide, by decide⟩ (Nat.le_of_ble_eq_true rfl) ?_
    refine ev_w (fun hR => ?_)
    rw [hn]
    refine ev_if_ne (tgt := 19) dX7_see_13 (by decide) (by first | exact hR.1 _ _ | exact hR0.1 _ _ | assumption | exact ⟨by omega, by omega⟩ | exact ⟨by simp [wr_at]; omega, by simp [wr_at]; omega⟩ | exact b2_R _ | exact bC_R _ | exact band_R _ _ | exact bor_R _ _ | exact bshl_R _ _ | exact bshr_R _ _ | exact bxor_R _ _ | exact bs_R (by omega) | decide) (fun h_13 => ?_) (fun h_13 => ?_)
    · refine ev_iload_n dX7_see_19 rfl ?_
      refine ev_if_lt (tgt := 30) dX7_see_20 (by decide) (by first | exact hR.1 _ _ | exact hR0.1 _ _ | assumption | exact ⟨by omega, by omega⟩ | exact ⟨by simp [wr_at]; omega, by simp [wr_at]; omega⟩ | exact b2_R _ | exact bC_R _ | exact band_R _ _ | exact bor_R _ _ | exact bshl_R _ _ | exact bshr_R _ _ | exact bxor_R _ _ | exact bs_R (by omega) | decide) (fun h_20 => ?_) (fun h_20 => ?_)
      · refine ev_ldc (z := -1000000002) dX7_see_30 kc_X7_73 (by decide) ?_
        refine ev_ireturn dX7_see_32 ?_
        have z1 := b2_ne h_5
        have z2 := b2_ne h_13
        rw [if_neg (fun y => y ⟨z1, z2⟩), if_pos (by omega)]
        exact ⟨rfl, rfl⟩
      · refine ev_iload_n dX7_see_23 rfl ?_
        refine ev_sipush dX7_see_24 (by decide) ?_
        refine ev_icmp_le (tgt := 33) dX7_see_27 (by decide) (by first | exact hR.1 _ _ | exact hR0.1 _ _ | assumption | exact ⟨by omega, by omega⟩ | exact ⟨by simp [wr_at]; omega, by simp [wr_at]; omega⟩ | exact b2_R _ | exact bC_R _ | exact band_R _ _ | exact bor_R _ _ | exact bshl_R _ _ | exact bshr_R _ _ | exact bxor_R _ _ | exact bs_R (by omega) | decide) (by first | exact hR.1 _ _ | exact hR0.1 _ _ | assumption | exact ⟨by omega, by omega⟩ | exact ⟨by simp [wr_at]; omega, by simp [wr_at]; omega⟩ | exact b2_R _ | exact bC_R _ | exact band_R _ _ | exact bor_R _ _ | exact bshl_R _ _ | exact bshr_R _ _ | exact bxor_R _ _ | exact bs_R (by omega) | decide) (fun h_27 => ?_) (fun h_27 => ?_)
        · refine ev_aload_n dX7_see_33 rfl ?_
          refine ev_getR (r := 65) dX7_see_34 fl_X7_44 rfl rfl rfl ?_
          refine ev_getI (kz := 0) dX7_see_37 fl_X7_89 rfl rfl rfl ?_
          rw [hk]
          refine ev_bipush dX7_see_40 (by decide) ?_
          refine ev_icmp_lt (tgt := 48) dX7_see_42 (by decide) (by first | exact hR.1 _ _ | exact hR0.1 _ _ | assumption | exact ⟨by omega, by omega⟩ | exact ⟨by simp [wr_at]; omega, by simp [wr_at]; omega⟩ | exact b2_R _ | exact bC_R _ | exact band_R _ _ | exact bor_R _ _ | exact bshl_R _ _ | exact bshr_R _ _ | exact bxor_R _ _ | exact bs_R (by omega) | decide) (by first | exact hR.1 _ _ | exact hR0.1 _ _ | assumption | exact ⟨by omega, by omega⟩ | exact ⟨by simp [wr_at]; omega, by simp [wr_at]; omega⟩ | exact b2_R _ | exact bC_R _ | exact band_R _ _ | exact bor_R _ _ | exact bshl_R _ _ | exact bshr_R _ _ | exact bxor_R _ _ | exact bs_R (by omega) | decide) (fun h_42 => ?_) (fun h_42 => ?_)
          · refine ev_aload_n dX7_see_48 rfl ?_
            refine ev_getR (r := 65) dX7_see_49 fl_X7_44 rfl rfl rfl ?_
            refine ev_iload_n dX7_see_52 rfl ?_
            refine ev_iload_n dX7_see_53 rfl ?_
            refine ev_iload_n dX7_see_54 rfl ?_
            refine ev_callVV dX7_see_55 kv_X7_298 (k_add σ b p m hb hp hm (by omega) (by omega)) rfl rfl (ci := 0) rfl rfl ⟨by decide, by decide⟩ (Nat.le_of_ble_eq_true rfl) ?_
            refine ev_w (fun hR => ?_)
            refine ev_aload_n dX7_see_58 rfl ?_
            refine ev_getR (r := 65) dX7_see_59 fl_X7_44 rfl rfl rfl ?_
            refine ev_getI (kz := 0) dX7_see_62 fl_X7_89 rfl rfl rfl ?_
            rw [show (bookM σ b p m).1 65 0 = ((k + 1 : Nat) : Int) by unfold bookM; rw [wr_eq, hk]; omega]
            refine ev_ireturn dX7_see_65 ?_
            have z1 := b2_ne h_5
            have z2 := b2_ne h_13
            rw [if_neg (fun y => y ⟨z1, z2⟩), if_neg (by omega), if_neg (by omega)]
            exact ⟨rfl, rfl⟩
          · refine ev_ldc (z := -1000000004) dX7_see_45 kc_X7_77 (by decide) ?_
            refine ev_ireturn dX7_see_47 ?_
            have z1 := b2_ne h_5
            have z2 := b2_ne h_13
            rw [if_neg (fun y => y ⟨z1, z2⟩), if_neg (by omega), if_pos (by omega)]
            exact ⟨rfl, rfl⟩
        · refine ev_ldc (z := -1000000002) dX7_see_30 kc_X7_73 (by decide) ?_
          refine ev_ireturn dX7_see_32 ?_
          have z1 := b2_ne h_5
          have z2 := b2_ne h_13
          rw [if_neg (fun y => y ⟨z1, z2⟩), if_pos (by omega)]
          exact ⟨rfl, rfl⟩
    · refine ev_ldc (z := -1000000001) dX7_see_16 kc_X7_126 (by decide) ?_
      refine ev_ireturn dX7_see_18 ?_
      first
        | (have z := b2_eq h_5; rw [if_pos (fun y => z y.1)]; exact ⟨rfl, rfl⟩)
        | (have z := b2_eq h_13; rw [if_pos (fun y => z y.2)]; exact ⟨rfl, rfl⟩)
        | (have z := b2_eq (Decidable.not_not.mp h_13); rw [if_pos (fun y => z y.2)]; exact ⟨rfl, rfl⟩)
theorem k_forget (σ : Mem) : Con yX7_forget cX7_forget 2 (some .int) 0 0 [.ref 0] σ (AnsI (σ.1 65 0) (wr σ 65 0 0)) := by
  refine con_of (by decide) rfl (Nat.le_of_ble_eq_true rfl) (ok_I rfl) ?_
  refine ev_w (fun hR => ?_)
  have hR0 := hR
  refine ev_aload_n dX7_forget_0 rfl ?_
  refine ev_getR (r := 65) dX7_forget_1 fl_X7_44 rfl rfl rfl ?_
  refine ev_getI (kz := 0) dX7_forget_4 fl_X7_89 rfl rfl rfl ?_
  refine ev_istore_n dX7_forget_7 rfl (by decide) rfl ?_
  refine ev_aload_n dX7_forget_8 rfl ?_
  refine ev_getR (r := 65) dX7_forget_9 fl_X7_44 rfl rfl rfl ?_
  refine ev_iconst dX7_forget_12 ?_
  refine ev_putI (kz := 0) dX7_forget_13 fp_X7_89 rfl rfl rfl (by first | exact hR.1 _ _ | exact hR0.1 _ _ | assumption | exact ⟨by omega, by omega⟩ | exact ⟨by simp [wr_at]; omega, by simp [wr_at]; omega⟩ | exact b2_R _ | exact bC_R _ | exact band_R _ _ | exact bor_R _ _ | exact bshl_R _ _ | exact bshr_R _ _ | exact bxor_R _ _ | exact bs_R (by omega) | decide) ?_
  refine ev_w (fun hR => ?_)
  refine ev_iload_n dX7_forget_16 rfl ?_
  refine ev_ireturn dX7_forget_17 ?_
  exact ⟨rfl, rfl⟩
theorem k_seed (σ : Mem) (z : Int) (hz : inR z) : Con yX7_seed cX7_seed 3 (some .int) 0 0 [.ref 0, .int (iI z)] σ (fun v τ => if z < 0 then AnsI (-1000000002) σ v τ else AnsI (σ.1 37 2) (wr σ 37 2 z) v τ) := by
  refine con_of (by decide) rfl (Nat.le_of_ble_eq_true rfl) ((fun v τ h => by split at h; exact ok_I rfl v τ h; exact ok_I rfl v τ h)) ?_
  refine ev_w (fun hR => ?_)
  have hR0 := hR
  refine ev_iload_n dX7_seed_0 rfl ?_
  refine ev_if_ge (tgt := 7) dX7_seed_1 (by decide) (by first | exact hR.1 _ _ | exact hR0.1 _ _ | assumption | exact ⟨by omega, by omega⟩ | exact ⟨by simp [wr_at]; omega, by simp [wr_at]; omega⟩ | exact b2_R _ | exact bC_R _ | exact band_R _ _ | exact bor_R _ _ | exact bshl_R _ _ | exact bshr_R _ _ | exact bxor_R _ _ | exact bs_R (by omega) | decide) (fun h_1 => ?_) (fun h_1 => ?_)
  · refine ev_aload_n dX7_seed_7 rfl ?_
    refine ev_getR (r := 37) dX7_seed_8 fl_X7_29 rfl rfl rfl ?_
    refine ev_getI (kz := 2) dX7_seed_11 fl_X7_308 rfl rfl rfl ?_
    refine ev_istore_n dX7_seed_14 rfl (by decide) rfl ?_
    refine ev_aload_n dX7_seed_15 rfl ?_
    refine ev_getR (r := 37) dX7_seed_16 fl_X7_29 rfl rfl rfl ?_
    refine ev_iload_n dX7_seed_19 rfl ?_
    refine ev_putI (kz := 2) dX7_seed_20 fp_X7_308 rfl rfl rfl (by first | exact hR.1 _ _ | exact hR0.1 _ _ | assumption | exact ⟨by omega, by omega⟩ | exact ⟨by simp [wr_at]; omega, by simp [wr_at]; omega⟩ | exact b2_R _ | exact bC_R _ | exact band_R _ _ | exact bor_R _ _ | exact bshl_R _ _ | exact bshr_R _ _ | exact bxor_R _ _ | exact bs_R (by omega) | decide) ?_
    refine ev_w (fun hR => ?_)
    refine ev_iload_n dX7_seed_23 rfl ?_
    refine ev_ireturn dX7_seed_24 ?_
    rw [if_neg (by omega)]
    exact ⟨rfl, rfl⟩
  · refine ev_ldc (z := -1000000002) dX7_seed_4 kc_X7_73 (by decide) ?_
    refine ev_ireturn dX7_seed_6 ?_
    rw [if_pos (by omega)]
    exact ⟨rfl, rfl⟩
noncomputable def dC (p : Prop) : Bool := @decide p (Classical.propDecidable p)
theorem dC_t {p : Prop} (h : p) : dC p = true := @decide_eq_true p (Classical.propDecidable p) h
theorem dC_f {p : Prop} (h : ¬ p) : dC p = false := @decide_eq_false p (Classical.propDecidable p) h
noncomputable def whoZ (n nb : Nat) (D : Nat → Nat → Nat → Int) (H B Pl T : Nat → Int) (k : Nat) (p m : Int) : Int := if ¬ (0 ≤ p ∧ p < n) then -1000000001 else if ¬ (0 ≤ m ∧ m ≤ 9999) then -1000000002 else (bs (fun b => dC (couldZ (D b) H B Pl T k b p.toNat m)) nb : Nat)
theorem k_who (σ : Mem) (P n nr nb nl w wt : Nat) (f t : Nat → Nat) (hPO : PlanOk σ P n nr nb nl f t) (hPI : PlIs σ P) (hBt : Bits σ w wt) (k : Nat) (hBk : BookOk σ n nb k) (p0 m : Int) (hp : inR p0) (hm : inR m) : Con yX7_who cX7_who 5 (some .int) 6 144 [.ref 0, .int (iI p0), .int (iI m)] σ (AnsIP (whoZ n nb (fun b => dst σ P n nr nl w wt f t b 0 1) (fun i => σ.1 (P + 9) i) (fun i => σ.1 66 i) (fun i => σ.1 67 i) (fun i => σ.1 68 i) k p0 m) (fun τ => Same sM σ τ)) := by
  refine con_of (by decide) rfl (Nat.le_of_ble_eq_true rfl) (ok_IP rfl) ?_
  refine ev_w (fun hR => ?_)
  have hR0 := hR
  obtain ⟨hPR, ⟨hnb, hnb4⟩, ⟨hnl, hnl4⟩, hpo, hro, hbo, hlo⟩ := id hPO
  obtain ⟨hP, hn, hn8, hnr, hnr12, hft⟩ := id hPR
  obtain ⟨hw, hw2, hwt, hwt2⟩ := id hBt
  have hpl := hPI.q
  have loop : ∀ p : Nat, p0 = p → p < n → 0 ≤ m → m ≤ 9999 → ∀ i : Nat, i ≤ nb → ∀ τ : Mem, Same sM σ τ → Ev RX7 cX7_who 5 6 144 (AnsIP (whoZ n nb (fun b => dst σ P n nr nl w wt f t b 0 1) (fun i => σ.1 (P + 9) i) (fun i => σ.1 66 i) (fun i => σ.1 67 i) (fun i => σ.1 68 i) k p0 m) (fun τ => Same sM σ τ)) 30 [some (.ref 0), some (.int (iI p0)), some (.int (iI m)), some (.int (iI (bs (fun b => dC (couldZ (dst σ P n nr nl w wt f t b 0 1) (fun i => σ.1 (P + 9) i) (fun i => σ.1 66 i) (fun i => σ.1 67 i) (fun i => σ.1 68 i) k b p m)) i : Nat))), some (.int (iI (i : Nat)))] [] τ := by
    intro p hp0 hpn hm0 hm1
    subst hp0
    refine for_up nb (fun i hi ih τ hS => ?_)
    refine ev_w (fun hR => ?_)
    have nP : ∀ k, k ≤ 16 → ¬ sM (P + k) := fun k hk h => by unfold sM at h; omega
    have n0 : ¬ sM 0 := by unfold sM; omega
    have n37 : ¬ sM 37 := by unfold sM; omega
    have hPO2 := hPO.same hS nP
    have hPI2 : PlIs τ P := by unfold PlIs; rw [hS.at n0]; exact hPI
    have hpl2 := hPI2.q
    have hBt2 : Bits τ w wt := by unfold Bits; rw [hS.at n37, hS.at n37]; exact hBt
    have e65 := hS.1 65 (by unfold sM; omega)
    have e66 := hS.1 66 (by unfold sM; omega)
    have e67 := hS.1 67 (by unfold sM; omega)
    have e68 := hS.1 68 (by unfold sM; omega)
    have eP9 := hS.1 (P + 9) (nP 9 (by omega))
    have hBk2 : BookOk τ n nb k := by unfold BookOk; rw [e65, e66, e67, e68]; exact hBk
    have eC : ∀ b, couldZ (dst τ P n nr nl w wt f t b 0 1) (fun i => τ.1 (P + 9) i) (fun i => τ.1 66 i) (fun i => τ.1 67 i) (fun i => τ.1 68 i) k b p m = couldZ (dst σ P n nr nl w wt f t b 0 1) (fun i => σ.1 (P + 9) i) (fun i => σ.1 66 i) (fun i => σ.1 67 i) (fun i => σ.1 68 i) k b p m := by
      intro b; rw [dst_same hS nP, e66, e67, e68, eP9]
    refine ev_iload dX7_who_30 rfl ?_
    refine ev_aload_n dX7_who_32 rfl ?_
    refine ev_getQ (r := P) dX7_who_33 fl_X7_19 rfl rfl hpl2 ?_
    refine ev_getI (kz := 2) dX7_who_36 fl_X7_101 (plO hP) rfl rfl ?_
    rw [hPO2.2.1.1]
    refine ev_icmp_ge (tgt := 66) dX7_who_39 (by decide) (by first | exact hR.1 _ _ | exact hR0.1 _ _ | assumption | exact ⟨by omega, by omega⟩ | exact ⟨by simp [wr_at]; omega, by simp [wr_at]; omega⟩ | exact b2_R _ | exact bC_R _ | exact band_R _ _ | exact bor_R _ _ | exact bshl_R _ _ | exact bshr_R _ _ | exact bxor_R _ _ | exact bs_R (by omega) | decide) (by first | exact hR.1 _ _ | exact hR0.1 _ _ | assumption | exact ⟨by omega, by omega⟩ | exact ⟨by simp [wr_at]; omega, by simp [wr_at]; omega⟩ | exact b2_R _ | exact bC_R _ | exact band_R _ _ | exact bor_R _ _ | exact bshl_R _ _ | exact bshr_R _ _ | exact bxor_R _ _ | exact bs_R (by omega) | decide) (fun h_39 => ?_) (fun h_39 => ?_)
    · refine ev_iload_n dX7_who_66 rfl ?_
      refine ev_ireturn dX7_who_67 ?_
      obtain rfl : i = nb := by omega
      exact ⟨by rw [whoZ, if_neg (by omega), if_neg (by omega)]; rfl, hS⟩
    · refine ev_aload_n dX7_who_42 rfl ?_
      refine ev_iload dX7_who_43 rfl ?_
      refine ev_iload_n dX7_who_45 rfl ?_
      refine ev_iload_n dX7_who_46 rfl ?_
      refine ev_callVP dX7_who_47 kv_X7_301 (k_canHaveBeen τ P n nr nb nl w wt f t hPO2 hPI2 hBt2 k i p m hBk2 (by omega) (by omega) hm0 hm1) rfl rfl (ci := 7) rfl rfl ⟨by decide, by decide⟩ (Nat.le_of_ble_eq_true rfl) ?_
      rintro v_47 τ_47 ⟨rfl, hS2⟩
      refine ev_w (fun hR => ?_)
      rw [eC]
      refine ev_if_eq (tgt := 60) dX7_who_50 (by decide) (by first | exact hR.1 _ _ | exact hR0.1 _ _ | assumption | exact ⟨by omega, by omega⟩ | exact ⟨by simp [wr_at]; omega, by simp [wr_at]; omega⟩ | exact b2_R _ | exact bC_R _ | exact band_R _ _ | exact bor_R _ _ | exact bshl_R _ _ | exact bshr_R _ _ | exact bxor_R _ _ | exact bs_R (by omega) | decide) (fun h_50 => ?_) (fun h_50 => ?_)
      · refine ev_iinc dX7_who_60 rfl rfl (by decide) rfl ?_
        refine ev_goto (tgt := 30) dX7_who_63 (by decide) ?_
        first
          | (have z := bC_ne h_50; rw [bs_ort (p := fun b => dC (couldZ (dst σ P n nr nl w wt f t b 0 1) (fun i => σ.1 (P + 9) i) (fun i => σ.1 66 i) (fun i => σ.1 67 i) (fun i => σ.1 68 i) k b p m)) (n := i) (by omega) (dC_t z)]; exact ih (by omega) _ (hS.tr hS2))
          | (have z := bC_eq h_50; rw [bs_orf (p := fun b => dC (couldZ (dst σ P n nr nl w wt f t b 0 1) (fun i => σ.1 (P + 9) i) (fun i => σ.1 66 i) (fun i => σ.1 67 i) (fun i => σ.1 68 i) k b p m)) (n := i) (dC_f z)]; exact ih (by omega) _ (hS.tr hS2))
      · refine ev_iload_n dX7_who_53 rfl ?_
        refine ev_iconst dX7_who_54 ?_
        refine ev_iload dX7_who_55 rfl ?_
        refine ev_ishl dX7_who_57 ?_
        refine ev_ior dX7_who_58 ?_
        refine ev_istore_n dX7_who_59 rfl (by decide) rfl ?_
        refine ev_iinc dX7_who_60 rfl rfl (by decide) rfl ?_
        refine ev_goto (tgt := 30) dX7_who_63 (by decide) ?_
        first
          | (have z := bC_ne h_50; rw [bs_ort (p := fun b => dC (couldZ (dst σ P n nr nl w wt f t b 0 1) (fun i => σ.1 (P + 9) i) (fun i => σ.1 66 i) (fun i => σ.1 67 i) (fun i => σ.1 68 i) k b p m)) (n := i) (by omega) (dC_t z)]; exact ih (by omega) _ (hS.tr hS2))
          | (have z := bC_eq h_50; rw [bs_orf (p := fun b => dC (couldZ (dst σ P n nr nl w wt f t b 0 1) (fun i => σ.1 (P + 9) i) (fun i => σ.1 66 i) (fun i => σ.1 67 i) (fun i => σ.1 68 i) k b p m)) (n := i) (dC_f z)]; exact ih (by omega) _ (hS.tr hS2))
  refine ev_aload_n dX7_who_0 rfl ?_
  refine ev_iload_n dX7_who_1 rfl ?_
  refine ev_callVI dX7_who_2 kv_X7_122 (k_isPole σ p0 P hp hP hpl) rfl rfl (ci := 7) rfl rfl ⟨by decide, by decide⟩ (Nat.le_of_ble_eq_true rfl) ?_
  refine ev_w (fun hR => ?_)
  rw [hn]
  refine ev_if_ne (tgt := 11) dX7_who_5 (by decide) (by first | exact hR.1 _ _ | exact hR0.1 _ _ | assumption | exact ⟨by omega, by omega⟩ | exact ⟨by simp [wr_at]; omega, by simp [wr_at]; omega⟩ | exact b2_R _ | exact bC_R _ | exact band_R _ _ | exact bor_R _ _ | exact bshl_R _ _ | exact bshr_R _ _ | exact bxor_R _ _ | exact bs_R (by omega) | decide) (fun h_5 => ?_) (fun h_5 => ?_)
  · refine ev_iload_n dX7_who_11 rfl ?_
    refine ev_if_lt (tgt := 22) dX7_who_12 (by decide) (by first | exact hR.1 _ _ | exact hR0.1 _ _ | assumption | exact ⟨by omega, by omega⟩ | exact ⟨by simp [wr_at]; omega, by simp [wr_at]; omega⟩ | exact b2_R _ | exact bC_R _ | exact band_R _ _ | exact bor_R _ _ | exact bshl_R _ _ | exact bshr_R _ _ | exact bxor_R _ _ | exact bs_R (by omega) | decide) (fun h_12 => ?_) (fun h_12 => ?_)
    · refine ev_ldc (z := -1000000002) dX7_who_22 kc_X7_73 (by decide) ?_
      refine ev_ireturn dX7_who_24 ?_
      have z := b2_ne h_5
      exact ⟨by rw [whoZ, if_neg (fun y => y z), if_pos (by omega)], Same.rf⟩
    · refine ev_iload_n dX7_who_15 rfl ?_
      refine ev_sipush dX7_who_16 (by decide) ?_
      refine ev_icmp_le (tgt := 25) dX7_who_19 (by decide) (by first | exact hR.1 _ _ | exact hR0.1 _ _ | assumption | exact ⟨by omega, by omega⟩ | exact ⟨by simp [wr_at]; omega, by simp [wr_at]; omega⟩ | exact b2_R _ | exact bC_R _ | exact band_R _ _ | exact bor_R _ _ | exact bshl_R _ _ | exact bshr_R _ _ | exact bxor_R _ _ | exact bs_R (by omega) | decide) (by first | exact hR.1 _ _ | exact hR0.1 _ _ | assumption | exact ⟨by omega, by omega⟩ | exact ⟨by simp [wr_at]; omega, by simp [wr_at]; omega⟩ | exact b2_R _ | exact bC_R _ | exact band_R _ _ | exact bor_R _ _ | exact bshl_R _ _ | exact bshr_R _ _ | exact bxor_R _ _ | exact bs_R (by omega) | decide) (fun h_19 => ?_) (fun h_19 => ?_)
      · refine ev_iconst dX7_who_25 ?_
        refine ev_istore_n dX7_who_26 rfl (by decide) rfl ?_
        refine ev_iconst dX7_who_27 ?_
        refine ev_istore dX7_who_28 rfl (by decide) rfl ?_
        have z := b2_ne h_5
        obtain ⟨p, rfl⟩ := Int.eq_ofNat_of_zero_le z.1
        exact loop p rfl (by omega) (by omega) (by omega) 0 (by omega) σ Same.rf
      · refine ev_ldc (z := -1000000002) dX7_who_22 kc_X7_73 (by decide) ?_
        refine ev_ireturn dX7_who_24 ?_
        have z := b2_ne h_5
        exact ⟨by rw [whoZ, if_neg (fun y => y z), if_pos (by omega)], Same.rf⟩
  · refine ev_ldc (z := -1000000001) dX7_who_8 kc_X7_126 (by decide) ?_
    refine ev_ireturn dX7_who_10 ?_
    have z := b2_eq (by omega : b2 (0 ≤ p0 ∧ p0 < (n : Int)) = 0)
    exact ⟨by rw [whoZ, if_pos z], Same.rf⟩
noncomputable def fstP (p : Nat → Prop) : Nat → Int
  | 0 => -1
  | i + 1 => if fstP p i = -1 then (if dC (p i) = true then (i : Int) else -1) else fstP p i
theorem fstP_none {p : Nat → Prop} {n : Nat} (h : ∀ i, i < n → ¬ p i) : fstP p n = -1 := by
  induction n with
  | zero => rfl
  | succ n ih => rw [fstP, ih (fun i hi => h i (by omega)), if_pos rfl, dC_f (h n (by omega)), if_neg (by decide)]
theorem fstP_at {p : Nat → Prop} {n i : Nat} (hi : i < n) (h : ∀ j, j < i → ¬ p j) (hp : p i) : fstP p n = i := by
  induction n with
  | zero => omega
  | succ n ih =>
    by_cases e : i = n
    · subst e; rw [fstP, fstP_none h, if_pos rfl, dC_t hp, if_pos rfl]
    · rw [fstP, ih (by omega), if_neg (by omega)]
theorem fstP_congr {p q : Nat → Prop} {n : Nat} (h : ∀ i, i < n → (p i ↔ q i)) : fstP p n = fstP q n := by
  induction n with
  | zero => rfl
  | succ n ih => rw [fstP, fstP, ih (fun i hi => h i (by omega)), show p n = q n from propext (h n (by omega))]
theorem k_judge (σ : Mem) (P n nr nb nl w wt : Nat) (f t : Nat → Nat) (hPO : PlanOk σ P n nr nb nl f t) (hPI : PlIs σ P) (hBt : Bits σ w wt) (k : Nat) (hBk : BookOk σ n nb k) : Con yX7_judge cX7_judge 2 (some .int) 7 166 [.ref 0] σ (AnsIP (fstP (fun i => wrongZ (fun b => dst σ P n nr nl w wt f t b 0 1) (fun i => σ.1 (P + 9) i) (fun i => σ.1 66 i) (fun i => σ.1 67 i) (fun i => σ.1 68 i) i) k) (fun τ => Same sM σ τ)) := by
  refine con_of (by decide) rfl (Nat.le_of_ble_eq_true rfl) (ok_IP rfl) ?_
  refine ev_w (fun hR => ?_)
  have hR0 := hR
  obtain ⟨hPR, ⟨hnb, hnb4⟩, ⟨hnl, hnl4⟩, hpo, hro, hbo, hlo⟩ := id hPO
  obtain ⟨hP, hn, hn8, hnr, hnr12, hft⟩ := id hPR
  obtain ⟨hw, hw2, hwt, hwt2⟩ := id hBt
  have hpl := hPI.q
  have loop : ∀ i : Nat, i ≤ k → ∀ τ : Mem, Same sM σ τ → (∀ j, j < i → ¬ (fun i => wrongZ (fun b => dst σ P n nr nl w wt f t b 0 1) (fun i => σ.1 (P + 9) i) (fun i => σ.1 66 i) (fun i => σ.1 67 i) (fun i => σ.1 68 i) i) j) → Ev RX7 cX7_judge 2 7 166 (AnsIP (fstP (fun i => wrongZ (fun b => dst σ P n nr nl w wt f t b 0 1) (fun i => σ.1 (P + 9) i) (fun i => σ.1 66 i) (fun i => σ.1 67 i) (fun i => σ.1 68 i) i) k) (fun τ => Same sM σ τ)) 2 [some (.ref 0), some (.int (iI (i : Nat)))] [] τ := by
    refine for_up k (fun i hi ih τ hS hno => ?_)
    refine ev_w (fun hR => ?_)
    have nP : ∀ k, k ≤ 16 → ¬ sM (P + k) := fun k hk h => by unfold sM at h; omega
    have n0 : ¬ sM 0 := by unfold sM; omega
    have n37 : ¬ sM 37 := by unfold sM; omega
    have hPO2 := hPO.same hS nP
    have hPI2 : PlIs τ P := by unfold PlIs; rw [hS.at n0]; exact hPI
    have hBt2 : Bits τ w wt := by unfold Bits; rw [hS.at n37, hS.at n37]; exact hBt
    have e65 := hS.1 65 (by unfold sM; omega)
    have e66 := hS.1 66 (by unfold sM; omega)
    have e67 := hS.1 67 (by unfold sM; omega)
    have e68 := hS.1 68 (by unfold sM; omega)
    have eP9 := hS.1 (P + 9) (nP 9 (by omega))
    have hBk2 : BookOk τ n nb k := by unfold BookOk; rw [e65, e66, e67, e68]; exact hBk
    have hk20 := hBk.2.1
    have eC : wrongZ (fun b => dst τ P n nr nl w wt f t b 0 1) (fun i => τ.1 (P + 9) i) (fun i => τ.1 66 i) (fun i => τ.1 67 i) (fun i => τ.1 68 i) i = wrongZ (fun b => dst σ P n nr nl w wt f t b 0 1) (fun i => σ.1 (P + 9) i) (fun i => σ.1 66 i) (fun i => σ.1 67 i) (fun i => σ.1 68 i) i := by
      rw [show (fun b => dst τ P n nr nl w wt f t b 0 1) = (fun b => dst σ P n nr nl w wt f t b 0 1) from funext fun b => dst_same hS nP, e66, e67, e68, eP9]
    refine ev_iload_n dX7_judge_2 rfl ?_
    refine ev_aload_n dX7_judge_3 rfl ?_
    refine ev_getR (r := 65) dX7_judge_4 fl_X7_44 rfl rfl rfl ?_
    refine ev_getI (kz := 0) dX7_judge_7 fl_X7_89 rfl rfl rfl ?_
    rw [hBk2.1]
    refine ev_icmp_ge (tgt := 29) dX7_judge_10 (by decide) (by first | exact hR.1 _ _ | exact hR0.1 _ _ | assumption | exact ⟨by omega, by omega⟩ | exact ⟨by simp [wr_at]; omega, by simp [wr_at]; omega⟩ | exact b2_R _ | exact bC_R _ | exact band_R _ _ | exact bor_R _ _ | exact bshl_R _ _ | exact bshr_R _ _ | exact bxor_R _ _ | exact bs_R (by omega) | decide) (by first | exact hR.1 _ _ | exact hR0.1 _ _ | assumption | exact ⟨by omega, by omega⟩ | exact ⟨by simp [wr_at]; omega, by simp [wr_at]; omega⟩ | exact b2_R _ | exact bC_R _ | exact band_R _ _ | exact bor_R _ _ | exact bshl_R _ _ | exact bshr_R _ _ | exact bxor_R _ _ | exact bs_R (by omega) | decide) (fun h_10 => ?_) (fun h_10 => ?_)
    · refine ev_iconst dX7_judge_29 ?_
      refine ev_ireturn dX7_judge_30 ?_
      obtain rfl : i = k := by omega
      exact ⟨by rw [fstP_none hno], hS⟩
    · refine ev_aload_n dX7_judge_13 rfl ?_
      refine ev_iload_n dX7_judge_14 rfl ?_
      refine ev_callVP dX7_judge_15 kv_X7_305 (k_isWrong τ P n nr nb nl w wt f t hPO2 hPI2 hBt2 k i hBk2 (by omega)) rfl rfl (ci := 7) rfl rfl ⟨by decide, by decide⟩ (Nat.le_of_ble_eq_true rfl) ?_
      rintro v_15 τ_15 ⟨rfl, hS2⟩
      refine ev_w (fun hR => ?_)
      rw [eC]
      refine ev_if_eq (tgt := 23) dX7_judge_18 (by decide) (by first | exact hR.1 _ _ | exact hR0.1 _ _ | assumption | exact ⟨by omega, by omega⟩ | exact ⟨by simp [wr_at]; omega, by simp [wr_at]; omega⟩ | exact b2_R _ | exact bC_R _ | exact band_R _ _ | exact bor_R _ _ | exact bshl_R _ _ | exact bshr_R _ _ | exact bxor_R _ _ | exact bs_R (by omega) | decide) (fun h_18 => ?_) (fun h_18 => ?_)
      · refine ev_iinc dX7_judge_23 rfl rfl (by decide) rfl ?_
        refine ev_goto (tgt := 2) dX7_judge_26 (by decide) ?_
        have z := bC_eq h_18
        refine ih (by omega) _ (hS.tr hS2) (fun j hj => ?_)
        by_cases e : j = i
        · subst e; exact z
        · exact hno j (by omega)
      · refine ev_iload_n dX7_judge_21 rfl ?_
        refine ev_ireturn dX7_judge_22 ?_
        have z := bC_ne h_18
        exact ⟨by rw [fstP_at (i := i) (by omega) hno z], hS.tr hS2⟩
  refine ev_iconst dX7_judge_0 ?_
  refine ev_istore_n dX7_judge_1 rfl (by decide) rfl ?_
  exact loop 0 (by omega) σ Same.rf (fun j hj => by omega)
