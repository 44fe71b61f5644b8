/-- what the reference's ways rest on: the plan, and its ropes' two rows -/
def MRp (μ σ : Mem) (P n nr nb nl w wt : Nat) (f t : Nat → Nat) : Prop := PlanOk σ P n nr nb nl f t ∧ MPl μ σ P n nr nb nl ∧ ∀ r : Nat, r < nr → μ.1 96 r = b2 (wt.testBit r = true) ∧ μ.1 97 r = b2 (w.testBit r = false)
theorem MOk.rp {μ σ : Mem} {P n nr nb nl mb w wt dv : Nat} {f t : Nat → Nat} (hM : MOk μ σ P n nr nb nl mb w wt dv f t) : MRp μ σ P n nr nb nl w wt f t := ⟨hM.1, hM.2.2.1, fun r hr => ⟨hM.wet hr, hM.cut hr⟩⟩
theorem MRp.to {μ ν σ : Mem} {P n nr nb nl w wt : Nat} {f t : Nat → Nat} (h : MRp μ σ P n nr nb nl w wt f t) (h0 : ∀ k : Int, k = 0 ∨ k = 4 ∨ k = 9 ∨ k = 13 → ν.1 79 k = μ.1 79 k) (hc : ∀ c, 80 ≤ c → c ≤ 97 → c ≠ 95 → ν.1 c = μ.1 c) : MRp ν σ P n nr nb nl w wt f t := by
  obtain ⟨h1, ⟨⟨a1, a2, a3, a4⟩, hp, hr, hb, hl⟩, h3⟩ := h
  refine ⟨h1, ⟨⟨?_, ?_, ?_, ?_⟩, ?_, ?_, ?_, ?_⟩, ?_⟩
  · rw [h0 _ (by decide)]; exact a1
  · rw [h0 _ (by decide)]; exact a2
  · rw [h0 _ (by decide)]; exact a3
  · rw [h0 _ (by decide)]; exact a4
  · rw [hc 80 (by decide) (by decide) (by decide), hc 81 (by decide) (by decide) (by decide), hc 82 (by decide) (by decide) (by decide)]; exact hp
  · rw [hc 83 (by decide) (by decide) (by decide), hc 84 (by decide) (by decide) (by decide), hc 85 (by decide) (by decide) (by decide), hc 86 (by decide) (by decide) (by decide)]; exact hr
  · rw [hc 87 (by decide) (by decide) (by decide), hc 88 (by decide) (by decide) (by decide), hc 89 (by decide) (by decide) (by decide)]; exact hb
  · rw [hc 90 (by decide) (by decide) (by decide), hc 91 (by decide) (by decide) (by decide), hc 92 (by decide) (by decide) (by decide), hc 93 (by decide) (by decide) (by decide), hc 94 (by decide) (by decide) (by decide)]; exact hl
  · rw [hc 96 (by decide) (by decide) (by decide), hc 97 (by decide) (by decide) (by decide)]; exact h3
theorem r_poundsOf (μ σ : Mem) (P n nr nb nl w wt : Nat) (f t : Nat → Nat) (hM : MRp μ σ P n nr nb nl w wt f t) (b s : Nat) (hb : b < nb) (hs : s < 2 ^ 31) : Con yX8_poundsOf cX8_poundsOf 5 (some .int) 1 21 [.ref 79, .int (iI b), .int (iI s)] μ (AnsI (σ.1 (P + 10) b + lbs σ (P + 14) nl s) μ) := by
  refine con_of (by decide) rfl (Nat.le_of_ble_eq_true rfl) (ok_I rfl) ?_
  refine ev_w (fun hR => ?_)
  have hR0 := hR
  obtain ⟨hPO, hMP, hwc⟩ := id hM
  obtain ⟨hPR, ⟨hnb, hnb4⟩, ⟨hnl, hnl4⟩, hpo, hro, hbo, hlo⟩ := id hPO
  obtain ⟨hP, hn, hn8, hnr, hnr12, hft⟩ := id hPR
  obtain ⟨⟨cn, cr, cb, cl⟩, mp, mr, mbo, ml⟩ := id hMP
  have loop : ∀ i : Nat, i ≤ nl → Ev RX8 cX8_poundsOf 5 1 21 (AnsI (σ.1 (P + 10) b + lbs σ (P + 14) nl s) μ) 10 [some (.ref 79), some (.int (iI b)), some (.int (iI s)), some (.int (iI (σ.1 (P + 10) b + lbs σ (P + 14) i s))), some (.int (iI (i : Nat)))] [] μ := by
    refine for_up nl (fun i hi ih => ?_)
    refine ev_w (fun hR => ?_)
    refine ev_iload dX8_poundsOf_10 rfl ?_
    refine ev_aload_n dX8_poundsOf_12 rfl ?_
    refine ev_getI (kz := 13) dX8_poundsOf_13 fl_X8_190 rfl rfl rfl ?_
    rw [cl]
    refine ev_icmp_ge (tgt := 48) dX8_poundsOf_16 (by decide) (by first | exact hR.1 _ _ | exact hR0.1 _ _ | assumption | exact ⟨by omega, by omega⟩ | exact ⟨by simp [wr_at]; omega, by simp [wr_at]; omega⟩ | exact b2_R _ | exact bC_R _ | exact band_R _ _ | exact bor_R _ _ | exact bshl_R _ _ | exact bshr_R _ _ | exact bxor_R _ _ | exact bs_R (by omega) | decide) (by first | exact hR.1 _ _ | exact hR0.1 _ _ | assumption | exact ⟨by omega, by omega⟩ | exact ⟨by simp [wr_at]; omega, by simp [wr_at]; omega⟩ | exact b2_R _ | exact bC_R _ | exact band_R _ _ | exact bor_R _ _ | exact bshl_R _ _ | exact bshr_R _ _ | exact bxor_R _ _ | exact bs_R (by omega) | decide) (fun h_16 => ?_) (fun h_16 => ?_)
    · refine ev_iload_n dX8_poundsOf_48 rfl ?_
      refine ev_ireturn dX8_poundsOf_49 ?_
      obtain rfl : i = nl := by omega
      exact ⟨rfl, rfl⟩
    · refine ev_iload_n dX8_poundsOf_19 rfl ?_
      refine ev_iload_n dX8_poundsOf_20 rfl ?_
      refine ev_iload dX8_poundsOf_21 rfl ?_
      refine ev_callSI dX8_poundsOf_23 ks_X8_339 (m_has μ s i hs (by omega)) rfl rfl ⟨by decide, by decide⟩ (Nat.le_of_ble_eq_true rfl) ?_
      refine ev_w (fun hR => ?_)
      refine ev_if_eq (tgt := 39) dX8_poundsOf_26 (by decide) (by first | exact hR.1 _ _ | exact hR0.1 _ _ | assumption | exact ⟨by omega, by omega⟩ | exact ⟨by simp [wr_at]; omega, by simp [wr_at]; omega⟩ | exact b2_R _ | exact bC_R _ | exact band_R _ _ | exact bor_R _ _ | exact bshl_R _ _ | exact bshr_R _ _ | exact bxor_R _ _ | exact bs_R (by omega) | decide) (fun h_26 => ?_) (fun h_26 => ?_)
      · refine ev_iconst dX8_poundsOf_39 ?_
        refine ev_iadd dX8_poundsOf_40 ?_
        refine ev_istore_n dX8_poundsOf_41 rfl (by decide) rfl ?_
        refine ev_iinc dX8_poundsOf_42 rfl rfl (by decide) rfl ?_
        refine ev_goto (tgt := 10) dX8_poundsOf_45 (by decide) ?_
        have e : lbs σ (P + 14) (i + 1) s = lbs σ (P + 14) i s + (if s.testBit i then σ.1 (P + 14) i else 0) := rfl
        have q := ih (by omega)
        rw [e, ← Int.add_assoc] at q
        first
          | (rw [if_pos (b2_ne h_26)] at q; exact q)
          | (rw [if_neg (b2_eq h_26)] at q; exact q)
      · refine ev_aload_n dX8_poundsOf_29 rfl ?_
        refine ev_getR (r := 92) dX8_poundsOf_30 fl_X8_46 rfl rfl rfl ?_
        refine ev_iload dX8_poundsOf_33 rfl ?_
        refine ev_iaload dX8_poundsOf_35 rfl (by first | omega | (simp [wr_at]; omega) | (simp [wr_at, *]; omega)) (by first | omega | (simp [wr_at]; omega) | (simp [wr_at, *]; omega)) (by decide) ?_
        rw [(ml i (by omega)).2.2.1]
        refine ev_goto (tgt := 40) dX8_poundsOf_36 (by decide) ?_
        refine ev_iadd dX8_poundsOf_40 ?_
        refine ev_istore_n dX8_poundsOf_41 rfl (by decide) rfl ?_
        refine ev_iinc dX8_poundsOf_42 rfl rfl (by decide) rfl ?_
        refine ev_goto (tgt := 10) dX8_poundsOf_45 (by decide) ?_
        have e : lbs σ (P + 14) (i + 1) s = lbs σ (P + 14) i s + (if s.testBit i then σ.1 (P + 14) i else 0) := rfl
        have q := ih (by omega)
        rw [e, ← Int.add_assoc] at q
        first
          | (rw [if_pos (b2_ne h_26)] at q; exact q)
          | (rw [if_neg (b2_eq h_26)] at q; exact q)
  refine ev_aload_n dX8_poundsOf_0 rfl ?_
  refine ev_getR (r := 88) dX8_poundsOf_1 fl_X8_34 rfl rfl rfl ?_
  refine ev_iload_n dX8_poundsOf_4 rfl ?_
  refine ev_iaload dX8_poundsOf_5 rfl (by first | omega | (simp [wr_at]; omega) | (simp [wr_at, *]; omega)) (by first | omega | (simp [wr_at]; omega) | (simp [wr_at, *]; omega)) (by decide) ?_
  rw [(mbo b hb).2.1]
  refine ev_istore_n dX8_poundsOf_6 rfl (by decide) rfl ?_
  refine ev_iconst dX8_poundsOf_7 ?_
  refine ev_istore dX8_poundsOf_8 rfl (by decide) rfl ?_
  have q := loop 0 (by omega)
  rw [show σ.1 (P + 10) b + lbs σ (P + 14) 0 s = σ.1 (P + 10) b from Int.add_zero _] at q
  exact q
theorem r_hasKind (μ σ : Mem) (P n nr nb nl w wt : Nat) (f t : Nat → Nat) (hM : MRp μ σ P n nr nb nl w wt f t) (s : Nat) (hs : s < 2 ^ 31) (kd : Int) (hkd : inR kd) : Con yX8_hasKind cX8_hasKind 5 (some .boolean) 1 21 [.ref 79, .int (iI s), .int (iI kd)] μ (AnsI (b2 (anyK σ (P + 16) nl s kd = true)) μ) := by
  refine con_of (by decide) rfl (Nat.le_of_ble_eq_true rfl) (ok_Z rfl (b2_01 _)) ?_
  refine ev_w (fun hR => ?_)
  have hR0 := hR
  obtain ⟨hPO, hMP, hwc⟩ := id hM
  obtain ⟨hPR, ⟨hnb, hnb4⟩, ⟨hnl, hnl4⟩, hpo, hro, hbo, hlo⟩ := id hPO
  obtain ⟨hP, hn, hn8, hnr, hnr12, hft⟩ := id hPR
  obtain ⟨⟨cn, cr, cb, cl⟩, mp, mr, mbo, ml⟩ := id hMP
  have loop : ∀ i : Nat, i ≤ nl → ∀ z, z = b2 (anyK σ (P + 16) i s kd = true) → Ev RX8 cX8_hasKind 5 1 21 (AnsI (b2 (anyK σ (P + 16) nl s kd = true)) μ) 5 [some (.ref 79), some (.int (iI s)), some (.int (iI kd)), some (.int (iI z)), some (.int (iI (i : Nat)))] [] μ := by
    refine for_up nl (fun i hi ih => ?_)
    intro z hz
    refine ev_w (fun hR => ?_)
    have e : anyK σ (P + 16) (i + 1) s kd = (anyK σ (P + 16) i s kd || (s.testBit i && decide (σ.1 (P + 16) i = kd))) := rfl
    refine ev_iload dX8_hasKind_5 rfl ?_
    refine ev_aload_n dX8_hasKind_7 rfl ?_
    refine ev_getI (kz := 13) dX8_hasKind_8 fl_X8_190 rfl rfl rfl ?_
    rw [cl]
    refine ev_icmp_ge (tgt := 50) dX8_hasKind_11 (by decide) (by first | exact hR.1 _ _ | exact hR0.1 _ _ | assumption | exact ⟨by omega, by omega⟩ | exact ⟨by simp [wr_at]; omega, by simp [wr_at]; omega⟩ | exact b2_R _ | exact bC_R _ | exact band_R _ _ | exact bor_R _ _ | exact bshl_R _ _ | exact bshr_R _ _ | exact bxor_R _ _ | exact bs_R (by omega) | decide) (by first | exact hR.1 _ _ | exact hR0.1 _ _ | assumption | exact ⟨by omega, by omega⟩ | exact ⟨by simp [wr_at]; omega, by simp [wr_at]; omega⟩ | exact b2_R _ | exact bC_R _ | exact band_R _ _ | exact bor_R _ _ | exact bshl_R _ _ | exact bshr_R _ _ | exact bxor_R _ _ | exact bs_R (by omega) | decide) (fun h_11 => ?_) (fun h_11 => ?_)
    · refine ev_iload_n dX8_hasKind_50 rfl ?_
      refine ev_ireturn dX8_hasKind_51 ?_
      obtain rfl : i = nl := by omega
      rw [hz]
      exact ⟨rfl, rfl⟩
    · refine ev_iload_n dX8_hasKind_14 rfl ?_
      refine ev_if_ne (tgt := 38) dX8_hasKind_15 (by decide) (by rw [hz]; exact b2_R _) (fun h_15 => ?_) (fun h_15 => ?_)
      · refine ev_iconst dX8_hasKind_38 ?_
        refine ev_goto (tgt := 43) dX8_hasKind_39 (by decide) ?_
        refine ev_istore_n dX8_hasKind_43 rfl (by decide) rfl ?_
        refine ev_iinc dX8_hasKind_44 rfl rfl (by decide) rfl ?_
        refine ev_goto (tgt := 5) dX8_hasKind_47 (by decide) ?_
        rw [hz] at h_15
        first
          | exact ih (by omega) 1 (b2_t (by rw [e, b2_ne h_15]; rfl)).symm
          | (have h1 := b2_eq h_15
             have h2 := b2_eq h_24
             exact ih (by omega) 0 (b2_f (by rw [e]; simp [h1, h2])).symm)
          | (have h2 := b2_ne h_24
             exact ih (by omega) 1 (b2_t (by rw [e]; simp [h2, h_35])).symm)
          | (have h1 := b2_eq h_15
             exact ih (by omega) 0 (b2_f (by rw [e]; simp [h1, h_35])).symm)
      · refine ev_iload_n dX8_hasKind_18 rfl ?_
        refine ev_iload dX8_hasKind_19 rfl ?_
        refine ev_callSI dX8_hasKind_21 ks_X8_339 (m_has μ s i hs (by omega)) rfl rfl ⟨by decide, by decide⟩ (Nat.le_of_ble_eq_true rfl) ?_
        refine ev_w (fun hR => ?_)
        refine ev_if_eq (tgt := 42) dX8_hasKind_24 (by decide) (by first | exact hR.1 _ _ | exact hR0.1 _ _ | assumption | exact ⟨by omega, by omega⟩ | exact ⟨by simp [wr_at]; omega, by simp [wr_at]; omega⟩ | exact b2_R _ | exact bC_R _ | exact band_R _ _ | exact bor_R _ _ | exact bshl_R _ _ | exact bshr_R _ _ | exact bxor_R _ _ | exact bs_R (by omega) | decide) (fun h_24 => ?_) (fun h_24 => ?_)
        · refine ev_iconst dX8_hasKind_42 ?_
          refine ev_istore_n dX8_hasKind_43 rfl (by decide) rfl ?_
          refine ev_iinc dX8_hasKind_44 rfl rfl (by decide) rfl ?_
          refine ev_goto (tgt := 5) dX8_hasKind_47 (by decide) ?_
          rw [hz] at h_15
          first
            | exact ih (by omega) 1 (b2_t (by rw [e, b2_ne h_15]; rfl)).symm
            | (have h1 := b2_eq h_15
               have h2 := b2_eq h_24
               exact ih (by omega) 0 (b2_f (by rw [e]; simp [h1, h2])).symm)
            | (have h2 := b2_ne h_24
               exact ih (by omega) 1 (b2_t (by rw [e]; simp [h2, h_35])).symm)
            | (have h1 := b2_eq h_15
               exact ih (by omega) 0 (b2_f (by rw [e]; simp [h1, h_35])).symm)
        · refine ev_aload_n dX8_hasKind_27 rfl ?_
          refine ev_getR (r := 94) dX8_hasKind_28 fl_X8_52 rfl rfl rfl ?_
          refine ev_iload dX8_hasKind_31 rfl ?_
          refine ev_iaload dX8_hasKind_33 rfl (by first | omega | (simp [wr_at]; omega) | (simp [wr_at, *]; omega)) (by first | omega | (simp [wr_at]; omega) | (simp [wr_at, *]; omega)) (by decide) ?_
          rw [(ml i (by omega)).2.2.2.2]
          have hki := (hlo i (by omega)).2.2.2.2.2
          refine ev_iload_n dX8_hasKind_34 rfl ?_
          refine ev_icmp_ne (tgt := 42) dX8_hasKind_35 (by decide) (by first | exact hR.1 _ _ | exact hR0.1 _ _ | assumption | exact ⟨by omega, by omega⟩ | exact ⟨by simp [wr_at]; omega, by simp [wr_at]; omega⟩ | exact b2_R _ | exact bC_R _ | exact band_R _ _ | exact bor_R _ _ | exact bshl_R _ _ | exact bshr_R _ _ | exact bxor_R _ _ | exact bs_R (by omega) | decide) (by first | exact hR.1 _ _ | exact hR0.1 _ _ | assumption | exact ⟨by omega, by omega⟩ | exact ⟨by simp [wr_at]; omega, by simp [wr_at]; omega⟩ | exact b2_R _ | exact bC_R _ | exact band_R _ _ | exact bor_R _ _ | exact bshl_R _ _ | exact bshr_R _ _ | exact bxor_R _ _ | exact bs_R (by omega) | decide) (fun h_35 => ?_) (fun h_35 => ?_)
          · refine ev_iconst dX8_hasKind_42 ?_
            refine ev_istore_n dX8_hasKind_43 rfl (by decide) rfl ?_
            refine ev_iinc dX8_hasKind_44 rfl rfl (by decide) rfl ?_
            refine ev_goto (tgt := 5) dX8_hasKind_47 (by decide) ?_
            rw [hz] at h_15
            first
              | exact ih (by omega) 1 (b2_t (by rw [e, b2_ne h_15]; rfl)).symm
              | (have h1 := b2_eq h_15
                 have h2 := b2_eq h_24
                 exact ih (by omega) 0 (b2_f (by rw [e]; simp [h1, h2])).symm)
              | (have h2 := b2_ne h_24
                 exact ih (by omega) 1 (b2_t (by rw [e]; simp [h2, h_35])).symm)
              | (have h1 := b2_eq h_15
                 exact ih (by omega) 0 (b2_f (by rw [e]; simp [h1, h_35])).symm)
          · refine ev_iconst dX8_hasKind_38 ?_
            refine ev_goto (tgt := 43) dX8_hasKind_39 (by decide) ?_
            refine ev_istore_n dX8_hasKind_43 rfl (by decide) rfl ?_
            refine ev_iinc dX8_hasKind_44 rfl rfl (by decide) rfl ?_
            refine ev_goto (tgt := 5) dX8_hasKind_47 (by decide) ?_
            rw [hz] at h_15
            first
              | exact ih (by omega) 1 (b2_t (by rw [e, b2_ne h_15]; rfl)).symm
              | (have h1 := b2_eq h_15
                 have h2 := b2_eq h_24
                 exact ih (by omega) 0 (b2_f (by rw [e]; simp [h1, h2])).symm)
              | (have h2 := b2_ne h_24
                 exact ih (by omega) 1 (b2_t (by rw [e]; simp [h2, h_35])).symm)
              | (have h1 := b2_eq h_15
                 exact ih (by omega) 0 (b2_f (by rw [e]; simp [h1, h_35])).symm)
  refine ev_iconst dX8_hasKind_0 ?_
  refine ev_istore_n dX8_hasKind_1 rfl (by decide) rfl ?_
  refine ev_iconst dX8_hasKind_2 ?_
  refine ev_istore dX8_hasKind_3 rfl (by decide) rfl ?_
  exact loop 0 (by omega) 0 rfl
theorem r_mayRope (μ σ : Mem) (P n nr nb nl w wt : Nat) (f t : Nat → Nat) (hM : MRp μ σ P n nr nb nl w wt f t) (b r s : Nat) (hb : b < nb) (hr : r < nr) (hs : s < 2 ^ 31) : Con yX8_mayRope cX8_mayRope 4 (some .boolean) 2 45 [.ref 79, .int (iI b), .int (iI r), .int (iI s)] μ (AnsI (b2 (w.testBit r = true ∧ σ.1 (P + 10) b + lbs σ (P + 14) nl s ≤ σ.1 (P + 8) r ∧ (20 ≤ σ.1 (P + 7) r ∨ ¬ anyK σ (P + 16) nl s 3 = true))) μ) := by
  refine con_of (by decide) rfl (Nat.le_of_ble_eq_true rfl) (ok_Z rfl (b2_01 _)) ?_
  refine ev_w (fun hR => ?_)
  have hR0 := hR
  obtain ⟨hPO, hMP, hwc⟩ := id hM
  obtain ⟨hPR, ⟨hnb, hnb4⟩, ⟨hnl, hnl4⟩, hpo, hro, hbo, hlo⟩ := id hPO
  obtain ⟨hP, hn, hn8, hnr, hnr12, hft⟩ := id hPR
  obtain ⟨⟨cn, cr, cb, cl⟩, mp, mr, mbo, ml⟩ := id hMP
  have hlb := lbs_P hPO s
  have hbb := hbo b hb
  have hrr := hro r hr
  refine ev_aload_n dX8_mayRope_0 rfl ?_
  refine ev_getR (r := 97) dX8_mayRope_1 fl_X8_62 rfl rfl rfl ?_
  refine ev_iload_n dX8_mayRope_4 rfl ?_
  refine ev_zaload dX8_mayRope_5 rfl (by first | omega | (simp [wr_at]; omega) | (simp [wr_at, *]; omega)) (by first | omega | (simp [wr_at]; omega) | (simp [wr_at, *]; omega)) (by decide) ?_
  rw [(hwc r hr).2]
  refine ev_if_ne (tgt := 48) dX8_mayRope_6 (by decide) (by first | exact hR.1 _ _ | exact hR0.1 _ _ | assumption | exact ⟨by omega, by omega⟩ | exact ⟨by simp [wr_at]; omega, by simp [wr_at]; omega⟩ | exact b2_R _ | exact bC_R _ | exact band_R _ _ | exact bor_R _ _ | exact bshl_R _ _ | exact bshr_R _ _ | exact bxor_R _ _ | exact bs_R (by omega) | decide) (fun h_6 => ?_) (fun h_6 => ?_)
  · refine ev_iconst dX8_mayRope_48 ?_
    refine ev_ireturn dX8_mayRope_49 ?_
    first
      | (rw [b2_f (fun z => by have q := b2_ne h_6; rw [z.1] at q; exact absurd q (by decide))]; exact ⟨rfl, rfl⟩)
      | (rw [b2_f (fun z => by have q := z.2.1; omega)]; exact ⟨rfl, rfl⟩)
      | (rw [b2_t ⟨by simpa using b2_eq h_6, by omega, Or.inl (by omega)⟩]; exact ⟨rfl, rfl⟩)
      | (rw [b2_f (fun z => by rcases z.2.2 with q | q
                               · omega
                               · exact q (b2_ne h_41))]; exact ⟨rfl, rfl⟩)
      | (rw [b2_t ⟨by simpa using b2_eq h_6, by omega, Or.inr (b2_eq h_41)⟩]; exact ⟨rfl, rfl⟩)
  · refine ev_aload_n dX8_mayRope_9 rfl ?_
    refine ev_iload_n dX8_mayRope_10 rfl ?_
    refine ev_iload_n dX8_mayRope_11 rfl ?_
    refine ev_callVI dX8_mayRope_12 kv_X8_343 (r_poundsOf μ σ P n nr nb nl w wt f t hM b s hb hs) rfl rfl (ci := 8) rfl rfl ⟨by decide, by decide⟩ (Nat.le_of_ble_eq_true rfl) ?_
    refine ev_w (fun hR => ?_)
    refine ev_aload_n dX8_mayRope_15 rfl ?_
    refine ev_getR (r := 86) dX8_mayRope_16 fl_X8_28 rfl rfl rfl ?_
    refine ev_iload_n dX8_mayRope_19 rfl ?_
    refine ev_iaload dX8_mayRope_20 rfl (by first | omega | (simp [wr_at]; omega) | (simp [wr_at, *]; omega)) (by first | omega | (simp [wr_at]; omega) | (simp [wr_at, *]; omega)) (by decide) ?_
    rw [(mr r hr).2.2.2]
    refine ev_icmp_gt (tgt := 48) dX8_mayRope_21 (by decide) (by first | exact hR.1 _ _ | exact hR0.1 _ _ | assumption | exact ⟨by omega, by omega⟩ | exact ⟨by simp [wr_at]; omega, by simp [wr_at]; omega⟩ | exact b2_R _ | exact bC_R _ | exact band_R _ _ | exact bor_R _ _ | exact bshl_R _ _ | exact bshr_R _ _ | exact bxor_R _ _ | exact bs_R (by omega) | decide) (by first | exact hR.1 _ _ | exact hR0.1 _ _ | assumption | exact ⟨by omega, by omega⟩ | exact ⟨by simp [wr_at]; omega, by simp [wr_at]; omega⟩ | exact b2_R _ | exact bC_R _ | exact band_R _ _ | exact bor_R _ _ | exact bshl_R _ _ | exact bshr_R _ _ | exact bxor_R _ _ | exact bs_R (by omega) | decide) (fun h_21 => ?_) (fun h_21 => ?_)
    · refine ev_iconst dX8_mayRope_48 ?_
      refine ev_ireturn dX8_mayRope_49 ?_
      first
        | (rw [b2_f (fun z => by have q := b2_ne h_6; rw [z.1] at q; exact absurd q (by decide))]; exact ⟨rfl, rfl⟩)
        | (rw [b2_f (fun z => by have q := z.2.1; omega)]; exact ⟨rfl, rfl⟩)
        | (rw [b2_t ⟨by simpa using b2_eq h_6, by omega, Or.inl (by omega)⟩]; exact ⟨rfl, rfl⟩)
        | (rw [b2_f (fun z => by rcases z.2.2 with q | q
                                 · omega
                                 · exact q (b2_ne h_41))]; exact ⟨rfl, rfl⟩)
        | (rw [b2_t ⟨by simpa using b2_eq h_6, by omega, Or.inr (b2_eq h_41)⟩]; exact ⟨rfl, rfl⟩)
    · refine ev_aload_n dX8_mayRope_24 rfl ?_
      refine ev_getR (r := 85) dX8_mayRope_25 fl_X8_25 rfl rfl rfl ?_
      refine ev_iload_n dX8_mayRope_28 rfl ?_
      refine ev_iaload dX8_mayRope_29 rfl (by first | omega | (simp [wr_at]; omega) | (simp [wr_at, *]; omega)) (by first | omega | (simp [wr_at]; omega) | (simp [wr_at, *]; omega)) (by decide) ?_
      rw [(mr r hr).2.2.1]
      refine ev_bipush dX8_mayRope_30 (by decide) ?_
      refine ev_icmp_ge (tgt := 44) dX8_mayRope_32 (by decide) (by first | exact hR.1 _ _ | exact hR0.1 _ _ | assumption | exact ⟨by omega, by omega⟩ | exact ⟨by simp [wr_at]; omega, by simp [wr_at]; omega⟩ | exact b2_R _ | exact bC_R _ | exact band_R _ _ | exact bor_R _ _ | exact bshl_R _ _ | exact bshr_R _ _ | exact bxor_R _ _ | exact bs_R (by omega) | decide) (by first | exact hR.1 _ _ | exact hR0.1 _ _ | assumption | exact ⟨by omega, by omega⟩ | exact ⟨by simp [wr_at]; omega, by simp [wr_at]; omega⟩ | exact b2_R _ | exact bC_R _ | exact band_R _ _ | exact bor_R _ _ | exact bshl_R _ _ | exact bshr_R _ _ | exact bxor_R _ _ | exact bs_R (by omega) | decide) (fun h_32 => ?_) (fun h_32 => ?_)
      · refine ev_iconst dX8_mayRope_44 ?_
        refine ev_goto (tgt := 49) dX8_mayRope_45 (by decide) ?_
        refine ev_ireturn dX8_mayRope_49 ?_
        first
          | (rw [b2_f (fun z => by have q := b2_ne h_6; rw [z.1] at q; exact absurd q (by decide))]; exact ⟨rfl, rfl⟩)
          | (rw [b2_f (fun z => by have q := z.2.1; omega)]; exact ⟨rfl, rfl⟩)
          | (rw [b2_t ⟨by simpa using b2_eq h_6, by omega, Or.inl (by omega)⟩]; exact ⟨rfl, rfl⟩)
          | (rw [b2_f (fun z => by rcases z.2.2 with q | q
                                   · omega
                                   · exact q (b2_ne h_41))]; exact ⟨rfl, rfl⟩)
          | (rw [b2_t ⟨by simpa using b2_eq h_6, by omega, Or.inr (b2_eq h_41)⟩]; exact ⟨rfl, rfl⟩)
      · refine ev_aload_n dX8_mayRope_35 rfl ?_
        refine ev_iload_n dX8_mayRope_36 rfl ?_
        refine ev_iconst dX8_mayRope_37 ?_
        refine ev_callVI dX8_mayRope_38 kv_X8_346 (r_hasKind μ σ P n nr nb nl w wt f t hM s hs 3 (by decide)) rfl rfl (ci := 8) rfl rfl ⟨by decide, by decide⟩ (Nat.le_of_ble_eq_true rfl) ?_
        refine ev_w (fun hR => ?_)
        refine ev_if_ne (tgt := 48) dX8_mayRope_41 (by decide) (by first | exact hR.1 _ _ | exact hR0.1 _ _ | assumption | exact ⟨by omega, by omega⟩ | exact ⟨by simp [wr_at]; omega, by simp [wr_at]; omega⟩ | exact b2_R _ | exact bC_R _ | exact band_R _ _ | exact bor_R _ _ | exact bshl_R _ _ | exact bshr_R _ _ | exact bxor_R _ _ | exact bs_R (by omega) | decide) (fun h_41 => ?_) (fun h_41 => ?_)
        · refine ev_iconst dX8_mayRope_48 ?_
          refine ev_ireturn dX8_mayRope_49 ?_
          first
            | (rw [b2_f (fun z => by have q := b2_ne h_6; rw [z.1] at q; exact absurd q (by decide))]; exact ⟨rfl, rfl⟩)
            | (rw [b2_f (fun z => by have q := z.2.1; omega)]; exact ⟨rfl, rfl⟩)
            | (rw [b2_t ⟨by simpa using b2_eq h_6, by omega, Or.inl (by omega)⟩]; exact ⟨rfl, rfl⟩)
            | (rw [b2_f (fun z => by rcases z.2.2 with q | q
                                     · omega
                                     · exact q (b2_ne h_41))]; exact ⟨rfl, rfl⟩)
            | (rw [b2_t ⟨by simpa using b2_eq h_6, by omega, Or.inr (b2_eq h_41)⟩]; exact ⟨rfl, rfl⟩)
        · refine ev_iconst dX8_mayRope_44 ?_
          refine ev_goto (tgt := 49) dX8_mayRope_45 (by decide) ?_
          refine ev_ireturn dX8_mayRope_49 ?_
          first
            | (rw [b2_f (fun z => by have q := b2_ne h_6; rw [z.1] at q; exact absurd q (by decide))]; exact ⟨rfl, rfl⟩)
            | (rw [b2_f (fun z => by have q := z.2.1; omega)]; exact ⟨rfl, rfl⟩)
            | (rw [b2_t ⟨by simpa using b2_eq h_6, by omega, Or.inl (by omega)⟩]; exact ⟨rfl, rfl⟩)
            | (rw [b2_f (fun z => by rcases z.2.2 with q | q
                                     · omega
                                     · exact q (b2_ne h_41))]; exact ⟨rfl, rfl⟩)
            | (rw [b2_t ⟨by simpa using b2_eq h_6, by omega, Or.inr (b2_eq h_41)⟩]; exact ⟨rfl, rfl⟩)
theorem r_minutesOn (μ σ : Mem) (P n nr nb nl w wt : Nat) (f t : Nat → Nat) (hM : MRp μ σ P n nr nb nl w wt f t) (b r s : Nat) (hb : b < nb) (hr : r < nr) (hs : s < 2 ^ 31) (dry : Int) (hdr : dry = 0 ∨ dry = 1) : Con yX8_minutesOn cX8_minutesOn 6 (some .int) 2 45 [.ref 79, .int (iI b), .int (iI r), .int (iI s), .int (iI dry)] μ (AnsI (minF (σ.1 (P + 7) r) (σ.1 (P + 11) b) (anyK σ (P + 16) nl s 2) (wt.testBit r) dry) μ) := by
  refine con_of (by decide) rfl (Nat.le_of_ble_eq_true rfl) (ok_I rfl) ?_
  refine ev_w (fun hR => ?_)
  have hR0 := hR
  obtain ⟨hPO, hMP, hwc⟩ := id hM
  obtain ⟨hPR, ⟨hnb, hnb4⟩, ⟨hnl, hnl4⟩, hpo, hro, hbo, hlo⟩ := id hPO
  obtain ⟨hP, hn, hn8, hnr, hnr12, hft⟩ := id hPR
  obtain ⟨⟨cn, cr, cb, cl⟩, mp, mr, mbo, ml⟩ := id hMP
  have hbb := hbo b hb
  have hrr := hro r hr
  have hdR : inR dry := by rcases hdr with rfl | rfl <;> decide
  have hm0 : 0 ≤ min0 (σ.1 (P + 7) r) (σ.1 (P + 11) b) ∧ min0 (σ.1 (P + 7) r) (σ.1 (P + 11) b) ≤ 200 := by
    unfold min0
    rw [Int.tdiv_eq_ediv_of_nonneg (by omega)]
    refine ⟨Int.ediv_nonneg (by omega) (by omega), ?_⟩
    have := Int.ediv_le_self (σ.1 (P + 11) b) (a := σ.1 (P + 7) r + σ.1 (P + 11) b - 1) (by omega)
    omega
  refine ev_aload_n dX8_minutesOn_0 rfl ?_
  refine ev_getR (r := 85) dX8_minutesOn_1 fl_X8_25 rfl rfl rfl ?_
  refine ev_iload_n dX8_minutesOn_4 rfl ?_
  refine ev_iaload dX8_minutesOn_5 rfl (by first | omega | (simp [wr_at]; omega) | (simp [wr_at, *]; omega)) (by first | omega | (simp [wr_at]; omega) | (simp [wr_at, *]; omega)) (by decide) ?_
  rw [(mr r hr).2.2.1]
  refine ev_aload_n dX8_minutesOn_6 rfl ?_
  refine ev_getR (r := 89) dX8_minutesOn_7 fl_X8_37 rfl rfl rfl ?_
  refine ev_iload_n dX8_minutesOn_10 rfl ?_
  refine ev_iaload dX8_minutesOn_11 rfl (by first | omega | (simp [wr_at]; omega) | (simp [wr_at, *]; omega)) (by first | omega | (simp [wr_at]; omega) | (simp [wr_at, *]; omega)) (by decide) ?_
  rw [(mbo b hb).2.2]
  refine ev_iadd dX8_minutesOn_12 ?_
  refine ev_iconst dX8_minutesOn_13 ?_
  refine ev_isub dX8_minutesOn_14 ?_
  refine ev_aload_n dX8_minutesOn_15 rfl ?_
  refine ev_getR (r := 89) dX8_minutesOn_16 fl_X8_37 rfl rfl rfl ?_
  refine ev_iload_n dX8_minutesOn_19 rfl ?_
  refine ev_iaload dX8_minutesOn_20 rfl (by first | omega | (simp [wr_at]; omega) | (simp [wr_at, *]; omega)) (by first | omega | (simp [wr_at]; omega) | (simp [wr_at, *]; omega)) (by decide) ?_
  rw [(mbo b hb).2.2]
  refine ev_idiv dX8_minutesOn_21 ⟨by omega, by omega⟩ ⟨by omega, by omega⟩ (by omega) (by omega) ?_
  rw [show (σ.1 (P + 7) r + σ.1 (P + 11) b - 1).tdiv (σ.1 (P + 11) b) = min0 (σ.1 (P + 7) r) (σ.1 (P + 11) b) from rfl]
  generalize hgm : min0 (σ.1 (P + 7) r) (σ.1 (P + 11) b) = m0 at *
  refine ev_istore dX8_minutesOn_22 rfl (by decide) rfl ?_
  refine ev_iload dX8_minutesOn_24 rfl ?_
  refine ev_aload_n dX8_minutesOn_26 rfl ?_
  refine ev_iload_n dX8_minutesOn_27 rfl ?_
  refine ev_iconst dX8_minutesOn_28 ?_
  refine ev_callVI dX8_minutesOn_29 kv_X8_346 (r_hasKind μ σ P n nr nb nl w wt f t hM s hs 2 (by decide)) rfl rfl (ci := 8) rfl rfl ⟨by decide, by decide⟩ (Nat.le_of_ble_eq_true rfl) ?_
  refine ev_w (fun hR => ?_)
  refine ev_if_ne (tgt := 39) dX8_minutesOn_32 (by decide) (by first | exact hR.1 _ _ | exact hR0.1 _ _ | assumption | exact ⟨by omega, by omega⟩ | exact ⟨by simp [wr_at]; omega, by simp [wr_at]; omega⟩ | exact b2_R _ | exact bC_R _ | exact band_R _ _ | exact bor_R _ _ | exact bshl_R _ _ | exact bshr_R _ _ | exact bxor_R _ _ | exact bs_R (by omega) | decide) (fun h_32 => ?_) (fun h_32 => ?_)
  · refine ev_iload dX8_minutesOn_39 rfl ?_
    refine ev_iconst dX8_minutesOn_41 ?_
    refine ev_icmp_ge (tgt := 49) dX8_minutesOn_42 (by decide) (by first | exact hR.1 _ _ | exact hR0.1 _ _ | assumption | exact ⟨by omega, by omega⟩ | exact ⟨by simp [wr_at]; omega, by simp [wr_at]; omega⟩ | exact b2_R _ | exact bC_R _ | exact band_R _ _ | exact bor_R _ _ | exact bshl_R _ _ | exact bshr_R _ _ | exact bxor_R _ _ | exact bs_R (by omega) | decide) (by first | exact hR.1 _ _ | exact hR0.1 _ _ | assumption | exact ⟨by omega, by omega⟩ | exact ⟨by simp [wr_at]; omega, by simp [wr_at]; omega⟩ | exact b2_R _ | exact bC_R _ | exact band_R _ _ | exact bor_R _ _ | exact bshl_R _ _ | exact bshr_R _ _ | exact bxor_R _ _ | exact bs_R (by omega) | decide) (fun h_42 => ?_) (fun h_42 => ?_)
    · refine ev_iload dX8_minutesOn_49 rfl ?_
      refine ev_iconst dX8_minutesOn_51 ?_
      refine ev_idiv dX8_minutesOn_52 ⟨by omega, by omega⟩ (by decide) (by omega) (by omega) ?_
      refine ev_iadd dX8_minutesOn_53 ?_
      refine ev_istore dX8_minutesOn_54 rfl (by decide) rfl ?_
      refine ev_aload_n dX8_minutesOn_56 rfl ?_
      refine ev_getR (r := 96) dX8_minutesOn_57 fl_X8_58 rfl rfl rfl ?_
      refine ev_iload_n dX8_minutesOn_60 rfl ?_
      refine ev_zaload dX8_minutesOn_61 rfl (by first | omega | (simp [wr_at]; omega) | (simp [wr_at, *]; omega)) (by first | omega | (simp [wr_at]; omega) | (simp [wr_at, *]; omega)) (by decide) ?_
      rw [(hwc r hr).1]
      refine ev_if_eq (tgt := 77) dX8_minutesOn_62 (by decide) (by first | exact hR.1 _ _ | exact hR0.1 _ _ | assumption | exact ⟨by omega, by omega⟩ | exact ⟨by simp [wr_at]; omega, by simp [wr_at]; omega⟩ | exact b2_R _ | exact bC_R _ | exact band_R _ _ | exact bor_R _ _ | exact bshl_R _ _ | exact bshr_R _ _ | exact bxor_R _ _ | exact bs_R (by omega) | decide) (fun h_62 => ?_) (fun h_62 => ?_)
      · refine ev_iload dX8_minutesOn_77 rfl ?_
        refine ev_ireturn dX8_minutesOn_79 ?_
        unfold minF
        rw [hgm]
        have hw9 : b2 (wt.testBit r = true) = 0 ∨ b2 (wt.testBit r = true) = 1 := b2_01 _
        have h29 : (if anyK σ (P + 16) nl s 2 = true then lev m0 else m0) = m0 + (if anyK σ (P + 16) nl s 2 = true then (if m0 < 2 then 1 else m0.tdiv 2) else 0) := by
          by_cases q : anyK σ (P + 16) nl s 2 = true
          · rw [if_pos q, if_pos q]
            unfold lev
            rw [Int.tdiv_eq_ediv_of_nonneg (by omega)]
            split <;> omega
          · rw [if_neg q, if_neg q]; omega
        rw [h29]
        first
          | (rw [if_neg (fun z => b2_eq h_62 z.1)]
             first
               | (rw [if_neg (b2_eq h_32)]; exact ⟨rfl, rfl⟩)
               | (rw [if_pos (b2_ne h_32), if_pos (by omega)]; exact ⟨rfl, rfl⟩)
               | (rw [if_pos (b2_ne h_32), if_neg (by omega)]; exact ⟨rfl, rfl⟩))
          | (rw [if_pos ⟨b2_ne h_62, h_67⟩]
             first
               | (rw [if_neg (b2_eq h_32)]; exact ⟨rfl, rfl⟩)
               | (rw [if_pos (b2_ne h_32), if_pos (by omega)]; exact ⟨rfl, rfl⟩)
               | (rw [if_pos (b2_ne h_32), if_neg (by omega)]; exact ⟨rfl, rfl⟩))
          | (rw [if_neg (fun z => h_67 z.2)]
             first
               | (rw [if_neg (b2_eq h_32)]; exact ⟨rfl, rfl⟩)
               | (rw [if_pos (b2_ne h_32), if_pos (by omega)]; exact ⟨rfl, rfl⟩)
               | (rw [if_pos (b2_ne h_32), if_neg (by omega)]; exact ⟨rfl, rfl⟩))
      · refine ev_iload dX8_minutesOn_65 rfl ?_
        refine ev_if_ne (tgt := 77) dX8_minutesOn_67 (by decide) (by first | exact hR.1 _ _ | exact hR0.1 _ _ | assumption | exact ⟨by omega, by omega⟩ | exact ⟨by simp [wr_at]; omega, by simp [wr_at]; omega⟩ | exact b2_R _ | exact bC_R _ | exact band_R _ _ | exact bor_R _ _ | exact bshl_R _ _ | exact bshr_R _ _ | exact bxor_R _ _ | exact bs_R (by omega) | decide) (fun h_67 => ?_) (fun h_67 => ?_)
        · refine ev_iload dX8_minutesOn_77 rfl ?_
          refine ev_ireturn dX8_minutesOn_79 ?_
          unfold minF
          rw [hgm]
          have hw9 : b2 (wt.testBit r = true) = 0 ∨ b2 (wt.testBit r = true) = 1 := b2_01 _
          have h29 : (if anyK σ (P + 16) nl s 2 = true then lev m0 else m0) = m0 + (if anyK σ (P + 16) nl s 2 = true then (if m0 < 2 then 1 else m0.tdiv 2) else 0) := by
            by_cases q : anyK σ (P + 16) nl s 2 = true
            · rw [if_pos q, if_pos q]
              unfold lev
              rw [Int.tdiv_eq_ediv_of_nonneg (by omega)]
              split <;> omega
            · rw [if_neg q, if_neg q]; omega
          rw [h29]
          first
            | (rw [if_neg (fun z => b2_eq h_62 z.1)]
               first
                 | (rw [if_neg (b2_eq h_32)]; exact ⟨rfl, rfl⟩)
                 | (rw [if_pos (b2_ne h_32), if_pos (by omega)]; exact ⟨rfl, rfl⟩)
                 | (rw [if_pos (b2_ne h_32), if_neg (by omega)]; exact ⟨rfl, rfl⟩))
            | (rw [if_pos ⟨b2_ne h_62, h_67⟩]
               first
                 | (rw [if_neg (b2_eq h_32)]; exact ⟨rfl, rfl⟩)
                 | (rw [if_pos (b2_ne h_32), if_pos (by omega)]; exact ⟨rfl, rfl⟩)
                 | (rw [if_pos (b2_ne h_32), if_neg (by omega)]; exact ⟨rfl, rfl⟩))
            | (rw [if_neg (fun z => h_67 z.2)]
               first
                 | (rw [if_neg (b2_eq h_32)]; exact ⟨rfl, rfl⟩)
                 | (rw [if_pos (b2_ne h_32), if_pos (by omega)]; exact ⟨rfl, rfl⟩)
                 | (rw [if_pos (b2_ne h_32), if_neg (by omega)]; exact ⟨rfl, rfl⟩))
        · refine ev_iconst dX8_minutesOn_70 ?_
          refine ev_iload dX8_minutesOn_71 rfl ?_
          refine ev_imul dX8_minutesOn_73 ?_
          refine ev_goto (tgt := 79) dX8_minutesOn_74 (by decide) ?_
          refine ev_ireturn dX8_minutesOn_79 ?_
          unfold minF
          rw [hgm]
          have hw9 : b2 (wt.testBit r = true) = 0 ∨ b2 (wt.testBit r = true) = 1 := b2_01 _
          have h29 : (if anyK σ (P + 16) nl s 2 = true then lev m0 else m0) = m0 + (if anyK σ (P + 16) nl s 2 = true then (if m0 < 2 then 1 else m0.tdiv 2) else 0) := by
            by_cases q : anyK σ (P + 16) nl s 2 = true
            · rw [if_pos q, if_pos q]
              unfold lev
              rw [Int.tdiv_eq_ediv_of_nonneg (by omega)]
              split <;> omega
            · rw [if_neg q, if_neg q]; omega
          rw [h29]
          first
            | (rw [if_neg (fun z => b2_eq h_62 z.1)]
               first
                 | (rw [if_neg (b2_eq h_32)]; exact ⟨rfl, rfl⟩)
                 | (rw [if_pos (b2_ne h_32), if_pos (by omega)]; exact ⟨rfl, rfl⟩)
                 | (rw [if_pos (b2_ne h_32), if_neg (by omega)]; exact ⟨rfl, rfl⟩))
            | (rw [if_pos ⟨b2_ne h_62, h_67⟩]
               first
                 | (rw [if_neg (b2_eq h_32)]; exact ⟨rfl, rfl⟩)
                 | (rw [if_pos (b2_ne h_32), if_pos (by omega)]; exact ⟨rfl, rfl⟩)
                 | (rw [if_pos (b2_ne h_32), if_neg (by omega)]; exact ⟨rfl, rfl⟩))
            | (rw [if_neg (fun z => h_67 z.2)]
               first
                 | (rw [if_neg (b2_eq h_32)]; exact ⟨rfl, rfl⟩)
                 | (rw [if_pos (b2_ne h_32), if_pos (by omega)]; exact ⟨rfl, rfl⟩)
                 | (rw [if_pos (b2_ne h_32), if_neg (by omega)]; exact ⟨rfl, rfl⟩))
    · refine ev_iconst dX8_minutesOn_45 ?_
      refine ev_goto (tgt := 53) dX8_minutesOn_46 (by decide) ?_
      refine ev_iadd dX8_minutesOn_53 ?_
      refine ev_istore dX8_minutesOn_54 rfl (by decide) rfl ?_
      refine ev_aload_n dX8_minutesOn_56 rfl ?_
      refine ev_getR (r := 96) dX8_minutesOn_57 fl_X8_58 rfl rfl rfl ?_
      refine ev_iload_n dX8_minutesOn_60 rfl ?_
      refine ev_zaload dX8_minutesOn_61 rfl (by first | omega | (simp [wr_at]; omega) | (simp [wr_at, *]; omega)) (by first | omega | (simp [wr_at]; omega) | (simp [wr_at, *]; omega)) (by decide) ?_
      rw [(hwc r hr).1]
      refine ev_if_eq (tgt := 77) dX8_minutesOn_62 (by decide) (by first | exact hR.1 _ _ | exact hR0.1 _ _ | assumption | exact ⟨by omega, by omega⟩ | exact ⟨by simp [wr_at]; omega, by simp [wr_at]; omega⟩ | exact b2_R _ | exact bC_R _ | exact band_R _ _ | exact bor_R _ _ | exact bshl_R _ _ | exact bshr_R _ _ | exact bxor_R _ _ | exact bs_R (by omega) | decide) (fun h_62 => ?_) (fun h_62 => ?_)
      · refine ev_iload dX8_minutesOn_77 rfl ?_
        refine ev_ireturn dX8_minutesOn_79 ?_
        unfold minF
        rw [hgm]
        have hw9 : b2 (wt.testBit r = true) = 0 ∨ b2 (wt.testBit r = true) = 1 := b2_01 _
        have h29 : (if anyK σ (P + 16) nl s 2 = true then lev m0 else m0) = m0 + (if anyK σ (P + 16) nl s 2 = true then (if m0 < 2 then 1 else m0.tdiv 2) else 0) := by
          by_cases q : anyK σ (P + 16) nl s 2 = true
          · rw [if_pos q, if_pos q]
            unfold lev
            rw [Int.tdiv_eq_ediv_of_nonneg (by omega)]
            split <;> omega
          · rw [if_neg q, if_neg q]; omega
        rw [h29]
        first
          | (rw [if_neg (fun z => b2_eq h_62 z.1)]
             first
               | (rw [if_neg (b2_eq h_32)]; exact ⟨rfl, rfl⟩)
               | (rw [if_pos (b2_ne h_32), if_pos (by omega)]; exact ⟨rfl, rfl⟩)
               | (rw [if_pos (b2_ne h_32), if_neg (by omega)]; exact ⟨rfl, rfl⟩))
          | (rw [if_pos ⟨b2_ne h_62, h_67⟩]
             first
               | (rw [if_neg (b2_eq h_32)]; exact ⟨rfl, rfl⟩)
               | (rw [if_pos (b2_ne h_32), if_pos (by omega)]; exact ⟨rfl, rfl⟩)
               | (rw [if_pos (b2_ne h_32), if_neg (by omega)]; exact ⟨rfl, rfl⟩))
          | (rw [if_neg (fun z => h_67 z.2)]
             first
               | (rw [if_neg (b2_eq h_32)]; exact ⟨rfl, rfl⟩)
               | (rw [if_pos (b2_ne h_32), if_pos (by omega)]; exact ⟨rfl, rfl⟩)
               | (rw [if_pos (b2_ne h_32), if_neg (by omega)]; exact ⟨rfl, rfl⟩))
      · refine ev_iload dX8_minutesOn_65 rfl ?_
        refine ev_if_ne (tgt := 77) dX8_minutesOn_67 (by decide) (by first | exact hR.1 _ _ | exact hR0.1 _ _ | assumption | exact ⟨by omega, by omega⟩ | exact ⟨by simp [wr_at]; omega, by simp [wr_at]; omega⟩ | exact b2_R _ | exact bC_R _ | exact band_R _ _ | exact bor_R _ _ | exact bshl_R _ _ | exact bshr_R _ _ | exact bxor_R _ _ | exact bs_R (by omega) | decide) (fun h_67 => ?_) (fun h_67 => ?_)
        · refine ev_iload dX8_minutesOn_77 rfl ?_
          refine ev_ireturn dX8_minutesOn_79 ?_
          unfold minF
          rw [hgm]
          have hw9 : b2 (wt.testBit r = true) = 0 ∨ b2 (wt.testBit r = true) = 1 := b2_01 _
          have h29 : (if anyK σ (P + 16) nl s 2 = true then lev m0 else m0) = m0 + (if anyK σ (P + 16) nl s 2 = true then (if m0 < 2 then 1 else m0.tdiv 2) else 0) := by
            by_cases q : anyK σ (P + 16) nl s 2 = true
            · rw [if_pos q, if_pos q]
              unfold lev
              rw [Int.tdiv_eq_ediv_of_nonneg (by omega)]
              split <;> omega
            · rw [if_neg q, if_neg q]; omega
          rw [h29]
          first
            | (rw [if_neg (fun z => b2_eq h_62 z.1)]
               first
                 | (rw [if_neg (b2_eq h_32)]; exact ⟨rfl, rfl⟩)
                 | (rw [if_pos (b2_ne h_32), if_pos (by omega)]; exact ⟨rfl, rfl⟩)
                 | (rw [if_pos (b2_ne h_32), if_neg (by omega)]; exact ⟨rfl, rfl⟩))
            | (rw [if_pos ⟨b2_ne h_62, h_67⟩]
               first
                 | (rw [if_neg (b2_eq h_32)]; exact ⟨rfl, rfl⟩)
                 | (rw [if_pos (b2_ne h_32), if_pos (by omega)]; exact ⟨rfl, rfl⟩)
                 | (rw [if_pos (b2_ne h_32), if_neg (by omega)]; exact ⟨rfl, rfl⟩))
            | (rw [if_neg (fun z => h_67 z.2)]
               first
                 | (rw [if_neg (b2_eq h_32)]; exact ⟨rfl, rfl⟩)
                 | (rw [if_pos (b2_ne h_32), if_pos (by omega)]; exact ⟨rfl, rfl⟩)
                 | (rw [if_pos (b2_ne h_32), if_neg (by omega)]; exact ⟨rfl, rfl⟩))
        · refine ev_iconst dX8_minutesOn_70 ?_
          refine ev_iload dX8_minutesOn_71 rfl ?_
          refine ev_imul dX8_minutesOn_73 ?_
          refine ev_goto (tgt := 79) dX8_minutesOn_74 (by decide) ?_
          refine ev_ireturn dX8_minutesOn_79 ?_
          unfold minF
          rw [hgm]
          have hw9 : b2 (wt.testBit r = true) = 0 ∨ b2 (wt.testBit r = true) = 1 := b2_01 _
          have h29 : (if anyK σ (P + 16) nl s 2 = true then lev m0 else m0) = m0 + (if anyK σ (P + 16) nl s 2 = true then (if m0 < 2 then 1 else m0.tdiv 2) else 0) := by
            by_cases q : anyK σ (P + 16) nl s 2 = true
            · rw [if_pos q, if_pos q]
              unfold lev
              rw [Int.tdiv_eq_ediv_of_nonneg (by omega)]
              split <;> omega
            · rw [if_neg q, if_neg q]; omega
          rw [h29]
          first
            | (rw [if_neg (fun z => b2_eq h_62 z.1)]
               first
                 | (rw [if_neg (b2_eq h_32)]; exact ⟨rfl, rfl⟩)
                 | (rw [if_pos (b2_ne h_32), if_pos (by omega)]; exact ⟨rfl, rfl⟩)
                 | (rw [if_pos (b2_ne h_32), if_neg (by omega)]; exact ⟨rfl, rfl⟩))
            | (rw [if_pos ⟨b2_ne h_62, h_67⟩]
               first
                 | (rw [if_neg (b2_eq h_32)]; exact ⟨rfl, rfl⟩)
                 | (rw [if_pos (b2_ne h_32), if_pos (by omega)]; exact ⟨rfl, rfl⟩)
                 | (rw [if_pos (b2_ne h_32), if_neg (by omega)]; exact ⟨rfl, rfl⟩))
            | (rw [if_neg (fun z => h_67 z.2)]
               first
                 | (rw [if_neg (b2_eq h_32)]; exact ⟨rfl, rfl⟩)
                 | (rw [if_pos (b2_ne h_32), if_pos (by omega)]; exact ⟨rfl, rfl⟩)
                 | (rw [if_pos (b2_ne h_32), if_neg (by omega)]; exact ⟨rfl, rfl⟩))
  · refine ev_iconst dX8_minutesOn_35 ?_
    refine ev_goto (tgt := 53) dX8_minutesOn_36 (by decide) ?_
    refine ev_iadd dX8_minutesOn_53 ?_
    refine ev_istore dX8_minutesOn_54 rfl (by decide) rfl ?_
    refine ev_aload_n dX8_minutesOn_56 rfl ?_
    refine ev_getR (r := 96) dX8_minutesOn_57 fl_X8_58 rfl rfl rfl ?_
    refine ev_iload_n dX8_minutesOn_60 rfl ?_
    refine ev_zaload dX8_minutesOn_61 rfl (by first | omega | (simp [wr_at]; omega) | (simp [wr_at, *]; omega)) (by first | omega | (simp [wr_at]; omega) | (simp [wr_at, *]; omega)) (by decide) ?_
    rw [(hwc r hr).1]
    refine ev_if_eq (tgt := 77) dX8_minutesOn_62 (by decide) (by first | exact hR.1 _ _ | exact hR0.1 _ _ | assumption | exact ⟨by omega, by omega⟩ | exact ⟨by simp [wr_at]; omega, by simp [wr_at]; omega⟩ | exact b2_R _ | exact bC_R _ | exact band_R _ _ | exact bor_R _ _ | exact bshl_R _ _ | exact bshr_R _ _ | exact bxor_R _ _ | exact bs_R (by omega) | decide) (fun h_62 => ?_) (fun h_62 => ?_)
    · refine ev_iload dX8_minutesOn_77 rfl ?_
      refine ev_ireturn dX8_minutesOn_79 ?_
      unfold minF
      rw [hgm]
      have hw9 : b2 (wt.testBit r = true) = 0 ∨ b2 (wt.testBit r = true) = 1 := b2_01 _
      have h29 : (if anyK σ (P + 16) nl s 2 = true then lev m0 else m0) = m0 + (if anyK σ (P + 16) nl s 2 = true then (if m0 < 2 then 1 else m0.tdiv 2) else 0) := by
        by_cases q : anyK σ (P + 16) nl s 2 = true
        · rw [if_pos q, if_pos q]
          unfold lev
          rw [Int.tdiv_eq_ediv_of_nonneg (by omega)]
          split <;> omega
        · rw [if_neg q, if_neg q]; omega
      rw [h29]
      first
        | (rw [if_neg (fun z => b2_eq h_62 z.1)]
           first
             | (rw [if_neg (b2_eq h_32)]; exact ⟨rfl, rfl⟩)
             | (rw [if_pos (b2_ne h_32), if_pos (by omega)]; exact ⟨rfl, rfl⟩)
             | (rw [if_pos (b2_ne h_32), if_neg (by omega)]; exact ⟨rfl, rfl⟩))
        | (rw [if_pos ⟨b2_ne h_62, h_67⟩]
           first
             | (rw [if_neg (b2_eq h_32)]; exact ⟨rfl, rfl⟩)
             | (rw [if_pos (b2_ne h_32), if_pos (by omega)]; exact ⟨rfl, rfl⟩)
             | (rw [if_pos (b2_ne h_32), if_neg (by omega)]; exact ⟨rfl, rfl⟩))
        | (rw [if_neg (fun z => h_67 z.2)]
           first
             | (rw [if_neg (b2_eq h_32)]; exact ⟨rfl, rfl⟩)
             | (rw [if_pos (b2_ne h_32), if_pos (by omega)]; exact ⟨rfl, rfl⟩)
             | (rw [if_pos (b2_ne h_32), if_neg (by omega)]; exact ⟨rfl, rfl⟩))
    · refine ev_iload dX8_minutesOn_65 rfl ?_
      refine ev_if_ne (tgt := 77) dX8_minutesOn_67 (by decide) (by first | exact hR.1 _ _ | exact hR0.1 _ _ | assumption | exact ⟨by omega, by omega⟩ | exact ⟨by simp [wr_at]; omega, by simp [wr_at]; omega⟩ | exact b2_R _ | exact bC_R _ | exact band_R _ _ | exact bor_R _ _ | exact bshl_R _ _ | exact bshr_R _ _ | exact bxor_R _ _ | exact bs_R (by omega) | decide) (fun h_67 => ?_) (fun h_67 => ?_)
      · refine ev_iload dX8_minutesOn_77 rfl ?_
        refine ev_ireturn dX8_minutesOn_79 ?_
        unfold minF
        rw [hgm]
        have hw9 : b2 (wt.testBit r = true) = 0 ∨ b2 (wt.testBit r = true) = 1 := b2_01 _
        have h29 : (if anyK σ (P + 16) nl s 2 = true then lev m0 else m0) = m0 + (if anyK σ (P + 16) nl s 2 = true then (if m0 < 2 then 1 else m0.tdiv 2) else 0) := by
          by_cases q : anyK σ (P + 16) nl s 2 = true
          · rw [if_pos q, if_pos q]
            unfold lev
            rw [Int.tdiv_eq_ediv_of_nonneg (by omega)]
            split <;> omega
          · rw [if_neg q, if_neg q]; omega
        rw [h29]
        first
          | (rw [if_neg (fun z => b2_eq h_62 z.1)]
             first
               | (rw [if_neg (b2_eq h_32)]; exact ⟨rfl, rfl⟩)
               | (rw [if_pos (b2_ne h_32), if_pos (by omega)]; exact ⟨rfl, rfl⟩)
               | (rw [if_pos (b2_ne h_32), if_neg (by omega)]; exact ⟨rfl, rfl⟩))
          | (rw [if_pos ⟨b2_ne h_62, h_67⟩]
             first
               | (rw [if_neg (b2_eq h_32)]; exact ⟨rfl, rfl⟩)
               | (rw [if_pos (b2_ne h_32), if_pos (by omega)]; exact ⟨rfl, rfl⟩)
               | (rw [if_pos (b2_ne h_32), if_neg (by omega)]; exact ⟨rfl, rfl⟩))
          | (rw [if_neg (fun z => h_67 z.2)]
             first
               | (rw [if_neg (b2_eq h_32)]; exact ⟨rfl, rfl⟩)
               | (rw [if_pos (b2_ne h_32), if_pos (by omega)]; exact ⟨rfl, rfl⟩)
               | (rw [if_pos (b2_ne h_32), if_neg (by omega)]; exact ⟨rfl, rfl⟩))
      · refine ev_iconst dX8_minutesOn_70 ?_
        refine ev_iload dX8_minutesOn_71 rfl ?_
        refine ev_imul dX8_minutesOn_73 ?_
        refine ev_goto (tgt := 79) dX8_minutesOn_74 (by decide) ?_
        refine ev_ireturn dX8_minutesOn_79 ?_
        unfold minF
        rw [hgm]
        have hw9 : b2 (wt.testBit r = true) = 0 ∨ b2 (wt.testBit r = true) = 1 := b2_01 _
        have h29 : (if anyK σ (P + 16) nl s 2 = true then lev m0 else m0) = m0 + (if anyK σ (P + 16) nl s 2 = true then (if m0 < 2 then 1 else m0.tdiv 2) else 0) := by
          by_cases q : anyK σ (P + 16) nl s 2 = true
          · rw [if_pos q, if_pos q]
            unfold lev
            rw [Int.tdiv_eq_ediv_of_nonneg (by omega)]
            split <;> omega
          · rw [if_neg q, if_neg q]; omega
        rw [h29]
        first
          | (rw [if_neg (fun z => b2_eq h_62 z.1)]
             first
               | (rw [if_neg (b2_eq h_32)]; exact ⟨rfl, rfl⟩)
               | (rw [if_pos (b2_ne h_32), if_pos (by omega)]; exact ⟨rfl, rfl⟩)
               | (rw [if_pos (b2_ne h_32), if_neg (by omega)]; exact ⟨rfl, rfl⟩))
          | (rw [if_pos ⟨b2_ne h_62, h_67⟩]
             first
               | (rw [if_neg (b2_eq h_32)]; exact ⟨rfl, rfl⟩)
               | (rw [if_pos (b2_ne h_32), if_pos (by omega)]; exact ⟨rfl, rfl⟩)
               | (rw [if_pos (b2_ne h_32), if_neg (by omega)]; exact ⟨rfl, rfl⟩))
          | (rw [if_neg (fun z => h_67 z.2)]
             first
               | (rw [if_neg (b2_eq h_32)]; exact ⟨rfl, rfl⟩)
               | (rw [if_pos (b2_ne h_32), if_pos (by omega)]; exact ⟨rfl, rfl⟩)
               | (rw [if_pos (b2_ne h_32), if_neg (by omega)]; exact ⟨rfl, rfl⟩))
