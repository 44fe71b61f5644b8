def s128 (c : Nat) : Prop := c = 128
theorem MRp.way {μ ν σ : Mem} {P n nr nb nl w wt : Nat} {f t : Nat → Nat} (h : MRp μ σ P n nr nb nl w wt f t) (hs : Same s128 μ ν) : MRp ν σ P n nr nb nl w wt f t := h.to (fun k _ => hs.at (by unfold s128; decide) k) (fun c h1 h2 _ => hs.1 c (by unfold s128; omega))
theorem way_wr {ν : Mem} {i j p q : Nat} {A : Int} (hj : j < 8) (hq : q < 8) : (wr ν 128 (8 * (i : Int) + j) A).1 128 (8 * (p : Int) + q) = if p = i ∧ q = j then A else ν.1 128 (8 * (p : Int) + q) := by
  rw [wr_at]
  by_cases e : p = i ∧ q = j
  · rw [if_pos ⟨rfl, by omega⟩, if_pos e]
  · rw [if_neg (by omega), if_neg e]
def shoM (ν : Mem) (p q : Nat) (z : Int) : Mem := wr (wr ν 128 (8 * (p : Int) + q) (min z (ν.1 128 (8 * (p : Int) + q)))) 128 (8 * (q : Int) + p) (min z (ν.1 128 (8 * (p : Int) + q)))
theorem shoM_at {ν : Mem} {p q i j : Nat} {z : Int} (hp : p < 8) (hq : q < 8) (hj : j < 8) : (shoM ν p q z).1 128 (8 * (i : Int) + j) = if (i = p ∧ j = q) ∨ (i = q ∧ j = p) then min z (ν.1 128 (8 * (p : Int) + q)) else ν.1 128 (8 * (i : Int) + j) := by
  unfold shoM
  rw [way_wr hp hj, way_wr hq hj]
  by_cases e1 : i = q ∧ j = p
  · rw [if_pos e1, if_pos (Or.inr e1)]
  · rw [if_neg e1]
    by_cases e2 : i = p ∧ j = q
    · rw [if_pos e2, if_pos (Or.inl e2)]
    · rw [if_neg e2, if_neg (by omega)]
theorem shoM_same {μ ν : Mem} {p q : Nat} {z : Int} (h : Same s128 μ ν) : Same s128 μ (shoM ν p q z) := (h.wr rfl).wr rfl
theorem m_shorten (ν : Mem) (p q : Nat) (hp : p < 8) (hq : q < 8) (z : Int) (hz : inR z) : Con yX8_shorten cX8_shorten 4 none 0 0 [.ref 79, .int (iI p), .int (iI q), .int (iI z)] ν (AnsV (shoM ν p q z)) := by
  refine con_of (by decide) rfl (Nat.le_of_ble_eq_true rfl) (ok_V rfl) ?_
  refine ev_w (fun hR => ?_)
  have hR0 := hR
  refine ev_aload_n dX8_shorten_0 rfl ?_
  refine ev_getR (r := 128) dX8_shorten_1 fl_X8_159 rfl rfl rfl ?_
  refine ev_bipush dX8_shorten_4 (by decide) ?_
  refine ev_iload_n dX8_shorten_6 rfl ?_
  refine ev_imul dX8_shorten_7 ?_
  refine ev_iload_n dX8_shorten_8 rfl ?_
  refine ev_iadd dX8_shorten_9 ?_
  refine ev_iload_n dX8_shorten_10 rfl ?_
  refine ev_aload_n dX8_shorten_11 rfl ?_
  refine ev_getR (r := 128) dX8_shorten_12 fl_X8_159 rfl rfl rfl ?_
  refine ev_bipush dX8_shorten_15 (by decide) ?_
  refine ev_iload_n dX8_shorten_17 rfl ?_
  refine ev_imul dX8_shorten_18 ?_
  refine ev_iload_n dX8_shorten_19 rfl ?_
  refine ev_iadd dX8_shorten_20 ?_
  refine ev_iaload dX8_shorten_21 rfl (by first | omega | (simp [wr_at]; omega) | (simp [wr_at, *]; omega)) (by first | omega | (simp [wr_at]; omega) | (simp [wr_at, *]; omega)) (by decide) ?_
  refine ev_icmp_ge (tgt := 29) dX8_shorten_22 (by decide) (by first | exact hR.1 _ _ | exact hR0.1 _ _ | assumption | exact ⟨by omega, by omega⟩ | exact ⟨by simp [wr_at]; omega, by simp [wr_at]; omega⟩ | exact b2_R _ | exact bC_R _ | exact band_R _ _ | exact bor_R _ _ | exact bshl_R _ _ | exact bshr_R _ _ | exact bxor_R _ _ | exact bs_R (by omega) | decide) (by first | exact hR.1 _ _ | exact hR0.1 _ _ | assumption | exact ⟨by omega, by omega⟩ | exact ⟨by simp [wr_at]; omega, by simp [wr_at]; omega⟩ | exact b2_R _ | exact bC_R _ | exact band_R _ _ | exact bor_R _ _ | exact bshl_R _ _ | exact bshr_R _ _ | exact bxor_R _ _ | exact bs_R (by omega) | decide) (fun h_22 => ?_) (fun h_22 => ?_)
  · refine ev_aload_n dX8_shorten_29 rfl ?_
    refine ev_getR (r := 128) dX8_shorten_30 fl_X8_159 rfl rfl rfl ?_
    refine ev_bipush dX8_shorten_33 (by decide) ?_
    refine ev_iload_n dX8_shorten_35 rfl ?_
    refine ev_imul dX8_shorten_36 ?_
    refine ev_iload_n dX8_shorten_37 rfl ?_
    refine ev_iadd dX8_shorten_38 ?_
    refine ev_iaload dX8_shorten_39 rfl (by first | omega | (simp [wr_at]; omega) | (simp [wr_at, *]; omega)) (by first | omega | (simp [wr_at]; omega) | (simp [wr_at, *]; omega)) (by decide) ?_
    refine ev_iastore dX8_shorten_40 rfl (by first | omega | (simp [wr_at]; omega) | (simp [wr_at, *]; omega)) (by first | omega | (simp [wr_at]; omega) | (simp [wr_at, *]; omega)) (by decide) (by first | exact hR.1 _ _ | exact hR0.1 _ _ | assumption | exact ⟨by omega, by omega⟩ | exact ⟨by simp [wr_at]; omega, by simp [wr_at]; omega⟩ | exact b2_R _ | exact bC_R _ | exact band_R _ _ | exact bor_R _ _ | exact bshl_R _ _ | exact bshr_R _ _ | exact bxor_R _ _ | exact bs_R (by omega) | decide) ?_
    refine ev_w (fun hR => ?_)
    refine ev_aload_n dX8_shorten_41 rfl ?_
    refine ev_getR (r := 128) dX8_shorten_42 fl_X8_159 rfl rfl rfl ?_
    refine ev_bipush dX8_shorten_45 (by decide) ?_
    refine ev_iload_n dX8_shorten_47 rfl ?_
    refine ev_imul dX8_shorten_48 ?_
    refine ev_iload_n dX8_shorten_49 rfl ?_
    refine ev_iadd dX8_shorten_50 ?_
    refine ev_aload_n dX8_shorten_51 rfl ?_
    refine ev_getR (r := 128) dX8_shorten_52 fl_X8_159 rfl rfl rfl ?_
    refine ev_bipush dX8_shorten_55 (by decide) ?_
    refine ev_iload_n dX8_shorten_57 rfl ?_
    refine ev_imul dX8_shorten_58 ?_
    refine ev_iload_n dX8_shorten_59 rfl ?_
    refine ev_iadd dX8_shorten_60 ?_
    refine ev_iaload dX8_shorten_61 rfl (by first | omega | (simp [wr_at]; omega) | (simp [wr_at, *]; omega)) (by first | omega | (simp [wr_at]; omega) | (simp [wr_at, *]; omega)) (by decide) ?_
    rw [wr_eq]
    refine ev_iastore dX8_shorten_62 rfl (by first | omega | (simp [wr_at]; omega) | (simp [wr_at, *]; omega)) (by first | omega | (simp [wr_at]; omega) | (simp [wr_at, *]; omega)) (by decide) (by first | exact hR.1 _ _ | exact hR0.1 _ _ | assumption | exact ⟨by omega, by omega⟩ | exact ⟨by simp [wr_at]; omega, by simp [wr_at]; omega⟩ | exact b2_R _ | exact bC_R _ | exact band_R _ _ | exact bor_R _ _ | exact bshl_R _ _ | exact bshr_R _ _ | exact bxor_R _ _ | exact bs_R (by omega) | decide) ?_
    refine ev_w (fun hR => ?_)
    refine ev_return dX8_shorten_63 ?_
    refine ⟨rfl, ?_⟩
    unfold shoM
    first
      | rw [show min z (ν.1 128 (8 * (p : Int) + q)) = z by omega]
      | rw [show min z (ν.1 128 (8 * (p : Int) + q)) = ν.1 128 (8 * (p : Int) + q) by omega]
  · refine ev_iload_n dX8_shorten_25 rfl ?_
    refine ev_goto (tgt := 40) dX8_shorten_26 (by decide) ?_
    refine ev_iastore dX8_shorten_40 rfl (by first | omega | (simp [wr_at]; omega) | (simp [wr_at, *]; omega)) (by first | omega | (simp [wr_at]; omega) | (simp [wr_at, *]; omega)) (by decide) (by first | exact hR.1 _ _ | exact hR0.1 _ _ | assumption | exact ⟨by omega, by omega⟩ | exact ⟨by simp [wr_at]; omega, by simp [wr_at]; omega⟩ | exact b2_R _ | exact bC_R _ | exact band_R _ _ | exact bor_R _ _ | exact bshl_R _ _ | exact bshr_R _ _ | exact bxor_R _ _ | exact bs_R (by omega) | decide) ?_
    refine ev_w (fun hR => ?_)
    refine ev_aload_n dX8_shorten_41 rfl ?_
    refine ev_getR (r := 128) dX8_shorten_42 fl_X8_159 rfl rfl rfl ?_
    refine ev_bipush dX8_shorten_45 (by decide) ?_
    refine ev_iload_n dX8_shorten_47 rfl ?_
    refine ev_imul dX8_shorten_48 ?_
    refine ev_iload_n dX8_shorten_49 rfl ?_
    refine ev_iadd dX8_shorten_50 ?_
    refine ev_aload_n dX8_shorten_51 rfl ?_
    refine ev_getR (r := 128) dX8_shorten_52 fl_X8_159 rfl rfl rfl ?_
    refine ev_bipush dX8_shorten_55 (by decide) ?_
    refine ev_iload_n dX8_shorten_57 rfl ?_
    refine ev_imul dX8_shorten_58 ?_
    refine ev_iload_n dX8_shorten_59 rfl ?_
    refine ev_iadd dX8_shorten_60 ?_
    refine ev_iaload dX8_shorten_61 rfl (by first | omega | (simp [wr_at]; omega) | (simp [wr_at, *]; omega)) (by first | omega | (simp [wr_at]; omega) | (simp [wr_at, *]; omega)) (by decide) ?_
    rw [wr_eq]
    refine ev_iastore dX8_shorten_62 rfl (by first | omega | (simp [wr_at]; omega) | (simp [wr_at, *]; omega)) (by first | omega | (simp [wr_at]; omega) | (simp [wr_at, *]; omega)) (by decide) (by first | exact hR.1 _ _ | exact hR0.1 _ _ | assumption | exact ⟨by omega, by omega⟩ | exact ⟨by simp [wr_at]; omega, by simp [wr_at]; omega⟩ | exact b2_R _ | exact bC_R _ | exact band_R _ _ | exact bor_R _ _ | exact bshl_R _ _ | exact bshr_R _ _ | exact bxor_R _ _ | exact bs_R (by omega) | decide) ?_
    refine ev_w (fun hR => ?_)
    refine ev_return dX8_shorten_63 ?_
    refine ⟨rfl, ?_⟩
    unfold shoM
    first
      | rw [show min z (ν.1 128 (8 * (p : Int) + q)) = z by omega]
      | rw [show min z (ν.1 128 (8 * (p : Int) + q)) = ν.1 128 (8 * (p : Int) + q) by omega]
theorem m_hasWhole (μ σ : Mem) (P n nr nb nl w wt : Nat) (f t : Nat → Nat) (hM : MRp μ σ P n nr nb nl w wt f t) (p q : Nat) (hp : p < n) (hq : q < n) (hpq : p ≠ q) : Con yX8_hasWhole cX8_hasWhole 5 (some .boolean) 1 22 [.ref 79, .int (iI p), .int (iI q)] μ (AnsI (bC (jnd f t nr w p q)) μ) := by
  refine con_of (by decide) rfl (Nat.le_of_ble_eq_true rfl) (ok_Z rfl (bC_01 _)) ?_
  refine ev_w (fun hR => ?_)
  have hR0 := hR
  obtain ⟨hPO, hMP, hwc⟩ := id hM
  obtain ⟨hPR, ⟨hnb, hnb4⟩, ⟨hnl, hnl4⟩, hpo, hro, hbo, hlo⟩ := id hPO
  obtain ⟨hP, hn, hn8, hnr, hnr12, hft⟩ := id hPR
  obtain ⟨⟨cn, cr, cb, cl⟩, mp, mr, mbo, ml⟩ := id hMP
  have loop : ∀ r : Nat, r ≤ nr → Ev RX8 cX8_hasWhole 5 1 22 (AnsI (bC (jnd f t nr w p q)) μ) 5 [some (.ref 79), some (.int (iI p)), some (.int (iI q)), some (.int (iI (bC (∃ i, i < r ∧ w.testBit i = true ∧ (f i = p ∨ t i = p) ∧ (f i = q ∨ t i = q))))), some (.int (iI (r : Nat)))] [] μ := by
    refine for_up nr (fun r hr ih => ?_)
    refine ev_w (fun hR => ?_)
    refine ev_iload dX8_hasWhole_5 rfl ?_
    refine ev_aload_n dX8_hasWhole_7 rfl ?_
    refine ev_getI (kz := 4) dX8_hasWhole_8 fl_X8_184 rfl rfl rfl ?_
    rw [cr]
    refine ev_icmp_ge (tgt := 51) dX8_hasWhole_11 (by decide) (by first | exact hR.1 _ _ | exact hR0.1 _ _ | assumption | exact ⟨by omega, by omega⟩ | exact ⟨by simp [wr_at]; omega, by simp [wr_at]; omega⟩ | exact b2_R _ | exact bC_R _ | exact band_R _ _ | exact bor_R _ _ | exact bshl_R _ _ | exact bshr_R _ _ | exact bxor_R _ _ | exact bs_R (by omega) | decide) (by first | exact hR.1 _ _ | exact hR0.1 _ _ | assumption | exact ⟨by omega, by omega⟩ | exact ⟨by simp [wr_at]; omega, by simp [wr_at]; omega⟩ | exact b2_R _ | exact bC_R _ | exact band_R _ _ | exact bor_R _ _ | exact bshl_R _ _ | exact bshr_R _ _ | exact bxor_R _ _ | exact bs_R (by omega) | decide) (fun h_11 => ?_) (fun h_11 => ?_)
    · refine ev_iload_n dX8_hasWhole_51 rfl ?_
      refine ev_ireturn dX8_hasWhole_52 ?_
      obtain rfl : r = nr := by omega
      exact ⟨rfl, rfl⟩
    · have hrn : r < nr := by omega
      have hfr := hft r hrn
      have ecut := (hwc r hrn).2
      have e83 : μ.1 83 (r : Int) = (f r : Int) := by rw [(mr r hrn).1, hfr.1]
      have e84 : μ.1 84 (r : Int) = (t r : Int) := by rw [(mr r hrn).2.1, hfr.2.1]
      have hoe : othE (μ.1 83 (r : Int)) (μ.1 84 (r : Int)) (p : Int) = (q : Int) ↔ (f r = p ∨ t r = p) ∧ (f r = q ∨ t r = q) := by
        rw [e83, e84]
        unfold othE
        split
        · constructor
          · intro h; omega
          · intro h; omega
        · split
          · constructor
            · intro h; omega
            · intro h; omega
          · constructor
            · intro h; omega
            · intro h; omega
      have hoR : inR (othE (μ.1 83 (r : Int)) (μ.1 84 (r : Int)) (p : Int)) := othE_R (hR.1 _ _) (hR.1 _ _)
      refine ev_iload_n dX8_hasWhole_14 rfl ?_
      refine ev_if_ne (tgt := 39) dX8_hasWhole_15 (by decide) (by first | exact hR.1 _ _ | exact hR0.1 _ _ | assumption | exact ⟨by omega, by omega⟩ | exact ⟨by simp [wr_at]; omega, by simp [wr_at]; omega⟩ | exact b2_R _ | exact bC_R _ | exact band_R _ _ | exact bor_R _ _ | exact bshl_R _ _ | exact bshr_R _ _ | exact bxor_R _ _ | exact bs_R (by omega) | decide) (fun h_15 => ?_) (fun h_15 => ?_)
      · refine ev_iconst dX8_hasWhole_39 ?_
        refine ev_goto (tgt := 44) dX8_hasWhole_40 (by decide) ?_
        refine ev_istore_n dX8_hasWhole_44 rfl (by decide) rfl ?_
        refine ev_iinc dX8_hasWhole_45 rfl rfl (by decide) rfl ?_
        refine ev_goto (tgt := 5) dX8_hasWhole_48 (by decide) ?_
        first
          | (have q9 := ih (by omega)
             have e1 : bC (∃ i, i < r + 1 ∧ w.testBit i = true ∧ (f i = p ∨ t i = p) ∧ (f i = q ∨ t i = q)) = 1 := bC_t (by
               first
                 | (obtain ⟨i, h1, h2⟩ := bC_ne h_15; exact ⟨i, by omega, h2⟩)
                 | exact ⟨r, by omega, by simpa using b2_eq h_25, hoe.mp h_36⟩)
             rw [e1] at q9
             exact q9)
          | (have q9 := ih (by omega)
             have e1 : bC (∃ i, i < r + 1 ∧ w.testBit i = true ∧ (f i = p ∨ t i = p) ∧ (f i = q ∨ t i = q)) = 0 := bC_f (fun z => by
               obtain ⟨i, h1, h2, h3⟩ := z
               by_cases e : i = r
               · subst e
                 first
                   | (have y := b2_ne h_25; rw [h2] at y; exact absurd y (by decide))
                   | exact h_36 (hoe.mpr h3)
               · exact bC_eq h_15 ⟨i, by omega, h2, h3⟩)
             rw [e1] at q9
             exact q9)
      · refine ev_aload_n dX8_hasWhole_18 rfl ?_
        refine ev_getR (r := 97) dX8_hasWhole_19 fl_X8_62 rfl rfl rfl ?_
        refine ev_iload dX8_hasWhole_22 rfl ?_
        refine ev_zaload dX8_hasWhole_24 rfl (by first | omega | (simp [wr_at]; omega) | (simp [wr_at, *]; omega)) (by first | omega | (simp [wr_at]; omega) | (simp [wr_at, *]; omega)) (by decide) ?_
        rw [ecut]
        refine ev_if_ne (tgt := 43) dX8_hasWhole_25 (by decide) (by first | exact hR.1 _ _ | exact hR0.1 _ _ | assumption | exact ⟨by omega, by omega⟩ | exact ⟨by simp [wr_at]; omega, by simp [wr_at]; omega⟩ | exact b2_R _ | exact bC_R _ | exact band_R _ _ | exact bor_R _ _ | exact bshl_R _ _ | exact bshr_R _ _ | exact bxor_R _ _ | exact bs_R (by omega) | decide) (fun h_25 => ?_) (fun h_25 => ?_)
        · refine ev_iconst dX8_hasWhole_43 ?_
          refine ev_istore_n dX8_hasWhole_44 rfl (by decide) rfl ?_
          refine ev_iinc dX8_hasWhole_45 rfl rfl (by decide) rfl ?_
          refine ev_goto (tgt := 5) dX8_hasWhole_48 (by decide) ?_
          first
            | (have q9 := ih (by omega)
               have e1 : bC (∃ i, i < r + 1 ∧ w.testBit i = true ∧ (f i = p ∨ t i = p) ∧ (f i = q ∨ t i = q)) = 1 := bC_t (by
                 first
                   | (obtain ⟨i, h1, h2⟩ := bC_ne h_15; exact ⟨i, by omega, h2⟩)
                   | exact ⟨r, by omega, by simpa using b2_eq h_25, hoe.mp h_36⟩)
               rw [e1] at q9
               exact q9)
            | (have q9 := ih (by omega)
               have e1 : bC (∃ i, i < r + 1 ∧ w.testBit i = true ∧ (f i = p ∨ t i = p) ∧ (f i = q ∨ t i = q)) = 0 := bC_f (fun z => by
                 obtain ⟨i, h1, h2, h3⟩ := z
                 by_cases e : i = r
                 · subst e
                   first
                     | (have y := b2_ne h_25; rw [h2] at y; exact absurd y (by decide))
                     | exact h_36 (hoe.mpr h3)
                 · exact bC_eq h_15 ⟨i, by omega, h2, h3⟩)
               rw [e1] at q9
               exact q9)
        · refine ev_aload_n dX8_hasWhole_28 rfl ?_
          refine ev_iload dX8_hasWhole_29 rfl ?_
          refine ev_iload_n dX8_hasWhole_31 rfl ?_
          refine ev_callVI dX8_hasWhole_32 kv_X8_349 (m_otherEnd μ r p (by omega) (by omega) ⟨by omega, by omega⟩) rfl rfl (ci := 8) rfl rfl ⟨by decide, by decide⟩ (Nat.le_of_ble_eq_true rfl) ?_
          refine ev_w (fun hR => ?_)
          refine ev_iload_n dX8_hasWhole_35 rfl ?_
          refine ev_icmp_ne (tgt := 43) dX8_hasWhole_36 (by decide) (by first | exact hR.1 _ _ | exact hR0.1 _ _ | assumption | exact ⟨by omega, by omega⟩ | exact ⟨by simp [wr_at]; omega, by simp [wr_at]; omega⟩ | exact b2_R _ | exact bC_R _ | exact band_R _ _ | exact bor_R _ _ | exact bshl_R _ _ | exact bshr_R _ _ | exact bxor_R _ _ | exact bs_R (by omega) | decide) (by first | exact hR.1 _ _ | exact hR0.1 _ _ | assumption | exact ⟨by omega, by omega⟩ | exact ⟨by simp [wr_at]; omega, by simp [wr_at]; omega⟩ | exact b2_R _ | exact bC_R _ | exact band_R _ _ | exact bor_R _ _ | exact bshl_R _ _ | exact bshr_R _ _ | exact bxor_R _ _ | exact bs_R (by omega) | decide) (fun h_36 => ?_) (fun h_36 => ?_)
          · refine ev_iconst dX8_hasWhole_43 ?_
            refine ev_istore_n dX8_hasWhole_44 rfl (by decide) rfl ?_
            refine ev_iinc dX8_hasWhole_45 rfl rfl (by decide) rfl ?_
            refine ev_goto (tgt := 5) dX8_hasWhole_48 (by decide) ?_
            first
              | (have q9 := ih (by omega)
                 have e1 : bC (∃ i, i < r + 1 ∧ w.testBit i = true ∧ (f i = p ∨ t i = p) ∧ (f i = q ∨ t i = q)) = 1 := bC_t (by
                   first
                     | (obtain ⟨i, h1, h2⟩ := bC_ne h_15; exact ⟨i, by omega, h2⟩)
                     | exact ⟨r, by omega, by simpa using b2_eq h_25, hoe.mp h_36⟩)
                 rw [e1] at q9
                 exact q9)
              | (have q9 := ih (by omega)
                 have e1 : bC (∃ i, i < r + 1 ∧ w.testBit i = true ∧ (f i = p ∨ t i = p) ∧ (f i = q ∨ t i = q)) = 0 := bC_f (fun z => by
                   obtain ⟨i, h1, h2, h3⟩ := z
                   by_cases e : i = r
                   · subst e
                     first
                       | (have y := b2_ne h_25; rw [h2] at y; exact absurd y (by decide))
                       | exact h_36 (hoe.mpr h3)
                   · exact bC_eq h_15 ⟨i, by omega, h2, h3⟩)
                 rw [e1] at q9
                 exact q9)
          · refine ev_iconst dX8_hasWhole_39 ?_
            refine ev_goto (tgt := 44) dX8_hasWhole_40 (by decide) ?_
            refine ev_istore_n dX8_hasWhole_44 rfl (by decide) rfl ?_
            refine ev_iinc dX8_hasWhole_45 rfl rfl (by decide) rfl ?_
            refine ev_goto (tgt := 5) dX8_hasWhole_48 (by decide) ?_
            first
              | (have q9 := ih (by omega)
                 have e1 : bC (∃ i, i < r + 1 ∧ w.testBit i = true ∧ (f i = p ∨ t i = p) ∧ (f i = q ∨ t i = q)) = 1 := bC_t (by
                   first
                     | (obtain ⟨i, h1, h2⟩ := bC_ne h_15; exact ⟨i, by omega, h2⟩)
                     | exact ⟨r, by omega, by simpa using b2_eq h_25, hoe.mp h_36⟩)
                 rw [e1] at q9
                 exact q9)
              | (have q9 := ih (by omega)
                 have e1 : bC (∃ i, i < r + 1 ∧ w.testBit i = true ∧ (f i = p ∨ t i = p) ∧ (f i = q ∨ t i = q)) = 0 := bC_f (fun z => by
                   obtain ⟨i, h1, h2, h3⟩ := z
                   by_cases e : i = r
                   · subst e
                     first
                       | (have y := b2_ne h_25; rw [h2] at y; exact absurd y (by decide))
                       | exact h_36 (hoe.mpr h3)
                   · exact bC_eq h_15 ⟨i, by omega, h2, h3⟩)
                 rw [e1] at q9
                 exact q9)
  refine ev_iconst dX8_hasWhole_0 ?_
  refine ev_istore_n dX8_hasWhole_1 rfl (by decide) rfl ?_
  refine ev_iconst dX8_hasWhole_2 ?_
  refine ev_istore dX8_hasWhole_3 rfl (by decide) rfl ?_
  have q9 := loop 0 (by omega)
  have e0 : bC (∃ i, i < 0 ∧ w.testBit i = true ∧ (f i = p ∨ t i = p) ∧ (f i = q ∨ t i = q)) = 0 := bC_f (fun z => by obtain ⟨i, h1, -⟩ := z; omega)
  rw [e0] at q9
  exact q9
