def bin4 (h l : Nat) : Nat := h / 2 ^ (2 * (3 - l)) % 4
theorem k_boyIn (σ : Mem) (h l : Nat) (hh : h < 256) (hl : l < 4) : Con yX1_boyIn cX1_boyIn 2 (some .int) 0 0 [.int (iI h), .int (iI l)] σ (AnsI (bin4 h l : Nat) σ) := by
  refine con_of (by decide) rfl (Nat.le_of_ble_eq_true rfl) (ok_I rfl) ?_
  refine ev_w (fun hR => ?_)
  have hR0 := hR
  refine ev_iload_n dX1_boyIn_0 rfl ?_
  refine ev_iconst dX1_boyIn_1 ?_
  refine ev_iconst dX1_boyIn_2 ?_
  refine ev_iload_n dX1_boyIn_3 rfl ?_
  refine ev_isub dX1_boyIn_4 ?_
  refine ev_imul dX1_boyIn_5 ?_
  rw [show (2 : Int) * (3 - (l : Int)) = ((2 * (3 - l) : Nat) : Int) by omega]
  refine ev_ishr dX1_boyIn_6 ?_
  rw [bshr_nat h _ (by omega) (by omega)]
  refine ev_iconst dX1_boyIn_7 ?_
  refine ev_iand dX1_boyIn_8 ?_
  rw [show (3 : Int) = ((3 : Nat) : Int) from rfl, band_nat _ 3 (Nat.lt_of_le_of_lt (Nat.div_le_self _ _) (by omega)), show h / 2 ^ (2 * (3 - l)) &&& 3 = bin4 h l from Nat.and_two_pow_sub_one_eq_mod _ 2]
  refine ev_ireturn dX1_boyIn_9 ?_
  exact ⟨rfl, rfl⟩
/-- a load whose boy is not there, or one that isn't to be dealt and yet isn't boy 0's -/
def badL (h nb v : Nat) (l : Nat) : Bool := decide ((if v.testBit l then nb else 1) ≤ bin4 h l)
theorem bin4_lt (h l : Nat) : bin4 h l < 4 := Nat.mod_lt _ (by decide)
theorem k_isDeal (σ : Mem) (h nb v : Nat) (hh : h < 256) (hb : nb ≤ 4) (hv : v < 4096) : Con yX1_isDeal cX1_isDeal 4 (some .boolean) 1 21 [.int (iI h), .int (iI nb), .int (iI v)] σ (AnsI (b2 (anyB (badL h nb v) 4 = false)) σ) := by
  refine con_of (by decide) rfl (Nat.le_of_ble_eq_true rfl) (ok_Z rfl (b2_01 _)) ?_
  refine ev_w (fun hR => ?_)
  have hR0 := hR
  have loop : ∀ l : Nat, l ≤ 4 → anyB (badL h nb v) l = false → Ev RX1 cX1_isDeal 4 1 21 (AnsI (b2 (anyB (badL h nb v) 4 = false)) σ) 2 [some (.int (iI h)), some (.int (iI nb)), some (.int (iI v)), some (.int (iI (l : Nat)))] [] σ := by
    refine for_up 4 (fun l hl ih hb2 => ?_)
    refine ev_w (fun hR => ?_)
    have hbl := bin4_lt h l
    refine ev_iload_n dX1_isDeal_2 rfl ?_
    refine ev_iconst dX1_isDeal_3 ?_
    refine ev_icmp_ge (tgt := 36) dX1_isDeal_4 (by decide) (by first | exact hR.1 _ _ | exact hR0.1 _ _ | assumption | exact ⟨by omega, by omega⟩ | exact ⟨by simp [wr_at]; omega, by simp [wr_at]; omega⟩ | exact b2_R _ | exact band_R _ _ | exact bor_R _ _ | exact bshl_R _ _ | exact bshr_R _ _ | exact bxor_R _ _ | exact bs_R (by omega) | decide) (by first | exact hR.1 _ _ | exact hR0.1 _ _ | assumption | exact ⟨by omega, by omega⟩ | exact ⟨by simp [wr_at]; omega, by simp [wr_at]; omega⟩ | exact b2_R _ | exact band_R _ _ | exact bor_R _ _ | exact bshl_R _ _ | exact bshr_R _ _ | exact bxor_R _ _ | exact bs_R (by omega) | decide) (fun h_4 => ?_) (fun h_4 => ?_)
    · refine ev_iconst dX1_isDeal_36 ?_
      refine ev_ireturn dX1_isDeal_37 ?_
      obtain rfl : l = 4 := by omega
      exact ⟨by rw [b2_t hb2], rfl⟩
    · refine ev_iload_n dX1_isDeal_7 rfl ?_
      refine ev_iload_n dX1_isDeal_8 rfl ?_
      refine ev_callSI dX1_isDeal_9 ks_X1_35 (k_boyIn σ h l hh (by omega)) rfl rfl ⟨by decide, by decide⟩ (Nat.le_of_ble_eq_true rfl) ?_
      refine ev_w (fun hR => ?_)
      refine ev_iload_n dX1_isDeal_12 rfl ?_
      refine ev_iload_n dX1_isDeal_13 rfl ?_
      refine ev_callNI dX1_isDeal_14 kn_X1_31 (k_has σ v l (by omega) (by omega)) rfl rfl ⟨by decide, by decide⟩ (Nat.le_of_ble_eq_true rfl) ?_
      refine ev_w (fun hR => ?_)
      refine ev_if_eq (tgt := 24) dX1_isDeal_17 (by decide) (by first | exact hR.1 _ _ | exact hR0.1 _ _ | assumption | exact ⟨by omega, by omega⟩ | exact ⟨by simp [wr_at]; omega, by simp [wr_at]; omega⟩ | exact b2_R _ | exact band_R _ _ | exact bor_R _ _ | exact bshl_R _ _ | exact bshr_R _ _ | exact bxor_R _ _ | exact bs_R (by omega) | decide) (fun h_17 => ?_) (fun h_17 => ?_)
      · refine ev_iconst dX1_isDeal_24 ?_
        refine ev_icmp_lt (tgt := 30) dX1_isDeal_25 (by decide) (by first | exact hR.1 _ _ | exact hR0.1 _ _ | assumption | exact ⟨by omega, by omega⟩ | exact ⟨by simp [wr_at]; omega, by simp [wr_at]; omega⟩ | exact b2_R _ | exact band_R _ _ | exact bor_R _ _ | exact bshl_R _ _ | exact bshr_R _ _ | exact bxor_R _ _ | exact bs_R (by omega) | decide) (by first | exact hR.1 _ _ | exact hR0.1 _ _ | assumption | exact ⟨by omega, by omega⟩ | exact ⟨by simp [wr_at]; omega, by simp [wr_at]; omega⟩ | exact b2_R _ | exact band_R _ _ | exact bor_R _ _ | exact bshl_R _ _ | exact bshr_R _ _ | exact bxor_R _ _ | exact bs_R (by omega) | decide) (fun h_25 => ?_) (fun h_25 => ?_)
        · refine ev_iinc dX1_isDeal_30 rfl rfl (by decide) rfl ?_
          refine ev_goto (tgt := 2) dX1_isDeal_33 (by decide) ?_
          refine ih (by omega) ?_
          rw [anyB, hb2, Bool.false_or, badL]
          first
            | (have q := b2_ne h_17; rw [if_pos q]; exact decide_eq_false (by omega))
            | (have q := b2_eq h_17; rw [if_neg q]; exact decide_eq_false (by omega))
        · refine ev_iconst dX1_isDeal_28 ?_
          refine ev_ireturn dX1_isDeal_29 ?_
          refine ⟨?_, rfl⟩
          rw [b2_f]
          rw [anyB_iff.mpr ⟨l, by omega, ?_⟩]
          · decide
          · rw [badL]
            first
              | (have q := b2_ne h_17; rw [if_pos q]; exact decide_eq_true (by omega))
              | (have q := b2_eq h_17; rw [if_neg q]; exact decide_eq_true (by omega))
      · refine ev_iload_n dX1_isDeal_20 rfl ?_
        refine ev_goto (tgt := 25) dX1_isDeal_21 (by decide) ?_
        refine ev_icmp_lt (tgt := 30) dX1_isDeal_25 (by decide) (by first | exact hR.1 _ _ | exact hR0.1 _ _ | assumption | exact ⟨by omega, by omega⟩ | exact ⟨by simp [wr_at]; omega, by simp [wr_at]; omega⟩ | exact b2_R _ | exact band_R _ _ | exact bor_R _ _ | exact bshl_R _ _ | exact bshr_R _ _ | exact bxor_R _ _ | exact bs_R (by omega) | decide) (by first | exact hR.1 _ _ | exact hR0.1 _ _ | assumption | exact ⟨by omega, by omega⟩ | exact ⟨by simp [wr_at]; omega, by simp [wr_at]; omega⟩ | exact b2_R _ | exact band_R _ _ | exact bor_R _ _ | exact bshl_R _ _ | exact bshr_R _ _ | exact bxor_R _ _ | exact bs_R (by omega) | decide) (fun h_25 => ?_) (fun h_25 => ?_)
        · refine ev_iinc dX1_isDeal_30 rfl rfl (by decide) rfl ?_
          refine ev_goto (tgt := 2) dX1_isDeal_33 (by decide) ?_
          refine ih (by omega) ?_
          rw [anyB, hb2, Bool.false_or, badL]
          first
            | (have q := b2_ne h_17; rw [if_pos q]; exact decide_eq_false (by omega))
            | (have q := b2_eq h_17; rw [if_neg q]; exact decide_eq_false (by omega))
        · refine ev_iconst dX1_isDeal_28 ?_
          refine ev_ireturn dX1_isDeal_29 ?_
          refine ⟨?_, rfl⟩
          rw [b2_f]
          rw [anyB_iff.mpr ⟨l, by omega, ?_⟩]
          · decide
          · rw [badL]
            first
              | (have q := b2_ne h_17; rw [if_pos q]; exact decide_eq_true (by omega))
              | (have q := b2_eq h_17; rw [if_neg q]; exact decide_eq_true (by omega))
  refine ev_iconst dX1_isDeal_0 ?_
  refine ev_istore_n dX1_isDeal_1 rfl (by decide) rfl ?_
  exact loop 0 (by omega) rfl
/-- what a hand gives boy b of the live loads; the longest round of a hand -/
def handS (h v b : Nat) : Nat := bs (fun l => v.testBit l && decide (bin4 h l = b)) 4
def mxR (σ : Mem) (h v : Nat) : Nat → Int
  | 0 => 0
  | b + 1 => max (mxR σ h v b) (σ.1 78 ((b : Int) * 16 + (handS h v b : Nat)))
theorem k_longestOf (σ : Mem) (h nb v : Nat) (hh : h < 256) (hb : nb ≤ 4) (hv : v < 4096) (h78 : ∀ j, 0 ≤ σ.1 78 j ∧ σ.1 78 j ≤ 2000000) : Con yX1_longestOf cX1_longestOf 8 (some .int) 1 21 [.ref 77, .int (iI h), .int (iI nb), .int (iI v)] σ (AnsI (mxR σ h v nb) σ) := by
  refine con_of (by decide) rfl (Nat.le_of_ble_eq_true rfl) (ok_I rfl) ?_
  refine ev_w (fun hR => ?_)
  have hR0 := hR
  have hmx : ∀ b, 0 ≤ mxR σ h v b ∧ mxR σ h v b ≤ 2000000 := by
    intro b
    induction b with
    | zero => unfold mxR; omega
    | succ b ih => have := h78 ((b : Int) * 16 + (handS h v b : Nat)); unfold mxR; omega
  have loop : ∀ b : Nat, b ≤ nb → ∀ w6 w7 : Option Value, Ev RX1 cX1_longestOf 8 1 21 (AnsI (mxR σ h v nb) σ) 6 [some (.ref 77), some (.int (iI h)), some (.int (iI nb)), some (.int (iI v)), some (.int (iI (mxR σ h v b))), some (.int (iI (b : Nat))), w6, w7] [] σ := by
    refine for_up nb (fun b hb1 ih w6 w7 => ?_)
    refine ev_w (fun hR => ?_)
    have inner : b < nb → ∀ l : Nat, l ≤ 4 → Ev RX1 cX1_longestOf 8 1 21 (AnsI (mxR σ h v nb) σ) 18 [some (.ref 77), some (.int (iI h)), some (.int (iI nb)), some (.int (iI v)), some (.int (iI (mxR σ h v b))), some (.int (iI (b : Nat))), some (.int (iI (bs (fun l => v.testBit l && decide (bin4 h l = b)) l : Nat))), some (.int (iI (l : Nat)))] [] σ := by
      intro hbn
      refine for_up 4 (fun l hl ihl => ?_)
      refine ev_w (fun hR => ?_)
      have hbl := bin4_lt h l
      have hmb := hmx b
      refine ev_iload dX1_longestOf_18 rfl ?_
      refine ev_iconst dX1_longestOf_20 ?_
      refine ev_icmp_ge (tgt := 63) dX1_longestOf_21 (by decide) (by first | exact hR.1 _ _ | exact hR0.1 _ _ | assumption | exact ⟨by omega, by omega⟩ | exact ⟨by simp [wr_at]; omega, by simp [wr_at]; omega⟩ | exact b2_R _ | exact band_R _ _ | exact bor_R _ _ | exact bshl_R _ _ | exact bshr_R _ _ | exact bxor_R _ _ | exact bs_R (by omega) | decide) (by first | exact hR.1 _ _ | exact hR0.1 _ _ | assumption | exact ⟨by omega, by omega⟩ | exact ⟨by simp [wr_at]; omega, by simp [wr_at]; omega⟩ | exact b2_R _ | exact band_R _ _ | exact bor_R _ _ | exact bshl_R _ _ | exact bshr_R _ _ | exact bxor_R _ _ | exact bs_R (by omega) | decide) (fun h_21 => ?_) (fun h_21 => ?_)
      · obtain rfl : l = 4 := by omega
        have hbs := bs_lt (fun l => v.testBit l && decide (bin4 h l = b)) 4
        have h7 := h78 ((b : Int) * 16 + (handS h v b : Nat))
        refine ev_iload dX1_longestOf_63 rfl ?_
        refine ev_aload_n dX1_longestOf_65 rfl ?_
        refine ev_getR (r := 78) dX1_longestOf_66 fl_X1_11 rfl rfl rfl ?_
        refine ev_iload dX1_longestOf_69 rfl ?_
        refine ev_bipush dX1_longestOf_71 (by decide) ?_
        refine ev_imul dX1_longestOf_73 ?_
        refine ev_iload dX1_longestOf_74 rfl ?_
        refine ev_iadd dX1_longestOf_76 ?_
        refine ev_iaload dX1_longestOf_77 rfl (by first | omega | (simp [wr_at]; omega) | (simp [wr_at, *]; omega)) (by first | omega | (simp [wr_at]; omega) | (simp [wr_at, *]; omega)) (by decide) ?_
        rw [show σ.1 78 ((b : Int) * 16 + (bs (fun l => v.testBit l && decide (bin4 h l = b)) 4 : Nat)) = σ.1 78 ((b : Int) * 16 + (handS h v b : Nat)) from rfl]
        refine ev_mmax dX1_longestOf_78 ks_X1_39 (by first | exact hR.1 _ _ | exact hR0.1 _ _ | assumption | exact ⟨by omega, by omega⟩ | exact ⟨by simp [wr_at]; omega, by simp [wr_at]; omega⟩ | exact b2_R _ | exact band_R _ _ | exact bor_R _ _ | exact bshl_R _ _ | exact bshr_R _ _ | exact bxor_R _ _ | exact bs_R (by omega) | decide) (by first | exact hR.1 _ _ | exact hR0.1 _ _ | assumption | exact ⟨by omega, by omega⟩ | exact ⟨by simp [wr_at]; omega, by simp [wr_at]; omega⟩ | exact b2_R _ | exact band_R _ _ | exact bor_R _ _ | exact bshl_R _ _ | exact bshr_R _ _ | exact bxor_R _ _ | exact bs_R (by omega) | decide) (by decide) (by decide) (Nat.le_of_ble_eq_true rfl) ?_
        refine ev_istore dX1_longestOf_81 rfl (by decide) rfl ?_
        refine ev_iinc dX1_longestOf_83 rfl rfl (by decide) rfl ?_
        refine ev_goto (tgt := 6) dX1_longestOf_86 (by decide) ?_
        exact ih (by omega) _ _
      · refine ev_iload dX1_longestOf_24 rfl ?_
        refine ev_iload_n dX1_longestOf_26 rfl ?_
        refine ev_iload dX1_longestOf_27 rfl ?_
        refine ev_callNI dX1_longestOf_29 kn_X1_31 (k_has σ v l (by omega) (by omega)) rfl rfl ⟨by decide, by decide⟩ (Nat.le_of_ble_eq_true rfl) ?_
        refine ev_w (fun hR => ?_)
        refine ev_if_eq (tgt := 53) dX1_longestOf_32 (by decide) (by first | exact hR.1 _ _ | exact hR0.1 _ _ | assumption | exact ⟨by omega, by omega⟩ | exact ⟨by simp [wr_at]; omega, by simp [wr_at]; omega⟩ | exact b2_R _ | exact band_R _ _ | exact bor_R _ _ | exact bshl_R _ _ | exact bshr_R _ _ | exact bxor_R _ _ | exact bs_R (by omega) | decide) (fun h_32 => ?_) (fun h_32 => ?_)
        · refine ev_iconst dX1_longestOf_53 ?_
          refine ev_ior dX1_longestOf_54 ?_
          refine ev_istore dX1_longestOf_55 rfl (by decide) rfl ?_
          refine ev_iinc dX1_longestOf_57 rfl rfl (by decide) rfl ?_
          refine ev_goto (tgt := 18) dX1_longestOf_60 (by decide) ?_
          first
            | (have q := b2_ne h_32; rw [bs_ort (p := fun l => v.testBit l && decide (bin4 h l = b)) (n := l) (by omega) (by rw [q, decide_eq_true (by omega)]; rfl)]; exact ihl (by omega))
            | (have q := b2_ne h_32; rw [bs_or0 (p := fun l => v.testBit l && decide (bin4 h l = b)) (n := l) (by omega) (by rw [q, decide_eq_false (by omega)]; rfl)]; exact ihl (by omega))
            | (have q := b2_eq h_32; rw [bs_or0 (p := fun l => v.testBit l && decide (bin4 h l = b)) (n := l) (by omega) (by rw [Bool.eq_false_iff.mpr q]; rfl)]; exact ihl (by omega))
        · refine ev_iload_n dX1_longestOf_35 rfl ?_
          refine ev_iload dX1_longestOf_36 rfl ?_
          refine ev_callSI dX1_longestOf_38 ks_X1_35 (k_boyIn σ h l hh (by omega)) rfl rfl ⟨by decide, by decide⟩ (Nat.le_of_ble_eq_true rfl) ?_
          refine ev_w (fun hR => ?_)
          refine ev_iload dX1_longestOf_41 rfl ?_
          refine ev_icmp_ne (tgt := 53) dX1_longestOf_43 (by decide) (by first | exact hR.1 _ _ | exact hR0.1 _ _ | assumption | exact ⟨by omega, by omega⟩ | exact ⟨by simp [wr_at]; omega, by simp [wr_at]; omega⟩ | exact b2_R _ | exact band_R _ _ | exact bor_R _ _ | exact bshl_R _ _ | exact bshr_R _ _ | exact bxor_R _ _ | exact bs_R (by omega) | decide) (by first | exact hR.1 _ _ | exact hR0.1 _ _ | assumption | exact ⟨by omega, by omega⟩ | exact ⟨by simp [wr_at]; omega, by simp [wr_at]; omega⟩ | exact b2_R _ | exact band_R _ _ | exact bor_R _ _ | exact bshl_R _ _ | exact bshr_R _ _ | exact bxor_R _ _ | exact bs_R (by omega) | decide) (fun h_43 => ?_) (fun h_43 => ?_)
          · refine ev_iconst dX1_longestOf_53 ?_
            refine ev_ior dX1_longestOf_54 ?_
            refine ev_istore dX1_longestOf_55 rfl (by decide) rfl ?_
            refine ev_iinc dX1_longestOf_57 rfl rfl (by decide) rfl ?_
            refine ev_goto (tgt := 18) dX1_longestOf_60 (by decide) ?_
            first
              | (have q := b2_ne h_32; rw [bs_ort (p := fun l => v.testBit l && decide (bin4 h l = b)) (n := l) (by omega) (by rw [q, decide_eq_true (by omega)]; rfl)]; exact ihl (by omega))
              | (have q := b2_ne h_32; rw [bs_or0 (p := fun l => v.testBit l && decide (bin4 h l = b)) (n := l) (by omega) (by rw [q, decide_eq_false (by omega)]; rfl)]; exact ihl (by omega))
              | (have q := b2_eq h_32; rw [bs_or0 (p := fun l => v.testBit l && decide (bin4 h l = b)) (n := l) (by omega) (by rw [Bool.eq_false_iff.mpr q]; rfl)]; exact ihl (by omega))
          · refine ev_iconst dX1_longestOf_46 ?_
            refine ev_iload dX1_longestOf_47 rfl ?_
            refine ev_ishl dX1_longestOf_49 ?_
            refine ev_goto (tgt := 54) dX1_longestOf_50 (by decide) ?_
            refine ev_ior dX1_longestOf_54 ?_
            refine ev_istore dX1_longestOf_55 rfl (by decide) rfl ?_
            refine ev_iinc dX1_longestOf_57 rfl rfl (by decide) rfl ?_
            refine ev_goto (tgt := 18) dX1_longestOf_60 (by decide) ?_
            first
              | (have q := b2_ne h_32; rw [bs_ort (p := fun l => v.testBit l && decide (bin4 h l = b)) (n := l) (by omega) (by rw [q, decide_eq_true (by omega)]; rfl)]; exact ihl (by omega))
              | (have q := b2_ne h_32; rw [bs_or0 (p := fun l => v.testBit l && decide (bin4 h l = b)) (n := l) (by omega) (by rw [q, decide_eq_false (by omega)]; rfl)]; exact ihl (by omega))
              | (have q := b2_eq h_32; rw [bs_or0 (p := fun l => v.testBit l && decide (bin4 h l = b)) (n := l) (by omega) (by rw [Bool.eq_false_iff.mpr q]; rfl)]; exact ihl (by omega))
    refine ev_iload dX1_longestOf_6 rfl ?_
    refine ev_iload_n dX1_longestOf_8 rfl ?_
    refine ev_icmp_ge (tgt := 89) dX1_longestOf_9 (by decide) (by first | exact hR.1 _ _ | exact hR0.1 _ _ | assumption | exact ⟨by omega, by omega⟩ | exact ⟨by simp [wr_at]; omega, by simp [wr_at]; omega⟩ | exact b2_R _ | exact band_R _ _ | exact bor_R _ _ | exact bshl_R _ _ | exact bshr_R _ _ | exact bxor_R _ _ | exact bs_R (by omega) | decide) (by first | exact hR.1 _ _ | exact hR0.1 _ _ | assumption | exact ⟨by omega, by omega⟩ | exact ⟨by simp [wr_at]; omega, by simp [wr_at]; omega⟩ | exact b2_R _ | exact band_R _ _ | exact bor_R _ _ | exact bshl_R _ _ | exact bshr_R _ _ | exact bxor_R _ _ | exact bs_R (by omega) | decide) (fun h_9 => ?_) (fun h_9 => ?_)
    · refine ev_iload dX1_longestOf_89 rfl ?_
      refine ev_ireturn dX1_longestOf_91 ?_
      obtain rfl : b = nb := by omega
      exact ⟨rfl, rfl⟩
    · refine ev_iconst dX1_longestOf_12 ?_
      refine ev_istore dX1_longestOf_13 rfl (by decide) rfl ?_
      refine ev_iconst dX1_longestOf_15 ?_
      refine ev_istore dX1_longestOf_16 rfl (by decide) rfl ?_
      exact inner (by omega) 0 (by omega)
  refine ev_iconst dX1_longestOf_0 ?_
  refine ev_istore dX1_longestOf_1 rfl (by decide) rfl ?_
  refine ev_iconst dX1_longestOf_3 ?_
  refine ev_istore dX1_longestOf_4 rfl (by decide) rfl ?_
  exact loop 0 (by omega) _ _
def handV (σ : Mem) (nb v h : Nat) : Int := if anyB (badL h nb v) 4 = false then mxR σ h v nb else 1000000
/-- the least of the first h hands, and the first that has it -/
def dlR (F : Nat → Int) : Nat → Int × Int
  | 0 => (1000000, -1)
  | h + 1 => if F h < (dlR F h).1 then (F h, h) else dlR F h
theorem mxR_same {σ τ : Mem} {S : Nat → Prop} (hs : Same S σ τ) (h78 : ¬ S 78) (h v b : Nat) : mxR τ h v b = mxR σ h v b := by
  induction b with
  | zero => rfl
  | succ b ih => unfold mxR; rw [ih, hs.at h78]
theorem k_deal (σ : Mem) (nb v : Nat) (hb : nb ≤ 4) (hv : v < 4096) (h78 : ∀ j, 0 ≤ σ.1 78 j ∧ σ.1 78 j ≤ 2000000) : Con yX1_deal cX1_deal 5 none 2 48 [.ref 77, .int (iI nb), .int (iI v)] σ (AnsVP (fun τ => Same (fun c => c = 77) σ τ ∧ τ.1 77 2 = (dlR (handV σ nb v) 256).1 ∧ τ.1 77 1 = (dlR (handV σ nb v) 256).2)) := by
  refine con_of (by decide) rfl (Nat.le_of_ble_eq_true rfl) (ok_VP rfl) ?_
  refine ev_w (fun hR => ?_)
  have hR0 := hR
  have loop : ∀ h : Nat, h ≤ 256 → ∀ (τ : Mem) (w4 : Option Value), Same (fun c => c = 77) σ τ → τ.1 77 2 = (dlR (handV σ nb v) h).1 → τ.1 77 1 = (dlR (handV σ nb v) h).2 → Ev RX1 cX1_deal 5 2 48 (AnsVP (fun τ => Same (fun c => c = 77) σ τ ∧ τ.1 77 2 = (dlR (handV σ nb v) 256).1 ∧ τ.1 77 1 = (dlR (handV σ nb v) 256).2)) 13 [some (.ref 77), some (.int (iI nb)), some (.int (iI v)), some (.int (iI (h : Nat))), w4] [] τ := by
    refine for_up 256 (fun h hh ih τ w4 hS h2 h1 => ?_)
    refine ev_w (fun hR => ?_)
    have h78' : ∀ j, 0 ≤ τ.1 78 j ∧ τ.1 78 j ≤ 2000000 := fun j => by rw [hS.at (by decide)]; exact h78 j
    have emx := mxR_same (h := h) (v := v) (b := nb) hS (by decide)
    refine ev_iload_n dX1_deal_13 rfl ?_
    refine ev_sipush dX1_deal_14 (by decide) ?_
    refine ev_icmp_ge (tgt := 69) dX1_deal_17 (by decide) (by first | exact hR.1 _ _ | exact hR0.1 _ _ | assumption | exact ⟨by omega, by omega⟩ | exact ⟨by simp [wr_at]; omega, by simp [wr_at]; omega⟩ | exact b2_R _ | exact band_R _ _ | exact bor_R _ _ | exact bshl_R _ _ | exact bshr_R _ _ | exact bxor_R _ _ | exact bs_R (by omega) | decide) (by first | exact hR.1 _ _ | exact hR0.1 _ _ | assumption | exact ⟨by omega, by omega⟩ | exact ⟨by simp [wr_at]; omega, by simp [wr_at]; omega⟩ | exact b2_R _ | exact band_R _ _ | exact bor_R _ _ | exact bshl_R _ _ | exact bshr_R _ _ | exact bxor_R _ _ | exact bs_R (by omega) | decide) (fun h_17 => ?_) (fun h_17 => ?_)
    · refine ev_return dX1_deal_69 ?_
      obtain rfl : h = 256 := by omega
      exact ⟨rfl, hS, h2, h1⟩
    · refine ev_iload_n dX1_deal_20 rfl ?_
      refine ev_iload_n dX1_deal_21 rfl ?_
      refine ev_iload_n dX1_deal_22 rfl ?_
      refine ev_callSI dX1_deal_23 ks_X1_23 (k_isDeal τ h nb v (by omega) hb hv) rfl rfl ⟨by decide, by decide⟩ (Nat.le_of_ble_eq_true rfl) ?_
      refine ev_w (fun hR => ?_)
      refine ev_if_eq (tgt := 39) dX1_deal_26 (by decide) (by first | exact hR.1 _ _ | exact hR0.1 _ _ | assumption | exact ⟨by omega, by omega⟩ | exact ⟨by simp [wr_at]; omega, by simp [wr_at]; omega⟩ | exact b2_R _ | exact band_R _ _ | exact bor_R _ _ | exact bshl_R _ _ | exact bshr_R _ _ | exact bxor_R _ _ | exact bs_R (by omega) | decide) (fun h_26 => ?_) (fun h_26 => ?_)
      · refine ev_ldc (z := 1000000) dX1_deal_39 kc_X1_19 (by decide) ?_
        refine ev_istore dX1_deal_41 rfl (by decide) rfl ?_
        have eV : ∃ x : Int, x = handV σ nb v h ∧ inR x := by
          first
            | exact ⟨mxR τ h v nb, by have q := b2_ne h_26; rw [handV, if_pos q, emx], by have := hV2; exact ⟨by omega, by omega⟩⟩
            | exact ⟨1000000, by have q := b2_eq h_26; rw [handV, if_neg q], by decide⟩
        refine ev_iload dX1_deal_43 rfl ?_
        refine ev_aload_n dX1_deal_45 rfl ?_
        refine ev_getI (kz := 2) dX1_deal_46 fl_X1_20 rfl rfl rfl ?_
        refine ev_icmp_ge (tgt := 63) dX1_deal_49 (by decide) (by first | exact hR.1 _ _ | exact hR0.1 _ _ | assumption | exact ⟨by omega, by omega⟩ | exact ⟨by simp [wr_at]; omega, by simp [wr_at]; omega⟩ | exact b2_R _ | exact band_R _ _ | exact bor_R _ _ | exact bshl_R _ _ | exact bshr_R _ _ | exact bxor_R _ _ | exact bs_R (by omega) | decide) (by first | exact hR.1 _ _ | exact hR0.1 _ _ | assumption | exact ⟨by omega, by omega⟩ | exact ⟨by simp [wr_at]; omega, by simp [wr_at]; omega⟩ | exact b2_R _ | exact band_R _ _ | exact bor_R _ _ | exact bshl_R _ _ | exact bshr_R _ _ | exact bxor_R _ _ | exact bs_R (by omega) | decide) (fun h_49 => ?_) (fun h_49 => ?_)
        · refine ev_iinc dX1_deal_63 rfl rfl (by decide) rfl ?_
          refine ev_goto (tgt := 13) dX1_deal_66 (by decide) ?_
          first
            | (have q := b2_eq h_26
               have eF : handV σ nb v h = 1000000 := by rw [handV, if_neg q]
               have hd : dlR (handV σ nb v) (h + 1) = if handV σ nb v h < (dlR (handV σ nb v) h).1 then (handV σ nb v h, (h : Int)) else dlR (handV σ nb v) h := rfl
               first
                 | (refine ih (by omega) _ _ hS ?_ ?_
                    · rw [hd, if_neg (by omega)]; exact h2
                    · rw [hd, if_neg (by omega)]; exact h1)
                 | (refine ih (by omega) _ _ ((hS.wr rfl).wr rfl) ?_ ?_
                    · rw [hd, if_pos (by omega), wr_nek _ (by decide), wr_eq, eF]
                    · rw [hd, if_pos (by omega), wr_eq]))
            | (have q := b2_ne h_26
               have eF : handV σ nb v h = mxR τ h v nb := by rw [handV, if_pos q, emx]
               have hd : dlR (handV σ nb v) (h + 1) = if handV σ nb v h < (dlR (handV σ nb v) h).1 then (handV σ nb v h, (h : Int)) else dlR (handV σ nb v) h := rfl
               first
                 | (refine ih (by omega) _ _ hS ?_ ?_
                    · rw [hd, if_neg (by omega)]; exact h2
                    · rw [hd, if_neg (by omega)]; exact h1)
                 | (refine ih (by omega) _ _ ((hS.wr rfl).wr rfl) ?_ ?_
                    · rw [hd, if_pos (by omega), wr_nek _ (by decide), wr_eq, eF]
                    · rw [hd, if_pos (by omega), wr_eq]))
        · refine ev_aload_n dX1_deal_52 rfl ?_
          refine ev_iload dX1_deal_53 rfl ?_
          refine ev_putI (kz := 2) dX1_deal_55 fp_X1_20 rfl rfl rfl (by first | exact hR.1 _ _ | exact hR0.1 _ _ | assumption | exact ⟨by omega, by omega⟩ | exact ⟨by simp [wr_at]; omega, by simp [wr_at]; omega⟩ | exact b2_R _ | exact band_R _ _ | exact bor_R _ _ | exact bshl_R _ _ | exact bshr_R _ _ | exact bxor_R _ _ | exact bs_R (by omega) | decide) ?_
          refine ev_w (fun hR => ?_)
          refine ev_aload_n dX1_deal_58 rfl ?_
          refine ev_iload_n dX1_deal_59 rfl ?_
          refine ev_putI (kz := 1) dX1_deal_60 fp_X1_15 rfl rfl rfl (by first | exact hR.1 _ _ | exact hR0.1 _ _ | assumption | exact ⟨by omega, by omega⟩ | exact ⟨by simp [wr_at]; omega, by simp [wr_at]; omega⟩ | exact b2_R _ | exact band_R _ _ | exact bor_R _ _ | exact bshl_R _ _ | exact bshr_R _ _ | exact bxor_R _ _ | exact bs_R (by omega) | decide) ?_
          refine ev_w (fun hR => ?_)
          refine ev_iinc dX1_deal_63 rfl rfl (by decide) rfl ?_
          refine ev_goto (tgt := 13) dX1_deal_66 (by decide) ?_
          first
            | (have q := b2_eq h_26
               have eF : handV σ nb v h = 1000000 := by rw [handV, if_neg q]
               have hd : dlR (handV σ nb v) (h + 1) = if handV σ nb v h < (dlR (handV σ nb v) h).1 then (handV σ nb v h, (h : Int)) else dlR (handV σ nb v) h := rfl
               first
                 | (refine ih (by omega) _ _ hS ?_ ?_
                    · rw [hd, if_neg (by omega)]; exact h2
                    · rw [hd, if_neg (by omega)]; exact h1)
                 | (refine ih (by omega) _ _ ((hS.wr rfl).wr rfl) ?_ ?_
                    · rw [hd, if_pos (by omega), wr_nek _ (by decide), wr_eq, eF]
                    · rw [hd, if_pos (by omega), wr_eq]))
            | (have q := b2_ne h_26
               have eF : handV σ nb v h = mxR τ h v nb := by rw [handV, if_pos q, emx]
               have hd : dlR (handV σ nb v) (h + 1) = if handV σ nb v h < (dlR (handV σ nb v) h).1 then (handV σ nb v h, (h : Int)) else dlR (handV σ nb v) h := rfl
               first
                 | (refine ih (by omega) _ _ hS ?_ ?_
                    · rw [hd, if_neg (by omega)]; exact h2
                    · rw [hd, if_neg (by omega)]; exact h1)
                 | (refine ih (by omega) _ _ ((hS.wr rfl).wr rfl) ?_ ?_
                    · rw [hd, if_pos (by omega), wr_nek _ (by decide), wr_eq, eF]
                    · rw [hd, if_pos (by omega), wr_eq]))
      · refine ev_aload_n dX1_deal_29 rfl ?_
        refine ev_iload_n dX1_deal_30 rfl ?_
        refine ev_iload_n dX1_deal_31 rfl ?_
        refine ev_iload_n dX1_deal_32 rfl ?_
        refine ev_callVI dX1_deal_33 kv_X1_27 (k_longestOf τ h nb v (by omega) hb hv h78') rfl rfl (ci := 1) rfl rfl ⟨by decide, by decide⟩ (Nat.le_of_ble_eq_true rfl) ?_
        refine ev_w (fun hR => ?_)
        have hV2 : 0 ≤ mxR τ h v nb ∧ mxR τ h v nb ≤ 2000000 := by
          have : ∀ b, 0 ≤ mxR τ h v b ∧ mxR τ h v b ≤ 2000000 := by
            intro b
            induction b with
            | zero => unfold mxR; omega
            | succ b ih => have := h78' ((b : Int) * 16 + (handS h v b : Nat)); unfold mxR; omega
          exact this nb
        refine ev_goto (tgt := 41) dX1_deal_36 (by decide) ?_
        refine ev_istore dX1_deal_41 rfl (by decide) rfl ?_
        have eV : ∃ x : Int, x = handV σ nb v h ∧ inR x := by
          first
            | exact ⟨mxR τ h v nb, by have q := b2_ne h_26; rw [handV, if_pos q, emx], by have := hV2; exact ⟨by omega, by omega⟩⟩
            | exact ⟨1000000, by have q := b2_eq h_26; rw [handV, if_neg q], by decide⟩
        refine ev_iload dX1_deal_43 rfl ?_
        refine ev_aload_n dX1_deal_45 rfl ?_
        refine ev_getI (kz := 2) dX1_deal_46 fl_X1_20 rfl rfl rfl ?_
        refine ev_icmp_ge (tgt := 63) dX1_deal_49 (by decide) (by first | exact hR.1 _ _ | exact hR0.1 _ _ | assumption | exact ⟨by omega, by omega⟩ | exact ⟨by simp [wr_at]; omega, by simp [wr_at]; omega⟩ | exact b2_R _ | exact band_R _ _ | exact bor_R _ _ | exact bshl_R _ _ | exact bshr_R _ _ | exact bxor_R _ _ | exact bs_R (by omega) | decide) (by first | exact hR.1 _ _ | exact hR0.1 _ _ | assumption | exact ⟨by omega, by omega⟩ | exact ⟨by simp [wr_at]; omega, by simp [wr_at]; omega⟩ | exact b2_R _ | exact band_R _ _ | exact bor_R _ _ | exact bshl_R _ _ | exact bshr_R _ _ | exact bxor_R _ _ | exact bs_R (by omega) | decide) (fun h_49 => ?_) (fun h_49 => ?_)
        · refine ev_iinc dX1_deal_63 rfl rfl (by decide) rfl ?_
          refine ev_goto (tgt := 13) dX1_deal_66 (by decide) ?_
          first
            | (have q := b2_eq h_26
               have eF : handV σ nb v h = 1000000 := by rw [handV, if_neg q]
               have hd : dlR (handV σ nb v) (h + 1) = if handV σ nb v h < (dlR (handV σ nb v) h).1 then (handV σ nb v h, (h : Int)) else dlR (handV σ nb v) h := rfl
               first
                 | (refine ih (by omega) _ _ hS ?_ ?_
                    · rw [hd, if_neg (by omega)]; exact h2
                    · rw [hd, if_neg (by omega)]; exact h1)
                 | (refine ih (by omega) _ _ ((hS.wr rfl).wr rfl) ?_ ?_
                    · rw [hd, if_pos (by omega), wr_nek _ (by decide), wr_eq, eF]
                    · rw [hd, if_pos (by omega), wr_eq]))
            | (have q := b2_ne h_26
               have eF : handV σ nb v h = mxR τ h v nb := by rw [handV, if_pos q, emx]
               have hd : dlR (handV σ nb v) (h + 1) = if handV σ nb v h < (dlR (handV σ nb v) h).1 then (handV σ nb v h, (h : Int)) else dlR (handV σ nb v) h := rfl
               first
                 | (refine ih (by omega) _ _ hS ?_ ?_
                    · rw [hd, if_neg (by omega)]; exact h2
                    · rw [hd, if_neg (by omega)]; exact h1)
                 | (refine ih (by omega) _ _ ((hS.wr rfl).wr rfl) ?_ ?_
                    · rw [hd, if_pos (by omega), wr_nek _ (by decide), wr_eq, eF]
                    · rw [hd, if_pos (by omega), wr_eq]))
        · refine ev_aload_n dX1_deal_52 rfl ?_
          refine ev_iload dX1_deal_53 rfl ?_
          refine ev_putI (kz := 2) dX1_deal_55 fp_X1_20 rfl rfl rfl (by first | exact hR.1 _ _ | exact hR0.1 _ _ | assumption | exact ⟨by omega, by omega⟩ | exact ⟨by simp [wr_at]; omega, by simp [wr_at]; omega⟩ | exact b2_R _ | exact band_R _ _ | exact bor_R _ _ | exact bshl_R _ _ | exact bshr_R _ _ | exact bxor_R _ _ | exact bs_R (by omega) | decide) ?_
          refine ev_w (fun hR => ?_)
          refine ev_aload_n dX1_deal_58 rfl ?_
          refine ev_iload_n dX1_deal_59 rfl ?_
          refine ev_putI (kz := 1) dX1_deal_60 fp_X1_15 rfl rfl rfl (by first | exact hR.1 _ _ | exact hR0.1 _ _ | assumption | exact ⟨by omega, by omega⟩ | exact ⟨by simp [wr_at]; omega, by simp [wr_at]; omega⟩ | exact b2_R _ | exact band_R _ _ | exact bor_R _ _ | exact bshl_R _ _ | exact bshr_R _ _ | exact bxor_R _ _ | exact bs_R (by omega) | decide) ?_
          refine ev_w (fun hR => ?_)
          refine ev_iinc dX1_deal_63 rfl rfl (by decide) rfl ?_
          refine ev_goto (tgt := 13) dX1_deal_66 (by decide) ?_
          first
            | (have q := b2_eq h_26
               have eF : handV σ nb v h = 1000000 := by rw [handV, if_neg q]
               have hd : dlR (handV σ nb v) (h + 1) = if handV σ nb v h < (dlR (handV σ nb v) h).1 then (handV σ nb v h, (h : Int)) else dlR (handV σ nb v) h := rfl
               first
                 | (refine ih (by omega) _ _ hS ?_ ?_
                    · rw [hd, if_neg (by omega)]; exact h2
                    · rw [hd, if_neg (by omega)]; exact h1)
                 | (refine ih (by omega) _ _ ((hS.wr rfl).wr rfl) ?_ ?_
                    · rw [hd, if_pos (by omega), wr_nek _ (by decide), wr_eq, eF]
                    · rw [hd, if_pos (by omega), wr_eq]))
            | (have q := b2_ne h_26
               have eF : handV σ nb v h = mxR τ h v nb := by rw [handV, if_pos q, emx]
               have hd : dlR (handV σ nb v) (h + 1) = if handV σ nb v h < (dlR (handV σ nb v) h).1 then (handV σ nb v h, (h : Int)) else dlR (handV σ nb v) h := rfl
               first
                 | (refine ih (by omega) _ _ hS ?_ ?_
                    · rw [hd, if_neg (by omega)]; exact h2
                    · rw [hd, if_neg (by omega)]; exact h1)
                 | (refine ih (by omega) _ _ ((hS.wr rfl).wr rfl) ?_ ?_
                    · rw [hd, if_pos (by omega), wr_nek _ (by decide), wr_eq, eF]
                    · rw [hd, if_pos (by omega), wr_eq]))
  refine ev_aload_n dX1_deal_0 rfl ?_
  refine ev_iconst dX1_deal_1 ?_
  refine ev_putI (kz := 1) dX1_deal_2 fp_X1_15 rfl rfl rfl (by first | exact hR.1 _ _ | exact hR0.1 _ _ | assumption | exact ⟨by omega, by omega⟩ | exact ⟨by simp [wr_at]; omega, by simp [wr_at]; omega⟩ | exact b2_R _ | exact band_R _ _ | exact bor_R _ _ | exact bshl_R _ _ | exact bshr_R _ _ | exact bxor_R _ _ | exact bs_R (by omega) | decide) ?_
  refine ev_w (fun hR => ?_)
  refine ev_aload_n dX1_deal_5 rfl ?_
  refine ev_ldc (z := 1000000) dX1_deal_6 kc_X1_19 (by decide) ?_
  refine ev_putI (kz := 2) dX1_deal_8 fp_X1_20 rfl rfl rfl (by first | exact hR.1 _ _ | exact hR0.1 _ _ | assumption | exact ⟨by omega, by omega⟩ | exact ⟨by simp [wr_at]; omega, by simp [wr_at]; omega⟩ | exact b2_R _ | exact band_R _ _ | exact bor_R _ _ | exact bshl_R _ _ | exact bshr_R _ _ | exact bxor_R _ _ | exact bs_R (by omega) | decide) ?_
  refine ev_w (fun hR => ?_)
  refine ev_iconst dX1_deal_11 ?_
  refine ev_istore_n dX1_deal_12 rfl (by decide) rfl ?_
  exact loop 0 (by omega) _ _ ((Same.wr (S := fun c => c = 77) Same.rf rfl).wr rfl) (by rw [wr_eq]; rfl) (by rw [wr_nek _ (by decide), wr_eq]; rfl)
theorem k_setRound (σ : Mem) (b s : Nat) (z : Int) (hb : b < 4) (hs : s < 16) (hz : inR z) : Con yX1_setRound cX1_setRound 4 none 0 0 [.ref 77, .int (iI b), .int (iI s), .int (iI z)] σ (AnsV (wr σ 78 ((b : Int) * 16 + s) z)) := by
  refine con_of (by decide) rfl (Nat.le_of_ble_eq_true rfl) (ok_V rfl) ?_
  refine ev_w (fun hR => ?_)
  have hR0 := hR
  refine ev_aload_n dX1_setRound_0 rfl ?_
  refine ev_getR (r := 78) dX1_setRound_1 fl_X1_11 rfl rfl rfl ?_
  refine ev_iload_n dX1_setRound_4 rfl ?_
  refine ev_bipush dX1_setRound_5 (by decide) ?_
  refine ev_imul dX1_setRound_7 ?_
  refine ev_iload_n dX1_setRound_8 rfl ?_
  refine ev_iadd dX1_setRound_9 ?_
  refine ev_iload_n dX1_setRound_10 rfl ?_
  refine ev_iastore dX1_setRound_11 rfl (by first | omega | (simp [wr_at]; omega) | (simp [wr_at, *]; omega)) (by first | omega | (simp [wr_at]; omega) | (simp [wr_at, *]; omega)) (by decide) (by first | exact hR.1 _ _ | exact hR0.1 _ _ | assumption | exact ⟨by omega, by omega⟩ | exact ⟨by simp [wr_at]; omega, by simp [wr_at]; omega⟩ | exact b2_R _ | exact band_R _ _ | exact bor_R _ _ | exact bshl_R _ _ | exact bshr_R _ _ | exact bxor_R _ _ | exact bs_R (by omega) | decide) ?_
  refine ev_w (fun hR => ?_)
  refine ev_return dX1_setRound_12 ?_
  exact ⟨rfl, rfl⟩
theorem k_boyOf (σ : Mem) (l v : Nat) (hl : l < 4) (hv : v < 4096) (hd : -1 ≤ σ.1 77 1 ∧ σ.1 77 1 < 256) : Con yX1_boyOf cX1_boyOf 3 (some .int) 1 21 [.ref 77, .int (iI l), .int (iI v)] σ (AnsI (if σ.1 77 1 = -1 ∨ ¬ v.testBit l = true then -1 else (bin4 (σ.1 77 1).toNat l : Nat)) σ) := by
  refine con_of (by decide) rfl (Nat.le_of_ble_eq_true rfl) (ok_I rfl) ?_
  refine ev_w (fun hR => ?_)
  have hR0 := hR
  refine ev_aload_n dX1_boyOf_0 rfl ?_
  refine ev_getI (kz := 1) dX1_boyOf_1 fl_X1_15 rfl rfl rfl ?_
  refine ev_iconst dX1_boyOf_4 ?_
  refine ev_icmp_eq (tgt := 16) dX1_boyOf_5 (by decide) (by first | exact hR.1 _ _ | exact hR0.1 _ _ | assumption | exact ⟨by omega, by omega⟩ | exact ⟨by simp [wr_at]; omega, by simp [wr_at]; omega⟩ | exact b2_R _ | exact band_R _ _ | exact bor_R _ _ | exact bshl_R _ _ | exact bshr_R _ _ | exact bxor_R _ _ | exact bs_R (by omega) | decide) (by first | exact hR.1 _ _ | exact hR0.1 _ _ | assumption | exact ⟨by omega, by omega⟩ | exact ⟨by simp [wr_at]; omega, by simp [wr_at]; omega⟩ | exact b2_R _ | exact band_R _ _ | exact bor_R _ _ | exact bshl_R _ _ | exact bshr_R _ _ | exact bxor_R _ _ | exact bs_R (by omega) | decide) (fun h_5 => ?_) (fun h_5 => ?_)
  · refine ev_iconst dX1_boyOf_16 ?_
    refine ev_goto (tgt := 28) dX1_boyOf_17 (by decide) ?_
    refine ev_ireturn dX1_boyOf_28 ?_
    first
      | (have q := b2_ne h_13; exact ⟨by rw [if_neg (by rintro (z | z); omega; exact z q)]; rfl, rfl⟩)
      | (have q := b2_eq (by simpa using h_13); exact ⟨by rw [if_pos (Or.inr q)], rfl⟩)
      | exact ⟨by rw [if_pos (Or.inl h_5)], rfl⟩
  · refine ev_iload_n dX1_boyOf_8 rfl ?_
    refine ev_iload_n dX1_boyOf_9 rfl ?_
    refine ev_callNI dX1_boyOf_10 kn_X1_31 (k_has σ v l (by omega) (by omega)) rfl rfl ⟨by decide, by decide⟩ (Nat.le_of_ble_eq_true rfl) ?_
    refine ev_w (fun hR => ?_)
    refine ev_if_ne (tgt := 20) dX1_boyOf_13 (by decide) (by first | exact hR.1 _ _ | exact hR0.1 _ _ | assumption | exact ⟨by omega, by omega⟩ | exact ⟨by simp [wr_at]; omega, by simp [wr_at]; omega⟩ | exact b2_R _ | exact band_R _ _ | exact bor_R _ _ | exact bshl_R _ _ | exact bshr_R _ _ | exact bxor_R _ _ | exact bs_R (by omega) | decide) (fun h_13 => ?_) (fun h_13 => ?_)
    · refine ev_aload_n dX1_boyOf_20 rfl ?_
      refine ev_getI (kz := 1) dX1_boyOf_21 fl_X1_15 rfl rfl rfl ?_
      obtain ⟨d, hd2⟩ : ∃ d : Nat, σ.1 77 1 = d := ⟨(σ.1 77 1).toNat, by omega⟩
      rw [hd2] at hd ⊢
      refine ev_iload_n dX1_boyOf_24 rfl ?_
      refine ev_callSI dX1_boyOf_25 ks_X1_35 (k_boyIn σ d l (by omega) hl) rfl rfl ⟨by decide, by decide⟩ (Nat.le_of_ble_eq_true rfl) ?_
      refine ev_w (fun hR => ?_)
      refine ev_ireturn dX1_boyOf_28 ?_
      first
        | (have q := b2_ne h_13; exact ⟨by rw [if_neg (by rintro (z | z); omega; exact z q)]; rfl, rfl⟩)
        | (have q := b2_eq (by simpa using h_13); exact ⟨by rw [if_pos (Or.inr q)], rfl⟩)
        | exact ⟨by rw [if_pos (Or.inl h_5)], rfl⟩
    · refine ev_iconst dX1_boyOf_16 ?_
      refine ev_goto (tgt := 28) dX1_boyOf_17 (by decide) ?_
      refine ev_ireturn dX1_boyOf_28 ?_
      first
        | (have q := b2_ne h_13; exact ⟨by rw [if_neg (by rintro (z | z); omega; exact z q)]; rfl, rfl⟩)
        | (have q := b2_eq (by simpa using h_13); exact ⟨by rw [if_pos (Or.inr q)], rfl⟩)
        | exact ⟨by rw [if_pos (Or.inl h_5)], rfl⟩
