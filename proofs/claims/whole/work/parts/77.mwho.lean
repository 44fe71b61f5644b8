theorem m_who (μ σ : Mem) (P n nr nb nl w wt : Nat) (f t : Nat → Nat) (hM : MRp μ σ P n nr nb nl w wt f t) (k : Nat) (hBk : BookOk σ n nb k) (hMB : MBk μ σ k) (p0 m : Int) (hp : inR p0) (hm : inR m) : Con yX8_who cX8_who 5 (some .int) 7 173 [.ref 79, .int (iI p0), .int (iI m)] μ (AnsIP (whoZ n nb (fun b => dst σ P n nr nl w wt f t b 0 1) (fun i => σ.1 (P + 9) i) (fun i => σ.1 66 i) (fun i => σ.1 67 i) (fun i => σ.1 68 i) k p0 m) (fun ν => Same s123 μ ν)) := by
  refine con_of (by decide) rfl (Nat.le_of_ble_eq_true rfl) (ok_IP rfl) ?_
  refine ev_w (fun hR => ?_)
  have hR0 := hR
  obtain ⟨hPO, hMP, hwc⟩ := id hM
  obtain ⟨hPR, ⟨hnb, hnb4⟩, ⟨hnl, hnl4⟩, hpo, hro, hbo, hlo⟩ := id hPO
  obtain ⟨hP, hn, hn8, hnr, hnr12, hft⟩ := id hPR
  obtain ⟨⟨cn, cr, cb, cl⟩, mp, mr, mbo, ml⟩ := id hMP
  obtain ⟨hk, hk20, hbk⟩ := id hBk
  obtain ⟨mk0, mkr⟩ := id hMB
  have loop : ∀ p : Nat, p0 = p → p < n → (0 ≤ m ∧ m ≤ 9999) → ∀ i : Nat, i ≤ nb → ∀ ν, Same s123 μ ν → Ev RX8 cX8_who 5 7 173 (AnsIP (whoZ n nb (fun b => dst σ P n nr nl w wt f t b 0 1) (fun i => σ.1 (P + 9) i) (fun i => σ.1 66 i) (fun i => σ.1 67 i) (fun i => σ.1 68 i) k p0 m) (fun ν => Same s123 μ ν)) 32 [some (.ref 79), some (.int (iI p0)), some (.int (iI m)), some (.int (iI (bs (fun b => dC (couldZ (dst σ P n nr nl w wt f t b 0 1) (fun i => σ.1 (P + 9) i) (fun i => σ.1 66 i) (fun i => σ.1 67 i) (fun i => σ.1 68 i) k b p m)) i : Nat))), some (.int (iI (i : Nat)))] [] ν := by
    intro p hp0 hpn hm9
    subst hp0
    refine for_up nb (fun i hi ih => ?_)
    intro ν hS
    refine ev_w (fun hR => ?_)
    have hrp := hM.rch hS
    have hcb : ν.1 79 9 = nb := hrp.2.1.1.2.2.1
    refine ev_iload dX8_who_32 rfl ?_
    refine ev_aload_n dX8_who_34 rfl ?_
    refine ev_getI (kz := 9) dX8_who_35 fl_X8_187 rfl rfl rfl ?_
    rw [hcb]
    refine ev_icmp_ge (tgt := 69) dX8_who_38 (by decide) (by first | exact hR.1 _ _ | exact hR0.1 _ _ | assumption | exact ⟨by omega, by omega⟩ | exact ⟨by simp [wr_at]; omega, by simp [wr_at]; omega⟩ | exact b2_R _ | exact bC_R _ | exact band_R _ _ | exact bor_R _ _ | exact bshl_R _ _ | exact bshr_R _ _ | exact bxor_R _ _ | exact bs_R (by omega) | decide) (by first | exact hR.1 _ _ | exact hR0.1 _ _ | assumption | exact ⟨by omega, by omega⟩ | exact ⟨by simp [wr_at]; omega, by simp [wr_at]; omega⟩ | exact b2_R _ | exact bC_R _ | exact band_R _ _ | exact bor_R _ _ | exact bshl_R _ _ | exact bshr_R _ _ | exact bxor_R _ _ | exact bs_R (by omega) | decide) (fun h_38 => ?_) (fun h_38 => ?_)
    · refine ev_iload_n dX8_who_69 rfl ?_
      refine ev_ireturn dX8_who_70 ?_
      obtain rfl : i = nb := by omega
      unfold whoZ
      rw [if_neg (fun z => z ⟨by omega, by omega⟩), if_neg (fun z => z hm9)]
      exact ⟨rfl, hS⟩
    · refine ev_iload_n dX8_who_41 rfl ?_
      refine ev_aload_n dX8_who_42 rfl ?_
      refine ev_iload dX8_who_43 rfl ?_
      refine ev_iload_n dX8_who_45 rfl ?_
      refine ev_iload_n dX8_who_46 rfl ?_
      refine ev_callVP dX8_who_47 kv_X8_460 (m_couldBe ν σ P n nr nb nl w wt f t hrp k hBk (hMB.rch hS) i p m (by omega) hpn hm9.1 hm9.2) rfl rfl (ci := 8) rfl rfl ⟨by decide, by decide⟩ (Nat.le_of_ble_eq_true rfl) ?_
      rintro v_47 τ_47 ⟨rfl, hq_47⟩
      refine ev_w (fun hR => ?_)
      refine ev_if_eq (tgt := 60) dX8_who_50 (by decide) (by first | exact hR.1 _ _ | exact hR0.1 _ _ | assumption | exact ⟨by omega, by omega⟩ | exact ⟨by simp [wr_at]; omega, by simp [wr_at]; omega⟩ | exact b2_R _ | exact bC_R _ | exact band_R _ _ | exact bor_R _ _ | exact bshl_R _ _ | exact bshr_R _ _ | exact bxor_R _ _ | exact bs_R (by omega) | decide) (fun h_50 => ?_) (fun h_50 => ?_)
      · refine ev_iconst dX8_who_60 ?_
        refine ev_ior dX8_who_61 ?_
        refine ev_istore_n dX8_who_62 rfl (by decide) rfl ?_
        refine ev_iinc dX8_who_63 rfl rfl (by decide) rfl ?_
        refine ev_goto (tgt := 32) dX8_who_66 (by decide) ?_
        first
          | (have q := bC_ne h_50
             rw [bs_ort (p := (fun b => dC (couldZ (dst σ P n nr nl w wt f t b 0 1) (fun i => σ.1 (P + 9) i) (fun i => σ.1 66 i) (fun i => σ.1 67 i) (fun i => σ.1 68 i) k b p m))) (n := i) (by omega) (dC_t q)]
             exact ih (by omega) _ (hS.tr hq_47))
          | (have q := bC_eq h_50
             rw [bs_or0 (p := (fun b => dC (couldZ (dst σ P n nr nl w wt f t b 0 1) (fun i => σ.1 (P + 9) i) (fun i => σ.1 66 i) (fun i => σ.1 67 i) (fun i => σ.1 68 i) k b p m))) (n := i) (by omega) (dC_f q)]
             exact ih (by omega) _ (hS.tr hq_47))
      · refine ev_iconst dX8_who_53 ?_
        refine ev_iload dX8_who_54 rfl ?_
        refine ev_ishl dX8_who_56 ?_
        refine ev_goto (tgt := 61) dX8_who_57 (by decide) ?_
        refine ev_ior dX8_who_61 ?_
        refine ev_istore_n dX8_who_62 rfl (by decide) rfl ?_
        refine ev_iinc dX8_who_63 rfl rfl (by decide) rfl ?_
        refine ev_goto (tgt := 32) dX8_who_66 (by decide) ?_
        first
          | (have q := bC_ne h_50
             rw [bs_ort (p := (fun b => dC (couldZ (dst σ P n nr nl w wt f t b 0 1) (fun i => σ.1 (P + 9) i) (fun i => σ.1 66 i) (fun i => σ.1 67 i) (fun i => σ.1 68 i) k b p m))) (n := i) (by omega) (dC_t q)]
             exact ih (by omega) _ (hS.tr hq_47))
          | (have q := bC_eq h_50
             rw [bs_or0 (p := (fun b => dC (couldZ (dst σ P n nr nl w wt f t b 0 1) (fun i => σ.1 (P + 9) i) (fun i => σ.1 66 i) (fun i => σ.1 67 i) (fun i => σ.1 68 i) k b p m))) (n := i) (by omega) (dC_f q)]
             exact ih (by omega) _ (hS.tr hq_47))
  refine ev_aload_n dX8_who_0 rfl ?_
  refine ev_iload_n dX8_who_1 rfl ?_
  refine ev_callVI dX8_who_2 kv_X8_312 (m_isPole μ p0 n (by assumption) cn (by omega)) rfl rfl (ci := 8) rfl rfl ⟨by decide, by decide⟩ (Nat.le_of_ble_eq_true rfl) ?_
  refine ev_w (fun hR => ?_)
  refine ev_if_ne (tgt := 12) dX8_who_5 (by decide) (by first | exact hR.1 _ _ | exact hR0.1 _ _ | assumption | exact ⟨by omega, by omega⟩ | exact ⟨by simp [wr_at]; omega, by simp [wr_at]; omega⟩ | exact b2_R _ | exact bC_R _ | exact band_R _ _ | exact bor_R _ _ | exact bshl_R _ _ | exact bshr_R _ _ | exact bxor_R _ _ | exact bs_R (by omega) | decide) (fun h_5 => ?_) (fun h_5 => ?_)
  · have q0 := b2_ne h_5
    obtain ⟨p, rfl⟩ := Int.eq_ofNat_of_zero_le q0.1
    refine ev_iload_n dX8_who_12 rfl ?_
    refine ev_i2l dX8_who_13 hm ?_
    refine ev_lconst (z := 0) dX8_who_14 (by decide) ?_
    refine ev_ldc2 (z := 9999) dX8_who_15 kl_X8_454 (by decide) ?_
    refine ev_callSI dX8_who_18 ks_X8_180 (m_in μ m 0 9999 ⟨by omega, by omega⟩ (by decide) (by decide)) rfl rfl ⟨by decide, by decide⟩ (Nat.le_of_ble_eq_true rfl) ?_
    refine ev_w (fun hR => ?_)
    refine ev_if_ne (tgt := 27) dX8_who_21 (by decide) (by first | exact hR.1 _ _ | exact hR0.1 _ _ | assumption | exact ⟨by omega, by omega⟩ | exact ⟨by simp [wr_at]; omega, by simp [wr_at]; omega⟩ | exact b2_R _ | exact bC_R _ | exact band_R _ _ | exact bor_R _ _ | exact bshl_R _ _ | exact bshr_R _ _ | exact bxor_R _ _ | exact bs_R (by omega) | decide) (fun h_21 => ?_) (fun h_21 => ?_)
    · refine ev_iconst dX8_who_27 ?_
      refine ev_istore_n dX8_who_28 rfl (by decide) rfl ?_
      refine ev_iconst dX8_who_29 ?_
      refine ev_istore dX8_who_30 rfl (by decide) rfl ?_
      exact loop p rfl (by omega) (b2_ne h_21) 0 (by omega) μ Same.rf
    · refine ev_ldc (z := -1000000002) dX8_who_24 kc_X8_204 (by decide) ?_
      refine ev_ireturn dX8_who_26 ?_
      rw [whoZ, if_neg (fun z => z q0), if_pos (b2_eq (by omega : b2 (0 ≤ m ∧ m ≤ 9999) = 0))]
      exact ⟨rfl, Same.rf⟩
  · refine ev_ldcw (z := -1000000001) dX8_who_8 kc_X8_316 (by decide) ?_
    refine ev_ireturn dX8_who_11 ?_
    rw [whoZ, if_pos (b2_eq (by omega : b2 (0 ≤ p0 ∧ p0 < (n : Int)) = 0))]
    exact ⟨rfl, Same.rf⟩
theorem lstI_cg {f g : Nat → Int} {r : Int} {n : Nat} (h : ∀ i, i < n → f i = g i) : lstI f r n = lstI g r n := by
  induction n with
  | zero => rfl
  | succ n ih =>
    rw [show lstI f r (n + 1) = (if f n = r then (n : Int) else lstI f r n) from rfl, show lstI g r (n + 1) = (if g n = r then (n : Int) else lstI g r n) from rfl, ih (fun i hi => h i (by omega)), h n (by omega)]
set_option maxHeartbeats 4000000 in
theorem m_judge (μ σ : Mem) (P n nr nb nl w wt : Nat) (f t : Nat → Nat) (hM : MRp μ σ P n nr nb nl w wt f t) (k : Nat) (hBk : BookOk σ n nb k) (hMB : MBk μ σ k)  : Con yX8_judge cX8_judge 5 (some .int) 6 147 [.ref 79] μ (AnsIP (fstP (fun i => wrongZ (fun b => dst σ P n nr nl w wt f t b 0 1) (fun i => σ.1 (P + 9) i) (fun i => σ.1 66 i) (fun i => σ.1 67 i) (fun i => σ.1 68 i) i) k) (fun ν => Same s123 μ ν)) := by
  refine con_of (by decide) rfl (Nat.le_of_ble_eq_true rfl) (ok_IP rfl) ?_
  refine ev_w (fun hR => ?_)
  have hR0 := hR
  obtain ⟨hPO, hMP, hwc⟩ := id hM
  obtain ⟨hPR, ⟨hnb, hnb4⟩, ⟨hnl, hnl4⟩, hpo, hro, hbo, hlo⟩ := id hPO
  obtain ⟨hP, hn, hn8, hnr, hnr12, hft⟩ := id hPR
  obtain ⟨⟨cn, cr, cb, cl⟩, mp, mr, mbo, ml⟩ := id hMP
  obtain ⟨hk, hk20, hbk⟩ := id hBk
  obtain ⟨mk0, mkr⟩ := id hMB
  have loop : ∀ i : Nat, i ≤ k → (∀ j, j < i → ¬ (fun i => wrongZ (fun b => dst σ P n nr nl w wt f t b 0 1) (fun i => σ.1 (P + 9) i) (fun i => σ.1 66 i) (fun i => σ.1 67 i) (fun i => σ.1 68 i) i) j) → ∀ ν, Same s123 μ ν → ∀ x2 x3 x4, Ev RX8 cX8_judge 5 6 147 (AnsIP (fstP (fun i => wrongZ (fun b => dst σ P n nr nl w wt f t b 0 1) (fun i => σ.1 (P + 9) i) (fun i => σ.1 66 i) (fun i => σ.1 67 i) (fun i => σ.1 68 i) i) k) (fun ν => Same s123 μ ν)) 2 [some (.ref 79), some (.int (iI (i : Nat))), x2, x3, x4] [] ν := by
    refine for_up k (fun i hi ih => ?_)
    intro hno ν hS x2 x3 x4
    refine ev_w (fun hR => ?_)
    have hrp := hM.rch hS
    obtain ⟨nk0, nkr⟩ := hMB.rch hS
    obtain ⟨⟨_, _, ncb, _⟩, _, _, nbo, _⟩ := hrp.2.1
    refine ev_iload_n dX8_judge_2 rfl ?_
    refine ev_aload_n dX8_judge_3 rfl ?_
    refine ev_getI (kz := 68) dX8_judge_4 fl_X8_300 rfl rfl rfl ?_
    rw [nk0]
    refine ev_icmp_ge (tgt := 128) dX8_judge_7 (by decide) (by first | exact hR.1 _ _ | exact hR0.1 _ _ | assumption | exact ⟨by omega, by omega⟩ | exact ⟨by simp [wr_at]; omega, by simp [wr_at]; omega⟩ | exact b2_R _ | exact bC_R _ | exact band_R _ _ | exact bor_R _ _ | exact bshl_R _ _ | exact bshr_R _ _ | exact bxor_R _ _ | exact bs_R (by omega) | decide) (by first | exact hR.1 _ _ | exact hR0.1 _ _ | assumption | exact ⟨by omega, by omega⟩ | exact ⟨by simp [wr_at]; omega, by simp [wr_at]; omega⟩ | exact b2_R _ | exact bC_R _ | exact band_R _ _ | exact bor_R _ _ | exact bshl_R _ _ | exact bshr_R _ _ | exact bxor_R _ _ | exact bs_R (by omega) | decide) (fun h_7 => ?_) (fun h_7 => ?_)
    · refine ev_iconst dX8_judge_128 ?_
      refine ev_ireturn dX8_judge_129 ?_
      obtain rfl : i = k := by omega
      rw [fstP_none hno]
      exact ⟨rfl, hS⟩
    · have hin : i < k := by omega
      have hbi := hbk i hin
      have emi := nkr i hin
      obtain ⟨B9, hB9⟩ := Int.eq_ofNat_of_zero_le hbi.1.1
      have hBn : B9 < nb := by omega
      obtain ⟨P9, hP9⟩ := Int.eq_ofNat_of_zero_le hbi.2.1.1
      have hPn : P9 < n := by omega
      have mid : ∀ j : Nat, j ≤ i → Ev RX8 cX8_judge 5 6 147 (AnsIP (fstP (fun i => wrongZ (fun b => dst σ P n nr nl w wt f t b 0 1) (fun i => σ.1 (P + 9) i) (fun i => σ.1 66 i) (fun i => σ.1 67 i) (fun i => σ.1 68 i) i) k) (fun ν => Same s123 μ ν)) 22 [some (.ref 79), some (.int (iI (i : Nat))), some (.int (iI B9)), some (.int (iI (lstI (fun k => σ.1 66 k) (B9 : Int) j))), some (.int (iI (j : Nat)))] [] ν := by
        refine for_up i (fun j hj ihj => ?_)
        refine ev_w (fun hR => ?_)
        refine ev_iload dX8_judge_22 rfl ?_
        refine ev_iload_n dX8_judge_24 rfl ?_
        refine ev_icmp_ge (tgt := 52) dX8_judge_25 (by decide) (by first | exact hR.1 _ _ | exact hR0.1 _ _ | assumption | exact ⟨by omega, by omega⟩ | exact ⟨by simp [wr_at]; omega, by simp [wr_at]; omega⟩ | exact b2_R _ | exact bC_R _ | exact band_R _ _ | exact bor_R _ _ | exact bshl_R _ _ | exact bshr_R _ _ | exact bxor_R _ _ | exact bs_R (by omega) | decide) (by first | exact hR.1 _ _ | exact hR0.1 _ _ | assumption | exact ⟨by omega, by omega⟩ | exact ⟨by simp [wr_at]; omega, by simp [wr_at]; omega⟩ | exact b2_R _ | exact bC_R _ | exact band_R _ _ | exact bor_R _ _ | exact bshl_R _ _ | exact bshr_R _ _ | exact bxor_R _ _ | exact bs_R (by omega) | decide) (fun h_25 => ?_) (fun h_25 => ?_)
        · obtain rfl : j = i := by omega
          have hlR := lstI_R (fun k => σ.1 66 k) (B9 : Int) j
          have hhm := (hbo B9 hBn).1
          have e87 : ν.1 87 (B9 : Int) = σ.1 (P + 9) B9 := (nbo B9 hBn).1
          have hwz : (fun i => wrongZ (fun b => dst σ P n nr nl w wt f t b 0 1) (fun i => σ.1 (P + 9) i) (fun i => σ.1 66 i) (fun i => σ.1 67 i) (fun i => σ.1 68 i) i) j ↔ σ.1 68 j - snc (fun i => σ.1 68 i) (lstI (fun k => σ.1 66 k) (B9 : Int) j) < dst σ P n nr nl w wt f t B9 0 1 (frm (fun i => σ.1 (P + 9) i) (fun i => σ.1 67 i) B9 (lstI (fun k => σ.1 66 k) (B9 : Int) j)) P9 := by
            show wrongZ _ _ _ _ _ j ↔ _
            unfold wrongZ
            dsimp only
            rw [hB9, hP9]
            exact Iff.rfl
          generalize hla : lstI (fun k => σ.1 66 k) (B9 : Int) j = la at *
          have hF : ∃ F : Nat, F < n ∧ F = frm (fun i => σ.1 (P + 9) i) (fun i => σ.1 67 i) B9 la ∧ (la = -1 → ν.1 87 (B9 : Int) = F) ∧ (la ≠ -1 → ν.1 130 la = F) := by
            by_cases e : la = -1
            · exact ⟨(σ.1 (P + 9) B9).toNat, by omega, by unfold frm; rw [if_pos e], fun _ => by omega, fun z => absurd e z⟩
            · obtain ⟨l9, rfl⟩ := Int.eq_ofNat_of_zero_le (show 0 ≤ la by omega)
              have q := (hbk l9 (by omega)).2.1
              have q2 := (nkr l9 (by omega)).2.1
              refine ⟨(σ.1 67 l9).toNat, by omega, ?_, fun z => absurd z e, fun _ => by rw [q2]; omega⟩
              unfold frm
              rw [if_neg e]
              rfl
          obtain ⟨F, hFn, hFe, hF1, hF2⟩ := hF
          have hsn : (la = -1 → snc (fun i => σ.1 68 i) la = 0) ∧ (la ≠ -1 → ν.1 131 la = snc (fun i => σ.1 68 i) la) ∧ 0 ≤ snc (fun i => σ.1 68 i) la ∧ snc (fun i => σ.1 68 i) la ≤ 9999 := by
            unfold snc
            by_cases e : la = -1
            · rw [if_pos e]; exact ⟨fun _ => rfl, fun z => absurd e z, by decide, by decide⟩
            · rw [if_neg e]
              obtain ⟨l9, rfl⟩ := Int.eq_ofNat_of_zero_le (show 0 ≤ la by omega)
              have q := (hbk l9 (by omega)).2.2
              have q2 := (nkr l9 (by omega)).2.2
              exact ⟨fun z => absurd z e, fun _ => q2, q.1, q.2⟩
          rw [← hFe] at hwz
          have hD0 := ((dst_dist (w := w) (wt := wt) (s := 0) (dry := 1) hPO hBn).1 F P9 hFn hPn).1
          generalize hS9 : snc (fun i => σ.1 68 i) la = S9 at *
          have hTj : ν.1 131 (j : Int) = σ.1 68 j := emi.2.2
          refine ev_iload_n dX8_judge_52 rfl ?_
          refine ev_if_ge (tgt := 65) dX8_judge_53 (by decide) (by first | exact hR.1 _ _ | exact hR0.1 _ _ | assumption | exact ⟨by omega, by omega⟩ | exact ⟨by simp [wr_at]; omega, by simp [wr_at]; omega⟩ | exact b2_R _ | exact bC_R _ | exact band_R _ _ | exact bor_R _ _ | exact bshl_R _ _ | exact bshr_R _ _ | exact bxor_R _ _ | exact bs_R (by omega) | decide) (fun h_53 => ?_) (fun h_53 => ?_)
          · refine ev_aload_n dX8_judge_65 rfl ?_
            refine ev_getR (r := 131) dX8_judge_66 fl_X8_168 rfl rfl rfl ?_
            refine ev_iload_n dX8_judge_69 rfl ?_
            refine ev_iaload dX8_judge_70 rfl (by first | omega | (simp [wr_at]; omega) | (simp [wr_at, *]; omega)) (by first | omega | (simp [wr_at]; omega) | (simp [wr_at, *]; omega)) (by decide) ?_
            rw [hTj]
            refine ev_aload_n dX8_judge_71 rfl ?_
            refine ev_getR (r := 131) dX8_judge_72 fl_X8_168 rfl rfl rfl ?_
            refine ev_iload_n dX8_judge_75 rfl ?_
            refine ev_iaload dX8_judge_76 rfl (by first | omega | (simp [wr_at]; omega) | (simp [wr_at, *]; omega)) (by first | omega | (simp [wr_at]; omega) | (simp [wr_at, *]; omega)) (by decide) ?_
            rw [hsn.2.1 (by omega)]
            refine ev_isub dX8_judge_77 ?_
            refine ev_istore dX8_judge_78 rfl (by decide) rfl ?_
            refine ev_iload dX8_judge_80 rfl ?_
            refine ev_if_lt (tgt := 120) dX8_judge_82 (by decide) (by first | exact hR.1 _ _ | exact hR0.1 _ _ | assumption | exact ⟨by omega, by omega⟩ | exact ⟨by simp [wr_at]; omega, by simp [wr_at]; omega⟩ | exact b2_R _ | exact bC_R _ | exact band_R _ _ | exact bor_R _ _ | exact bshl_R _ _ | exact bshr_R _ _ | exact bxor_R _ _ | exact bs_R (by omega) | decide) (fun h_82 => ?_) (fun h_82 => ?_)
            · refine ev_iload_n dX8_judge_120 rfl ?_
              refine ev_ireturn dX8_judge_121 ?_
              first
                | (exfalso; omega)
                | (refine ⟨?_, hS⟩
                   rw [fstP_at (p := (fun i => wrongZ (fun b => dst σ P n nr nl w wt f t b 0 1) (fun i => σ.1 (P + 9) i) (fun i => σ.1 66 i) (fun i => σ.1 67 i) (fun i => σ.1 68 i) i)) (i := j) hin hno (hwz.mpr (by first | omega | (have y := b2_eq (Decidable.not_not.mp h_117); omega) | (have y := b2_eq h_117; omega)))])
                | (refine ⟨?_, hS.tr hq_114⟩
                   rw [fstP_at (p := (fun i => wrongZ (fun b => dst σ P n nr nl w wt f t b 0 1) (fun i => σ.1 (P + 9) i) (fun i => σ.1 66 i) (fun i => σ.1 67 i) (fun i => σ.1 68 i) i)) (i := j) hin hno (hwz.mpr (by first | omega | (have y := b2_eq (Decidable.not_not.mp h_117); omega) | (have y := b2_eq h_117; omega)))])
            · refine ev_aload_n dX8_judge_85 rfl ?_
              refine ev_iload_n dX8_judge_86 rfl ?_
              refine ev_iload_n dX8_judge_87 rfl ?_
              refine ev_if_ge (tgt := 100) dX8_judge_88 (by decide) (by first | exact hR.1 _ _ | exact hR0.1 _ _ | assumption | exact ⟨by omega, by omega⟩ | exact ⟨by simp [wr_at]; omega, by simp [wr_at]; omega⟩ | exact b2_R _ | exact bC_R _ | exact band_R _ _ | exact bor_R _ _ | exact bshl_R _ _ | exact bshr_R _ _ | exact bxor_R _ _ | exact bs_R (by omega) | decide) (fun h_88 => ?_) (fun h_88 => ?_)
              · refine ev_aload_n dX8_judge_100 rfl ?_
                refine ev_getR (r := 130) dX8_judge_101 fl_X8_165 rfl rfl rfl ?_
                refine ev_iload_n dX8_judge_104 rfl ?_
                refine ev_iaload dX8_judge_105 rfl (by first | omega | (simp [wr_at]; omega) | (simp [wr_at, *]; omega)) (by first | omega | (simp [wr_at]; omega) | (simp [wr_at, *]; omega)) (by decide) ?_
                first
                  | rw [hF1 (by omega)]
                  | rw [hF2 (by omega)]
                refine ev_aload_n dX8_judge_106 rfl ?_
                refine ev_getR (r := 130) dX8_judge_107 fl_X8_165 rfl rfl rfl ?_
                refine ev_iload_n dX8_judge_110 rfl ?_
                refine ev_iaload dX8_judge_111 rfl (by first | omega | (simp [wr_at]; omega) | (simp [wr_at, *]; omega)) (by first | omega | (simp [wr_at]; omega) | (simp [wr_at, *]; omega)) (by decide) ?_
                rw [emi.2.1, hP9]
                refine ev_iload dX8_judge_112 rfl ?_
                refine ev_callVP dX8_judge_114 kv_X8_456 (m_canCome ν σ P n nr nb nl w wt f t hrp B9 F P9 hBn hFn hPn _ (by omega)) rfl rfl (ci := 8) rfl rfl ⟨by decide, by decide⟩ (Nat.le_of_ble_eq_true rfl) ?_
                rintro v_114 τ_114 ⟨rfl, hq_114⟩
                refine ev_w (fun hR => ?_)
                refine ev_if_ne (tgt := 122) dX8_judge_117 (by decide) (by first | exact hR.1 _ _ | exact hR0.1 _ _ | assumption | exact ⟨by omega, by omega⟩ | exact ⟨by simp [wr_at]; omega, by simp [wr_at]; omega⟩ | exact b2_R _ | exact bC_R _ | exact band_R _ _ | exact bor_R _ _ | exact bshl_R _ _ | exact bshr_R _ _ | exact bxor_R _ _ | exact bs_R (by omega) | decide) (fun h_117 => ?_) (fun h_117 => ?_)
                · refine ev_iinc dX8_judge_122 rfl rfl (by decide) rfl ?_
                  refine ev_goto (tgt := 2) dX8_judge_125 (by decide) ?_
                  first
                    | (exfalso; omega)
                    | (have y := b2_ne h_117
                       refine ih (by omega) (fun i9 hi9 => ?_) _ (hS.tr hq_114) _ _ _
                       by_cases e : i9 = j
                       · subst e
                         intro z
                         have z2 := hwz.mp z
                         omega
                       · exact hno i9 (by omega))
                · refine ev_iload_n dX8_judge_120 rfl ?_
                  refine ev_ireturn dX8_judge_121 ?_
                  first
                    | (exfalso; omega)
                    | (refine ⟨?_, hS⟩
                       rw [fstP_at (p := (fun i => wrongZ (fun b => dst σ P n nr nl w wt f t b 0 1) (fun i => σ.1 (P + 9) i) (fun i => σ.1 66 i) (fun i => σ.1 67 i) (fun i => σ.1 68 i) i)) (i := j) hin hno (hwz.mpr (by first | omega | (have y := b2_eq (Decidable.not_not.mp h_117); omega) | (have y := b2_eq h_117; omega)))])
                    | (refine ⟨?_, hS.tr hq_114⟩
                       rw [fstP_at (p := (fun i => wrongZ (fun b => dst σ P n nr nl w wt f t b 0 1) (fun i => σ.1 (P + 9) i) (fun i => σ.1 66 i) (fun i => σ.1 67 i) (fun i => σ.1 68 i) i)) (i := j) hin hno (hwz.mpr (by first | omega | (have y := b2_eq (Decidable.not_not.mp h_117); omega) | (have y := b2_eq h_117; omega)))])
              · refine ev_aload_n dX8_judge_91 rfl ?_
                refine ev_getR (r := 87) dX8_judge_92 fl_X8_31 rfl rfl rfl ?_
                refine ev_iload_n dX8_judge_95 rfl ?_
                refine ev_iaload dX8_judge_96 rfl (by first | omega | (simp [wr_at]; omega) | (simp [wr_at, *]; omega)) (by first | omega | (simp [wr_at]; omega) | (simp [wr_at, *]; omega)) (by decide) ?_
                refine ev_goto (tgt := 106) dX8_judge_97 (by decide) ?_
                first
                  | rw [hF1 (by omega)]
                  | rw [hF2 (by omega)]
                refine ev_aload_n dX8_judge_106 rfl ?_
                refine ev_getR (r := 130) dX8_judge_107 fl_X8_165 rfl rfl rfl ?_
                refine ev_iload_n dX8_judge_110 rfl ?_
                refine ev_iaload dX8_judge_111 rfl (by first | omega | (simp [wr_at]; omega) | (simp [wr_at, *]; omega)) (by first | omega | (simp [wr_at]; omega) | (simp [wr_at, *]; omega)) (by decide) ?_
                rw [emi.2.1, hP9]
                refine ev_iload dX8_judge_112 rfl ?_
                refine ev_callVP dX8_judge_114 kv_X8_456 (m_canCome ν σ P n nr nb nl w wt f t hrp B9 F P9 hBn hFn hPn _ (by omega)) rfl rfl (ci := 8) rfl rfl ⟨by decide, by decide⟩ (Nat.le_of_ble_eq_true rfl) ?_
                rintro v_114 τ_114 ⟨rfl, hq_114⟩
                refine ev_w (fun hR => ?_)
                refine ev_if_ne (tgt := 122) dX8_judge_117 (by decide) (by first | exact hR.1 _ _ | exact hR0.1 _ _ | assumption | exact ⟨by omega, by omega⟩ | exact ⟨by simp [wr_at]; omega, by simp [wr_at]; omega⟩ | exact b2_R _ | exact bC_R _ | exact band_R _ _ | exact bor_R _ _ | exact bshl_R _ _ | exact bshr_R _ _ | exact bxor_R _ _ | exact bs_R (by omega) | decide) (fun h_117 => ?_) (fun h_117 => ?_)
                · refine ev_iinc dX8_judge_122 rfl rfl (by decide) rfl ?_
                  refine ev_goto (tgt := 2) dX8_judge_125 (by decide) ?_
                  first
                    | (exfalso; omega)
                    | (have y := b2_ne h_117
                       refine ih (by omega) (fun i9 hi9 => ?_) _ (hS.tr hq_114) _ _ _
                       by_cases e : i9 = j
                       · subst e
                         intro z
                         have z2 := hwz.mp z
                         omega
                       · exact hno i9 (by omega))
                · refine ev_iload_n dX8_judge_120 rfl ?_
                  refine ev_ireturn dX8_judge_121 ?_
                  first
                    | (exfalso; omega)
                    | (refine ⟨?_, hS⟩
                       rw [fstP_at (p := (fun i => wrongZ (fun b => dst σ P n nr nl w wt f t b 0 1) (fun i => σ.1 (P + 9) i) (fun i => σ.1 66 i) (fun i => σ.1 67 i) (fun i => σ.1 68 i) i)) (i := j) hin hno (hwz.mpr (by first | omega | (have y := b2_eq (Decidable.not_not.mp h_117); omega) | (have y := b2_eq h_117; omega)))])
                    | (refine ⟨?_, hS.tr hq_114⟩
                       rw [fstP_at (p := (fun i => wrongZ (fun b => dst σ P n nr nl w wt f t b 0 1) (fun i => σ.1 (P + 9) i) (fun i => σ.1 66 i) (fun i => σ.1 67 i) (fun i => σ.1 68 i) i)) (i := j) hin hno (hwz.mpr (by first | omega | (have y := b2_eq (Decidable.not_not.mp h_117); omega) | (have y := b2_eq h_117; omega)))])
          · refine ev_aload_n dX8_judge_56 rfl ?_
            refine ev_getR (r := 131) dX8_judge_57 fl_X8_168 rfl rfl rfl ?_
            refine ev_iload_n dX8_judge_60 rfl ?_
            refine ev_iaload dX8_judge_61 rfl (by first | omega | (simp [wr_at]; omega) | (simp [wr_at, *]; omega)) (by first | omega | (simp [wr_at]; omega) | (simp [wr_at, *]; omega)) (by decide) ?_
            rw [hTj]
            refine ev_goto (tgt := 78) dX8_judge_62 (by decide) ?_
            refine ev_istore dX8_judge_78 rfl (by decide) rfl ?_
            refine ev_iload dX8_judge_80 rfl ?_
            refine ev_if_lt (tgt := 120) dX8_judge_82 (by decide) (by first | exact hR.1 _ _ | exact hR0.1 _ _ | assumption | exact ⟨by omega, by omega⟩ | exact ⟨by simp [wr_at]; omega, by simp [wr_at]; omega⟩ | exact b2_R _ | exact bC_R _ | exact band_R _ _ | exact bor_R _ _ | exact bshl_R _ _ | exact bshr_R _ _ | exact bxor_R _ _ | exact bs_R (by omega) | decide) (fun h_82 => ?_) (fun h_82 => ?_)
            · refine ev_iload_n dX8_judge_120 rfl ?_
              refine ev_ireturn dX8_judge_121 ?_
              first
                | (exfalso; omega)
                | (refine ⟨?_, hS⟩
                   rw [fstP_at (p := (fun i => wrongZ (fun b => dst σ P n nr nl w wt f t b 0 1) (fun i => σ.1 (P + 9) i) (fun i => σ.1 66 i) (fun i => σ.1 67 i) (fun i => σ.1 68 i) i)) (i := j) hin hno (hwz.mpr (by first | omega | (have y := b2_eq (Decidable.not_not.mp h_117); omega) | (have y := b2_eq h_117; omega)))])
                | (refine ⟨?_, hS.tr hq_114⟩
                   rw [fstP_at (p := (fun i => wrongZ (fun b => dst σ P n nr nl w wt f t b 0 1) (fun i => σ.1 (P + 9) i) (fun i => σ.1 66 i) (fun i => σ.1 67 i) (fun i => σ.1 68 i) i)) (i := j) hin hno (hwz.mpr (by first | omega | (have y := b2_eq (Decidable.not_not.mp h_117); omega) | (have y := b2_eq h_117; omega)))])
            · refine ev_aload_n dX8_judge_85 rfl ?_
              refine ev_iload_n dX8_judge_86 rfl ?_
              refine ev_iload_n dX8_judge_87 rfl ?_
              refine ev_if_ge (tgt := 100) dX8_judge_88 (by decide) (by first | exact hR.1 _ _ | exact hR0.1 _ _ | assumption | exact ⟨by omega, by omega⟩ | exact ⟨by simp [wr_at]; omega, by simp [wr_at]; omega⟩ | exact b2_R _ | exact bC_R _ | exact band_R _ _ | exact bor_R _ _ | exact bshl_R _ _ | exact bshr_R _ _ | exact bxor_R _ _ | exact bs_R (by omega) | decide) (fun h_88 => ?_) (fun h_88 => ?_)
              · refine ev_aload_n dX8_judge_100 rfl ?_
                refine ev_getR (r := 130) dX8_judge_101 fl_X8_165 rfl rfl rfl ?_
                refine ev_iload_n dX8_judge_104 rfl ?_
                refine ev_iaload dX8_judge_105 rfl (by first | omega | (simp [wr_at]; omega) | (simp [wr_at, *]; omega)) (by first | omega | (simp [wr_at]; omega) | (simp [wr_at, *]; omega)) (by decide) ?_
                first
                  | rw [hF1 (by omega)]
                  | rw [hF2 (by omega)]
                refine ev_aload_n dX8_judge_106 rfl ?_
                refine ev_getR (r := 130) dX8_judge_107 fl_X8_165 rfl rfl rfl ?_
                refine ev_iload_n dX8_judge_110 rfl ?_
                refine ev_iaload dX8_judge_111 rfl (by first | omega | (simp [wr_at]; omega) | (simp [wr_at, *]; omega)) (by first | omega | (simp [wr_at]; omega) | (simp [wr_at, *]; omega)) (by decide) ?_
                rw [emi.2.1, hP9]
                refine ev_iload dX8_judge_112 rfl ?_
                refine ev_callVP dX8_judge_114 kv_X8_456 (m_canCome ν σ P n nr nb nl w wt f t hrp B9 F P9 hBn hFn hPn _ (by omega)) rfl rfl (ci := 8) rfl rfl ⟨by decide, by decide⟩ (Nat.le_of_ble_eq_true rfl) ?_
                rintro v_114 τ_114 ⟨rfl, hq_114⟩
                refine ev_w (fun hR => ?_)
                refine ev_if_ne (tgt := 122) dX8_judge_117 (by decide) (by first | exact hR.1 _ _ | exact hR0.1 _ _ | assumption | exact ⟨by omega, by omega⟩ | exact ⟨by simp [wr_at]; omega, by simp [wr_at]; omega⟩ | exact b2_R _ | exact bC_R _ | exact band_R _ _ | exact bor_R _ _ | exact bshl_R _ _ | exact bshr_R _ _ | exact bxor_R _ _ | exact bs_R (by omega) | decide) (fun h_117 => ?_) (fun h_117 => ?_)
                · refine ev_iinc dX8_judge_122 rfl rfl (by decide) rfl ?_
                  refine ev_goto (tgt := 2) dX8_judge_125 (by decide) ?_
                  first
                    | (exfalso; omega)
                    | (have y := b2_ne h_117
                       refine ih (by omega) (fun i9 hi9 => ?_) _ (hS.tr hq_114) _ _ _
                       by_cases e : i9 = j
                       · subst e
                         intro z
                         have z2 := hwz.mp z
                         omega
                       · exact hno i9 (by omega))
                · refine ev_iload_n dX8_judge_120 rfl ?_
                  refine ev_ireturn dX8_judge_121 ?_
                  first
                    | (exfalso; omega)
                    | (refine ⟨?_, hS⟩
                       rw [fstP_at (p := (fun i => wrongZ (fun b => dst σ P n nr nl w wt f t b 0 1) (fun i => σ.1 (P + 9) i) (fun i => σ.1 66 i) (fun i => σ.1 67 i) (fun i => σ.1 68 i) i)) (i := j) hin hno (hwz.mpr (by first | omega | (have y := b2_eq (Decidable.not_not.mp h_117); omega) | (have y := b2_eq h_117; omega)))])
                    | (refine ⟨?_, hS.tr hq_114⟩
                       rw [fstP_at (p := (fun i => wrongZ (fun b => dst σ P n nr nl w wt f t b 0 1) (fun i => σ.1 (P + 9) i) (fun i => σ.1 66 i) (fun i => σ.1 67 i) (fun i => σ.1 68 i) i)) (i := j) hin hno (hwz.mpr (by first | omega | (have y := b2_eq (Decidable.not_not.mp h_117); omega) | (have y := b2_eq h_117; omega)))])
              · refine ev_aload_n dX8_judge_91 rfl ?_
                refine ev_getR (r := 87) dX8_judge_92 fl_X8_31 rfl rfl rfl ?_
                refine ev_iload_n dX8_judge_95 rfl ?_
                refine ev_iaload dX8_judge_96 rfl (by first | omega | (simp [wr_at]; omega) | (simp [wr_at, *]; omega)) (by first | omega | (simp [wr_at]; omega) | (simp [wr_at, *]; omega)) (by decide) ?_
                refine ev_goto (tgt := 106) dX8_judge_97 (by decide) ?_
                first
                  | rw [hF1 (by omega)]
                  | rw [hF2 (by omega)]
                refine ev_aload_n dX8_judge_106 rfl ?_
                refine ev_getR (r := 130) dX8_judge_107 fl_X8_165 rfl rfl rfl ?_
                refine ev_iload_n dX8_judge_110 rfl ?_
                refine ev_iaload dX8_judge_111 rfl (by first | omega | (simp [wr_at]; omega) | (simp [wr_at, *]; omega)) (by first | omega | (simp [wr_at]; omega) | (simp [wr_at, *]; omega)) (by decide) ?_
                rw [emi.2.1, hP9]
                refine ev_iload dX8_judge_112 rfl ?_
                refine ev_callVP dX8_judge_114 kv_X8_456 (m_canCome ν σ P n nr nb nl w wt f t hrp B9 F P9 hBn hFn hPn _ (by omega)) rfl rfl (ci := 8) rfl rfl ⟨by decide, by decide⟩ (Nat.le_of_ble_eq_true rfl) ?_
                rintro v_114 τ_114 ⟨rfl, hq_114⟩
                refine ev_w (fun hR => ?_)
                refine ev_if_ne (tgt := 122) dX8_judge_117 (by decide) (by first | exact hR.1 _ _ | exact hR0.1 _ _ | assumption | exact ⟨by omega, by omega⟩ | exact ⟨by simp [wr_at]; omega, by simp [wr_at]; omega⟩ | exact b2_R _ | exact bC_R _ | exact band_R _ _ | exact bor_R _ _ | exact bshl_R _ _ | exact bshr_R _ _ | exact bxor_R _ _ | exact bs_R (by omega) | decide) (fun h_117 => ?_) (fun h_117 => ?_)
                · refine ev_iinc dX8_judge_122 rfl rfl (by decide) rfl ?_
                  refine ev_goto (tgt := 2) dX8_judge_125 (by decide) ?_
                  first
                    | (exfalso; omega)
                    | (have y := b2_ne h_117
                       refine ih (by omega) (fun i9 hi9 => ?_) _ (hS.tr hq_114) _ _ _
                       by_cases e : i9 = j
                       · subst e
                         intro z
                         have z2 := hwz.mp z
                         omega
                       · exact hno i9 (by omega))
                · refine ev_iload_n dX8_judge_120 rfl ?_
                  refine ev_ireturn dX8_judge_121 ?_
                  first
                    | (exfalso; omega)
                    | (refine ⟨?_, hS⟩
                       rw [fstP_at (p := (fun i => wrongZ (fun b => dst σ P n nr nl w wt f t b 0 1) (fun i => σ.1 (P + 9) i) (fun i => σ.1 66 i) (fun i => σ.1 67 i) (fun i => σ.1 68 i) i)) (i := j) hin hno (hwz.mpr (by first | omega | (have y := b2_eq (Decidable.not_not.mp h_117); omega) | (have y := b2_eq h_117; omega)))])
                    | (refine ⟨?_, hS.tr hq_114⟩
                       rw [fstP_at (p := (fun i => wrongZ (fun b => dst σ P n nr nl w wt f t b 0 1) (fun i => σ.1 (P + 9) i) (fun i => σ.1 66 i) (fun i => σ.1 67 i) (fun i => σ.1 68 i) i)) (i := j) hin hno (hwz.mpr (by first | omega | (have y := b2_eq (Decidable.not_not.mp h_117); omega) | (have y := b2_eq h_117; omega)))])
        · refine ev_aload_n dX8_judge_28 rfl ?_
          refine ev_getR (r := 129) dX8_judge_29 fl_X8_162 rfl rfl rfl ?_
          refine ev_iload dX8_judge_32 rfl ?_
          refine ev_iaload dX8_judge_34 rfl (by first | omega | (simp [wr_at]; omega) | (simp [wr_at, *]; omega)) (by first | omega | (simp [wr_at]; omega) | (simp [wr_at, *]; omega)) (by decide) ?_
          rw [(nkr j (by omega)).1]
          refine ev_iload_n dX8_judge_35 rfl ?_
          refine ev_icmp_ne (tgt := 44) dX8_judge_36 (by decide) (by have := hbk j (by omega); exact ⟨by omega, by omega⟩) ⟨by omega, by omega⟩ (fun h_36 => ?_) (fun h_36 => ?_)
          · refine ev_iload_n dX8_judge_44 rfl ?_
            refine ev_istore_n dX8_judge_45 rfl (by decide) rfl ?_
            refine ev_iinc dX8_judge_46 rfl rfl (by decide) rfl ?_
            refine ev_goto (tgt := 22) dX8_judge_49 (by decide) ?_
            have e9 := lstI (fun k => σ.1 66 k) (B9 : Int) (j + 1)
            have q := ihj (by omega)
            rw [show lstI (fun k => σ.1 66 k) (B9 : Int) (j + 1) = (if σ.1 66 j = (B9 : Int) then (j : Int) else lstI (fun k => σ.1 66 k) (B9 : Int) j) from rfl] at q
            first
              | (rw [if_pos h_36] at q; exact q)
              | (rw [if_neg h_36] at q; exact q)
          · refine ev_iload dX8_judge_39 rfl ?_
            refine ev_goto (tgt := 45) dX8_judge_41 (by decide) ?_
            refine ev_istore_n dX8_judge_45 rfl (by decide) rfl ?_
            refine ev_iinc dX8_judge_46 rfl rfl (by decide) rfl ?_
            refine ev_goto (tgt := 22) dX8_judge_49 (by decide) ?_
            have e9 := lstI (fun k => σ.1 66 k) (B9 : Int) (j + 1)
            have q := ihj (by omega)
            rw [show lstI (fun k => σ.1 66 k) (B9 : Int) (j + 1) = (if σ.1 66 j = (B9 : Int) then (j : Int) else lstI (fun k => σ.1 66 k) (B9 : Int) j) from rfl] at q
            first
              | (rw [if_pos h_36] at q; exact q)
              | (rw [if_neg h_36] at q; exact q)
      refine ev_aload_n dX8_judge_10 rfl ?_
      refine ev_getR (r := 129) dX8_judge_11 fl_X8_162 rfl rfl rfl ?_
      refine ev_iload_n dX8_judge_14 rfl ?_
      refine ev_iaload dX8_judge_15 rfl (by first | omega | (simp [wr_at]; omega) | (simp [wr_at, *]; omega)) (by first | omega | (simp [wr_at]; omega) | (simp [wr_at, *]; omega)) (by decide) ?_
      rw [emi.1, hB9]
      refine ev_istore_n dX8_judge_16 rfl (by decide) rfl ?_
      refine ev_iconst dX8_judge_17 ?_
      refine ev_istore_n dX8_judge_18 rfl (by decide) rfl ?_
      refine ev_iconst dX8_judge_19 ?_
      refine ev_istore dX8_judge_20 rfl (by decide) rfl ?_
      exact mid 0 (by omega)
  refine ev_iconst dX8_judge_0 ?_
  refine ev_istore_n dX8_judge_1 rfl (by decide) rfl ?_
  exact loop 0 (by omega) (fun j hj => by omega) μ Same.rf _ _ _
