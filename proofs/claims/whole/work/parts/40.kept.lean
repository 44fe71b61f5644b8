/-- what the class answers of the told poles T -/
def KeptC (f t : Nat → Nat) (n nr w T : Nat) (z : Int) : Prop := (cnt T.testBit 12 < 2 ∧ z = 0) ∨ (2 ≤ cnt T.testBit 12 ∧ ∃ a, T.testBit a = true ∧ (∀ i, i < a → T.testBit i = false) ∧ ((¬ OutC f t n nr w T a ∧ z = -1) ∨ (OutC f t n nr w T a ∧ ((z = -1 ∧ ∀ S, andn S w = 0 → OutC f t n nr S T a → cnt T.testBit 12 ≤ cnt S.testBit 12 → nr < cnt S.testBit 12) ∨
  ∃ S : Nat, z = S ∧ andn S w = 0 ∧ OutC f t n nr S T a ∧ cnt T.testBit 12 ≤ cnt S.testBit 12 ∧ ∀ S', andn S' w = 0 → OutC f t n nr S' T a → cnt T.testBit 12 ≤ cnt S'.testBit 12 → (cnt S.testBit 12 < cnt S'.testBit 12 ∨ (cnt S.testBit 12 = cnt S'.testBit 12 ∧ S ≤ S'))))))
theorem k_kept (σ : Mem) (P n nr nb nl w wt : Nat) (f t : Nat → Nat) (hPO : PlanOk σ P n nr nb nl f t) (hPI : PlIs σ P) (hBt : Bits σ w wt) (N : Nat) (hN : N = 2 ^ n) (x : Int) (hx : inR x) : Con yX7_kept cX7_kept 5 (some .int) 3 71 [.ref 0, .int (iI x)] σ (AnsQ (fun z τ => τ = σ ∧ (if ¬ (0 ≤ x ∧ x < N) then z = -1000000001 else KeptC f t n nr w x.toNat z))) := by
  refine con_of (by decide) rfl (Nat.le_of_ble_eq_true rfl) (ok_Q rfl) ?_
  refine ev_w (fun hR => ?_)
  have hR0 := hR
  obtain ⟨hPR, ⟨hnb, hnb4⟩, ⟨hnl, hnl4⟩, hpo, hro, hbo, hlo⟩ := id hPO
  obtain ⟨hP, hn, hn8, hnr, hnr12, hft⟩ := id hPR
  obtain ⟨hw, hw2, hwt, hwt2⟩ := id hBt
  have hpl := hPI.q
  have h2n : N ≤ 256 := by rw [hN]; show 2 ^ n ≤ 2 ^ 8; exact Nat.pow_le_pow_right (by decide) hn8
  have main : ∀ (T a : Nat), x = T → T < N → 2 ≤ cnt T.testBit 12 → lowb (T : Nat) = (2 ^ a : Nat) → T.testBit a = true → (∀ i, i < a → T.testBit i = false) → OutC f t n nr w T a → ∀ c : Nat, cnt T.testBit 12 ≤ c → c ≤ max (nr + 1) (cnt T.testBit 12) → (∀ S, andn S w = 0 → OutC f t n nr S T a → cnt T.testBit 12 ≤ cnt S.testBit 12 → c ≤ cnt S.testBit 12) → ∀ w4 : Option Value, Ev RX7 cX7_kept 5 3 71 (AnsQ (fun z τ => τ = σ ∧ (if ¬ (0 ≤ x ∧ x < N) then z = -1000000001 else KeptC f t n nr w x.toNat z))) 48 [some (.ref 0), some (.int (iI x)), some (.int (iI (cnt T.testBit 12 : Nat))), some (.int (iI (c : Nat))), w4] [] σ := by
    intro T a hxT hTN hc2 hlow ha2 hamin hOw
    subst hxT
    have hcl := cnt_le T.testBit 12
    have goal : ∀ c : Nat, c ≤ max (nr + 1) (cnt T.testBit 12) → cnt T.testBit 12 ≤ c → (∀ S, andn S w = 0 → OutC f t n nr S T a → cnt T.testBit 12 ≤ cnt S.testBit 12 → c ≤ cnt S.testBit 12) → ∀ w4 : Option Value, Ev RX7 cX7_kept 5 3 71 (AnsQ (fun z τ => τ = σ ∧ (if ¬ (0 ≤ (T : Int) ∧ (T : Int) < N) then z = -1000000001 else KeptC f t n nr w (T : Int).toNat z))) 48 [some (.ref 0), some (.int (iI (T : Nat))), some (.int (iI (cnt T.testBit 12 : Nat))), some (.int (iI (c : Nat))), w4] [] σ := by
      refine for_up (max (nr + 1) (cnt T.testBit 12)) (fun c hc ih hct hmin w4 => ?_)
      refine ev_w (fun hR => ?_)
      have inner : c ≤ nr → ∀ s : Nat, s ≤ w + 1 → (∀ S, S < s → andn S w = 0 → cnt S.testBit 12 = c → ¬ OutC f t n nr S T a) → Ev RX7 cX7_kept 5 3 71 (AnsQ (fun z τ => τ = σ ∧ (if ¬ (0 ≤ (T : Int) ∧ (T : Int) < N) then z = -1000000001 else KeptC f t n nr w (T : Int).toNat z))) 62 [some (.ref 0), some (.int (iI (T : Nat))), some (.int (iI (cnt T.testBit 12 : Nat))), some (.int (iI (c : Nat))), some (.int (iI (s : Nat)))] [] σ := by
        intro hcn
        refine for_up (w + 1) (fun s hs ihs hno => ?_)
        refine ev_w (fun hR => ?_)
        refine ev_iload dX7_kept_62 rfl ?_
        refine ev_aload_n dX7_kept_64 rfl ?_
        refine ev_getR (r := 37) dX7_kept_65 fl_X7_29 rfl rfl rfl ?_
        refine ev_getI (kz := 3) dX7_kept_68 fl_X7_119 rfl rfl rfl ?_
        rw [hw]
        refine ev_icmp_gt (tgt := 117) dX7_kept_71 (by decide) (by first | exact hR.1 _ _ | exact hR0.1 _ _ | assumption | exact ⟨by omega, by omega⟩ | exact ⟨by simp [wr_at]; omega, by simp [wr_at]; omega⟩ | exact b2_R _ | exact bC_R _ | exact band_R _ _ | exact bor_R _ _ | exact bshl_R _ _ | exact bshr_R _ _ | exact bxor_R _ _ | exact bs_R (by omega) | decide) (by first | exact hR.1 _ _ | exact hR0.1 _ _ | assumption | exact ⟨by omega, by omega⟩ | exact ⟨by simp [wr_at]; omega, by simp [wr_at]; omega⟩ | exact b2_R _ | exact bC_R _ | exact band_R _ _ | exact bor_R _ _ | exact bshl_R _ _ | exact bshr_R _ _ | exact bxor_R _ _ | exact bs_R (by omega) | decide) (fun h_71 => ?_) (fun h_71 => ?_)
        · refine ev_iinc dX7_kept_117 rfl rfl (by decide) rfl ?_
          refine ev_goto (tgt := 48) dX7_kept_120 (by decide) ?_
          refine ih (by omega) (by omega) (fun S h1 h2 h3 => ?_) _
          have h4 := hmin S h1 h2 h3
          have h5 := le_of_andn h1
          by_cases e : cnt S.testBit 12 = c
          · exact absurd h2 (hno S (by omega) h1 e)
          · omega
        · refine ev_iload dX7_kept_74 rfl ?_
          refine ev_aload_n dX7_kept_76 rfl ?_
          refine ev_getR (r := 37) dX7_kept_77 fl_X7_29 rfl rfl rfl ?_
          refine ev_getI (kz := 3) dX7_kept_80 fl_X7_119 rfl rfl rfl ?_
          rw [hw]
          refine ev_iconst dX7_kept_83 ?_
          refine ev_ixor dX7_kept_84 ?_
          refine ev_iand dX7_kept_85 ?_
          rw [band_not s w (by omega)]
          have hal := andn_le s w
          refine ev_if_ne (tgt := 111) dX7_kept_86 (by decide) (by first | exact hR.1 _ _ | exact hR0.1 _ _ | assumption | exact ⟨by omega, by omega⟩ | exact ⟨by simp [wr_at]; omega, by simp [wr_at]; omega⟩ | exact b2_R _ | exact bC_R _ | exact band_R _ _ | exact bor_R _ _ | exact bshl_R _ _ | exact bshr_R _ _ | exact bxor_R _ _ | exact bs_R (by omega) | decide) (fun h_86 => ?_) (fun h_86 => ?_)
          · refine ev_iinc dX7_kept_111 rfl rfl (by decide) rfl ?_
            refine ev_goto (tgt := 62) dX7_kept_114 (by decide) ?_
            refine ihs (by omega) (fun S hS h1 h2 => ?_)
            by_cases e : S = s
            · subst e
              first
                | exact bC_eq h_105
                | (exfalso; omega)
            · exact hno S (by omega) h1 h2
          · refine ev_iload dX7_kept_89 rfl ?_
            refine ev_callSI dX7_kept_91 ks_X7_228 (k_bitCount σ s (by omega)) rfl rfl ⟨by decide, by decide⟩ (Nat.le_of_ble_eq_true rfl) ?_
            refine ev_w (fun hR => ?_)
            have hcs := cnt_le s.testBit 12
            refine ev_iload_n dX7_kept_94 rfl ?_
            refine ev_icmp_ne (tgt := 111) dX7_kept_95 (by decide) (by first | exact hR.1 _ _ | exact hR0.1 _ _ | assumption | exact ⟨by omega, by omega⟩ | exact ⟨by simp [wr_at]; omega, by simp [wr_at]; omega⟩ | exact b2_R _ | exact bC_R _ | exact band_R _ _ | exact bor_R _ _ | exact bshl_R _ _ | exact bshr_R _ _ | exact bxor_R _ _ | exact bs_R (by omega) | decide) (by first | exact hR.1 _ _ | exact hR0.1 _ _ | assumption | exact ⟨by omega, by omega⟩ | exact ⟨by simp [wr_at]; omega, by simp [wr_at]; omega⟩ | exact b2_R _ | exact bC_R _ | exact band_R _ _ | exact bor_R _ _ | exact bshl_R _ _ | exact bshr_R _ _ | exact bxor_R _ _ | exact bs_R (by omega) | decide) (fun h_95 => ?_) (fun h_95 => ?_)
            · refine ev_iinc dX7_kept_111 rfl rfl (by decide) rfl ?_
              refine ev_goto (tgt := 62) dX7_kept_114 (by decide) ?_
              refine ihs (by omega) (fun S hS h1 h2 => ?_)
              by_cases e : S = s
              · subst e
                first
                  | exact bC_eq h_105
                  | (exfalso; omega)
              · exact hno S (by omega) h1 h2
            · refine ev_aload_n dX7_kept_98 rfl ?_
              refine ev_iload dX7_kept_99 rfl ?_
              refine ev_iload_n dX7_kept_101 rfl ?_
              refine ev_callVI dX7_kept_102 kv_X7_287 (k_outlivesCuts σ P n nr nb nl w wt f t hPO hPI hBt s T a (by omega) (by omega) hlow ha2) rfl rfl (ci := 7) rfl rfl ⟨by decide, by decide⟩ (Nat.le_of_ble_eq_true rfl) ?_
              refine ev_w (fun hR => ?_)
              refine ev_if_eq (tgt := 111) dX7_kept_105 (by decide) (by first | exact hR.1 _ _ | exact hR0.1 _ _ | assumption | exact ⟨by omega, by omega⟩ | exact ⟨by simp [wr_at]; omega, by simp [wr_at]; omega⟩ | exact b2_R _ | exact bC_R _ | exact band_R _ _ | exact bor_R _ _ | exact bshl_R _ _ | exact bshr_R _ _ | exact bxor_R _ _ | exact bs_R (by omega) | decide) (fun h_105 => ?_) (fun h_105 => ?_)
              · refine ev_iinc dX7_kept_111 rfl rfl (by decide) rfl ?_
                refine ev_goto (tgt := 62) dX7_kept_114 (by decide) ?_
                refine ihs (by omega) (fun S hS h1 h2 => ?_)
                by_cases e : S = s
                · subst e
                  first
                    | exact bC_eq h_105
                    | (exfalso; omega)
                · exact hno S (by omega) h1 h2
              · refine ev_iload dX7_kept_108 rfl ?_
                refine ev_ireturn dX7_kept_110 ?_
                have hO := bC_ne h_105
                refine ⟨(s : Nat), rfl, rfl, ?_⟩
                rw [if_neg (c := ¬ (0 ≤ (T : Int) ∧ (T : Int) < N)) (fun y => y ⟨by omega, by omega⟩)]
                refine Or.inr ⟨hc2, a, ha2, hamin, Or.inr ⟨hOw, Or.inr ⟨s, rfl, by omega, hO, by show cnt T.testBit 12 ≤ _; omega, fun S' h1 h2 h3 => ?_⟩⟩⟩
                have h4 := hmin S' h1 h2 h3
                by_cases e : cnt S'.testBit 12 = c
                · refine Or.inr ⟨by omega, ?_⟩
                  rcases Nat.lt_or_ge S' s with q | q
                  · exact absurd h2 (hno S' q h1 e)
                  · exact q
                · exact Or.inl (by omega)
      refine ev_iload_n dX7_kept_48 rfl ?_
      refine ev_aload_n dX7_kept_49 rfl ?_
      refine ev_getQ (r := P) dX7_kept_50 fl_X7_19 rfl rfl hpl ?_
      refine ev_getI (kz := 1) dX7_kept_53 fl_X7_98 (plO hP) rfl rfl ?_
      rw [hnr]
      refine ev_icmp_gt (tgt := 123) dX7_kept_56 (by decide) (by first | exact hR.1 _ _ | exact hR0.1 _ _ | assumption | exact ⟨by omega, by omega⟩ | exact ⟨by simp [wr_at]; omega, by simp [wr_at]; omega⟩ | exact b2_R _ | exact bC_R _ | exact band_R _ _ | exact bor_R _ _ | exact bshl_R _ _ | exact bshr_R _ _ | exact bxor_R _ _ | exact bs_R (by omega) | decide) (by first | exact hR.1 _ _ | exact hR0.1 _ _ | assumption | exact ⟨by omega, by omega⟩ | exact ⟨by simp [wr_at]; omega, by simp [wr_at]; omega⟩ | exact b2_R _ | exact bC_R _ | exact band_R _ _ | exact bor_R _ _ | exact bshl_R _ _ | exact bshr_R _ _ | exact bxor_R _ _ | exact bs_R (by omega) | decide) (fun h_56 => ?_) (fun h_56 => ?_)
      · refine ev_iconst dX7_kept_123 ?_
        refine ev_ireturn dX7_kept_124 ?_
        refine ⟨-1, rfl, rfl, ?_⟩
        rw [if_neg (c := ¬ (0 ≤ (T : Int) ∧ (T : Int) < N)) (fun y => y ⟨by omega, by omega⟩)]
        exact Or.inr ⟨hc2, a, ha2, hamin, Or.inr ⟨hOw, Or.inl ⟨rfl, fun S h1 h2 h3 => by have := hmin S h1 h2 h3; omega⟩⟩⟩
      · refine ev_iconst dX7_kept_59 ?_
        refine ev_istore dX7_kept_60 rfl (by decide) rfl ?_
        exact inner (by omega) 0 (by omega) (fun S hS => by omega)
    intro c h1 h2 h3 w4
    exact goal c h2 h1 h3 w4
  refine ev_iload_n dX7_kept_0 rfl ?_
  refine ev_aload_n dX7_kept_1 rfl ?_
  refine ev_getQ (r := P) dX7_kept_2 fl_X7_19 rfl rfl hpl ?_
  refine ev_getI (kz := 0) dX7_kept_5 fl_X7_92 (plO hP) rfl rfl ?_
  rw [hn]
  refine ev_callSI dX7_kept_8 ks_X7_264 (k_isSetBelow σ x n N hx (by omega) hN) rfl rfl ⟨by decide, by decide⟩ (Nat.le_of_ble_eq_true rfl) ?_
  refine ev_w (fun hR => ?_)
  refine ev_if_ne (tgt := 17) dX7_kept_11 (by decide) (by first | exact hR.1 _ _ | exact hR0.1 _ _ | assumption | exact ⟨by omega, by omega⟩ | exact ⟨by simp [wr_at]; omega, by simp [wr_at]; omega⟩ | exact b2_R _ | exact bC_R _ | exact band_R _ _ | exact bor_R _ _ | exact bshl_R _ _ | exact bshr_R _ _ | exact bxor_R _ _ | exact bs_R (by omega) | decide) (fun h_11 => ?_) (fun h_11 => ?_)
  · have q0 := b2_ne h_11
    obtain ⟨T, rfl⟩ := Int.eq_ofNat_of_zero_le q0.1
    have hcl := cnt_le T.testBit 12
    have hif : ¬ ¬ (0 ≤ (T : Int) ∧ (T : Int) < N) := fun y => y q0
    refine ev_iload_n dX7_kept_17 rfl ?_
    refine ev_callSI dX7_kept_18 ks_X7_228 (k_bitCount σ T (by omega)) rfl rfl ⟨by decide, by decide⟩ (Nat.le_of_ble_eq_true rfl) ?_
    refine ev_w (fun hR => ?_)
    refine ev_istore_n dX7_kept_21 rfl (by decide) rfl ?_
    refine ev_iload_n dX7_kept_22 rfl ?_
    refine ev_iconst dX7_kept_23 ?_
    refine ev_icmp_ge (tgt := 29) dX7_kept_24 (by decide) (by first | exact hR.1 _ _ | exact hR0.1 _ _ | assumption | exact ⟨by omega, by omega⟩ | exact ⟨by simp [wr_at]; omega, by simp [wr_at]; omega⟩ | exact b2_R _ | exact bC_R _ | exact band_R _ _ | exact bor_R _ _ | exact bshl_R _ _ | exact bshr_R _ _ | exact bxor_R _ _ | exact bs_R (by omega) | decide) (by first | exact hR.1 _ _ | exact hR0.1 _ _ | assumption | exact ⟨by omega, by omega⟩ | exact ⟨by simp [wr_at]; omega, by simp [wr_at]; omega⟩ | exact b2_R _ | exact bC_R _ | exact band_R _ _ | exact bor_R _ _ | exact bshl_R _ _ | exact bshr_R _ _ | exact bxor_R _ _ | exact bs_R (by omega) | decide) (fun h_24 => ?_) (fun h_24 => ?_)
    · have hT0 : T ≠ 0 := by
        rintro rfl
        have : cnt (0 : Nat).testBit 12 = 0 := by decide
        omega
      obtain ⟨a, ha8, hlow, ha2, hamin⟩ := lowb_256 T (by omega) hT0
      refine ev_aload_n dX7_kept_29 rfl ?_
      refine ev_aload_n dX7_kept_30 rfl ?_
      refine ev_getR (r := 37) dX7_kept_31 fl_X7_29 rfl rfl rfl ?_
      refine ev_getI (kz := 3) dX7_kept_34 fl_X7_119 rfl rfl rfl ?_
      rw [hw]
      refine ev_iload_n dX7_kept_37 rfl ?_
      refine ev_callVI dX7_kept_38 kv_X7_287 (k_outlivesCuts σ P n nr nb nl w wt f t hPO hPI hBt w T a (by omega) (by omega) hlow ha2) rfl rfl (ci := 7) rfl rfl ⟨by decide, by decide⟩ (Nat.le_of_ble_eq_true rfl) ?_
      refine ev_w (fun hR => ?_)
      refine ev_if_ne (tgt := 46) dX7_kept_41 (by decide) (by first | exact hR.1 _ _ | exact hR0.1 _ _ | assumption | exact ⟨by omega, by omega⟩ | exact ⟨by simp [wr_at]; omega, by simp [wr_at]; omega⟩ | exact b2_R _ | exact bC_R _ | exact band_R _ _ | exact bor_R _ _ | exact bshl_R _ _ | exact bshr_R _ _ | exact bxor_R _ _ | exact bs_R (by omega) | decide) (fun h_41 => ?_) (fun h_41 => ?_)
      · refine ev_iload_n dX7_kept_46 rfl ?_
        refine ev_istore_n dX7_kept_47 rfl (by decide) rfl ?_
        have hO := bC_ne h_41
        have hcw : cnt T.testBit 12 ≤ max (nr + 1) (cnt T.testBit 12) := by omega
        exact main T a rfl (by omega) (by omega) hlow ha2 hamin hO (cnt T.testBit 12) (Nat.le_refl _) hcw (fun S h1 h2 h3 => h3) _
      · refine ev_iconst dX7_kept_44 ?_
        refine ev_ireturn dX7_kept_45 ?_
        have hO := bC_eq (by omega : bC (OutC f t n nr w T a) = 0)
        exact ⟨-1, rfl, rfl, by rw [if_neg hif]; exact Or.inr ⟨by show 2 ≤ cnt T.testBit 12; omega, a, ha2, hamin, Or.inl ⟨hO, rfl⟩⟩⟩
    · refine ev_iconst dX7_kept_27 ?_
      refine ev_ireturn dX7_kept_28 ?_
      exact ⟨0, rfl, rfl, by rw [if_neg hif]; exact Or.inl ⟨by show cnt T.testBit 12 < 2; omega, rfl⟩⟩
  · refine ev_ldc (z := -1000000001) dX7_kept_14 kc_X7_126 (by decide) ?_
    refine ev_ireturn dX7_kept_16 ?_
    have z := b2_eq (by omega : b2 (0 ≤ x ∧ x < (N : Int)) = 0)
    exact ⟨-1000000001, rfl, rfl, by rw [if_pos z]⟩
