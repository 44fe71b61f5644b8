theorem lfR_wy {Wy Wy' Rs : Nat → Nat → Nat → Int} {fr to : Nat → Nat} {l c p : Nat} (h : ∀ k, k < 4 → (c.testBit k = true → Wy c p (to k) = Wy' c p (to k)) ∧ (l.testBit k = true → Wy c p (fr k) = Wy' c p (fr k))) : ∀ k, k ≤ 4 → lfR Wy Rs fr to l c p k = lfR Wy' Rs fr to l c p k := by
  intro k
  induction k with
  | zero => intro _; rfl
  | succ k ih =>
    intro hk
    rw [lfR, lfR, ih (by omega)]
    have h2 := h k (by omega)
    by_cases c1 : c.testBit k = true
    · rw [if_pos c1, if_pos c1, h2.1 c1]
    · rw [if_neg c1, if_neg c1]
      by_cases c2 : l.testBit k = true ∧ cnt c.testBit 12 < 2
      · rw [if_pos c2, if_pos c2, h2.2 c2.1]
      · rw [if_neg c2, if_neg c2]
theorem lfV_wy {Wy Wy' Rs : Nat → Nat → Nat → Int} {fr to : Nat → Nat} {l c p : Nat} (h : ∀ k, k < 4 → (c.testBit k = true → Wy c p (to k) = Wy' c p (to k)) ∧ (l.testBit k = true → Wy c p (fr k) = Wy' c p (fr k))) : lfV Wy Rs fr to l c p = lfV Wy' Rs fr to l c p := by
  unfold lfV
  rw [lfR_wy h 4 (Nat.le_refl _)]
def sR (c : Nat) : Prop := c = 69 ∨ c = 70 ∨ c = 71 ∨ c = 73 ∨ c = 74 ∨ c = 75 ∨ c = 76
theorem lt_of_test {v l : Nat} (h : v.testBit l = true) {k : Nat} (hv : v < 2 ^ k) : l < k := by
  rcases Nat.lt_or_ge l k with q | q
  · exact q
  · have : v.testBit l = false := Nat.testBit_lt_two_pow (Nat.lt_of_lt_of_le hv (Nat.pow_le_pow_right (by decide) q))
    rw [this] at h
    exact absurd h (by decide)
def RndOk (σ τ : Mem) (P n nr nl w wt : Nat) (f t : Nat → Nat) (b v : Nat) (fr to : Nat → Nat) : Prop := Same sR σ τ ∧ (∀ j, 0 ≤ τ.1 76 j ∧ τ.1 76 j ≤ 1000000) ∧ ∀ l c p, okS v l c → p < n → restA τ l c p = lfV (fun c => dst σ P n nr nl w wt f t b c 0) (restA τ) fr to l c p
theorem k_learnRounds (σ : Mem) (P n nr nb nl w wt : Nat) (f t : Nat → Nat) (hPO : PlanOk σ P n nr nb nl f t) (hPI : PlIs σ P) (hBt : Bits σ w wt) (b v : Nat) (fr to : Nat → Nat) (hb : b < nb) (hv : v < 2 ^ nl) (hfr : ∀ l : Nat, l < nl → v.testBit l = true → (if σ.1 42 l = -1 then σ.1 (P + 12) l else σ.1 42 l) = fr l ∧ fr l < n ∧ σ.1 (P + 13) l = to l ∧ to l < n) (h76 : ∀ j, 0 ≤ σ.1 76 j ∧ σ.1 76 j ≤ 1000000) : Con yX7_learnRounds cX7_learnRounds 4 none 5 117 [.ref 0, .int (iI b), .int (iI v)] σ (AnsVP (fun τ => RndOk σ τ P n nr nl w wt f t b v fr to)) := by
  refine con_of (by decide) rfl (Nat.le_of_ble_eq_true rfl) (ok_VP rfl) ?_
  refine ev_w (fun hR => ?_)
  have hR0 := hR
  obtain ⟨hPR, ⟨hnb, hnb4⟩, ⟨hnl, hnl4⟩, hpo, hro, hbo, hlo⟩ := id hPO
  obtain ⟨hP, hn, hn8, hnr, hnr12, hft⟩ := id hPR
  obtain ⟨hw, hw2, hwt, hwt2⟩ := id hBt
  have hpl := hPI.q
  have h2n : 2 ^ nl ≤ 2 ^ 4 := Nat.pow_le_pow_right (by decide) hnl4
  have hv16 : v < 16 := by omega
  have nP : ∀ k, k ≤ 16 → ¬ sR (P + k) := fun k hk h => by unfold sR at h; omega
  have nP0 : ¬ sR P := nP 0 (by omega)
  have n0 : ¬ sR 0 := by unfold sR; omega
  have n37 : ¬ sR 37 := by unfold sR; omega
  have n42 : ¬ sR 42 := by unfold sR; omega
  have subM : ∀ c, sM c → sR c := fun c h => by unfold sM at h; unfold sR; omega
  have facts : ∀ τ : Mem, Same sR σ τ → PlanOk τ P n nr nb nl f t ∧ PlIs τ P ∧ Bits τ w wt := fun τ hS => ⟨hPO.same hS nP, by unfold PlIs; rw [hS.at n0]; exact hPI, by unfold Bits; rw [hS.at n37, hS.at n37]; exact hBt⟩
  have loop2 : ∀ l : Nat, l ≤ nl → ∀ τ : Mem, Same sR σ τ → (∀ j, 0 ≤ τ.1 76 j ∧ τ.1 76 j ≤ 1000000) → (∀ c2, c2 < 16 → andn c2 v = 0 → cnt c2.testBit 12 ≤ 2 → ∀ p q, p < n → q < n → wayA τ c2 p q = dst σ P n nr nl w wt f t b c2 0 p q) → (∀ i : Nat, i < l → τ.1 73 i = (if σ.1 42 i = -1 then σ.1 (P + 12) i else σ.1 42 i) ∧ τ.1 74 i = σ.1 (P + 13) i) → Ev RX7 cX7_learnRounds 4 5 117 (AnsVP (fun τ => RndOk σ τ P n nr nl w wt f t b v fr to)) 42 [some (.ref 0), some (.int (iI b)), some (.int (iI v)), some (.int (iI (l : Nat)))] [] τ := by
    refine for_up nl (fun l hl ih τ hS hb76 hway hft2 => ?_)
    refine ev_w (fun hR => ?_)
    obtain ⟨hPO2, hPI2, hBt2⟩ := facts τ hS
    have hpl2 := hPI2.q
    refine ev_iload_n dX7_learnRounds_42 rfl ?_
    refine ev_aload_n dX7_learnRounds_43 rfl ?_
    refine ev_getQ (r := P) dX7_learnRounds_44 fl_X7_19 rfl rfl hpl2 ?_
    refine ev_getI (kz := 3) dX7_learnRounds_47 fl_X7_104 (plO hP) rfl rfl ?_
    rw [hS.at nP0, hnl]
    refine ev_icmp_ge (tgt := 120) dX7_learnRounds_50 (by decide) (by first | exact hR.1 _ _ | exact hR0.1 _ _ | assumption | exact ⟨by omega, by omega⟩ | exact ⟨by simp [wr_at]; omega, by simp [wr_at]; omega⟩ | exact b2_R _ | exact band_R _ _ | exact bor_R _ _ | exact bshl_R _ _ | exact bshr_R _ _ | exact bxor_R _ _ | exact bs_R (by omega) | decide) (by first | exact hR.1 _ _ | exact hR0.1 _ _ | assumption | exact ⟨by omega, by omega⟩ | exact ⟨by simp [wr_at]; omega, by simp [wr_at]; omega⟩ | exact b2_R _ | exact band_R _ _ | exact bor_R _ _ | exact bshl_R _ _ | exact bshr_R _ _ | exact bxor_R _ _ | exact bs_R (by omega) | decide) (fun h_50 => ?_) (fun h_50 => ?_)
    · refine ev_aload_n dX7_learnRounds_120 rfl ?_
      refine ev_getR (r := 72) dX7_learnRounds_121 fl_X7_58 rfl rfl rfl ?_
      refine ev_aload_n dX7_learnRounds_124 rfl ?_
      refine ev_getQ (r := P) dX7_learnRounds_125 fl_X7_19 rfl rfl hpl2 ?_
      refine ev_getI (kz := 0) dX7_learnRounds_128 fl_X7_92 (plO hP) rfl rfl ?_
      rw [hS.at nP0, hn]
      refine ev_iload_n dX7_learnRounds_131 rfl ?_
      refine ev_callVP dX7_learnRounds_132 kv_X7_367 (k_solve τ v n fr to hn8 hv16 (fun k hk hbt => by
          have hk2 := lt_of_test hbt hv
          have a := hfr k hk2 hbt
          have c := hft2 k (by omega)
          exact ⟨by rw [c.1]; exact a.1, by rw [c.2]; exact a.2.2.1, a.2.1, a.2.2.2⟩) (fun c hc h1 h2 p q hp hq => by rw [hway c hc h1 h2 p q hp hq]; exact dst_ok hPO hb p q hp hq) hb76) rfl rfl (ci := 4) rfl rfl ⟨by decide, by decide⟩ (Nat.le_of_ble_eq_true rfl) ?_
      rintro v_132 τ_132 ⟨rfl, hS2, hb2, hI2⟩
      refine ev_w (fun hR => ?_)
      refine ev_return dX7_learnRounds_135 ?_
      refine ⟨rfl, hS.tr (hS2.mono (fun c h => by unfold sR; omega)), hb2, fun l2 c2 p hk hp => ?_⟩
      have hlt : ixR l2 c2 p < 4096 := by
        have := hk.1
        have := hk.2.1
        unfold ixR
        omega
      rw [hI2 l2 c2 p hk hp hlt]
      refine lfV_wy (fun k hk4 => ⟨fun hb1 => ?_, fun hb1 => ?_⟩)
      · exact hway c2 hk.2.1 hk.2.2.2.1 hk.2.2.2.2.2 p (to k) hp (hfr k (lt_of_test (sub_of_andn hk.2.2.2.1 hb1) hv) (sub_of_andn hk.2.2.2.1 hb1)).2.2.2
      · exact hway c2 hk.2.1 hk.2.2.2.1 hk.2.2.2.2.2 p (fr k) hp (hfr k (lt_of_test (sub_of_andn hk.2.2.1 hb1) hv) (sub_of_andn hk.2.2.1 hb1)).2.1
    · refine ev_aload_n dX7_learnRounds_53 rfl ?_
      refine ev_getR (r := 72) dX7_learnRounds_54 fl_X7_58 rfl rfl rfl ?_
      refine ev_getR (r := 73) dX7_learnRounds_57 fl_X7_358 rfl rfl rfl ?_
      refine ev_iload_n dX7_learnRounds_60 rfl ?_
      refine ev_aload_n dX7_learnRounds_61 rfl ?_
      refine ev_getR (r := 37) dX7_learnRounds_62 fl_X7_29 rfl rfl rfl ?_
      refine ev_getR (r := 42) dX7_learnRounds_65 fl_X7_198 rfl rfl rfl ?_
      refine ev_iload_n dX7_learnRounds_68 rfl ?_
      refine ev_iaload dX7_learnRounds_69 rfl (by first | omega | (simp [wr_at]; omega) | (simp [wr_at, *]; omega)) (by first | omega | (simp [wr_at]; omega) | (simp [wr_at, *]; omega)) (by decide) ?_
      rw [hS.at n42]
      refine ev_iconst dX7_learnRounds_70 ?_
      refine ev_icmp_ne (tgt := 86) dX7_learnRounds_71 (by decide) (by first | exact hR.1 _ _ | exact hR0.1 _ _ | assumption | exact ⟨by omega, by omega⟩ | exact ⟨by simp [wr_at]; omega, by simp [wr_at]; omega⟩ | exact b2_R _ | exact band_R _ _ | exact bor_R _ _ | exact bshl_R _ _ | exact bshr_R _ _ | exact bxor_R _ _ | exact bs_R (by omega) | decide) (by first | exact hR.1 _ _ | exact hR0.1 _ _ | assumption | exact ⟨by omega, by omega⟩ | exact ⟨by simp [wr_at]; omega, by simp [wr_at]; omega⟩ | exact b2_R _ | exact band_R _ _ | exact bor_R _ _ | exact bshl_R _ _ | exact bshr_R _ _ | exact bxor_R _ _ | exact bs_R (by omega) | decide) (fun h_71 => ?_) (fun h_71 => ?_)
      · refine ev_aload_n dX7_learnRounds_86 rfl ?_
        refine ev_getR (r := 37) dX7_learnRounds_87 fl_X7_29 rfl rfl rfl ?_
        refine ev_getR (r := 42) dX7_learnRounds_90 fl_X7_198 rfl rfl rfl ?_
        refine ev_iload_n dX7_learnRounds_93 rfl ?_
        refine ev_iaload dX7_learnRounds_94 rfl (by first | omega | (simp [wr_at]; omega) | (simp [wr_at, *]; omega)) (by first | omega | (simp [wr_at]; omega) | (simp [wr_at, *]; omega)) (by decide) ?_
        try rw [hS.at n42]
        refine ev_iastore dX7_learnRounds_95 rfl (by first | omega | (simp [wr_at]; omega) | (simp [wr_at, *]; omega)) (by first | omega | (simp [wr_at]; omega) | (simp [wr_at, *]; omega)) (by decide) (by first | exact hR.1 _ _ | exact hR0.1 _ _ | assumption | exact ⟨by omega, by omega⟩ | exact ⟨by simp [wr_at]; omega, by simp [wr_at]; omega⟩ | exact b2_R _ | exact band_R _ _ | exact bor_R _ _ | exact bshl_R _ _ | exact bshr_R _ _ | exact bxor_R _ _ | exact bs_R (by omega) | decide) ?_
        refine ev_w (fun hR => ?_)
        refine ev_aload_n dX7_learnRounds_96 rfl ?_
        refine ev_getR (r := 72) dX7_learnRounds_97 fl_X7_58 rfl rfl rfl ?_
        refine ev_getR (r := 74) dX7_learnRounds_100 fl_X7_364 rfl rfl rfl ?_
        refine ev_iload_n dX7_learnRounds_103 rfl ?_
        refine ev_aload_n dX7_learnRounds_104 rfl ?_
        refine ev_getQ (r := P) dX7_learnRounds_105 fl_X7_19 rfl rfl (by rw [wr_nec _ (by decide)]; exact hpl2) ?_
        refine ev_getR (r := P + 13) dX7_learnRounds_108 fl_X7_201 (plO hP) rfl rfl ?_
        refine ev_iload_n dX7_learnRounds_111 rfl ?_
        refine ev_iaload dX7_learnRounds_112 (plA13 hP) (by first | omega | (simp [wr_at]; omega) | (simp [wr_at, *]; omega)) (by first | omega | (simp [wr_at]; omega) | (simp [wr_at, *]; omega)) (by decide) ?_
        rw [wr_nec _ (by omega), hS.at (nP 13 (by omega))]
        refine ev_iastore dX7_learnRounds_113 rfl (by first | omega | (simp [wr_at]; omega) | (simp [wr_at, *]; omega)) (by first | omega | (simp [wr_at]; omega) | (simp [wr_at, *]; omega)) (by decide) (by first | exact hR.1 _ _ | exact hR0.1 _ _ | assumption | exact ⟨by omega, by omega⟩ | exact ⟨by simp [wr_at]; omega, by simp [wr_at]; omega⟩ | exact b2_R _ | exact band_R _ _ | exact bor_R _ _ | exact bshl_R _ _ | exact bshr_R _ _ | exact bxor_R _ _ | exact bs_R (by omega) | decide) ?_
        refine ev_w (fun hR => ?_)
        refine ev_iinc dX7_learnRounds_114 rfl rfl (by decide) rfl ?_
        refine ev_goto (tgt := 42) dX7_learnRounds_117 (by decide) ?_
        refine ih (by omega) _ ((hS.wr (by unfold sR; omega)).wr (by unfold sR; omega)) (fun j => by rw [wr_nec _ (by decide), wr_nec _ (by decide)]; exact hb76 j) (fun c2 h1 h2 h3 p q hp hq => ?_) (fun i hi => ?_)
        · rw [← hway c2 h1 h2 h3 p q hp hq]
          unfold wayA
          rw [wr_nec _ (by decide), wr_nec _ (by decide)]
        · by_cases e : i = l
          · subst e
            rw [wr_nec _ (by decide), wr_eq, wr_eq]
            first
              | exact ⟨by rw [if_pos h_71], rfl⟩
              | exact ⟨by rw [if_neg h_71], rfl⟩
          · rw [wr_nec _ (by decide), wr_nek _ (by omega), wr_nek _ (by omega), wr_nec _ (by decide)]
            exact hft2 i (by omega)
      · refine ev_aload_n dX7_learnRounds_74 rfl ?_
        refine ev_getQ (r := P) dX7_learnRounds_75 fl_X7_19 rfl rfl hpl2 ?_
        refine ev_getR (r := P + 12) dX7_learnRounds_78 fl_X7_361 (plO hP) rfl rfl ?_
        refine ev_iload_n dX7_learnRounds_81 rfl ?_
        refine ev_iaload dX7_learnRounds_82 (plA12 hP) (by first | omega | (simp [wr_at]; omega) | (simp [wr_at, *]; omega)) (by first | omega | (simp [wr_at]; omega) | (simp [wr_at, *]; omega)) (by decide) ?_
        rw [hS.at (nP 12 (by omega))]
        refine ev_goto (tgt := 95) dX7_learnRounds_83 (by decide) ?_
        try rw [hS.at n42]
        refine ev_iastore dX7_learnRounds_95 rfl (by first | omega | (simp [wr_at]; omega) | (simp [wr_at, *]; omega)) (by first | omega | (simp [wr_at]; omega) | (simp [wr_at, *]; omega)) (by decide) (by first | exact hR.1 _ _ | exact hR0.1 _ _ | assumption | exact ⟨by omega, by omega⟩ | exact ⟨by simp [wr_at]; omega, by simp [wr_at]; omega⟩ | exact b2_R _ | exact band_R _ _ | exact bor_R _ _ | exact bshl_R _ _ | exact bshr_R _ _ | exact bxor_R _ _ | exact bs_R (by omega) | decide) ?_
        refine ev_w (fun hR => ?_)
        refine ev_aload_n dX7_learnRounds_96 rfl ?_
        refine ev_getR (r := 72) dX7_learnRounds_97 fl_X7_58 rfl rfl rfl ?_
        refine ev_getR (r := 74) dX7_learnRounds_100 fl_X7_364 rfl rfl rfl ?_
        refine ev_iload_n dX7_learnRounds_103 rfl ?_
        refine ev_aload_n dX7_learnRounds_104 rfl ?_
        refine ev_getQ (r := P) dX7_learnRounds_105 fl_X7_19 rfl rfl (by rw [wr_nec _ (by decide)]; exact hpl2) ?_
        refine ev_getR (r := P + 13) dX7_learnRounds_108 fl_X7_201 (plO hP) rfl rfl ?_
        refine ev_iload_n dX7_learnRounds_111 rfl ?_
        refine ev_iaload dX7_learnRounds_112 (plA13 hP) (by first | omega | (simp [wr_at]; omega) | (simp [wr_at, *]; omega)) (by first | omega | (simp [wr_at]; omega) | (simp [wr_at, *]; omega)) (by decide) ?_
        rw [wr_nec _ (by omega), hS.at (nP 13 (by omega))]
        refine ev_iastore dX7_learnRounds_113 rfl (by first | omega | (simp [wr_at]; omega) | (simp [wr_at, *]; omega)) (by first | omega | (simp [wr_at]; omega) | (simp [wr_at, *]; omega)) (by decide) (by first | exact hR.1 _ _ | exact hR0.1 _ _ | assumption | exact ⟨by omega, by omega⟩ | exact ⟨by simp [wr_at]; omega, by simp [wr_at]; omega⟩ | exact b2_R _ | exact band_R _ _ | exact bor_R _ _ | exact bshl_R _ _ | exact bshr_R _ _ | exact bxor_R _ _ | exact bs_R (by omega) | decide) ?_
        refine ev_w (fun hR => ?_)
        refine ev_iinc dX7_learnRounds_114 rfl rfl (by decide) rfl ?_
        refine ev_goto (tgt := 42) dX7_learnRounds_117 (by decide) ?_
        refine ih (by omega) _ ((hS.wr (by unfold sR; omega)).wr (by unfold sR; omega)) (fun j => by rw [wr_nec _ (by decide), wr_nec _ (by decide)]; exact hb76 j) (fun c2 h1 h2 h3 p q hp hq => ?_) (fun i hi => ?_)
        · rw [← hway c2 h1 h2 h3 p q hp hq]
          unfold wayA
          rw [wr_nec _ (by decide), wr_nec _ (by decide)]
        · by_cases e : i = l
          · subst e
            rw [wr_nec _ (by decide), wr_eq, wr_eq]
            first
              | exact ⟨by rw [if_pos h_71], rfl⟩
              | exact ⟨by rw [if_neg h_71], rfl⟩
          · rw [wr_nec _ (by decide), wr_nek _ (by omega), wr_nek _ (by omega), wr_nec _ (by decide)]
            exact hft2 i (by omega)
  have loop1 : ∀ c : Nat, c ≤ v + 1 → ∀ τ : Mem, Same sR σ τ → (∀ j, 0 ≤ τ.1 76 j ∧ τ.1 76 j ≤ 1000000) → (∀ c2, c2 < c → andn c2 v = 0 → cnt c2.testBit 12 ≤ 2 → ∀ p q, p < n → q < n → wayA τ c2 p q = dst σ P n nr nl w wt f t b c2 0 p q) → Ev RX7 cX7_learnRounds 4 5 117 (AnsVP (fun τ => RndOk σ τ P n nr nl w wt f t b v fr to)) 2 [some (.ref 0), some (.int (iI b)), some (.int (iI v)), some (.int (iI (c : Nat)))] [] τ := by
    refine for_up (v + 1) (fun c hc ih τ hS hb76 hway => ?_)
    refine ev_w (fun hR => ?_)
    obtain ⟨hPO2, hPI2, hBt2⟩ := facts τ hS
    have hpl2 := hPI2.q
    refine ev_iload_n dX7_learnRounds_2 rfl ?_
    refine ev_iload_n dX7_learnRounds_3 rfl ?_
    refine ev_icmp_gt (tgt := 40) dX7_learnRounds_4 (by decide) (by first | exact hR.1 _ _ | exact hR0.1 _ _ | assumption | exact ⟨by omega, by omega⟩ | exact ⟨by simp [wr_at]; omega, by simp [wr_at]; omega⟩ | exact b2_R _ | exact band_R _ _ | exact bor_R _ _ | exact bshl_R _ _ | exact bshr_R _ _ | exact bxor_R _ _ | exact bs_R (by omega) | decide) (by first | exact hR.1 _ _ | exact hR0.1 _ _ | assumption | exact ⟨by omega, by omega⟩ | exact ⟨by simp [wr_at]; omega, by simp [wr_at]; omega⟩ | exact b2_R _ | exact band_R _ _ | exact bor_R _ _ | exact bshl_R _ _ | exact bshr_R _ _ | exact bxor_R _ _ | exact bs_R (by omega) | decide) (fun h_4 => ?_) (fun h_4 => ?_)
    · refine ev_iconst dX7_learnRounds_40 ?_
      refine ev_istore_n dX7_learnRounds_41 rfl (by decide) rfl ?_
      refine loop2 0 (by omega) τ hS hb76 (fun c2 h1 h2 h3 p q hp hq => hway c2 (by have := le_of_andn h2; omega) h2 h3 p q hp hq) (fun i hi => by omega)
    · refine ev_iload_n dX7_learnRounds_7 rfl ?_
      refine ev_iload_n dX7_learnRounds_8 rfl ?_
      refine ev_callSI dX7_learnRounds_9 ks_X7_351 (k_canBeCarried τ c v (by omega) (by omega)) rfl rfl ⟨by decide, by decide⟩ (Nat.le_of_ble_eq_true rfl) ?_
      refine ev_w (fun hR => ?_)
      refine ev_if_eq (tgt := 34) dX7_learnRounds_12 (by decide) (by first | exact hR.1 _ _ | exact hR0.1 _ _ | assumption | exact ⟨by omega, by omega⟩ | exact ⟨by simp [wr_at]; omega, by simp [wr_at]; omega⟩ | exact b2_R _ | exact band_R _ _ | exact bor_R _ _ | exact bshl_R _ _ | exact bshr_R _ _ | exact bxor_R _ _ | exact bs_R (by omega) | decide) (fun h_12 => ?_) (fun h_12 => ?_)
      · refine ev_iinc dX7_learnRounds_34 rfl rfl (by decide) rfl ?_
        refine ev_goto (tgt := 2) dX7_learnRounds_37 (by decide) ?_
        first
          | (have q0 := b2_eq h_12
             refine ih (by omega) _ hS hb76 (fun c2 h1 h2 h3 p q hp hq => ?_)
             by_cases e : c2 = c
             · subst e; exact absurd ⟨h2, h3⟩ q0
             · exact hway c2 (by omega) h2 h3 p q hp hq)
          | (have q0 := b2_ne h_12
             have hS3 : Same sR σ (cpyM τ_19 71 75 0 ((c : Int) * 8 * 8) 64) := by
               refine (hS.tr (hS2.mono subM)).fill (f := fun τ => cpyM τ 71 75 0 ((c : Int) * 8 * 8) 64) (fun c3 hc3 => ?_) rfl
               funext k
               rw [cpyM_at, if_neg (fun z => hc3 (by unfold sR; omega))]
             refine ih (by omega) _ hS3 (fun j => ?_) (fun c2 h1 h2 h3 p q hp hq => ?_)
             · rw [cpyM_at, if_neg (by omega), hS2.at (by unfold sM; omega)]; exact hb76 j
             · unfold wayA
               rw [cpyM_at]
               by_cases e : c2 = c
               · subst e
                 rw [if_pos ⟨rfl, by omega, by omega⟩, show (0 : Int) + (((c2 : Int) * 8 + p) * 8 + q - (c2 : Int) * 8 * 8) = (p : Int) * 8 + q by omega]
                 rw [show τ_19.1 71 ((p : Int) * 8 + q) = mat τ_19 p q from rfl, hm2 p q hp hq, dst_same hS nP]
               · rw [if_neg (by omega), hS2.at (by unfold sM; omega)]
                 exact hway c2 (by omega) h2 h3 p q hp hq)
      · refine ev_aload_n dX7_learnRounds_15 rfl ?_
        refine ev_iload_n dX7_learnRounds_16 rfl ?_
        refine ev_iload_n dX7_learnRounds_17 rfl ?_
        refine ev_iconst dX7_learnRounds_18 ?_
        refine ev_callVP dX7_learnRounds_19 kv_X7_344 (k_spreadMinutes τ P n nr nb nl w wt f t hPO2 hPI2 hBt2 b c 0 hb (by omega) (Or.inl rfl)) rfl rfl (ci := 7) rfl rfl ⟨by decide, by decide⟩ (Nat.le_of_ble_eq_true rfl) ?_
        rintro v_19 τ_19 ⟨rfl, hS2, hn2, hm2⟩
        refine ev_w (fun hR => ?_)
        refine ev_aload_n dX7_learnRounds_22 rfl ?_
        refine ev_getR (r := 72) dX7_learnRounds_23 fl_X7_58 rfl rfl rfl ?_
        refine ev_iload_n dX7_learnRounds_26 rfl ?_
        refine ev_aload_n dX7_learnRounds_27 rfl ?_
        refine ev_getR (r := 69) dX7_learnRounds_28 fl_X7_51 rfl rfl rfl ?_
        refine ev_callVV dX7_learnRounds_31 kv_X7_354 (k_setWays τ_19 c (by omega)) rfl rfl (ci := 4) rfl rfl ⟨by decide, by decide⟩ (Nat.le_of_ble_eq_true rfl) ?_
        refine ev_w (fun hR => ?_)
        refine ev_iinc dX7_learnRounds_34 rfl rfl (by decide) rfl ?_
        refine ev_goto (tgt := 2) dX7_learnRounds_37 (by decide) ?_
        first
          | (have q0 := b2_eq h_12
             refine ih (by omega) _ hS hb76 (fun c2 h1 h2 h3 p q hp hq => ?_)
             by_cases e : c2 = c
             · subst e; exact absurd ⟨h2, h3⟩ q0
             · exact hway c2 (by omega) h2 h3 p q hp hq)
          | (have q0 := b2_ne h_12
             have hS3 : Same sR σ (cpyM τ_19 71 75 0 ((c : Int) * 8 * 8) 64) := by
               refine (hS.tr (hS2.mono subM)).fill (f := fun τ => cpyM τ 71 75 0 ((c : Int) * 8 * 8) 64) (fun c3 hc3 => ?_) rfl
               funext k
               rw [cpyM_at, if_neg (fun z => hc3 (by unfold sR; omega))]
             refine ih (by omega) _ hS3 (fun j => ?_) (fun c2 h1 h2 h3 p q hp hq => ?_)
             · rw [cpyM_at, if_neg (by omega), hS2.at (by unfold sM; omega)]; exact hb76 j
             · unfold wayA
               rw [cpyM_at]
               by_cases e : c2 = c
               · subst e
                 rw [if_pos ⟨rfl, by omega, by omega⟩, show (0 : Int) + (((c2 : Int) * 8 + p) * 8 + q - (c2 : Int) * 8 * 8) = (p : Int) * 8 + q by omega]
                 rw [show τ_19.1 71 ((p : Int) * 8 + q) = mat τ_19 p q from rfl, hm2 p q hp hq, dst_same hS nP]
               · rw [if_neg (by omega), hS2.at (by unfold sM; omega)]
                 exact hway c2 (by omega) h2 h3 p q hp hq)
  refine ev_iconst dX7_learnRounds_0 ?_
  refine ev_istore_n dX7_learnRounds_1 rfl (by decide) rfl ?_
  exact loop1 0 (by omega) σ Same.rf h76 (fun c2 h1 => by omega)
