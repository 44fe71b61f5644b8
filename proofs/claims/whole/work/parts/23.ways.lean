def shortM (σ : Mem) (p q s : Int) : Mem := if s < σ.1 71 (p * 8 + q) then wr σ 71 (p * 8 + q) s else σ
theorem shortM_same {σ : Mem} {p q s : Int} : Same (fun c => c = 71) σ (shortM σ p q s) := by
  unfold shortM
  split
  · exact Same.wr Same.rf rfl
  · exact Same.rf
theorem shortM_at (σ : Mem) (p q s k : Int) : (shortM σ p q s).1 71 k = if k = p * 8 + q then min (σ.1 71 k) s else σ.1 71 k := by
  unfold shortM
  by_cases h : k = p * 8 + q
  · subst h
    rw [if_pos rfl]
    split
    · rw [wr_eq]; omega
    · omega
  · rw [if_neg h]
    split
    · rw [wr_nek σ h]
    · rfl
theorem k_shorten (σ : Mem) (p q s : Int) (hp0 : 0 ≤ p) (hp1 : p < 8) (hq0 : 0 ≤ q) (hq1 : q < 8) (hs : inR s) : Con yX6_shorten cX6_shorten 4 none 0 0 [.ref 69, .int (iI p), .int (iI q), .int (iI s)] σ (AnsV (shortM σ p q s)) := by
  refine con_of (by decide) rfl (Nat.le_of_ble_eq_true rfl) (ok_V rfl) ?_
  refine ev_w (fun hR => ?_)
  have hR0 := hR
  refine ev_iload_n dX6_shorten_0 rfl ?_
  refine ev_aload_n dX6_shorten_1 rfl ?_
  refine ev_getR (r := 71) dX6_shorten_2 fl_X6_15 rfl rfl rfl ?_
  refine ev_iload_n dX6_shorten_5 rfl ?_
  refine ev_bipush dX6_shorten_6 (by decide) ?_
  refine ev_imul dX6_shorten_8 ?_
  refine ev_iload_n dX6_shorten_9 rfl ?_
  refine ev_iadd dX6_shorten_10 ?_
  refine ev_iaload dX6_shorten_11 rfl (by first | omega | (simp [wr_at]; omega) | (simp [wr_at, *]; omega)) (by first | omega | (simp [wr_at]; omega) | (simp [wr_at, *]; omega)) (by decide) ?_
  refine ev_icmp_ge (tgt := 27) dX6_shorten_12 (by decide) (by first | exact hR.1 _ _ | exact hR0.1 _ _ | assumption | exact ⟨by omega, by omega⟩ | exact ⟨by simp [wr_at]; omega, by simp [wr_at]; omega⟩ | exact b2_R _ | exact band_R _ _ | exact bor_R _ _ | exact bshl_R _ _ | exact bshr_R _ _ | exact bxor_R _ _ | exact bs_R (by omega) | decide) (by first | exact hR.1 _ _ | exact hR0.1 _ _ | assumption | exact ⟨by omega, by omega⟩ | exact ⟨by simp [wr_at]; omega, by simp [wr_at]; omega⟩ | exact b2_R _ | exact band_R _ _ | exact bor_R _ _ | exact bshl_R _ _ | exact bshr_R _ _ | exact bxor_R _ _ | exact bs_R (by omega) | decide) (fun h_12 => ?_) (fun h_12 => ?_)
  · refine ev_return dX6_shorten_27 ?_
    first
      | exact ⟨rfl, by rw [shortM, if_neg (by omega)]⟩
      | exact ⟨rfl, by rw [shortM, if_pos (by omega)]⟩
  · refine ev_aload_n dX6_shorten_15 rfl ?_
    refine ev_getR (r := 71) dX6_shorten_16 fl_X6_15 rfl rfl rfl ?_
    refine ev_iload_n dX6_shorten_19 rfl ?_
    refine ev_bipush dX6_shorten_20 (by decide) ?_
    refine ev_imul dX6_shorten_22 ?_
    refine ev_iload_n dX6_shorten_23 rfl ?_
    refine ev_iadd dX6_shorten_24 ?_
    refine ev_iload_n dX6_shorten_25 rfl ?_
    refine ev_iastore dX6_shorten_26 rfl (by first | omega | (simp [wr_at]; omega) | (simp [wr_at, *]; omega)) (by first | omega | (simp [wr_at]; omega) | (simp [wr_at, *]; omega)) (by decide) (by first | exact hR.1 _ _ | exact hR0.1 _ _ | assumption | exact ⟨by omega, by omega⟩ | exact ⟨by simp [wr_at]; omega, by simp [wr_at]; omega⟩ | exact b2_R _ | exact band_R _ _ | exact bor_R _ _ | exact bshl_R _ _ | exact bshr_R _ _ | exact bxor_R _ _ | exact bs_R (by omega) | decide) ?_
    refine ev_w (fun hR => ?_)
    refine ev_return dX6_shorten_27 ?_
    first
      | exact ⟨rfl, by rw [shortM, if_neg (by omega)]⟩
      | exact ⟨rfl, by rw [shortM, if_pos (by omega)]⟩
theorem k_between (σ : Mem) (p q : Int) (hp0 : 0 ≤ p) (hp1 : p < 8) (hq0 : 0 ≤ q) (hq1 : q < 8) : Con yX6_between cX6_between 3 (some .int) 0 0 [.ref 69, .int (iI p), .int (iI q)] σ (AnsI (σ.1 71 (p * 8 + q)) σ) := by
  refine con_of (by decide) rfl (Nat.le_of_ble_eq_true rfl) (ok_I rfl) ?_
  refine ev_w (fun hR => ?_)
  have hR0 := hR
  refine ev_aload_n dX6_between_0 rfl ?_
  refine ev_getR (r := 71) dX6_between_1 fl_X6_15 rfl rfl rfl ?_
  refine ev_iload_n dX6_between_4 rfl ?_
  refine ev_bipush dX6_between_5 (by decide) ?_
  refine ev_imul dX6_between_7 ?_
  refine ev_iload_n dX6_between_8 rfl ?_
  refine ev_iadd dX6_between_9 ?_
  refine ev_iaload dX6_between_10 rfl (by first | omega | (simp [wr_at]; omega) | (simp [wr_at, *]; omega)) (by first | omega | (simp [wr_at]; omega) | (simp [wr_at, *]; omega)) (by decide) ?_
  refine ev_ireturn dX6_between_11 ?_
  exact ⟨rfl, rfl⟩
/-- the matrix of the least sums -/
def mat (σ : Mem) (p q : Nat) : Int := σ.1 71 ((p : Int) * 8 + q)
/-- one more pole to go by -/
def fw1 (D : Nat → Nat → Int) (k p q : Nat) : Int := min (D p q) (D p k + D k q)
def okD (n : Nat) (D : Nat → Nat → Int) : Prop := ∀ p q, p < n → q < n → 0 ≤ D p q ∧ D p q ≤ 1000000
theorem fw1_ok {n k : Nat} {D : Nat → Nat → Int} (h : okD n D) (hk : k < n) : okD n (fw1 D k) := by
  intro p q hp hq
  have h1 := h p q hp hq
  have h2 := h p k hp hk
  have h3 := h k q hk hq
  unfold fw1
  omega
/-- behind the first i rows, and in row i the first j, of the turn by k -/
def midD (D : Nat → Nat → Int) (k i j : Nat) (p q : Nat) : Int := if p < i ∨ (p = i ∧ q < j) then fw1 D k p q else D p q
theorem k_spreadBy (σ : Mem) (n k : Nat) (hn : σ.1 69 2 = n) (hn8 : n ≤ 8) (hk : k < n) (hD : okD n (mat σ)) (h0 : mat σ k k = 0) : Con yX6_spreadBy cX6_spreadBy 5 none 1 23 [.ref 69, .int (iI k)] σ (AnsVP (fun τ => Same (fun c => c = 71) σ τ ∧ ∀ p q, p < n → q < n → mat τ p q = fw1 (mat σ) k p q)) := by
  refine con_of (by decide) rfl (Nat.le_of_ble_eq_true rfl) (ok_VP rfl) ?_
  refine ev_w (fun hR => ?_)
  have hR0 := hR
  have mid_k : ∀ i j, i < n → midD (mat σ) k i j k j = mat σ k j := by
    intro i j hi
    unfold midD fw1
    split
    · rw [h0]; omega
    · rfl
  have mid_c : ∀ i j, i < n → midD (mat σ) k i j i k = mat σ i k := by
    intro i j hi
    unfold midD fw1
    split
    · rw [h0]; omega
    · rfl
  have step : ∀ i j, i < n → j < n → ∀ τ : Mem, (∀ p q, p < n → q < n → mat τ p q = midD (mat σ) k i j p q) → ∀ p q, p < n → q < n → mat (shortM τ i j (mat σ i k + mat τ k j)) p q = midD (mat σ) k i (j + 1) p q := by
    intro i j hi hj τ hτ p q hp hq
    have e1 := hτ p q hp hq
    have e2 : mat τ k j = mat σ k j := by rw [hτ k j hk hj, mid_k i j hi]
    rw [e2]
    unfold mat at e1 ⊢
    rw [shortM_at]
    by_cases h : p = i ∧ q = j
    · obtain ⟨rfl, rfl⟩ := h
      rw [if_pos rfl, e1]
      have m1 : midD (mat σ) k p q p q = mat σ p q := by unfold midD; rw [if_neg (by omega)]
      have m2 : midD (mat σ) k p (q + 1) p q = fw1 (mat σ) k p q := by unfold midD; rw [if_pos (by omega)]
      unfold mat at m1 m2
      rw [m1, m2]; rfl
    · rw [if_neg (by omega), e1]
      unfold midD
      by_cases c1 : p < i ∨ p = i ∧ q < j
      · rw [if_pos c1, if_pos (by omega)]
      · rw [if_neg c1, if_neg (by omega)]
  have loop : ∀ i : Nat, i ≤ n → ∀ (τ : Mem) (w1 w2 : Option Value), (Same (fun c => c = 71) σ τ ∧ (∀ p q, p < n → q < n → mat τ p q = midD (mat σ) k i 0 p q)) → Ev RX6 cX6_spreadBy 5 1 23 (AnsVP (fun τ => Same (fun c => c = 71) σ τ ∧ ∀ p q, p < n → q < n → mat τ p q = fw1 (mat σ) k p q)) 2 [some (.ref 69), some (.int (iI k)), some (.int (iI (i : Nat))), w1, w2] [] τ := by
    refine for_up n (fun i hi ih τ w1 w2 hI => ?_)
    refine ev_w (fun hR => ?_)
    have hn2 : τ.1 69 2 = n := by rw [hI.1.at (by decide)]; exact hn
    have inner : i < n → mat σ i k < 1000000 → ∀ j : Nat, j ≤ n → ∀ τ : Mem, (Same (fun c => c = 71) σ τ ∧ (∀ p q, p < n → q < n → mat τ p q = midD (mat σ) k i j p q)) → Ev RX6 cX6_spreadBy 5 1 23 (AnsVP (fun τ => Same (fun c => c = 71) σ τ ∧ ∀ p q, p < n → q < n → mat τ p q = fw1 (mat σ) k p q)) 25 [some (.ref 69), some (.int (iI k)), some (.int (iI (i : Nat))), some (.int (iI (mat σ i k))), some (.int (iI (j : Nat)))] [] τ := by
      intro hin hth
      refine for_up n (fun j hj ihj τ hI => ?_)
      refine ev_w (fun hR => ?_)
      have hn2 : τ.1 69 2 = n := by rw [hI.1.at (by decide)]; exact hn
      have d1 := hD i k hin hk
      refine ev_iload dX6_spreadBy_25 rfl ?_
      refine ev_aload_n dX6_spreadBy_27 rfl ?_
      refine ev_getI (kz := 2) dX6_spreadBy_28 fl_X6_18 rfl rfl rfl ?_
      rw [hn2]
      refine ev_icmp_ge (tgt := 67) dX6_spreadBy_31 (by decide) (by first | exact hR.1 _ _ | exact hR0.1 _ _ | assumption | exact ⟨by omega, by omega⟩ | exact ⟨by simp [wr_at]; omega, by simp [wr_at]; omega⟩ | exact b2_R _ | exact band_R _ _ | exact bor_R _ _ | exact bshl_R _ _ | exact bshr_R _ _ | exact bxor_R _ _ | exact bs_R (by omega) | decide) (by first | exact hR.1 _ _ | exact hR0.1 _ _ | assumption | exact ⟨by omega, by omega⟩ | exact ⟨by simp [wr_at]; omega, by simp [wr_at]; omega⟩ | exact b2_R _ | exact band_R _ _ | exact bor_R _ _ | exact bshl_R _ _ | exact bshr_R _ _ | exact bxor_R _ _ | exact bs_R (by omega) | decide) (fun h_31 => ?_) (fun h_31 => ?_)
      · refine ev_iinc dX6_spreadBy_67 rfl rfl (by decide) rfl ?_
        refine ev_goto (tgt := 2) dX6_spreadBy_70 (by decide) ?_
        first
          | omega
          | (refine ih (by omega) _ _ _ ⟨hI.1, fun p q hp hq => ?_⟩
             rw [hI.2 p q hp hq]
             unfold midD
             by_cases c1 : p < i ∨ p = i ∧ q < j
             · rw [if_pos c1, if_pos (by omega)]
             · rw [if_neg c1, if_neg (by omega)])
      · refine ev_iload_n dX6_spreadBy_34 rfl ?_
        refine ev_ldc (z := 1000000) dX6_spreadBy_35 kc_X6_25 (by decide) ?_
        refine ev_icmp_ge (tgt := 67) dX6_spreadBy_37 (by decide) (by first | exact hR.1 _ _ | exact hR0.1 _ _ | assumption | exact ⟨by omega, by omega⟩ | exact ⟨by simp [wr_at]; omega, by simp [wr_at]; omega⟩ | exact b2_R _ | exact band_R _ _ | exact bor_R _ _ | exact bshl_R _ _ | exact bshr_R _ _ | exact bxor_R _ _ | exact bs_R (by omega) | decide) (by first | exact hR.1 _ _ | exact hR0.1 _ _ | assumption | exact ⟨by omega, by omega⟩ | exact ⟨by simp [wr_at]; omega, by simp [wr_at]; omega⟩ | exact b2_R _ | exact band_R _ _ | exact bor_R _ _ | exact bshl_R _ _ | exact bshr_R _ _ | exact bxor_R _ _ | exact bs_R (by omega) | decide) (fun h_37 => ?_) (fun h_37 => ?_)
        · refine ev_iinc dX6_spreadBy_67 rfl rfl (by decide) rfl ?_
          refine ev_goto (tgt := 2) dX6_spreadBy_70 (by decide) ?_
          first
            | omega
            | (refine ih (by omega) _ _ _ ⟨hI.1, fun p q hp hq => ?_⟩
               rw [hI.2 p q hp hq]
               unfold midD
               by_cases c1 : p < i ∨ p = i ∧ q < j
               · rw [if_pos c1, if_pos (by omega)]
               · rw [if_neg c1, if_neg (by omega)])
        · refine ev_aload_n dX6_spreadBy_40 rfl ?_
          refine ev_iload_n dX6_spreadBy_41 rfl ?_
          refine ev_iload dX6_spreadBy_42 rfl ?_
          refine ev_iload_n dX6_spreadBy_44 rfl ?_
          refine ev_aload_n dX6_spreadBy_45 rfl ?_
          refine ev_getR (r := 71) dX6_spreadBy_46 fl_X6_15 rfl rfl rfl ?_
          refine ev_iload_n dX6_spreadBy_49 rfl ?_
          refine ev_bipush dX6_spreadBy_50 (by decide) ?_
          refine ev_imul dX6_spreadBy_52 ?_
          refine ev_iload dX6_spreadBy_53 rfl ?_
          refine ev_iadd dX6_spreadBy_55 ?_
          refine ev_iaload dX6_spreadBy_56 rfl (by first | omega | (simp [wr_at]; omega) | (simp [wr_at, *]; omega)) (by first | omega | (simp [wr_at]; omega) | (simp [wr_at, *]; omega)) (by decide) ?_
          have e2 : τ.1 71 ((k : Int) * 8 + j) = mat τ k j := rfl
          have e3 : mat τ k j = mat σ k j := by rw [hI.2 k j hk (by omega), mid_k i j hin]
          have d2 := hD k j hk (by omega)
          rw [e2]
          refine ev_iadd dX6_spreadBy_57 ?_
          refine ev_callVV dX6_spreadBy_58 kv_X6_41 (k_shorten τ i j (mat σ i k + mat τ k j) (by omega) (by omega) (by omega) (by omega) (by rw [e3]; exact ⟨by omega, by omega⟩)) rfl rfl (ci := 6) rfl rfl ⟨by decide, by decide⟩ (Nat.le_of_ble_eq_true rfl) ?_
          refine ev_w (fun hR => ?_)
          refine ev_iinc dX6_spreadBy_61 rfl rfl (by decide) rfl ?_
          refine ev_goto (tgt := 25) dX6_spreadBy_64 (by decide) ?_
          refine ihj (by omega) _ ⟨hI.1.tr shortM_same, step i j hin (by omega) τ hI.2⟩
    refine ev_iload_n dX6_spreadBy_2 rfl ?_
    refine ev_aload_n dX6_spreadBy_3 rfl ?_
    refine ev_getI (kz := 2) dX6_spreadBy_4 fl_X6_18 rfl rfl rfl ?_
    rw [hn2]
    refine ev_icmp_ge (tgt := 73) dX6_spreadBy_7 (by decide) (by first | exact hR.1 _ _ | exact hR0.1 _ _ | assumption | exact ⟨by omega, by omega⟩ | exact ⟨by simp [wr_at]; omega, by simp [wr_at]; omega⟩ | exact b2_R _ | exact band_R _ _ | exact bor_R _ _ | exact bshl_R _ _ | exact bshr_R _ _ | exact bxor_R _ _ | exact bs_R (by omega) | decide) (by first | exact hR.1 _ _ | exact hR0.1 _ _ | assumption | exact ⟨by omega, by omega⟩ | exact ⟨by simp [wr_at]; omega, by simp [wr_at]; omega⟩ | exact b2_R _ | exact band_R _ _ | exact bor_R _ _ | exact bshl_R _ _ | exact bshr_R _ _ | exact bxor_R _ _ | exact bs_R (by omega) | decide) (fun h_7 => ?_) (fun h_7 => ?_)
    · refine ev_return dX6_spreadBy_73 ?_
      obtain rfl : i = n := by omega
      refine ⟨rfl, hI.1, fun p q hp hq => ?_⟩
      rw [hI.2 p q hp hq, midD, if_pos (by omega)]
    · refine ev_aload_n dX6_spreadBy_10 rfl ?_
      refine ev_getR (r := 71) dX6_spreadBy_11 fl_X6_15 rfl rfl rfl ?_
      refine ev_iload_n dX6_spreadBy_14 rfl ?_
      refine ev_bipush dX6_spreadBy_15 (by decide) ?_
      refine ev_imul dX6_spreadBy_17 ?_
      refine ev_iload_n dX6_spreadBy_18 rfl ?_
      refine ev_iadd dX6_spreadBy_19 ?_
      refine ev_iaload dX6_spreadBy_20 rfl (by first | omega | (simp [wr_at]; omega) | (simp [wr_at, *]; omega)) (by first | omega | (simp [wr_at]; omega) | (simp [wr_at, *]; omega)) (by decide) ?_
      rw [show τ.1 71 ((i : Int) * 8 + k) = mat τ i k from rfl, hI.2 i k (by omega) hk, mid_c i 0 (by omega)]
      refine ev_istore_n dX6_spreadBy_21 rfl (by decide) rfl ?_
      refine ev_iconst dX6_spreadBy_22 ?_
      refine ev_istore dX6_spreadBy_23 rfl (by decide) rfl ?_
      by_cases hth : mat σ i k < 1000000
      · exact inner (by omega) hth 0 (by omega) τ hI
      · have d1 := hD i k (by omega) hk
        refine ev_iload dX6_spreadBy_25 rfl ?_
        refine ev_aload_n dX6_spreadBy_27 rfl ?_
        refine ev_getI (kz := 2) dX6_spreadBy_28 fl_X6_18 rfl rfl rfl ?_
        rw [hn2]
        refine ev_icmp_ge (tgt := 67) dX6_spreadBy_31 (by decide) (by first | exact hR.1 _ _ | exact hR0.1 _ _ | assumption | exact ⟨by omega, by omega⟩ | exact ⟨by simp [wr_at]; omega, by simp [wr_at]; omega⟩ | exact b2_R _ | exact band_R _ _ | exact bor_R _ _ | exact bshl_R _ _ | exact bshr_R _ _ | exact bxor_R _ _ | exact bs_R (by omega) | decide) (by first | exact hR.1 _ _ | exact hR0.1 _ _ | assumption | exact ⟨by omega, by omega⟩ | exact ⟨by simp [wr_at]; omega, by simp [wr_at]; omega⟩ | exact b2_R _ | exact band_R _ _ | exact bor_R _ _ | exact bshl_R _ _ | exact bshr_R _ _ | exact bxor_R _ _ | exact bs_R (by omega) | decide) (fun h_31 => ?_) (fun h_31 => ?_)
        · refine ev_iinc dX6_spreadBy_67 rfl rfl (by decide) rfl ?_
          refine ev_goto (tgt := 2) dX6_spreadBy_70 (by decide) ?_
          refine ih (by omega) _ _ _ ⟨hI.1, fun p q hp hq => ?_⟩
          have d2 := hD p q hp hq
          have d3 := hD k q hk hq
          rw [hI.2 p q hp hq]
          unfold midD fw1
          by_cases c1 : p < i
          · rw [if_pos (by omega), if_pos (by omega)]
          · rw [if_neg (by omega)]
            by_cases c2 : p = i
            · subst c2
              rw [if_pos (by omega)]; omega
            · rw [if_neg (by omega)]
        · refine ev_iload_n dX6_spreadBy_34 rfl ?_
          refine ev_ldc (z := 1000000) dX6_spreadBy_35 kc_X6_25 (by decide) ?_
          refine ev_icmp_ge (tgt := 67) dX6_spreadBy_37 (by decide) (by first | exact hR.1 _ _ | exact hR0.1 _ _ | assumption | exact ⟨by omega, by omega⟩ | exact ⟨by simp [wr_at]; omega, by simp [wr_at]; omega⟩ | exact b2_R _ | exact band_R _ _ | exact bor_R _ _ | exact bshl_R _ _ | exact bshr_R _ _ | exact bxor_R _ _ | exact bs_R (by omega) | decide) (by first | exact hR.1 _ _ | exact hR0.1 _ _ | assumption | exact ⟨by omega, by omega⟩ | exact ⟨by simp [wr_at]; omega, by simp [wr_at]; omega⟩ | exact b2_R _ | exact band_R _ _ | exact bor_R _ _ | exact bshl_R _ _ | exact bshr_R _ _ | exact bxor_R _ _ | exact bs_R (by omega) | decide) (fun h_37 => ?_) (fun h_37 => ?_)
          · refine ev_iinc dX6_spreadBy_67 rfl rfl (by decide) rfl ?_
            refine ev_goto (tgt := 2) dX6_spreadBy_70 (by decide) ?_
            refine ih (by omega) _ _ _ ⟨hI.1, fun p q hp hq => ?_⟩
            have d2 := hD p q hp hq
            have d3 := hD k q hk hq
            rw [hI.2 p q hp hq]
            unfold midD fw1
            by_cases c1 : p < i
            · rw [if_pos (by omega), if_pos (by omega)]
            · rw [if_neg (by omega)]
              by_cases c2 : p = i
              · subst c2
                rw [if_pos (by omega)]; omega
              · rw [if_neg (by omega)]
          · omega
  refine ev_iconst dX6_spreadBy_0 ?_
  refine ev_istore_n dX6_spreadBy_1 rfl (by decide) rfl ?_
  exact loop 0 (by omega) σ _ _ ⟨Same.rf, fun p q hp hq => by rw [midD, if_neg (by omega)]⟩
