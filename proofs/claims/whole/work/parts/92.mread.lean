/-! the reference's reading -/
def TX (μ : Mem) (c : Nat → Int) (L : Nat) : Prop := μ.1 79 36 = L ∧ L ≤ 500 ∧ ∀ j : Nat, j < L → 0 ≤ μ.1 107 j ∧ μ.1 107 j ≤ 255 ∧ sg (μ.1 107 j) = c j
theorem sg_d {u : Int} (h0 : 0 ≤ u) (h1 : u ≤ 255) {a b : Int} (ha : 0 ≤ a) (hb : b ≤ 127) : (a ≤ sg u ∧ sg u ≤ b) ↔ (a ≤ u ∧ u ≤ b) := by
  unfold sg
  split <;> omega
theorem sg_e {u : Int} (h0 : 0 ≤ u) (h1 : u ≤ 255) {a : Int} (ha : 0 ≤ a) (hb : a ≤ 127) : sg u = a ↔ u = a := by
  unfold sg
  split <;> omega
theorem sg_id {u : Int} (h1 : u ≤ 127) : sg u = u := by
  unfold sg
  rw [if_pos (by omega)]
def herV (μ : Mem) (c : Nat → Int) (L i : Nat) : Int := if sk c L i < L then μ.1 107 (sk c L i : Nat) else -1
theorem m_here (μ : Mem) (c : Nat → Int) (L i : Nat) (hT : TX μ c L) (hi : μ.1 79 38 = i) (hiL : i ≤ L)  : Con yX8_here cX8_here 1 (some .int) 0 0 [.ref 79] μ (AnsI (herV μ c L i) (wr μ 79 38 (sk c L i : Nat))) := by
  refine con_of (by decide) rfl (Nat.le_of_ble_eq_true rfl) (ok_I rfl) ?_
  refine ev_w (fun hR => ?_)
  have hR0 := hR
  obtain ⟨hL, hL5, htx⟩ := hT
  have hs2 : sk c L i ≤ L := scan_le hiL
  have loop : ∀ j : Nat, j ≤ L → sk c L j = sk c L i → ∀ ν, ν = wr μ 79 38 (j : Nat) → Ev RX8 cX8_here 1 0 0 (AnsI (herV μ c L i) (wr μ 79 38 (sk c L i : Nat))) 0 [some (.ref 79)] [] ν := by
    refine for_up L (fun j hj ih => ?_)
    intro hsk ν hν
    subst hν
    refine ev_w (fun hR => ?_)
    have e1 : (wr μ 79 38 ((j : Nat) : Int)).1 79 38 = (j : Int) := wr_eq _ _ _ _
    have e2 : (wr μ 79 38 ((j : Nat) : Int)).1 79 36 = (L : Int) := by rw [wr_nek _ (by decide)]; exact hL
    have e3 : ∀ k, (wr μ 79 38 ((j : Nat) : Int)).1 107 k = μ.1 107 k := fun k => wr_nec _ (by decide)
    refine ev_aload_n dX8_here_0 rfl ?_
    refine ev_getI (kz := 38) dX8_here_1 fl_X8_211 rfl rfl rfl ?_
    rw [e1]
    refine ev_aload_n dX8_here_4 rfl ?_
    refine ev_getI (kz := 36) dX8_here_5 fl_X8_205 rfl rfl rfl ?_
    rw [e2]
    refine ev_icmp_ge (tgt := 38) dX8_here_8 (by decide) (by first | exact hR.1 _ _ | exact hR0.1 _ _ | assumption | exact ⟨by omega, by omega⟩ | exact ⟨by simp [wr_at]; omega, by simp [wr_at]; omega⟩ | exact b2_R _ | exact bC_R _ | exact band_R _ _ | exact bor_R _ _ | exact bshl_R _ _ | exact bshr_R _ _ | exact bxor_R _ _ | exact bs_R (by omega) | decide) (by first | exact hR.1 _ _ | exact hR0.1 _ _ | assumption | exact ⟨by omega, by omega⟩ | exact ⟨by simp [wr_at]; omega, by simp [wr_at]; omega⟩ | exact b2_R _ | exact bC_R _ | exact band_R _ _ | exact bor_R _ _ | exact bshl_R _ _ | exact bshr_R _ _ | exact bxor_R _ _ | exact bs_R (by omega) | decide) (fun h_8 => ?_) (fun h_8 => ?_)
    · have hst : sk c L j = j := by
        refine scan_stop ?_
        first
          | exact Or.inl (by omega)
          | (refine Or.inr (decide_eq_false (fun z => h_22 ?_))
             have t := htx j (by omega)
             rw [← t.2.2] at z
             exact (sg_e t.1 t.2.1 (by decide) (by decide)).mp z)
      rw [hsk] at hst
      refine ev_aload_n dX8_here_38 rfl ?_
      refine ev_getI (kz := 38) dX8_here_39 fl_X8_211 rfl rfl rfl ?_
      rw [e1]
      refine ev_aload_n dX8_here_42 rfl ?_
      refine ev_getI (kz := 36) dX8_here_43 fl_X8_205 rfl rfl rfl ?_
      rw [e2]
      refine ev_icmp_ge (tgt := 61) dX8_here_46 (by decide) (by first | exact hR.1 _ _ | exact hR0.1 _ _ | assumption | exact ⟨by omega, by omega⟩ | exact ⟨by simp [wr_at]; omega, by simp [wr_at]; omega⟩ | exact b2_R _ | exact bC_R _ | exact band_R _ _ | exact bor_R _ _ | exact bshl_R _ _ | exact bshr_R _ _ | exact bxor_R _ _ | exact bs_R (by omega) | decide) (by first | exact hR.1 _ _ | exact hR0.1 _ _ | assumption | exact ⟨by omega, by omega⟩ | exact ⟨by simp [wr_at]; omega, by simp [wr_at]; omega⟩ | exact b2_R _ | exact bC_R _ | exact band_R _ _ | exact bor_R _ _ | exact bshl_R _ _ | exact bshr_R _ _ | exact bxor_R _ _ | exact bs_R (by omega) | decide) (fun h_46 => ?_) (fun h_46 => ?_)
      · refine ev_iconst dX8_here_61 ?_
        refine ev_ireturn dX8_here_62 ?_
        refine ⟨?_, by rw [hst]⟩
        unfold herV
        rw [hst]
        first
          | (exfalso; omega)
          | (rw [if_pos (by omega)])
          | (rw [if_neg (by omega)])
      · refine ev_aload_n dX8_here_49 rfl ?_
        refine ev_getR (r := 107) dX8_here_50 fl_X8_92 rfl rfl rfl ?_
        refine ev_aload_n dX8_here_53 rfl ?_
        refine ev_getI (kz := 38) dX8_here_54 fl_X8_211 rfl rfl rfl ?_
        rw [e1]
        refine ev_iaload dX8_here_57 rfl (by first | omega | (simp [wr_at]; omega) | (simp [wr_at, *]; omega)) (by first | omega | (simp [wr_at]; omega) | (simp [wr_at, *]; omega)) (by decide) ?_
        rw [e3]
        refine ev_goto (tgt := 62) dX8_here_58 (by decide) ?_
        refine ev_ireturn dX8_here_62 ?_
        refine ⟨?_, by rw [hst]⟩
        unfold herV
        rw [hst]
        first
          | (exfalso; omega)
          | (rw [if_pos (by omega)])
          | (rw [if_neg (by omega)])
    · refine ev_aload_n dX8_here_11 rfl ?_
      refine ev_getR (r := 107) dX8_here_12 fl_X8_92 rfl rfl rfl ?_
      refine ev_aload_n dX8_here_15 rfl ?_
      refine ev_getI (kz := 38) dX8_here_16 fl_X8_211 rfl rfl rfl ?_
      rw [e1]
      refine ev_iaload dX8_here_19 rfl (by first | omega | (simp [wr_at]; omega) | (simp [wr_at, *]; omega)) (by first | omega | (simp [wr_at]; omega) | (simp [wr_at, *]; omega)) (by decide) ?_
      rw [e3]
      refine ev_bipush dX8_here_20 (by decide) ?_
      refine ev_icmp_ne (tgt := 38) dX8_here_22 (by decide) (by first | exact hR.1 _ _ | exact hR0.1 _ _ | assumption | exact ⟨by omega, by omega⟩ | exact ⟨by simp [wr_at]; omega, by simp [wr_at]; omega⟩ | exact b2_R _ | exact bC_R _ | exact band_R _ _ | exact bor_R _ _ | exact bshl_R _ _ | exact bshr_R _ _ | exact bxor_R _ _ | exact bs_R (by omega) | decide) (by first | exact hR.1 _ _ | exact hR0.1 _ _ | assumption | exact ⟨by omega, by omega⟩ | exact ⟨by simp [wr_at]; omega, by simp [wr_at]; omega⟩ | exact b2_R _ | exact bC_R _ | exact band_R _ _ | exact bor_R _ _ | exact bshl_R _ _ | exact bshr_R _ _ | exact bxor_R _ _ | exact bs_R (by omega) | decide) (fun h_22 => ?_) (fun h_22 => ?_)
      · have hst : sk c L j = j := by
          refine scan_stop ?_
          first
            | exact Or.inl (by omega)
            | (refine Or.inr (decide_eq_false (fun z => h_22 ?_))
               have t := htx j (by omega)
               rw [← t.2.2] at z
               exact (sg_e t.1 t.2.1 (by decide) (by decide)).mp z)
        rw [hsk] at hst
        refine ev_aload_n dX8_here_38 rfl ?_
        refine ev_getI (kz := 38) dX8_here_39 fl_X8_211 rfl rfl rfl ?_
        rw [e1]
        refine ev_aload_n dX8_here_42 rfl ?_
        refine ev_getI (kz := 36) dX8_here_43 fl_X8_205 rfl rfl rfl ?_
        rw [e2]
        refine ev_icmp_ge (tgt := 61) dX8_here_46 (by decide) (by first | exact hR.1 _ _ | exact hR0.1 _ _ | assumption | exact ⟨by omega, by omega⟩ | exact ⟨by simp [wr_at]; omega, by simp [wr_at]; omega⟩ | exact b2_R _ | exact bC_R _ | exact band_R _ _ | exact bor_R _ _ | exact bshl_R _ _ | exact bshr_R _ _ | exact bxor_R _ _ | exact bs_R (by omega) | decide) (by first | exact hR.1 _ _ | exact hR0.1 _ _ | assumption | exact ⟨by omega, by omega⟩ | exact ⟨by simp [wr_at]; omega, by simp [wr_at]; omega⟩ | exact b2_R _ | exact bC_R _ | exact band_R _ _ | exact bor_R _ _ | exact bshl_R _ _ | exact bshr_R _ _ | exact bxor_R _ _ | exact bs_R (by omega) | decide) (fun h_46 => ?_) (fun h_46 => ?_)
        · refine ev_iconst dX8_here_61 ?_
          refine ev_ireturn dX8_here_62 ?_
          refine ⟨?_, by rw [hst]⟩
          unfold herV
          rw [hst]
          first
            | (exfalso; omega)
            | (rw [if_pos (by omega)])
            | (rw [if_neg (by omega)])
        · refine ev_aload_n dX8_here_49 rfl ?_
          refine ev_getR (r := 107) dX8_here_50 fl_X8_92 rfl rfl rfl ?_
          refine ev_aload_n dX8_here_53 rfl ?_
          refine ev_getI (kz := 38) dX8_here_54 fl_X8_211 rfl rfl rfl ?_
          rw [e1]
          refine ev_iaload dX8_here_57 rfl (by first | omega | (simp [wr_at]; omega) | (simp [wr_at, *]; omega)) (by first | omega | (simp [wr_at]; omega) | (simp [wr_at, *]; omega)) (by decide) ?_
          rw [e3]
          refine ev_goto (tgt := 62) dX8_here_58 (by decide) ?_
          refine ev_ireturn dX8_here_62 ?_
          refine ⟨?_, by rw [hst]⟩
          unfold herV
          rw [hst]
          first
            | (exfalso; omega)
            | (rw [if_pos (by omega)])
            | (rw [if_neg (by omega)])
      · refine ev_aload_n dX8_here_25 rfl ?_
        refine ev_dup dX8_here_26 rfl ?_
        refine ev_getI (kz := 38) dX8_here_27 fl_X8_211 rfl rfl rfl ?_
        rw [e1]
        refine ev_iconst dX8_here_30 ?_
        refine ev_iadd dX8_here_31 ?_
        refine ev_putI (kz := 38) dX8_here_32 fp_X8_211 rfl rfl rfl (by first | exact hR.1 _ _ | exact hR0.1 _ _ | assumption | exact ⟨by omega, by omega⟩ | exact ⟨by simp [wr_at]; omega, by simp [wr_at]; omega⟩ | exact b2_R _ | exact bC_R _ | exact band_R _ _ | exact bor_R _ _ | exact bshl_R _ _ | exact bshr_R _ _ | exact bxor_R _ _ | exact bs_R (by omega) | decide) ?_
        refine ev_w (fun hR => ?_)
        refine ev_goto (tgt := 0) dX8_here_35 (by decide) ?_
        refine ih (by omega) ?_ _ ?_
        · rw [← hsk]
          refine (scan_go (by omega) (decide_eq_true ?_)).symm
          have t := htx j (by omega)
          rw [← t.2.2]
          exact (sg_e t.1 t.2.1 (by decide) (by decide)).mpr h_22
        · exact wr_wr _ _ _ _ _
  have q := loop i hiL rfl μ (wr_id hi).symm
  exact q
theorem m_fails (μ : Mem) (z w : Int) (hz : inR z) (hw : inR w) : Con yX8_fails cX8_fails 3 (some .int) 0 0 [.ref 79, .int (iI z), .int (iI w)] μ (AnsI z (wr μ 79 37 w)) := by
  refine con_of (by decide) rfl (Nat.le_of_ble_eq_true rfl) (ok_I rfl) ?_
  refine ev_w (fun hR => ?_)
  have hR0 := hR
  refine ev_aload_n dX8_fails_0 rfl ?_
  refine ev_iload_n dX8_fails_1 rfl ?_
  refine ev_putI (kz := 37) dX8_fails_2 fp_X8_95 rfl rfl rfl (by first | exact hR.1 _ _ | exact hR0.1 _ _ | assumption | exact ⟨by omega, by omega⟩ | exact ⟨by simp [wr_at]; omega, by simp [wr_at]; omega⟩ | exact b2_R _ | exact bC_R _ | exact band_R _ _ | exact bor_R _ _ | exact bshl_R _ _ | exact bshr_R _ _ | exact bxor_R _ _ | exact bs_R (by omega) | decide) ?_
  refine ev_w (fun hR => ?_)
  refine ev_iload_n dX8_fails_5 rfl ?_
  refine ev_ireturn dX8_fails_6 ?_
  exact ⟨rfl, rfl⟩
theorem m_code (μ : Mem) (a b c : Int) (ha : inR a) (hb : inR b) (hc : inR c) : Con yX8_code cX8_code 3 (some .long) 0 0 [.int (iI a), .int (iI b), .int (iI c)] μ (AnsL (27 * (27 * (a - 96) + b - 96) + c - 96) μ) := by
  refine con_of (by decide) rfl (Nat.le_of_ble_eq_true rfl) (ok_L rfl) ?_
  refine ev_w (fun hR => ?_)
  have hR0 := hR
  refine ev_ldc2 (z := 27) dX8_code_0 kl_X8_233 (by decide) ?_
  refine ev_ldc2 (z := 27) dX8_code_3 kl_X8_233 (by decide) ?_
  refine ev_iload_n dX8_code_6 rfl ?_
  refine ev_i2l dX8_code_7 (by first | exact hR.1 _ _ | exact hR0.1 _ _ | assumption | exact ⟨by omega, by omega⟩ | exact ⟨by simp [wr_at]; omega, by simp [wr_at]; omega⟩ | exact b2_R _ | exact bC_R _ | exact band_R _ _ | exact bor_R _ _ | exact bshl_R _ _ | exact bshr_R _ _ | exact bxor_R _ _ | exact bs_R (by omega) | decide) ?_
  refine ev_ldc2 (z := 96) dX8_code_8 kl_X8_235 (by decide) ?_
  refine ev_lsub dX8_code_11 ?_
  refine ev_lmul dX8_code_12 ?_
  refine ev_iload_n dX8_code_13 rfl ?_
  refine ev_i2l dX8_code_14 (by first | exact hR.1 _ _ | exact hR0.1 _ _ | assumption | exact ⟨by omega, by omega⟩ | exact ⟨by simp [wr_at]; omega, by simp [wr_at]; omega⟩ | exact b2_R _ | exact bC_R _ | exact band_R _ _ | exact bor_R _ _ | exact bshl_R _ _ | exact bshr_R _ _ | exact bxor_R _ _ | exact bs_R (by omega) | decide) ?_
  refine ev_ladd dX8_code_15 ?_
  refine ev_ldc2 (z := 96) dX8_code_16 kl_X8_235 (by decide) ?_
  refine ev_lsub dX8_code_19 ?_
  refine ev_lmul dX8_code_20 ?_
  refine ev_iload_n dX8_code_21 rfl ?_
  refine ev_i2l dX8_code_22 (by first | exact hR.1 _ _ | exact hR0.1 _ _ | assumption | exact ⟨by omega, by omega⟩ | exact ⟨by simp [wr_at]; omega, by simp [wr_at]; omega⟩ | exact b2_R _ | exact bC_R _ | exact band_R _ _ | exact bor_R _ _ | exact bshl_R _ _ | exact bshr_R _ _ | exact bxor_R _ _ | exact bs_R (by omega) | decide) ?_
  refine ev_ladd dX8_code_23 ?_
  refine ev_ldc2 (z := 96) dX8_code_24 kl_X8_235 (by decide) ?_
  refine ev_lsub dX8_code_27 ?_
  refine ev_lreturn dX8_code_28 ?_
  exact ⟨rfl, rfl⟩
theorem m_longer (μ : Mem) (v a b : Int) (ha : inR a) (hb : inR b) : Con yX8_longer cX8_longer 4 (some .long) 0 0 [.long (lI v), .int (iI a), .int (iI b)] μ (AnsL (if b = 0 then 27 * v + a - 96 else 27 * (27 * v + a - 96) + b - 96) μ) := by
  refine con_of (by decide) rfl (Nat.le_of_ble_eq_true rfl) (ok_L rfl) ?_
  refine ev_w (fun hR => ?_)
  have hR0 := hR
  refine ev_iload_n dX8_longer_0 rfl ?_
  refine ev_if_ne (tgt := 19) dX8_longer_1 (by decide) (by first | exact hR.1 _ _ | exact hR0.1 _ _ | assumption | exact ⟨by omega, by omega⟩ | exact ⟨by simp [wr_at]; omega, by simp [wr_at]; omega⟩ | exact b2_R _ | exact bC_R _ | exact band_R _ _ | exact bor_R _ _ | exact bshl_R _ _ | exact bshr_R _ _ | exact bxor_R _ _ | exact bs_R (by omega) | decide) (fun h_1 => ?_) (fun h_1 => ?_)
  · refine ev_ldc2 (z := 27) dX8_longer_19 kl_X8_233 (by decide) ?_
    refine ev_ldc2 (z := 27) dX8_longer_22 kl_X8_233 (by decide) ?_
    refine ev_lload_n dX8_longer_25 rfl ?_
    refine ev_lmul dX8_longer_26 ?_
    refine ev_iload_n dX8_longer_27 rfl ?_
    refine ev_i2l dX8_longer_28 (by first | exact hR.1 _ _ | exact hR0.1 _ _ | assumption | exact ⟨by omega, by omega⟩ | exact ⟨by simp [wr_at]; omega, by simp [wr_at]; omega⟩ | exact b2_R _ | exact bC_R _ | exact band_R _ _ | exact bor_R _ _ | exact bshl_R _ _ | exact bshr_R _ _ | exact bxor_R _ _ | exact bs_R (by omega) | decide) ?_
    refine ev_ladd dX8_longer_29 ?_
    refine ev_ldc2 (z := 96) dX8_longer_30 kl_X8_235 (by decide) ?_
    refine ev_lsub dX8_longer_33 ?_
    refine ev_lmul dX8_longer_34 ?_
    refine ev_iload_n dX8_longer_35 rfl ?_
    refine ev_i2l dX8_longer_36 (by first | exact hR.1 _ _ | exact hR0.1 _ _ | assumption | exact ⟨by omega, by omega⟩ | exact ⟨by simp [wr_at]; omega, by simp [wr_at]; omega⟩ | exact b2_R _ | exact bC_R _ | exact band_R _ _ | exact bor_R _ _ | exact bshl_R _ _ | exact bshr_R _ _ | exact bxor_R _ _ | exact bs_R (by omega) | decide) ?_
    refine ev_ladd dX8_longer_37 ?_
    refine ev_ldc2 (z := 96) dX8_longer_38 kl_X8_235 (by decide) ?_
    refine ev_lsub dX8_longer_41 ?_
    refine ev_lreturn dX8_longer_42 ?_
    first
      | (rw [if_pos h_1]; exact ⟨rfl, rfl⟩)
      | (rw [if_neg h_1]; exact ⟨rfl, rfl⟩)
  · refine ev_ldc2 (z := 27) dX8_longer_4 kl_X8_233 (by decide) ?_
    refine ev_lload_n dX8_longer_7 rfl ?_
    refine ev_lmul dX8_longer_8 ?_
    refine ev_iload_n dX8_longer_9 rfl ?_
    refine ev_i2l dX8_longer_10 (by first | exact hR.1 _ _ | exact hR0.1 _ _ | assumption | exact ⟨by omega, by omega⟩ | exact ⟨by simp [wr_at]; omega, by simp [wr_at]; omega⟩ | exact b2_R _ | exact bC_R _ | exact band_R _ _ | exact bor_R _ _ | exact bshl_R _ _ | exact bshr_R _ _ | exact bxor_R _ _ | exact bs_R (by omega) | decide) ?_
    refine ev_ladd dX8_longer_11 ?_
    refine ev_ldc2 (z := 96) dX8_longer_12 kl_X8_235 (by decide) ?_
    refine ev_lsub dX8_longer_15 ?_
    refine ev_goto (tgt := 42) dX8_longer_16 (by decide) ?_
    refine ev_lreturn dX8_longer_42 ?_
    first
      | (rw [if_pos h_1]; exact ⟨rfl, rfl⟩)
      | (rw [if_neg h_1]; exact ⟨rfl, rfl⟩)
/-- a word's number, as the reference reckons it -/
def wv (c : Nat → Int) (a : Nat) : Nat → Int
  | 0 => 0
  | k + 1 => if 1000000000000 < wv c a k then 2000000000000 else 27 * wv c a k + c (a + k) - 96
theorem wv_R {c : Nat → Int} {a : Nat} : ∀ n, (∀ k, k < n → 97 ≤ c (a + k) ∧ c (a + k) ≤ 122) → 0 ≤ wv c a n ∧ wv c a n ≤ 27000000000027 := by
  intro n
  induction n with
  | zero => intro _; rw [wv]; decide
  | succ n ih =>
    intro h
    have i := ih (fun k hk => h k (by omega))
    have hn := h n (by omega)
    rw [wv]
    split <;> omega
theorem wv_long {c : Nat → Int} {a : Nat} : ∀ n, 6 ≤ n → (∀ k, k < n → 97 ≤ c (a + k) ∧ c (a + k) ≤ 122) → 14348907 ≤ wv c a n := by
  intro n
  induction n with
  | zero => intro h; omega
  | succ n ih =>
    intro hn h
    by_cases e : n = 5
    · subst e
      have h0 := h 0 (by omega)
      have h1 := h 1 (by omega)
      have h2 := h 2 (by omega)
      have h3 := h 3 (by omega)
      have h4 := h 4 (by omega)
      have h5 := h 5 (by omega)
      have e1 : wv c a 1 = c (a + 0) - 96 := by rw [wv, wv, if_neg (by omega)]; omega
      have e2 : wv c a 2 = 27 * wv c a 1 + c (a + 1) - 96 := by rw [wv, if_neg (by omega)]
      have e3 : wv c a 3 = 27 * wv c a 2 + c (a + 2) - 96 := by rw [wv, if_neg (by omega)]
      have e4 : wv c a 4 = 27 * wv c a 3 + c (a + 3) - 96 := by rw [wv, if_neg (by omega)]
      have e5 : wv c a 5 = 27 * wv c a 4 + c (a + 4) - 96 := by rw [wv, if_neg (by omega)]
      have e6 : wv c a 6 = 27 * wv c a 5 + c (a + 5) - 96 := by rw [wv, if_neg (by omega)]
      show 14348907 ≤ wv c a 6
      omega
    · have i := ih (by omega) (fun k hk => h k (by omega))
      have hh := h n (by omega)
      rw [wv]
      split <;> omega
/-- the numbers of the eight words -/
def cwv (i : Nat) : Int := [326192, 365666, 1888, 247162, 8740238, 774797, 6491892, 247516].getD i 0
theorem wv_w0 {c : Nat → Int} {a n : Nat} (h : ∀ k, k < n → 97 ≤ c (a + k) ∧ c (a + k) ≤ 122) : wv c a n = 326192 ↔ (n = 4 ∧ c (a + 0) = 112 ∧ c (a + 1) = 111 ∧ c (a + 2) = 108 ∧ c (a + 3) = 101) := by
  rcases (by omega : n = 0 ∨ n = 1 ∨ n = 2 ∨ n = 3 ∨ n = 4 ∨ n = 5 ∨ 6 ≤ n) with rfl | rfl | rfl | rfl | rfl | rfl | h6
  · have e0 : wv c a 0 = 0 := rfl
    constructor <;> intro z <;> omega
  · have g0 := h 0 (by omega)
    have e1 : wv c a 1 = c (a + 0) - 96 := by rw [wv, wv, if_neg (by omega)]; omega
    constructor <;> intro z <;> omega
  · have g0 := h 0 (by omega)
    have g1 := h 1 (by omega)
    have e1 : wv c a 1 = c (a + 0) - 96 := by rw [wv, wv, if_neg (by omega)]; omega
    have e2 : wv c a 2 = 27 * wv c a 1 + c (a + 1) - 96 := by rw [wv, if_neg (by omega)]
    constructor <;> intro z <;> omega
  · have g0 := h 0 (by omega)
    have g1 := h 1 (by omega)
    have g2 := h 2 (by omega)
    have e1 : wv c a 1 = c (a + 0) - 96 := by rw [wv, wv, if_neg (by omega)]; omega
    have e2 : wv c a 2 = 27 * wv c a 1 + c (a + 1) - 96 := by rw [wv, if_neg (by omega)]
    have e3 : wv c a 3 = 27 * wv c a 2 + c (a + 2) - 96 := by rw [wv, if_neg (by omega)]
    constructor <;> intro z <;> omega
  · have g0 := h 0 (by omega)
    have g1 := h 1 (by omega)
    have g2 := h 2 (by omega)
    have g3 := h 3 (by omega)
    have e1 : wv c a 1 = c (a + 0) - 96 := by rw [wv, wv, if_neg (by omega)]; omega
    have e2 : wv c a 2 = 27 * wv c a 1 + c (a + 1) - 96 := by rw [wv, if_neg (by omega)]
    have e3 : wv c a 3 = 27 * wv c a 2 + c (a + 2) - 96 := by rw [wv, if_neg (by omega)]
    have e4 : wv c a 4 = 27 * wv c a 3 + c (a + 3) - 96 := by rw [wv, if_neg (by omega)]
    constructor <;> intro z <;> omega
  · have g0 := h 0 (by omega)
    have g1 := h 1 (by omega)
    have g2 := h 2 (by omega)
    have g3 := h 3 (by omega)
    have g4 := h 4 (by omega)
    have e1 : wv c a 1 = c (a + 0) - 96 := by rw [wv, wv, if_neg (by omega)]; omega
    have e2 : wv c a 2 = 27 * wv c a 1 + c (a + 1) - 96 := by rw [wv, if_neg (by omega)]
    have e3 : wv c a 3 = 27 * wv c a 2 + c (a + 2) - 96 := by rw [wv, if_neg (by omega)]
    have e4 : wv c a 4 = 27 * wv c a 3 + c (a + 3) - 96 := by rw [wv, if_neg (by omega)]
    have e5 : wv c a 5 = 27 * wv c a 4 + c (a + 4) - 96 := by rw [wv, if_neg (by omega)]
    constructor <;> intro z <;> omega
  · have e := wv_long n h6 h
    constructor <;> intro z <;> omega
theorem wv_w1 {c : Nat → Int} {a n : Nat} (h : ∀ k, k < n → 97 ≤ c (a + k) ∧ c (a + k) ≤ 122) : wv c a n = 365666 ↔ (n = 4 ∧ c (a + 0) = 114 ∧ c (a + 1) = 111 ∧ c (a + 2) = 112 ∧ c (a + 3) = 101) := by
  rcases (by omega : n = 0 ∨ n = 1 ∨ n = 2 ∨ n = 3 ∨ n = 4 ∨ n = 5 ∨ 6 ≤ n) with rfl | rfl | rfl | rfl | rfl | rfl | h6
  · have e0 : wv c a 0 = 0 := rfl
    constructor <;> intro z <;> omega
  · have g0 := h 0 (by omega)
    have e1 : wv c a 1 = c (a + 0) - 96 := by rw [wv, wv, if_neg (by omega)]; omega
    constructor <;> intro z <;> omega
  · have g0 := h 0 (by omega)
    have g1 := h 1 (by omega)
    have e1 : wv c a 1 = c (a + 0) - 96 := by rw [wv, wv, if_neg (by omega)]; omega
    have e2 : wv c a 2 = 27 * wv c a 1 + c (a + 1) - 96 := by rw [wv, if_neg (by omega)]
    constructor <;> intro z <;> omega
  · have g0 := h 0 (by omega)
    have g1 := h 1 (by omega)
    have g2 := h 2 (by omega)
    have e1 : wv c a 1 = c (a + 0) - 96 := by rw [wv, wv, if_neg (by omega)]; omega
    have e2 : wv c a 2 = 27 * wv c a 1 + c (a + 1) - 96 := by rw [wv, if_neg (by omega)]
    have e3 : wv c a 3 = 27 * wv c a 2 + c (a + 2) - 96 := by rw [wv, if_neg (by omega)]
    constructor <;> intro z <;> omega
  · have g0 := h 0 (by omega)
    have g1 := h 1 (by omega)
    have g2 := h 2 (by omega)
    have g3 := h 3 (by omega)
    have e1 : wv c a 1 = c (a + 0) - 96 := by rw [wv, wv, if_neg (by omega)]; omega
    have e2 : wv c a 2 = 27 * wv c a 1 + c (a + 1) - 96 := by rw [wv, if_neg (by omega)]
    have e3 : wv c a 3 = 27 * wv c a 2 + c (a + 2) - 96 := by rw [wv, if_neg (by omega)]
    have e4 : wv c a 4 = 27 * wv c a 3 + c (a + 3) - 96 := by rw [wv, if_neg (by omega)]
    constructor <;> intro z <;> omega
  · have g0 := h 0 (by omega)
    have g1 := h 1 (by omega)
    have g2 := h 2 (by omega)
    have g3 := h 3 (by omega)
    have g4 := h 4 (by omega)
    have e1 : wv c a 1 = c (a + 0) - 96 := by rw [wv, wv, if_neg (by omega)]; omega
    have e2 : wv c a 2 = 27 * wv c a 1 + c (a + 1) - 96 := by rw [wv, if_neg (by omega)]
    have e3 : wv c a 3 = 27 * wv c a 2 + c (a + 2) - 96 := by rw [wv, if_neg (by omega)]
    have e4 : wv c a 4 = 27 * wv c a 3 + c (a + 3) - 96 := by rw [wv, if_neg (by omega)]
    have e5 : wv c a 5 = 27 * wv c a 4 + c (a + 4) - 96 := by rw [wv, if_neg (by omega)]
    constructor <;> intro z <;> omega
  · have e := wv_long n h6 h
    constructor <;> intro z <;> omega
theorem wv_w2 {c : Nat → Int} {a n : Nat} (h : ∀ k, k < n → 97 ≤ c (a + k) ∧ c (a + k) ≤ 122) : wv c a n = 1888 ↔ (n = 3 ∧ c (a + 0) = 98 ∧ c (a + 1) = 111 ∧ c (a + 2) = 121) := by
  rcases (by omega : n = 0 ∨ n = 1 ∨ n = 2 ∨ n = 3 ∨ n = 4 ∨ n = 5 ∨ 6 ≤ n) with rfl | rfl | rfl | rfl | rfl | rfl | h6
  · have e0 : wv c a 0 = 0 := rfl
    constructor <;> intro z <;> omega
  · have g0 := h 0 (by omega)
    have e1 : wv c a 1 = c (a + 0) - 96 := by rw [wv, wv, if_neg (by omega)]; omega
    constructor <;> intro z <;> omega
  · have g0 := h 0 (by omega)
    have g1 := h 1 (by omega)
    have e1 : wv c a 1 = c (a + 0) - 96 := by rw [wv, wv, if_neg (by omega)]; omega
    have e2 : wv c a 2 = 27 * wv c a 1 + c (a + 1) - 96 := by rw [wv, if_neg (by omega)]
    constructor <;> intro z <;> omega
  · have g0 := h 0 (by omega)
    have g1 := h 1 (by omega)
    have g2 := h 2 (by omega)
    have e1 : wv c a 1 = c (a + 0) - 96 := by rw [wv, wv, if_neg (by omega)]; omega
    have e2 : wv c a 2 = 27 * wv c a 1 + c (a + 1) - 96 := by rw [wv, if_neg (by omega)]
    have e3 : wv c a 3 = 27 * wv c a 2 + c (a + 2) - 96 := by rw [wv, if_neg (by omega)]
    constructor <;> intro z <;> omega
  · have g0 := h 0 (by omega)
    have g1 := h 1 (by omega)
    have g2 := h 2 (by omega)
    have g3 := h 3 (by omega)
    have e1 : wv c a 1 = c (a + 0) - 96 := by rw [wv, wv, if_neg (by omega)]; omega
    have e2 : wv c a 2 = 27 * wv c a 1 + c (a + 1) - 96 := by rw [wv, if_neg (by omega)]
    have e3 : wv c a 3 = 27 * wv c a 2 + c (a + 2) - 96 := by rw [wv, if_neg (by omega)]
    have e4 : wv c a 4 = 27 * wv c a 3 + c (a + 3) - 96 := by rw [wv, if_neg (by omega)]
    constructor <;> intro z <;> omega
  · have g0 := h 0 (by omega)
    have g1 := h 1 (by omega)
    have g2 := h 2 (by omega)
    have g3 := h 3 (by omega)
    have g4 := h 4 (by omega)
    have e1 : wv c a 1 = c (a + 0) - 96 := by rw [wv, wv, if_neg (by omega)]; omega
    have e2 : wv c a 2 = 27 * wv c a 1 + c (a + 1) - 96 := by rw [wv, if_neg (by omega)]
    have e3 : wv c a 3 = 27 * wv c a 2 + c (a + 2) - 96 := by rw [wv, if_neg (by omega)]
    have e4 : wv c a 4 = 27 * wv c a 3 + c (a + 3) - 96 := by rw [wv, if_neg (by omega)]
    have e5 : wv c a 5 = 27 * wv c a 4 + c (a + 4) - 96 := by rw [wv, if_neg (by omega)]
    constructor <;> intro z <;> omega
  · have e := wv_long n h6 h
    constructor <;> intro z <;> omega
theorem wv_w3 {c : Nat → Int} {a n : Nat} (h : ∀ k, k < n → 97 ≤ c (a + k) ∧ c (a + k) ≤ 122) : wv c a n = 247162 ↔ (n = 4 ∧ c (a + 0) = 108 ∧ c (a + 1) = 111 ∧ c (a + 2) = 97 ∧ c (a + 3) = 100) := by
  rcases (by omega : n = 0 ∨ n = 1 ∨ n = 2 ∨ n = 3 ∨ n = 4 ∨ n = 5 ∨ 6 ≤ n) with rfl | rfl | rfl | rfl | rfl | rfl | h6
  · have e0 : wv c a 0 = 0 := rfl
    constructor <;> intro z <;> omega
  · have g0 := h 0 (by omega)
    have e1 : wv c a 1 = c (a + 0) - 96 := by rw [wv, wv, if_neg (by omega)]; omega
    constructor <;> intro z <;> omega
  · have g0 := h 0 (by omega)
    have g1 := h 1 (by omega)
    have e1 : wv c a 1 = c (a + 0) - 96 := by rw [wv, wv, if_neg (by omega)]; omega
    have e2 : wv c a 2 = 27 * wv c a 1 + c (a + 1) - 96 := by rw [wv, if_neg (by omega)]
    constructor <;> intro z <;> omega
  · have g0 := h 0 (by omega)
    have g1 := h 1 (by omega)
    have g2 := h 2 (by omega)
    have e1 : wv c a 1 = c (a + 0) - 96 := by rw [wv, wv, if_neg (by omega)]; omega
    have e2 : wv c a 2 = 27 * wv c a 1 + c (a + 1) - 96 := by rw [wv, if_neg (by omega)]
    have e3 : wv c a 3 = 27 * wv c a 2 + c (a + 2) - 96 := by rw [wv, if_neg (by omega)]
    constructor <;> intro z <;> omega
  · have g0 := h 0 (by omega)
    have g1 := h 1 (by omega)
    have g2 := h 2 (by omega)
    have g3 := h 3 (by omega)
    have e1 : wv c a 1 = c (a + 0) - 96 := by rw [wv, wv, if_neg (by omega)]; omega
    have e2 : wv c a 2 = 27 * wv c a 1 + c (a + 1) - 96 := by rw [wv, if_neg (by omega)]
    have e3 : wv c a 3 = 27 * wv c a 2 + c (a + 2) - 96 := by rw [wv, if_neg (by omega)]
    have e4 : wv c a 4 = 27 * wv c a 3 + c (a + 3) - 96 := by rw [wv, if_neg (by omega)]
    constructor <;> intro z <;> omega
  · have g0 := h 0 (by omega)
    have g1 := h 1 (by omega)
    have g2 := h 2 (by omega)
    have g3 := h 3 (by omega)
    have g4 := h 4 (by omega)
    have e1 : wv c a 1 = c (a + 0) - 96 := by rw [wv, wv, if_neg (by omega)]; omega
    have e2 : wv c a 2 = 27 * wv c a 1 + c (a + 1) - 96 := by rw [wv, if_neg (by omega)]
    have e3 : wv c a 3 = 27 * wv c a 2 + c (a + 2) - 96 := by rw [wv, if_neg (by omega)]
    have e4 : wv c a 4 = 27 * wv c a 3 + c (a + 3) - 96 := by rw [wv, if_neg (by omega)]
    have e5 : wv c a 5 = 27 * wv c a 4 + c (a + 4) - 96 := by rw [wv, if_neg (by omega)]
    constructor <;> intro z <;> omega
  · have e := wv_long n h6 h
    constructor <;> intro z <;> omega
theorem wv_w4 {c : Nat → Int} {a n : Nat} (h : ∀ k, k < n → 97 ≤ c (a + k) ∧ c (a + k) ≤ 122) : wv c a n = 8740238 ↔ (n = 5 ∧ c (a + 0) = 112 ∧ c (a + 1) = 108 ∧ c (a + 2) = 97 ∧ c (a + 3) = 105 ∧ c (a + 4) = 110) := by
  rcases (by omega : n = 0 ∨ n = 1 ∨ n = 2 ∨ n = 3 ∨ n = 4 ∨ n = 5 ∨ 6 ≤ n) with rfl | rfl | rfl | rfl | rfl | rfl | h6
  · have e0 : wv c a 0 = 0 := rfl
    constructor <;> intro z <;> omega
  · have g0 := h 0 (by omega)
    have e1 : wv c a 1 = c (a + 0) - 96 := by rw [wv, wv, if_neg (by omega)]; omega
    constructor <;> intro z <;> omega
  · have g0 := h 0 (by omega)
    have g1 := h 1 (by omega)
    have e1 : wv c a 1 = c (a + 0) - 96 := by rw [wv, wv, if_neg (by omega)]; omega
    have e2 : wv c a 2 = 27 * wv c a 1 + c (a + 1) - 96 := by rw [wv, if_neg (by omega)]
    constructor <;> intro z <;> omega
  · have g0 := h 0 (by omega)
    have g1 := h 1 (by omega)
    have g2 := h 2 (by omega)
    have e1 : wv c a 1 = c (a + 0) - 96 := by rw [wv, wv, if_neg (by omega)]; omega
    have e2 : wv c a 2 = 27 * wv c a 1 + c (a + 1) - 96 := by rw [wv, if_neg (by omega)]
    have e3 : wv c a 3 = 27 * wv c a 2 + c (a + 2) - 96 := by rw [wv, if_neg (by omega)]
    constructor <;> intro z <;> omega
  · have g0 := h 0 (by omega)
    have g1 := h 1 (by omega)
    have g2 := h 2 (by omega)
    have g3 := h 3 (by omega)
    have e1 : wv c a 1 = c (a + 0) - 96 := by rw [wv, wv, if_neg (by omega)]; omega
    have e2 : wv c a 2 = 27 * wv c a 1 + c (a + 1) - 96 := by rw [wv, if_neg (by omega)]
    have e3 : wv c a 3 = 27 * wv c a 2 + c (a + 2) - 96 := by rw [wv, if_neg (by omega)]
    have e4 : wv c a 4 = 27 * wv c a 3 + c (a + 3) - 96 := by rw [wv, if_neg (by omega)]
    constructor <;> intro z <;> omega
  · have g0 := h 0 (by omega)
    have g1 := h 1 (by omega)
    have g2 := h 2 (by omega)
    have g3 := h 3 (by omega)
    have g4 := h 4 (by omega)
    have e1 : wv c a 1 = c (a + 0) - 96 := by rw [wv, wv, if_neg (by omega)]; omega
    have e2 : wv c a 2 = 27 * wv c a 1 + c (a + 1) - 96 := by rw [wv, if_neg (by omega)]
    have e3 : wv c a 3 = 27 * wv c a 2 + c (a + 2) - 96 := by rw [wv, if_neg (by omega)]
    have e4 : wv c a 4 = 27 * wv c a 3 + c (a + 3) - 96 := by rw [wv, if_neg (by omega)]
    have e5 : wv c a 5 = 27 * wv c a 4 + c (a + 4) - 96 := by rw [wv, if_neg (by omega)]
    constructor <;> intro z <;> omega
  · have e := wv_long n h6 h
    constructor <;> intro z <;> omega
theorem wv_w5 {c : Nat → Int} {a n : Nat} (h : ∀ k, k < n → 97 ≤ c (a + k) ∧ c (a + k) ≤ 122) : wv c a n = 774797 ↔ (n = 5 ∧ c (a + 0) = 97 ∧ c (a + 1) = 108 ∧ c (a + 2) = 105 ∧ c (a + 3) = 118 ∧ c (a + 4) = 101) := by
  rcases (by omega : n = 0 ∨ n = 1 ∨ n = 2 ∨ n = 3 ∨ n = 4 ∨ n = 5 ∨ 6 ≤ n) with rfl | rfl | rfl | rfl | rfl | rfl | h6
  · have e0 : wv c a 0 = 0 := rfl
    constructor <;> intro z <;> omega
  · have g0 := h 0 (by omega)
    have e1 : wv c a 1 = c (a + 0) - 96 := by rw [wv, wv, if_neg (by omega)]; omega
    constructor <;> intro z <;> omega
  · have g0 := h 0 (by omega)
    have g1 := h 1 (by omega)
    have e1 : wv c a 1 = c (a + 0) - 96 := by rw [wv, wv, if_neg (by omega)]; omega
    have e2 : wv c a 2 = 27 * wv c a 1 + c (a + 1) - 96 := by rw [wv, if_neg (by omega)]
    constructor <;> intro z <;> omega
  · have g0 := h 0 (by omega)
    have g1 := h 1 (by omega)
    have g2 := h 2 (by omega)
    have e1 : wv c a 1 = c (a + 0) - 96 := by rw [wv, wv, if_neg (by omega)]; omega
    have e2 : wv c a 2 = 27 * wv c a 1 + c (a + 1) - 96 := by rw [wv, if_neg (by omega)]
    have e3 : wv c a 3 = 27 * wv c a 2 + c (a + 2) - 96 := by rw [wv, if_neg (by omega)]
    constructor <;> intro z <;> omega
  · have g0 := h 0 (by omega)
    have g1 := h 1 (by omega)
    have g2 := h 2 (by omega)
    have g3 := h 3 (by omega)
    have e1 : wv c a 1 = c (a + 0) - 96 := by rw [wv, wv, if_neg (by omega)]; omega
    have e2 : wv c a 2 = 27 * wv c a 1 + c (a + 1) - 96 := by rw [wv, if_neg (by omega)]
    have e3 : wv c a 3 = 27 * wv c a 2 + c (a + 2) - 96 := by rw [wv, if_neg (by omega)]
    have e4 : wv c a 4 = 27 * wv c a 3 + c (a + 3) - 96 := by rw [wv, if_neg (by omega)]
    constructor <;> intro z <;> omega
  · have g0 := h 0 (by omega)
    have g1 := h 1 (by omega)
    have g2 := h 2 (by omega)
    have g3 := h 3 (by omega)
    have g4 := h 4 (by omega)
    have e1 : wv c a 1 = c (a + 0) - 96 := by rw [wv, wv, if_neg (by omega)]; omega
    have e2 : wv c a 2 = 27 * wv c a 1 + c (a + 1) - 96 := by rw [wv, if_neg (by omega)]
    have e3 : wv c a 3 = 27 * wv c a 2 + c (a + 2) - 96 := by rw [wv, if_neg (by omega)]
    have e4 : wv c a 4 = 27 * wv c a 3 + c (a + 3) - 96 := by rw [wv, if_neg (by omega)]
    have e5 : wv c a 5 = 27 * wv c a 4 + c (a + 4) - 96 := by rw [wv, if_neg (by omega)]
    constructor <;> intro z <;> omega
  · have e := wv_long n h6 h
    constructor <;> intro z <;> omega
theorem wv_w6 {c : Nat → Int} {a n : Nat} (h : ∀ k, k < n → 97 ≤ c (a + k) ∧ c (a + k) ≤ 122) : wv c a n = 6491892 ↔ (n = 5 ∧ c (a + 0) = 108 ∧ c (a + 1) = 101 ∧ c (a + 2) = 118 ∧ c (a + 3) = 101 ∧ c (a + 4) = 108) := by
  rcases (by omega : n = 0 ∨ n = 1 ∨ n = 2 ∨ n = 3 ∨ n = 4 ∨ n = 5 ∨ 6 ≤ n) with rfl | rfl | rfl | rfl | rfl | rfl | h6
  · have e0 : wv c a 0 = 0 := rfl
    constructor <;> intro z <;> omega
  · have g0 := h 0 (by omega)
    have e1 : wv c a 1 = c (a + 0) - 96 := by rw [wv, wv, if_neg (by omega)]; omega
    constructor <;> intro z <;> omega
  · have g0 := h 0 (by omega)
    have g1 := h 1 (by omega)
    have e1 : wv c a 1 = c (a + 0) - 96 := by rw [wv, wv, if_neg (by omega)]; omega
    have e2 : wv c a 2 = 27 * wv c a 1 + c (a + 1) - 96 := by rw [wv, if_neg (by omega)]
    constructor <;> intro z <;> omega
  · have g0 := h 0 (by omega)
    have g1 := h 1 (by omega)
    have g2 := h 2 (by omega)
    have e1 : wv c a 1 = c (a + 0) - 96 := by rw [wv, wv, if_neg (by omega)]; omega
    have e2 : wv c a 2 = 27 * wv c a 1 + c (a + 1) - 96 := by rw [wv, if_neg (by omega)]
    have e3 : wv c a 3 = 27 * wv c a 2 + c (a + 2) - 96 := by rw [wv, if_neg (by omega)]
    constructor <;> intro z <;> omega
  · have g0 := h 0 (by omega)
    have g1 := h 1 (by omega)
    have g2 := h 2 (by omega)
    have g3 := h 3 (by omega)
    have e1 : wv c a 1 = c (a + 0) - 96 := by rw [wv, wv, if_neg (by omega)]; omega
    have e2 : wv c a 2 = 27 * wv c a 1 + c (a + 1) - 96 := by rw [wv, if_neg (by omega)]
    have e3 : wv c a 3 = 27 * wv c a 2 + c (a + 2) - 96 := by rw [wv, if_neg (by omega)]
    have e4 : wv c a 4 = 27 * wv c a 3 + c (a + 3) - 96 := by rw [wv, if_neg (by omega)]
    constructor <;> intro z <;> omega
  · have g0 := h 0 (by omega)
    have g1 := h 1 (by omega)
    have g2 := h 2 (by omega)
    have g3 := h 3 (by omega)
    have g4 := h 4 (by omega)
    have e1 : wv c a 1 = c (a + 0) - 96 := by rw [wv, wv, if_neg (by omega)]; omega
    have e2 : wv c a 2 = 27 * wv c a 1 + c (a + 1) - 96 := by rw [wv, if_neg (by omega)]
    have e3 : wv c a 3 = 27 * wv c a 2 + c (a + 2) - 96 := by rw [wv, if_neg (by omega)]
    have e4 : wv c a 4 = 27 * wv c a 3 + c (a + 3) - 96 := by rw [wv, if_neg (by omega)]
    have e5 : wv c a 5 = 27 * wv c a 4 + c (a + 4) - 96 := by rw [wv, if_neg (by omega)]
    constructor <;> intro z <;> omega
  · have e := wv_long n h6 h
    constructor <;> intro z <;> omega
theorem wv_w7 {c : Nat → Int} {a n : Nat} (h : ∀ k, k < n → 97 ≤ c (a + k) ∧ c (a + k) ≤ 122) : wv c a n = 247516 ↔ (n = 4 ∧ c (a + 0) = 108 ∧ c (a + 1) = 111 ∧ c (a + 2) = 110 ∧ c (a + 3) = 103) := by
  rcases (by omega : n = 0 ∨ n = 1 ∨ n = 2 ∨ n = 3 ∨ n = 4 ∨ n = 5 ∨ 6 ≤ n) with rfl | rfl | rfl | rfl | rfl | rfl | h6
  · have e0 : wv c a 0 = 0 := rfl
    constructor <;> intro z <;> omega
  · have g0 := h 0 (by omega)
    have e1 : wv c a 1 = c (a + 0) - 96 := by rw [wv, wv, if_neg (by omega)]; omega
    constructor <;> intro z <;> omega
  · have g0 := h 0 (by omega)
    have g1 := h 1 (by omega)
    have e1 : wv c a 1 = c (a + 0) - 96 := by rw [wv, wv, if_neg (by omega)]; omega
    have e2 : wv c a 2 = 27 * wv c a 1 + c (a + 1) - 96 := by rw [wv, if_neg (by omega)]
    constructor <;> intro z <;> omega
  · have g0 := h 0 (by omega)
    have g1 := h 1 (by omega)
    have g2 := h 2 (by omega)
    have e1 : wv c a 1 = c (a + 0) - 96 := by rw [wv, wv, if_neg (by omega)]; omega
    have e2 : wv c a 2 = 27 * wv c a 1 + c (a + 1) - 96 := by rw [wv, if_neg (by omega)]
    have e3 : wv c a 3 = 27 * wv c a 2 + c (a + 2) - 96 := by rw [wv, if_neg (by omega)]
    constructor <;> intro z <;> omega
  · have g0 := h 0 (by omega)
    have g1 := h 1 (by omega)
    have g2 := h 2 (by omega)
    have g3 := h 3 (by omega)
    have e1 : wv c a 1 = c (a + 0) - 96 := by rw [wv, wv, if_neg (by omega)]; omega
    have e2 : wv c a 2 = 27 * wv c a 1 + c (a + 1) - 96 := by rw [wv, if_neg (by omega)]
    have e3 : wv c a 3 = 27 * wv c a 2 + c (a + 2) - 96 := by rw [wv, if_neg (by omega)]
    have e4 : wv c a 4 = 27 * wv c a 3 + c (a + 3) - 96 := by rw [wv, if_neg (by omega)]
    constructor <;> intro z <;> omega
  · have g0 := h 0 (by omega)
    have g1 := h 1 (by omega)
    have g2 := h 2 (by omega)
    have g3 := h 3 (by omega)
    have g4 := h 4 (by omega)
    have e1 : wv c a 1 = c (a + 0) - 96 := by rw [wv, wv, if_neg (by omega)]; omega
    have e2 : wv c a 2 = 27 * wv c a 1 + c (a + 1) - 96 := by rw [wv, if_neg (by omega)]
    have e3 : wv c a 3 = 27 * wv c a 2 + c (a + 2) - 96 := by rw [wv, if_neg (by omega)]
    have e4 : wv c a 4 = 27 * wv c a 3 + c (a + 3) - 96 := by rw [wv, if_neg (by omega)]
    have e5 : wv c a 5 = 27 * wv c a 4 + c (a + 4) - 96 := by rw [wv, if_neg (by omega)]
    constructor <;> intro z <;> omega
  · have e := wv_long n h6 h
    constructor <;> intro z <;> omega
theorem wrd_iff {c : Nat → Int} {a e i : Nat} (hi : i < 8) (hae : a ≤ e) (h : ∀ j, a ≤ j → j < e → isA c j = true) : wrd c a e i ↔ wv c a (e - a) = cwv i := by
  have h9 : ∀ k, k < e - a → 97 ≤ c (a + k) ∧ c (a + k) ≤ 122 := fun k hk => of_decide_eq_true (h (a + k) (by omega) (by omega))
  have hc : i = 0 ∨ i = 1 ∨ i = 2 ∨ i = 3 ∨ i = 4 ∨ i = 5 ∨ i = 6 ∨ i = 7 := by omega
  rcases hc with rfl | rfl | rfl | rfl | rfl | rfl | rfl | rfl
  · rw [show cwv 0 = 326192 from rfl, wv_w0 h9]
    constructor
    · intro z
      have z2 := z.2
      have z1 : e = a + 4 := z.1
      refine ⟨by omega, z2 0 (by decide), z2 1 (by decide), z2 2 (by decide), z2 3 (by decide)⟩
    · intro z
      refine ⟨show e = a + 4 by omega, fun k hk => ?_⟩
      have hk2 : k < 4 := hk
      have hk3 : k = 0 ∨ k = 1 ∨ k = 2 ∨ k = 3 := by omega
      rcases hk3 with rfl | rfl | rfl | rfl
      · exact z.2.1
      · exact z.2.2.1
      · exact z.2.2.2.1
      · exact z.2.2.2.2
  · rw [show cwv 1 = 365666 from rfl, wv_w1 h9]
    constructor
    · intro z
      have z2 := z.2
      have z1 : e = a + 4 := z.1
      refine ⟨by omega, z2 0 (by decide), z2 1 (by decide), z2 2 (by decide), z2 3 (by decide)⟩
    · intro z
      refine ⟨show e = a + 4 by omega, fun k hk => ?_⟩
      have hk2 : k < 4 := hk
      have hk3 : k = 0 ∨ k = 1 ∨ k = 2 ∨ k = 3 := by omega
      rcases hk3 with rfl | rfl | rfl | rfl
      · exact z.2.1
      · exact z.2.2.1
      · exact z.2.2.2.1
      · exact z.2.2.2.2
  · rw [show cwv 2 = 1888 from rfl, wv_w2 h9]
    constructor
    · intro z
      have z2 := z.2
      have z1 : e = a + 3 := z.1
      refine ⟨by omega, z2 0 (by decide), z2 1 (by decide), z2 2 (by decide)⟩
    · intro z
      refine ⟨show e = a + 3 by omega, fun k hk => ?_⟩
      have hk2 : k < 3 := hk
      have hk3 : k = 0 ∨ k = 1 ∨ k = 2 := by omega
      rcases hk3 with rfl | rfl | rfl
      · exact z.2.1
      · exact z.2.2.1
      · exact z.2.2.2
  · rw [show cwv 3 = 247162 from rfl, wv_w3 h9]
    constructor
    · intro z
      have z2 := z.2
      have z1 : e = a + 4 := z.1
      refine ⟨by omega, z2 0 (by decide), z2 1 (by decide), z2 2 (by decide), z2 3 (by decide)⟩
    · intro z
      refine ⟨show e = a + 4 by omega, fun k hk => ?_⟩
      have hk2 : k < 4 := hk
      have hk3 : k = 0 ∨ k = 1 ∨ k = 2 ∨ k = 3 := by omega
      rcases hk3 with rfl | rfl | rfl | rfl
      · exact z.2.1
      · exact z.2.2.1
      · exact z.2.2.2.1
      · exact z.2.2.2.2
  · rw [show cwv 4 = 8740238 from rfl, wv_w4 h9]
    constructor
    · intro z
      have z2 := z.2
      have z1 : e = a + 5 := z.1
      refine ⟨by omega, z2 0 (by decide), z2 1 (by decide), z2 2 (by decide), z2 3 (by decide), z2 4 (by decide)⟩
    · intro z
      refine ⟨show e = a + 5 by omega, fun k hk => ?_⟩
      have hk2 : k < 5 := hk
      have hk3 : k = 0 ∨ k = 1 ∨ k = 2 ∨ k = 3 ∨ k = 4 := by omega
      rcases hk3 with rfl | rfl | rfl | rfl | rfl
      · exact z.2.1
      · exact z.2.2.1
      · exact z.2.2.2.1
      · exact z.2.2.2.2.1
      · exact z.2.2.2.2.2
  · rw [show cwv 5 = 774797 from rfl, wv_w5 h9]
    constructor
    · intro z
      have z2 := z.2
      have z1 : e = a + 5 := z.1
      refine ⟨by omega, z2 0 (by decide), z2 1 (by decide), z2 2 (by decide), z2 3 (by decide), z2 4 (by decide)⟩
    · intro z
      refine ⟨show e = a + 5 by omega, fun k hk => ?_⟩
      have hk2 : k < 5 := hk
      have hk3 : k = 0 ∨ k = 1 ∨ k = 2 ∨ k = 3 ∨ k = 4 := by omega
      rcases hk3 with rfl | rfl | rfl | rfl | rfl
      · exact z.2.1
      · exact z.2.2.1
      · exact z.2.2.2.1
      · exact z.2.2.2.2.1
      · exact z.2.2.2.2.2
  · rw [show cwv 6 = 6491892 from rfl, wv_w6 h9]
    constructor
    · intro z
      have z2 := z.2
      have z1 : e = a + 5 := z.1
      refine ⟨by omega, z2 0 (by decide), z2 1 (by decide), z2 2 (by decide), z2 3 (by decide), z2 4 (by decide)⟩
    · intro z
      refine ⟨show e = a + 5 by omega, fun k hk => ?_⟩
      have hk2 : k < 5 := hk
      have hk3 : k = 0 ∨ k = 1 ∨ k = 2 ∨ k = 3 ∨ k = 4 := by omega
      rcases hk3 with rfl | rfl | rfl | rfl | rfl
      · exact z.2.1
      · exact z.2.2.1
      · exact z.2.2.2.1
      · exact z.2.2.2.2.1
      · exact z.2.2.2.2.2
  · rw [show cwv 7 = 247516 from rfl, wv_w7 h9]
    constructor
    · intro z
      have z2 := z.2
      have z1 : e = a + 4 := z.1
      refine ⟨by omega, z2 0 (by decide), z2 1 (by decide), z2 2 (by decide), z2 3 (by decide)⟩
    · intro z
      refine ⟨show e = a + 4 by omega, fun k hk => ?_⟩
      have hk2 : k < 4 := hk
      have hk3 : k = 0 ∨ k = 1 ∨ k = 2 ∨ k = 3 := by omega
      rcases hk3 with rfl | rfl | rfl | rfl
      · exact z.2.1
      · exact z.2.2.1
      · exact z.2.2.2.1
      · exact z.2.2.2.2
def WdA (μ ν : Mem) (a e : Nat) : Prop := (∀ q, q ≠ 79 → ν.1 q = μ.1 q) ∧ (∀ k : Int, k ≠ 38 → k ≠ 40 → ν.1 79 k = μ.1 79 k) ∧ ν.1 79 38 = a ∧ ν.1 79 40 = e
theorem m_readWord (μ : Mem) (c : Nat → Int) (L i : Nat) (hT : TX μ c L) (hi : μ.1 79 38 = i) (hiL : i ≤ L)  : Con yX8_readWord cX8_readWord 2 none 1 25 [.ref 79] μ (AnsVP (fun ν => WdA μ ν (sk c L i) (scan (isA c) L (sk c L i)) ∧ ν.2 = wv c (sk c L i) ((scan (isA c) L (sk c L i)) - (sk c L i)))) := by
  refine con_of (by decide) rfl (Nat.le_of_ble_eq_true rfl) (ok_VP rfl) ?_
  refine ev_w (fun hR => ?_)
  have hR0 := hR
  have hT0 := hT
  obtain ⟨hL, hL5, htx⟩ := hT
  have hs2 : sk c L i ≤ L := scan_le hiL
  generalize ha : sk c L i = a at *
  have loop : ∀ j : Nat, j ≤ L → a ≤ j → scan (isA c) L j = scan (isA c) L a → ∀ ν, WdA μ ν a j ∧ ν.2 = wv c a (j - a) → ∀ x1, Ev RX8 cX8_readWord 2 1 25 (AnsVP (fun ν => WdA μ ν a (scan (isA c) L a) ∧ ν.2 = wv c a ((scan (isA c) L a) - a))) 18 [some (.ref 79), x1] [] ν := by
    refine for_up L (fun j hj ih => ?_)
    intro haj hsk ν hν x1
    refine ev_w (fun hR => ?_)
    obtain ⟨⟨w1, w2, w3, w4⟩, w5⟩ := id hν
    have e2 : ν.1 79 36 = (L : Int) := by rw [w2 _ (by decide) (by decide)]; exact hL
    have e3 : ∀ k, ν.1 107 k = μ.1 107 k := fun k => by rw [w1 107 (by decide)]
    have hin : ∀ q, a ≤ q → q < j → isA c q = true := fun q h1 h2 => scan_in h1 (by rw [← hsk]; exact Nat.lt_of_lt_of_le h2 (scan_ge _ _ _))
    have hwR := wv_R (c := c) (a := a) (j - a) (fun k hk => of_decide_eq_true (hin (a + k) (by omega) (by omega)))
    have hsu : j < L → wv c a (j + 1 - a) = if 1000000000000 < wv c a (j - a) then 2000000000000 else 27 * wv c a (j - a) + c j - 96 := fun _ => by
      rw [show j + 1 - a = (j - a) + 1 by omega, wv, show a + (j - a) = j by omega]
    refine ev_aload_n dX8_readWord_18 rfl ?_
    refine ev_getI (kz := 40) dX8_readWord_19 fl_X8_222 rfl rfl rfl ?_
    rw [w4]
    refine ev_aload_n dX8_readWord_22 rfl ?_
    refine ev_getI (kz := 36) dX8_readWord_23 fl_X8_205 rfl rfl rfl ?_
    rw [e2]
    refine ev_icmp_ge (tgt := 108) dX8_readWord_26 (by decide) (by first | exact hR.1 _ _ | exact hR0.1 _ _ | assumption | exact ⟨by omega, by omega⟩ | exact ⟨by simp [wr_at]; omega, by simp [wr_at]; omega⟩ | exact b2_R _ | exact bC_R _ | exact band_R _ _ | exact bor_R _ _ | exact bshl_R _ _ | exact bshr_R _ _ | exact bxor_R _ _ | exact bs_R (by omega) | decide) (by first | exact hR.1 _ _ | exact hR0.1 _ _ | assumption | exact ⟨by omega, by omega⟩ | exact ⟨by simp [wr_at]; omega, by simp [wr_at]; omega⟩ | exact b2_R _ | exact bC_R _ | exact band_R _ _ | exact bor_R _ _ | exact bshl_R _ _ | exact bshr_R _ _ | exact bxor_R _ _ | exact bs_R (by omega) | decide) (fun h_26 => ?_) (fun h_26 => ?_)
    · refine ev_return dX8_readWord_108 ?_
      have hst : scan (isA c) L j = j := by
        refine scan_stop ?_
        first
          | exact Or.inl (by omega)
          | (refine Or.inr (decide_eq_false (fun z => b2_eq h_48 ?_))
             have t := htx j (by omega)
             rw [← t.2.2] at z
             exact (sg_d t.1 t.2.1 (by decide) (by decide)).mp z)
      rw [hsk] at hst
      rw [hst]
      exact ⟨rfl, hν⟩
    · refine ev_aload_n dX8_readWord_29 rfl ?_
      refine ev_getR (r := 107) dX8_readWord_30 fl_X8_92 rfl rfl rfl ?_
      refine ev_aload_n dX8_readWord_33 rfl ?_
      refine ev_getI (kz := 40) dX8_readWord_34 fl_X8_222 rfl rfl rfl ?_
      rw [w4]
      refine ev_iaload dX8_readWord_37 rfl (by first | omega | (simp [wr_at]; omega) | (simp [wr_at, *]; omega)) (by first | omega | (simp [wr_at]; omega) | (simp [wr_at, *]; omega)) (by decide) ?_
      rw [e3]
      refine ev_i2l dX8_readWord_38 (by have t := htx j (by omega); exact ⟨by omega, by omega⟩) ?_
      refine ev_ldc2 (z := 97) dX8_readWord_39 kl_X8_225 (by decide) ?_
      refine ev_ldc2 (z := 122) dX8_readWord_42 kl_X8_227 (by decide) ?_
      refine ev_callSI dX8_readWord_45 ks_X8_180 (m_in ν (μ.1 107 (j : Int)) 97 122 (by have t := htx j (by omega); exact ⟨by omega, by omega⟩) (by decide) (by decide)) rfl rfl ⟨by decide, by decide⟩ (Nat.le_of_ble_eq_true rfl) ?_
      refine ev_w (fun hR => ?_)
      refine ev_if_eq (tgt := 108) dX8_readWord_48 (by decide) (by first | exact hR.1 _ _ | exact hR0.1 _ _ | assumption | exact ⟨by omega, by omega⟩ | exact ⟨by simp [wr_at]; omega, by simp [wr_at]; omega⟩ | exact b2_R _ | exact bC_R _ | exact band_R _ _ | exact bor_R _ _ | exact bshl_R _ _ | exact bshr_R _ _ | exact bxor_R _ _ | exact bs_R (by omega) | decide) (fun h_48 => ?_) (fun h_48 => ?_)
      · refine ev_return dX8_readWord_108 ?_
        have hst : scan (isA c) L j = j := by
          refine scan_stop ?_
          first
            | exact Or.inl (by omega)
            | (refine Or.inr (decide_eq_false (fun z => b2_eq h_48 ?_))
               have t := htx j (by omega)
               rw [← t.2.2] at z
               exact (sg_d t.1 t.2.1 (by decide) (by decide)).mp z)
        rw [hsk] at hst
        rw [hst]
        exact ⟨rfl, hν⟩
      · have t := htx j (by omega)
        have hlet := b2_ne h_48
        have hcj : c j = μ.1 107 (j : Int) := by rw [← t.2.2]; exact sg_id (by omega)
        have hstep : ∀ z : Int, z = wv c a (j + 1 - a) → ∀ x1, Ev RX8 cX8_readWord 2 1 25 (AnsVP (fun ν => WdA μ ν a (scan (isA c) L a) ∧ ν.2 = wv c a ((scan (isA c) L a) - a))) 18 [some (.ref 79), x1] [] (wr (wrL ν z) 79 40 ((j + 1 : Nat) : Int)) := by
          intro z hz x1
          refine ih (by omega) (by omega) ?_ _ ⟨⟨fun q hq => ?_, fun k h1 h2 => ?_, ?_, ?_⟩, hz⟩ x1
          · rw [← hsk]
            refine (scan_go (by omega) (decide_eq_true ?_)).symm
            omega
          · rw [← w1 q hq]; funext k; exact wr_nec _ hq
          · rw [wr_nek _ h2]; exact w2 k h1 h2
          · rw [wr_nek _ (by decide)]; exact w3
          · exact wr_eq _ _ _ _
        refine ev_aload_n dX8_readWord_51 rfl ?_
        refine ev_aload_n dX8_readWord_52 rfl ?_
        refine ev_getJ dX8_readWord_53 fl_X8_218 rfl rfl ?_
        rw [w5]
        refine ev_ldc2 (z := 1000000000000) dX8_readWord_56 kl_X8_229 (by decide) ?_
        refine ev_lcmp dX8_readWord_59 ⟨by omega, by omega⟩ ⟨by omega, by omega⟩ ?_
        refine ev_if_le (tgt := 69) dX8_readWord_60 (by decide) (cmpz_R _ _) (fun h_60 => ?_) (fun h_60 => ?_)
        · refine ev_ldc2 (z := 27) dX8_readWord_69 kl_X8_233 (by decide) ?_
          refine ev_aload_n dX8_readWord_72 rfl ?_
          refine ev_getJ dX8_readWord_73 fl_X8_218 rfl rfl ?_
          rw [w5]
          refine ev_lmul dX8_readWord_76 ?_
          refine ev_aload_n dX8_readWord_77 rfl ?_
          refine ev_getR (r := 107) dX8_readWord_78 fl_X8_92 rfl rfl rfl ?_
          refine ev_aload_n dX8_readWord_81 rfl ?_
          refine ev_getI (kz := 40) dX8_readWord_82 fl_X8_222 rfl rfl rfl ?_
          rw [w4]
          refine ev_iaload dX8_readWord_85 rfl (by first | omega | (simp [wr_at]; omega) | (simp [wr_at, *]; omega)) (by first | omega | (simp [wr_at]; omega) | (simp [wr_at, *]; omega)) (by decide) ?_
          rw [e3]
          refine ev_i2l dX8_readWord_86 (by have t := htx j (by omega); exact ⟨by omega, by omega⟩) ?_
          refine ev_ladd dX8_readWord_87 ?_
          refine ev_ldc2 (z := 96) dX8_readWord_88 kl_X8_235 (by decide) ?_
          refine ev_lsub dX8_readWord_91 ?_
          refine ev_putJ dX8_readWord_92 fp_X8_218 rfl rfl sole_J1 sole_J2 (by first | (exact ⟨by omega, by omega⟩) | decide) ?_
          refine ev_w (fun hR => ?_)
          refine ev_aload_n dX8_readWord_95 rfl ?_
          refine ev_dup dX8_readWord_96 rfl ?_
          refine ev_getI (kz := 40) dX8_readWord_97 fl_X8_222 rfl rfl rfl ?_
          rw [wrL_at, w4]
          refine ev_iconst dX8_readWord_100 ?_
          refine ev_iadd dX8_readWord_101 ?_
          refine ev_putI (kz := 40) dX8_readWord_102 fp_X8_222 rfl rfl rfl (by first | exact hR.1 _ _ | exact hR0.1 _ _ | assumption | exact ⟨by omega, by omega⟩ | exact ⟨by simp [wr_at]; omega, by simp [wr_at]; omega⟩ | exact b2_R _ | exact bC_R _ | exact band_R _ _ | exact bor_R _ _ | exact bshl_R _ _ | exact bshr_R _ _ | exact bxor_R _ _ | exact bs_R (by omega) | decide) ?_
          refine ev_w (fun hR => ?_)
          refine ev_goto (tgt := 18) dX8_readWord_105 (by decide) ?_
          refine hstep _ ?_ _
          rw [hsu (by omega)]
          have c1 := cmpz_gt (a := wv c a (j - a)) (b := 1000000000000)
          first
            | (rw [if_pos (by omega)])
            | (rw [if_neg (by omega), hcj])
        · refine ev_ldc2 (z := 2000000000000) dX8_readWord_63 kl_X8_231 (by decide) ?_
          refine ev_goto (tgt := 92) dX8_readWord_66 (by decide) ?_
          refine ev_putJ dX8_readWord_92 fp_X8_218 rfl rfl sole_J1 sole_J2 (by first | (exact ⟨by omega, by omega⟩) | decide) ?_
          refine ev_w (fun hR => ?_)
          refine ev_aload_n dX8_readWord_95 rfl ?_
          refine ev_dup dX8_readWord_96 rfl ?_
          refine ev_getI (kz := 40) dX8_readWord_97 fl_X8_222 rfl rfl rfl ?_
          rw [wrL_at, w4]
          refine ev_iconst dX8_readWord_100 ?_
          refine ev_iadd dX8_readWord_101 ?_
          refine ev_putI (kz := 40) dX8_readWord_102 fp_X8_222 rfl rfl rfl (by first | exact hR.1 _ _ | exact hR0.1 _ _ | assumption | exact ⟨by omega, by omega⟩ | exact ⟨by simp [wr_at]; omega, by simp [wr_at]; omega⟩ | exact b2_R _ | exact bC_R _ | exact band_R _ _ | exact bor_R _ _ | exact bshl_R _ _ | exact bshr_R _ _ | exact bxor_R _ _ | exact bs_R (by omega) | decide) ?_
          refine ev_w (fun hR => ?_)
          refine ev_goto (tgt := 18) dX8_readWord_105 (by decide) ?_
          refine hstep _ ?_ _
          rw [hsu (by omega)]
          have c1 := cmpz_gt (a := wv c a (j - a)) (b := 1000000000000)
          first
            | (rw [if_pos (by omega)])
            | (rw [if_neg (by omega), hcj])
  refine ev_aload_n dX8_readWord_0 rfl ?_
  refine ev_callVI dX8_readWord_1 kv_X8_214 ((by have q := m_here μ c L i hT0 hi hiL; rw [ha] at q; exact q)) rfl rfl (ci := 8) rfl rfl ⟨by decide, by decide⟩ (Nat.le_of_ble_eq_true rfl) ?_
  refine ev_w (fun hR => ?_)
  refine ev_istore_n dX8_readWord_4 rfl (by decide) rfl ?_
  refine ev_aload_n dX8_readWord_5 rfl ?_
  refine ev_lconst (z := 0) dX8_readWord_6 (by decide) ?_
  skip
  refine ev_putJ dX8_readWord_7 fp_X8_218 rfl rfl sole_J1 sole_J2 (by decide) ?_
  refine ev_w (fun hR => ?_)
  refine ev_aload_n dX8_readWord_10 rfl ?_
  refine ev_aload_n dX8_readWord_11 rfl ?_
  refine ev_getI (kz := 38) dX8_readWord_12 fl_X8_211 rfl rfl rfl ?_
  rw [wrL_at, wr_eq]
  refine ev_putI (kz := 40) dX8_readWord_15 fp_X8_222 rfl rfl rfl (by first | exact hR.1 _ _ | exact hR0.1 _ _ | assumption | exact ⟨by omega, by omega⟩ | exact ⟨by simp [wr_at]; omega, by simp [wr_at]; omega⟩ | exact b2_R _ | exact bC_R _ | exact band_R _ _ | exact bor_R _ _ | exact bshl_R _ _ | exact bshr_R _ _ | exact bxor_R _ _ | exact bs_R (by omega) | decide) ?_
  refine ev_w (fun hR => ?_)
  refine loop a hs2 (Nat.le_refl _) rfl _ ⟨⟨fun q hq => ?_, fun k h1 h2 => ?_, ?_, wr_eq _ _ _ _⟩, ?_⟩ _
  · funext k
    rw [wr_nec _ hq]
    exact wr_nec _ hq
  · rw [wr_nek _ h2]
    exact wr_nek _ h1
  · rw [wr_nek _ (by decide), wrL_at, wr_eq]
  · rw [Nat.sub_self]; rfl
