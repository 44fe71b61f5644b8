theorem k_bitCount (σ : Mem) (s : Nat) (hs : s < 4096) : Con yJ6_bitCount_0f7a4 cJ6_bitCount_0f7a4 1 (some .int) 0 0 [.int (iI s)] σ (AnsI (cnt s.testBit 12 : Nat) σ) := by
  refine con_of (by decide) rfl (Nat.le_of_ble_eq_true rfl) (ok_I rfl) ?_
  refine ev_w (fun hR => ?_)
  have hR0 := hR
  refine ev_iload_n dJ6_bitCount_0f7a4_0 rfl ?_
  refine ev_iload_n dJ6_bitCount_0f7a4_1 rfl ?_
  refine ev_iconst dJ6_bitCount_0f7a4_2 ?_
  refine ev_iushr dJ6_bitCount_0f7a4_3 ?_
  refine ev_ldcw (z := 1431655765) dJ6_bitCount_0f7a4_4 kc_J6_265 (by decide) ?_
  refine ev_iand dJ6_bitCount_0f7a4_7 ?_
  refine ev_isub dJ6_bitCount_0f7a4_8 ?_
  refine ev_istore_n dJ6_bitCount_0f7a4_9 rfl (by decide) rfl ?_
  refine ev_iload_n dJ6_bitCount_0f7a4_10 rfl ?_
  refine ev_ldcw (z := 858993459) dJ6_bitCount_0f7a4_11 kc_J6_266 (by decide) ?_
  refine ev_iand dJ6_bitCount_0f7a4_14 ?_
  refine ev_iload_n dJ6_bitCount_0f7a4_15 rfl ?_
  refine ev_iconst dJ6_bitCount_0f7a4_16 ?_
  refine ev_iushr dJ6_bitCount_0f7a4_17 ?_
  refine ev_ldcw (z := 858993459) dJ6_bitCount_0f7a4_18 kc_J6_266 (by decide) ?_
  refine ev_iand dJ6_bitCount_0f7a4_21 ?_
  refine ev_iadd dJ6_bitCount_0f7a4_22 ?_
  refine ev_istore_n dJ6_bitCount_0f7a4_23 rfl (by decide) rfl ?_
  refine ev_iload_n dJ6_bitCount_0f7a4_24 rfl ?_
  refine ev_iload_n dJ6_bitCount_0f7a4_25 rfl ?_
  refine ev_iconst dJ6_bitCount_0f7a4_26 ?_
  refine ev_iushr dJ6_bitCount_0f7a4_27 ?_
  refine ev_iadd dJ6_bitCount_0f7a4_28 ?_
  refine ev_ldcw (z := 252645135) dJ6_bitCount_0f7a4_29 kc_J6_267 (by decide) ?_
  refine ev_iand dJ6_bitCount_0f7a4_32 ?_
  refine ev_istore_n dJ6_bitCount_0f7a4_33 rfl (by decide) rfl ?_
  refine ev_iload_n dJ6_bitCount_0f7a4_34 rfl ?_
  refine ev_iload_n dJ6_bitCount_0f7a4_35 rfl ?_
  refine ev_bipush dJ6_bitCount_0f7a4_36 (by decide) ?_
  refine ev_iushr dJ6_bitCount_0f7a4_38 ?_
  refine ev_iadd dJ6_bitCount_0f7a4_39 ?_
  refine ev_istore_n dJ6_bitCount_0f7a4_40 rfl (by decide) rfl ?_
  refine ev_iload_n dJ6_bitCount_0f7a4_41 rfl ?_
  refine ev_iload_n dJ6_bitCount_0f7a4_42 rfl ?_
  refine ev_bipush dJ6_bitCount_0f7a4_43 (by decide) ?_
  refine ev_iushr dJ6_bitCount_0f7a4_45 ?_
  refine ev_iadd dJ6_bitCount_0f7a4_46 ?_
  refine ev_istore_n dJ6_bitCount_0f7a4_47 rfl (by decide) rfl ?_
  refine ev_iload_n dJ6_bitCount_0f7a4_48 rfl ?_
  refine ev_bipush dJ6_bitCount_0f7a4_49 (by decide) ?_
  refine ev_iand dJ6_bitCount_0f7a4_51 ?_
  refine ev_ireturn dJ6_bitCount_0f7a4_52 ?_
  exact ⟨by rw [← bcount_cnt s hs]; rfl, rfl⟩
theorem k_lowest (σ : Mem) (x : Int) : Con yJ6_lowestOneBit_0f7a4 cJ6_lowestOneBit_0f7a4 1 (some .int) 0 0 [.int (iI x)] σ (AnsI (lowb x) σ) := by
  refine con_of (by decide) rfl (Nat.le_of_ble_eq_true rfl) (ok_I rfl) ?_
  refine ev_w (fun hR => ?_)
  have hR0 := hR
  refine ev_iload_n dJ6_lowestOneBit_0f7a4_0 rfl ?_
  refine ev_iload_n dJ6_lowestOneBit_0f7a4_1 rfl ?_
  refine ev_ineg dJ6_lowestOneBit_0f7a4_2 ?_
  refine ev_iand dJ6_lowestOneBit_0f7a4_3 ?_
  refine ev_ireturn dJ6_lowestOneBit_0f7a4_4 ?_
  exact ⟨rfl, rfl⟩
/-- memory with the first n places of cell c set to v -/
def fillM (σ : Mem) (c : Nat) (v : Int) (n : Nat) : Mem := (fun c' k' => if c' = c ∧ 0 ≤ k' ∧ k' < n then v else σ.1 c' k', σ.2)
theorem fillM_0 (σ : Mem) (c : Nat) (v : Int) : fillM σ c v 0 = σ := by
  unfold fillM
  refine Prod.ext (funext fun c' => funext fun k' => ?_) rfl
  show (if c' = c ∧ 0 ≤ k' ∧ k' < ((0 : Nat) : Int) then v else σ.1 c' k') = σ.1 c' k'
  rw [if_neg (by omega)]
theorem fillM_s (σ : Mem) (c : Nat) (v : Int) (n : Nat) : wr (fillM σ c v n) c n v = fillM σ c v (n + 1) := by
  unfold fillM wr
  refine Prod.ext (funext fun c' => funext fun k' => ?_) rfl
  show (if c' = c ∧ k' = (n : Int) then v else if c' = c ∧ 0 ≤ k' ∧ k' < (n : Int) then v else σ.1 c' k') = if c' = c ∧ 0 ≤ k' ∧ k' < ((n + 1 : Nat) : Int) then v else σ.1 c' k'
  by_cases h : c' = c
  · by_cases h2 : k' = (n : Int)
    · rw [if_pos ⟨h, h2⟩, if_pos ⟨h, by omega, by omega⟩]
    · rw [if_neg (fun q => h2 q.2)]
      by_cases h3 : 0 ≤ k' ∧ k' < (n : Int)
      · rw [if_pos ⟨h, h3⟩, if_pos ⟨h, h3.1, by omega⟩]
      · rw [if_neg (fun q => h3 q.2), if_neg (fun q => h3 ⟨q.2.1, by omega⟩)]
  · rw [if_neg (fun q => h q.1), if_neg (fun q => h q.1), if_neg (fun q => h q.1)]
theorem fillM_at (σ : Mem) (c : Nat) (v : Int) (n c' : Nat) (k' : Int) : (fillM σ c v n).1 c' k' = if c' = c ∧ 0 ≤ k' ∧ k' < n then v else σ.1 c' k' := rfl
theorem k_fill (σ : Mem) (c n : Nat) (v : Int) (hsh : shapes[c]? = some (.inr (0, n))) (hn : n ≤ 4096) (hv : inR v) : Con yJ7_fill_53178 cJ7_fill_53178 4 none 0 0 [.ref c, .int (iI v)] σ (AnsV (fillM σ c v n)) := by
  refine con_of (by decide) rfl (Nat.le_of_ble_eq_true rfl) (ok_V rfl) ?_
  refine ev_w (fun hR => ?_)
  have hR0 := hR
  have loop : ∀ i : Nat, i ≤ n → Ev RJ7 cJ7_fill_53178 4 0 0 (AnsV (fillM σ c v n)) 5 [some (.ref c), some (.int (iI v)), some (.int (iI (i : Nat))), some (.int (iI n))] [] (fillM σ c v i) := by
    refine for_up n (fun i hi ih => ?_)
    refine ev_w (fun hR => ?_)
    refine ev_iload_n dJ7_fill_53178_5 rfl ?_
    refine ev_iload_n dJ7_fill_53178_6 rfl ?_
    refine ev_icmp_ge (tgt := 20) dJ7_fill_53178_7 (by decide) (by first | exact hR.1 _ _ | exact hR0.1 _ _ | assumption | exact ⟨by omega, by omega⟩ | exact ⟨by simp [wr_at]; omega, by simp [wr_at]; omega⟩ | exact b2_R _ | exact band_R _ _ | exact bor_R _ _ | exact bshl_R _ _ | exact bshr_R _ _ | exact bxor_R _ _ | exact bs_R (by omega) | decide) (by first | exact hR.1 _ _ | exact hR0.1 _ _ | assumption | exact ⟨by omega, by omega⟩ | exact ⟨by simp [wr_at]; omega, by simp [wr_at]; omega⟩ | exact b2_R _ | exact band_R _ _ | exact bor_R _ _ | exact bshl_R _ _ | exact bshr_R _ _ | exact bxor_R _ _ | exact bs_R (by omega) | decide) (fun h_7 => ?_) (fun h_7 => ?_)
    · refine ev_return dJ7_fill_53178_20 ?_
      obtain rfl : i = n := by omega
      exact ⟨rfl, rfl⟩
    · refine ev_aload_n dJ7_fill_53178_10 rfl ?_
      refine ev_iload_n dJ7_fill_53178_11 rfl ?_
      refine ev_iload_n dJ7_fill_53178_12 rfl ?_
      refine ev_iastore dJ7_fill_53178_13 hsh (by first | omega | (simp [wr_at]; omega) | (simp [wr_at, *]; omega)) (by first | omega | (simp [wr_at]; omega) | (simp [wr_at, *]; omega)) hn (by first | exact hR.1 _ _ | exact hR0.1 _ _ | assumption | exact ⟨by omega, by omega⟩ | exact ⟨by simp [wr_at]; omega, by simp [wr_at]; omega⟩ | exact b2_R _ | exact band_R _ _ | exact bor_R _ _ | exact bshl_R _ _ | exact bshr_R _ _ | exact bxor_R _ _ | exact bs_R (by omega) | decide) ?_
      refine ev_w (fun hR => ?_)
      refine ev_iinc dJ7_fill_53178_14 rfl rfl (by decide) rfl ?_
      refine ev_goto (tgt := 5) dJ7_fill_53178_17 (by decide) ?_
      rw [fillM_s]
      exact ih (by omega)
  refine ev_σ (fillM_0 σ c v).symm ?_
  refine ev_iconst dJ7_fill_53178_0 ?_
  refine ev_istore_n dJ7_fill_53178_1 rfl (by decide) rfl ?_
  refine ev_aload_n dJ7_fill_53178_2 rfl ?_
  refine ev_alen dJ7_fill_53178_3 hsh ?_
  refine ev_istore_n dJ7_fill_53178_4 rfl (by decide) rfl ?_
  exact loop 0 (by omega)
theorem k_has (σ : Mem) (s k : Nat) (hs : s < 2 ^ 31) (hk : k < 31) : Con yX7_has cX7_has 2 (some .boolean) 0 0 [.int (iI s), .int (iI k)] σ (AnsI (b2 (s.testBit k = true)) σ) := by
  refine con_of (by decide) rfl (Nat.le_of_ble_eq_true rfl) (ok_Z rfl (b2_01 _)) ?_
  refine ev_w (fun hR => ?_)
  have hR0 := hR
  refine ev_iload_n dX7_has_0 rfl ?_
  refine ev_iload_n dX7_has_1 rfl ?_
  refine ev_ishr dX7_has_2 ?_
  refine ev_iconst dX7_has_3 ?_
  refine ev_iand dX7_has_4 ?_
  rw [bit_at s k hs hk]
  refine ev_iconst dX7_has_5 ?_
  refine ev_icmp_ne (tgt := 13) dX7_has_6 (by decide) (by split <;> decide) (by decide) (fun h_6 => ?_) (fun h_6 => ?_)
  · refine ev_iconst dX7_has_13 ?_
    refine ev_ireturn dX7_has_14 ?_
    refine ⟨?_, rfl⟩
    unfold b2
    by_cases q : s.testBit k = true
    · (rw [if_pos q] at h_6 ⊢) <;> first | rfl | omega
    · (rw [if_neg q] at h_6 ⊢) <;> first | rfl | omega
  · refine ev_iconst dX7_has_9 ?_
    refine ev_goto (tgt := 14) dX7_has_10 (by decide) ?_
    refine ev_ireturn dX7_has_14 ?_
    refine ⟨?_, rfl⟩
    unfold b2
    by_cases q : s.testBit k = true
    · (rw [if_pos q] at h_6 ⊢) <;> first | rfl | omega
    · (rw [if_neg q] at h_6 ⊢) <;> first | rfl | omega
theorem k_bit (σ : Mem) (s k : Nat) (hs : s < 2 ^ 31) (hk : k < 31) : Con yX7_bit cX7_bit 2 (some .int) 0 0 [.int (iI s), .int (iI k)] σ (AnsI (b2 (s.testBit k = true)) σ) := by
  refine con_of (by decide) rfl (Nat.le_of_ble_eq_true rfl) (ok_I rfl) ?_
  refine ev_w (fun hR => ?_)
  have hR0 := hR
  refine ev_iload_n dX7_bit_0 rfl ?_
  refine ev_iload_n dX7_bit_1 rfl ?_
  refine ev_ishr dX7_bit_2 ?_
  refine ev_iconst dX7_bit_3 ?_
  refine ev_iand dX7_bit_4 ?_
  refine ev_ireturn dX7_bit_5 ?_
  exact ⟨by rw [bit_at s k hs hk]; rfl, rfl⟩
theorem k_isSetBelow (σ : Mem) (x : Int) (n N : Nat) (hx : inR x) (hn : n < 31) (hN : N = 2 ^ n) : Con yX7_isSetBelow cX7_isSetBelow 2 (some .boolean) 0 0 [.int (iI x), .int (iI n)] σ (AnsI (b2 (0 ≤ x ∧ x < N)) σ) := by
  refine con_of (by decide) rfl (Nat.le_of_ble_eq_true rfl) (ok_Z rfl (b2_01 _)) ?_
  refine ev_w (fun hR => ?_)
  have hR0 := hR
  refine ev_iload_n dX7_isSetBelow_0 rfl ?_
  refine ev_if_lt (tgt := 15) dX7_isSetBelow_1 (by decide) (by first | exact hR.1 _ _ | exact hR0.1 _ _ | assumption | exact ⟨by omega, by omega⟩ | exact ⟨by simp [wr_at]; omega, by simp [wr_at]; omega⟩ | exact b2_R _ | exact band_R _ _ | exact bor_R _ _ | exact bshl_R _ _ | exact bshr_R _ _ | exact bxor_R _ _ | exact bs_R (by omega) | decide) (fun h_1 => ?_) (fun h_1 => ?_)
  · refine ev_iconst dX7_isSetBelow_15 ?_
    refine ev_ireturn dX7_isSetBelow_16 ?_
    first
      | exact ⟨by rw [b2_t (by omega)], rfl⟩
      | exact ⟨by rw [b2_f (by omega)], rfl⟩
  · refine ev_iload_n dX7_isSetBelow_4 rfl ?_
    refine ev_iconst dX7_isSetBelow_5 ?_
    refine ev_iload_n dX7_isSetBelow_6 rfl ?_
    refine ev_ishl dX7_isSetBelow_7 ?_
    rw [bshl1 n hn, ← hN]
    have h2n : N < 2 ^ 31 := by rw [hN]; exact Nat.pow_lt_pow_right (by decide) hn
    refine ev_icmp_ge (tgt := 15) dX7_isSetBelow_8 (by decide) (by first | exact hR.1 _ _ | exact hR0.1 _ _ | assumption | exact ⟨by omega, by omega⟩ | exact ⟨by simp [wr_at]; omega, by simp [wr_at]; omega⟩ | exact b2_R _ | exact band_R _ _ | exact bor_R _ _ | exact bshl_R _ _ | exact bshr_R _ _ | exact bxor_R _ _ | exact bs_R (by omega) | decide) (by first | exact hR.1 _ _ | exact hR0.1 _ _ | assumption | exact ⟨by omega, by omega⟩ | exact ⟨by simp [wr_at]; omega, by simp [wr_at]; omega⟩ | exact b2_R _ | exact band_R _ _ | exact bor_R _ _ | exact bshl_R _ _ | exact bshr_R _ _ | exact bxor_R _ _ | exact bs_R (by omega) | decide) (fun h_8 => ?_) (fun h_8 => ?_)
    · refine ev_iconst dX7_isSetBelow_15 ?_
      refine ev_ireturn dX7_isSetBelow_16 ?_
      first
        | exact ⟨by rw [b2_t (by omega)], rfl⟩
        | exact ⟨by rw [b2_f (by omega)], rfl⟩
    · refine ev_iconst dX7_isSetBelow_11 ?_
      refine ev_goto (tgt := 16) dX7_isSetBelow_12 (by decide) ?_
      refine ev_ireturn dX7_isSetBelow_16 ?_
      first
        | exact ⟨by rw [b2_t (by omega)], rfl⟩
        | exact ⟨by rw [b2_f (by omega)], rfl⟩
theorem k_orNone (σ : Mem) (x : Int) (hx : inR x) : Con yX7_orNone cX7_orNone 1 (some .int) 0 0 [.int (iI x)] σ (AnsI (if x ≥ 1000000 then -1 else x) σ) := by
  refine con_of (by decide) rfl (Nat.le_of_ble_eq_true rfl) (ok_I rfl) ?_
  refine ev_w (fun hR => ?_)
  have hR0 := hR
  refine ev_iload_n dX7_orNone_0 rfl ?_
  refine ev_ldcw (z := 1000000) dX7_orNone_1 kc_X7_273 (by decide) ?_
  refine ev_icmp_lt (tgt := 11) dX7_orNone_4 (by decide) (by first | exact hR.1 _ _ | exact hR0.1 _ _ | assumption | exact ⟨by omega, by omega⟩ | exact ⟨by simp [wr_at]; omega, by simp [wr_at]; omega⟩ | exact b2_R _ | exact band_R _ _ | exact bor_R _ _ | exact bshl_R _ _ | exact bshr_R _ _ | exact bxor_R _ _ | exact bs_R (by omega) | decide) (by first | exact hR.1 _ _ | exact hR0.1 _ _ | assumption | exact ⟨by omega, by omega⟩ | exact ⟨by simp [wr_at]; omega, by simp [wr_at]; omega⟩ | exact b2_R _ | exact band_R _ _ | exact bor_R _ _ | exact bshl_R _ _ | exact bshr_R _ _ | exact bxor_R _ _ | exact bs_R (by omega) | decide) (fun h_4 => ?_) (fun h_4 => ?_)
  · refine ev_iload_n dX7_orNone_11 rfl ?_
    refine ev_ireturn dX7_orNone_12 ?_
    first
      | exact ⟨by rw [if_pos (by omega)], rfl⟩
      | exact ⟨by rw [if_neg (by omega)], rfl⟩
  · refine ev_iconst dX7_orNone_7 ?_
    refine ev_goto (tgt := 12) dX7_orNone_8 (by decide) ?_
    refine ev_ireturn dX7_orNone_12 ?_
    first
      | exact ⟨by rw [if_pos (by omega)], rfl⟩
      | exact ⟨by rw [if_neg (by omega)], rfl⟩
theorem k_isPole (σ : Mem) (x : Int) (P : Nat) (hx : inR x) (hP : P = 3 ∨ P = 20) (hpl : (σ.1 0 1).toNat = P) : Con yX7_isPole cX7_isPole 2 (some .boolean) 0 0 [.ref 0, .int (iI x)] σ (AnsI (b2 (0 ≤ x ∧ x < σ.1 P 0)) σ) := by
  refine con_of (by decide) rfl (Nat.le_of_ble_eq_true rfl) (ok_Z rfl (b2_01 _)) ?_
  refine ev_w (fun hR => ?_)
  have hR0 := hR
  refine ev_iload_n dX7_isPole_0 rfl ?_
  refine ev_if_lt (tgt := 19) dX7_isPole_1 (by decide) (by first | exact hR.1 _ _ | exact hR0.1 _ _ | assumption | exact ⟨by omega, by omega⟩ | exact ⟨by simp [wr_at]; omega, by simp [wr_at]; omega⟩ | exact b2_R _ | exact band_R _ _ | exact bor_R _ _ | exact bshl_R _ _ | exact bshr_R _ _ | exact bxor_R _ _ | exact bs_R (by omega) | decide) (fun h_1 => ?_) (fun h_1 => ?_)
  · refine ev_iconst dX7_isPole_19 ?_
    refine ev_ireturn dX7_isPole_20 ?_
    first
      | exact ⟨by rw [b2_t (by omega)], rfl⟩
      | exact ⟨by rw [b2_f (by omega)], rfl⟩
  · refine ev_iload_n dX7_isPole_4 rfl ?_
    refine ev_aload_n dX7_isPole_5 rfl ?_
    refine ev_getQ (r := P) dX7_isPole_6 fl_X7_19 rfl rfl hpl ?_
    refine ev_getI (kz := 0) dX7_isPole_9 fl_X7_92 (plO hP) rfl rfl ?_
    refine ev_icmp_ge (tgt := 19) dX7_isPole_12 (by decide) (by first | exact hR.1 _ _ | exact hR0.1 _ _ | assumption | exact ⟨by omega, by omega⟩ | exact ⟨by simp [wr_at]; omega, by simp [wr_at]; omega⟩ | exact b2_R _ | exact band_R _ _ | exact bor_R _ _ | exact bshl_R _ _ | exact bshr_R _ _ | exact bxor_R _ _ | exact bs_R (by omega) | decide) (by first | exact hR.1 _ _ | exact hR0.1 _ _ | assumption | exact ⟨by omega, by omega⟩ | exact ⟨by simp [wr_at]; omega, by simp [wr_at]; omega⟩ | exact b2_R _ | exact band_R _ _ | exact bor_R _ _ | exact bshl_R _ _ | exact bshr_R _ _ | exact bxor_R _ _ | exact bs_R (by omega) | decide) (fun h_12 => ?_) (fun h_12 => ?_)
    · refine ev_iconst dX7_isPole_19 ?_
      refine ev_ireturn dX7_isPole_20 ?_
      first
        | exact ⟨by rw [b2_t (by omega)], rfl⟩
        | exact ⟨by rw [b2_f (by omega)], rfl⟩
    · refine ev_iconst dX7_isPole_15 ?_
      refine ev_goto (tgt := 20) dX7_isPole_16 (by decide) ?_
      refine ev_ireturn dX7_isPole_20 ?_
      first
        | exact ⟨by rw [b2_t (by omega)], rfl⟩
        | exact ⟨by rw [b2_f (by omega)], rfl⟩
theorem k_isRope (σ : Mem) (x : Int) (P : Nat) (hx : inR x) (hP : P = 3 ∨ P = 20) (hpl : (σ.1 0 1).toNat = P) : Con yX7_isRope cX7_isRope 2 (some .boolean) 0 0 [.ref 0, .int (iI x)] σ (AnsI (b2 (0 ≤ x ∧ x < σ.1 P 1)) σ) := by
  refine con_of (by decide) rfl (Nat.le_of_ble_eq_true rfl) (ok_Z rfl (b2_01 _)) ?_
  refine ev_w (fun hR => ?_)
  have hR0 := hR
  refine ev_iload_n dX7_isRope_0 rfl ?_
  refine ev_if_lt (tgt := 19) dX7_isRope_1 (by decide) (by first | exact hR.1 _ _ | exact hR0.1 _ _ | assumption | exact ⟨by omega, by omega⟩ | exact ⟨by simp [wr_at]; omega, by simp [wr_at]; omega⟩ | exact b2_R _ | exact band_R _ _ | exact bor_R _ _ | exact bshl_R _ _ | exact bshr_R _ _ | exact bxor_R _ _ | exact bs_R (by omega) | decide) (fun h_1 => ?_) (fun h_1 => ?_)
  · refine ev_iconst dX7_isRope_19 ?_
    refine ev_ireturn dX7_isRope_20 ?_
    first
      | exact ⟨by rw [b2_t (by omega)], rfl⟩
      | exact ⟨by rw [b2_f (by omega)], rfl⟩
  · refine ev_iload_n dX7_isRope_4 rfl ?_
    refine ev_aload_n dX7_isRope_5 rfl ?_
    refine ev_getQ (r := P) dX7_isRope_6 fl_X7_19 rfl rfl hpl ?_
    refine ev_getI (kz := 1) dX7_isRope_9 fl_X7_98 (plO hP) rfl rfl ?_
    refine ev_icmp_ge (tgt := 19) dX7_isRope_12 (by decide) (by first | exact hR.1 _ _ | exact hR0.1 _ _ | assumption | exact ⟨by omega, by omega⟩ | exact ⟨by simp [wr_at]; omega, by simp [wr_at]; omega⟩ | exact b2_R _ | exact band_R _ _ | exact bor_R _ _ | exact bshl_R _ _ | exact bshr_R _ _ | exact bxor_R _ _ | exact bs_R (by omega) | decide) (by first | exact hR.1 _ _ | exact hR0.1 _ _ | assumption | exact ⟨by omega, by omega⟩ | exact ⟨by simp [wr_at]; omega, by simp [wr_at]; omega⟩ | exact b2_R _ | exact band_R _ _ | exact bor_R _ _ | exact bshl_R _ _ | exact bshr_R _ _ | exact bxor_R _ _ | exact bs_R (by omega) | decide) (fun h_12 => ?_) (fun h_12 => ?_)
    · refine ev_iconst dX7_isRope_19 ?_
      refine ev_ireturn dX7_isRope_20 ?_
      first
        | exact ⟨by rw [b2_t (by omega)], rfl⟩
        | exact ⟨by rw [b2_f (by omega)], rfl⟩
    · refine ev_iconst dX7_isRope_15 ?_
      refine ev_goto (tgt := 20) dX7_isRope_16 (by decide) ?_
      refine ev_ireturn dX7_isRope_20 ?_
      first
        | exact ⟨by rw [b2_t (by omega)], rfl⟩
        | exact ⟨by rw [b2_f (by omega)], rfl⟩
theorem k_isBoy (σ : Mem) (x : Int) (P : Nat) (hx : inR x) (hP : P = 3 ∨ P = 20) (hpl : (σ.1 0 1).toNat = P) : Con yX7_isBoy cX7_isBoy 2 (some .boolean) 0 0 [.ref 0, .int (iI x)] σ (AnsI (b2 (0 ≤ x ∧ x < σ.1 P 2)) σ) := by
  refine con_of (by decide) rfl (Nat.le_of_ble_eq_true rfl) (ok_Z rfl (b2_01 _)) ?_
  refine ev_w (fun hR => ?_)
  have hR0 := hR
  refine ev_iload_n dX7_isBoy_0 rfl ?_
  refine ev_if_lt (tgt := 19) dX7_isBoy_1 (by decide) (by first | exact hR.1 _ _ | exact hR0.1 _ _ | assumption | exact ⟨by omega, by omega⟩ | exact ⟨by simp [wr_at]; omega, by simp [wr_at]; omega⟩ | exact b2_R _ | exact band_R _ _ | exact bor_R _ _ | exact bshl_R _ _ | exact bshr_R _ _ | exact bxor_R _ _ | exact bs_R (by omega) | decide) (fun h_1 => ?_) (fun h_1 => ?_)
  · refine ev_iconst dX7_isBoy_19 ?_
    refine ev_ireturn dX7_isBoy_20 ?_
    first
      | exact ⟨by rw [b2_t (by omega)], rfl⟩
      | exact ⟨by rw [b2_f (by omega)], rfl⟩
  · refine ev_iload_n dX7_isBoy_4 rfl ?_
    refine ev_aload_n dX7_isBoy_5 rfl ?_
    refine ev_getQ (r := P) dX7_isBoy_6 fl_X7_19 rfl rfl hpl ?_
    refine ev_getI (kz := 2) dX7_isBoy_9 fl_X7_101 (plO hP) rfl rfl ?_
    refine ev_icmp_ge (tgt := 19) dX7_isBoy_12 (by decide) (by first | exact hR.1 _ _ | exact hR0.1 _ _ | assumption | exact ⟨by omega, by omega⟩ | exact ⟨by simp [wr_at]; omega, by simp [wr_at]; omega⟩ | exact b2_R _ | exact band_R _ _ | exact bor_R _ _ | exact bshl_R _ _ | exact bshr_R _ _ | exact bxor_R _ _ | exact bs_R (by omega) | decide) (by first | exact hR.1 _ _ | exact hR0.1 _ _ | assumption | exact ⟨by omega, by omega⟩ | exact ⟨by simp [wr_at]; omega, by simp [wr_at]; omega⟩ | exact b2_R _ | exact band_R _ _ | exact bor_R _ _ | exact bshl_R _ _ | exact bshr_R _ _ | exact bxor_R _ _ | exact bs_R (by omega) | decide) (fun h_12 => ?_) (fun h_12 => ?_)
    · refine ev_iconst dX7_isBoy_19 ?_
      refine ev_ireturn dX7_isBoy_20 ?_
      first
        | exact ⟨by rw [b2_t (by omega)], rfl⟩
        | exact ⟨by rw [b2_f (by omega)], rfl⟩
    · refine ev_iconst dX7_isBoy_15 ?_
      refine ev_goto (tgt := 20) dX7_isBoy_16 (by decide) ?_
      refine ev_ireturn dX7_isBoy_20 ?_
      first
        | exact ⟨by rw [b2_t (by omega)], rfl⟩
        | exact ⟨by rw [b2_f (by omega)], rfl⟩
theorem k_isLoad (σ : Mem) (x : Int) (P : Nat) (hx : inR x) (hP : P = 3 ∨ P = 20) (hpl : (σ.1 0 1).toNat = P) : Con yX7_isLoad cX7_isLoad 2 (some .boolean) 0 0 [.ref 0, .int (iI x)] σ (AnsI (b2 (0 ≤ x ∧ x < σ.1 P 3)) σ) := by
  refine con_of (by decide) rfl (Nat.le_of_ble_eq_true rfl) (ok_Z rfl (b2_01 _)) ?_
  refine ev_w (fun hR => ?_)
  have hR0 := hR
  refine ev_iload_n dX7_isLoad_0 rfl ?_
  refine ev_if_lt (tgt := 19) dX7_isLoad_1 (by decide) (by first | exact hR.1 _ _ | exact hR0.1 _ _ | assumption | exact ⟨by omega, by omega⟩ | exact ⟨by simp [wr_at]; omega, by simp [wr_at]; omega⟩ | exact b2_R _ | exact band_R _ _ | exact bor_R _ _ | exact bshl_R _ _ | exact bshr_R _ _ | exact bxor_R _ _ | exact bs_R (by omega) | decide) (fun h_1 => ?_) (fun h_1 => ?_)
  · refine ev_iconst dX7_isLoad_19 ?_
    refine ev_ireturn dX7_isLoad_20 ?_
    first
      | exact ⟨by rw [b2_t (by omega)], rfl⟩
      | exact ⟨by rw [b2_f (by omega)], rfl⟩
  · refine ev_iload_n dX7_isLoad_4 rfl ?_
    refine ev_aload_n dX7_isLoad_5 rfl ?_
    refine ev_getQ (r := P) dX7_isLoad_6 fl_X7_19 rfl rfl hpl ?_
    refine ev_getI (kz := 3) dX7_isLoad_9 fl_X7_104 (plO hP) rfl rfl ?_
    refine ev_icmp_ge (tgt := 19) dX7_isLoad_12 (by decide) (by first | exact hR.1 _ _ | exact hR0.1 _ _ | assumption | exact ⟨by omega, by omega⟩ | exact ⟨by simp [wr_at]; omega, by simp [wr_at]; omega⟩ | exact b2_R _ | exact band_R _ _ | exact bor_R _ _ | exact bshl_R _ _ | exact bshr_R _ _ | exact bxor_R _ _ | exact bs_R (by omega) | decide) (by first | exact hR.1 _ _ | exact hR0.1 _ _ | assumption | exact ⟨by omega, by omega⟩ | exact ⟨by simp [wr_at]; omega, by simp [wr_at]; omega⟩ | exact b2_R _ | exact band_R _ _ | exact bor_R _ _ | exact bshl_R _ _ | exact bshr_R _ _ | exact bxor_R _ _ | exact bs_R (by omega) | decide) (fun h_12 => ?_) (fun h_12 => ?_)
    · refine ev_iconst dX7_isLoad_19 ?_
      refine ev_ireturn dX7_isLoad_20 ?_
      first
        | exact ⟨by rw [b2_t (by omega)], rfl⟩
        | exact ⟨by rw [b2_f (by omega)], rfl⟩
    · refine ev_iconst dX7_isLoad_15 ?_
      refine ev_goto (tgt := 20) dX7_isLoad_16 (by decide) ?_
      refine ev_ireturn dX7_isLoad_20 ?_
      first
        | exact ⟨by rw [b2_t (by omega)], rfl⟩
        | exact ⟨by rw [b2_f (by omega)], rfl⟩
