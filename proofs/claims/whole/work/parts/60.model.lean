/-! the reference: what its cells have to do with the class's -/
theorem b2_congr {p q : Prop} [Decidable p] [Decidable q] (h : p ↔ q) : b2 p = b2 q := by
  by_cases hp : p
  · rw [b2_t hp, b2_t (h.mp hp)]
  · rw [b2_f hp, b2_f (fun z => hp (h.mpr z))]
def MPl (μ σ : Mem) (P n nr nb nl : Nat) : Prop := (μ.1 79 0 = n ∧ μ.1 79 4 = nr ∧ μ.1 79 9 = nb ∧ μ.1 79 13 = nl) ∧
  (∀ p : Nat, p < n → μ.1 80 p = σ.1 (P + 1) p ∧ μ.1 81 p = σ.1 (P + 2) p ∧ μ.1 82 p = σ.1 (P + 3) p) ∧
  (∀ r : Nat, r < nr → μ.1 83 r = σ.1 (P + 5) r ∧ μ.1 84 r = σ.1 (P + 6) r ∧ μ.1 85 r = σ.1 (P + 7) r ∧ μ.1 86 r = σ.1 (P + 8) r) ∧
  (∀ b : Nat, b < nb → μ.1 87 b = σ.1 (P + 9) b ∧ μ.1 88 b = σ.1 (P + 10) b ∧ μ.1 89 b = σ.1 (P + 11) b) ∧
  (∀ l : Nat, l < nl → μ.1 90 l = σ.1 (P + 12) l ∧ μ.1 91 l = σ.1 (P + 13) l ∧ μ.1 92 l = σ.1 (P + 14) l ∧ μ.1 93 l = σ.1 (P + 15) l ∧ μ.1 94 l = σ.1 (P + 16) l)
/-- the state at t, and the reference's rows for it -/
def StRel (σ : Mem) (t nr nb nl : Nat) (mi ha ri se : Int) (we wt ct ap on to go li ca dn rm rr : Int → Int) : Prop :=
  (mi = σ.1 t 0 ∧ ha = σ.1 t 1 ∧ ri = σ.1 t 6 ∧ se = σ.1 t 2) ∧
  (∀ r : Nat, r < nr → we r = σ.1 (t + 1) r ∧ wt r = b2 ((σ.1 t 4).toNat.testBit r = true) ∧ ct r = b2 ((σ.1 t 3).toNat.testBit r = false)) ∧
  (∀ b : Nat, b < nb → on b = σ.1 (t + 3) b ∧ go b = σ.1 (t + 4) b ∧ (σ.1 (t + 3) b = -1 → ap b = σ.1 (t + 2) b) ∧ (σ.1 (t + 3) b ≠ -1 → ap b = -1 ∧ to b = σ.1 (t + 2) b)) ∧
  (∀ l : Nat, l < nl → li l = σ.1 (t + 5) l ∧ ca l = σ.1 (t + 6) l ∧ dn l = b2 ((σ.1 t 5).toNat.testBit l = true)) ∧
  (∀ i : Nat, (i : Int) < σ.1 t 6 → rm i = σ.1 (t + 7) i ∧ rr i = σ.1 (t + 8) i)
def MDy (μ σ : Mem) (nr nb nl : Nat) : Prop := StRel σ 37 nr nb nl (μ.1 79 29) (μ.1 79 30) (μ.1 79 31) (μ.1 79 34) (μ.1 95) (μ.1 96) (μ.1 97) (μ.1 98) (μ.1 99) (μ.1 100) (μ.1 101) (μ.1 102) (μ.1 103) (μ.1 104) (μ.1 105) (μ.1 106)
def MOk (μ σ : Mem) (P n nr nb nl mb w wt dv : Nat) (f t : Nat → Nat) : Prop := PlanOk σ P n nr nb nl f t ∧ DynOk σ P n nr nb nl mb w wt dv ∧ MPl μ σ P n nr nb nl ∧ MDy μ σ nr nb nl
theorem cmpz_lt {a b : Int} : cmpz a b < 0 ↔ a < b := by unfold cmpz; split <;> (try split) <;> omega
theorem cmpz_gt {a b : Int} : 0 < cmpz a b ↔ b < a := by unfold cmpz; split <;> (try split) <;> omega
theorem cmpz_R (a b : Int) : inR (cmpz a b) := by unfold cmpz; split <;> (try split) <;> decide
theorem m_in (σ : Mem) (v a b : Int) (hv : inL v) (ha : inL a) (hb : inL b) : Con yX8_in cX8_in 6 (some .boolean) 0 0 [.long (lI v), .long (lI a), .long (lI b)] σ (AnsI (b2 (a ≤ v ∧ v ≤ b)) σ) := by
  refine con_of (by decide) rfl (Nat.le_of_ble_eq_true rfl) (ok_Z rfl (b2_01 _)) ?_
  refine ev_w (fun hR => ?_)
  have hR0 := hR
  refine ev_lload_n dX8_in_0 rfl ?_
  refine ev_lload_n dX8_in_1 rfl ?_
  refine ev_lcmp dX8_in_2 (by assumption) (by assumption) ?_
  refine ev_if_lt (tgt := 17) dX8_in_3 (by decide) (cmpz_R _ _) (fun h_3 => ?_) (fun h_3 => ?_)
  · refine ev_iconst dX8_in_17 ?_
    refine ev_ireturn dX8_in_18 ?_
    first
      | (rw [b2_f (fun z => by have q := cmpz_lt.mp h_3; omega)]; exact ⟨rfl, rfl⟩)
      | (rw [b2_f (fun z => by have q := cmpz_gt.mp h_10; omega)]; exact ⟨rfl, rfl⟩)
      | (rw [b2_t ⟨by have q : ¬ v < a := fun z => h_3 (cmpz_lt.mpr z); omega, by have q : ¬ b < v := fun z => h_10 (cmpz_gt.mpr z); omega⟩]; exact ⟨rfl, rfl⟩)
  · refine ev_lload_n dX8_in_6 rfl ?_
    refine ev_lload dX8_in_7 rfl ?_
    refine ev_lcmp dX8_in_9 (by assumption) (by assumption) ?_
    refine ev_if_gt (tgt := 17) dX8_in_10 (by decide) (cmpz_R _ _) (fun h_10 => ?_) (fun h_10 => ?_)
    · refine ev_iconst dX8_in_17 ?_
      refine ev_ireturn dX8_in_18 ?_
      first
        | (rw [b2_f (fun z => by have q := cmpz_lt.mp h_3; omega)]; exact ⟨rfl, rfl⟩)
        | (rw [b2_f (fun z => by have q := cmpz_gt.mp h_10; omega)]; exact ⟨rfl, rfl⟩)
        | (rw [b2_t ⟨by have q : ¬ v < a := fun z => h_3 (cmpz_lt.mpr z); omega, by have q : ¬ b < v := fun z => h_10 (cmpz_gt.mpr z); omega⟩]; exact ⟨rfl, rfl⟩)
    · refine ev_iconst dX8_in_13 ?_
      refine ev_goto (tgt := 18) dX8_in_14 (by decide) ?_
      refine ev_ireturn dX8_in_18 ?_
      first
        | (rw [b2_f (fun z => by have q := cmpz_lt.mp h_3; omega)]; exact ⟨rfl, rfl⟩)
        | (rw [b2_f (fun z => by have q := cmpz_gt.mp h_10; omega)]; exact ⟨rfl, rfl⟩)
        | (rw [b2_t ⟨by have q : ¬ v < a := fun z => h_3 (cmpz_lt.mpr z); omega, by have q : ¬ b < v := fun z => h_10 (cmpz_gt.mpr z); omega⟩]; exact ⟨rfl, rfl⟩)
theorem m_has (σ : Mem) (s k : Nat) (hs : s < 2 ^ 31) (hk : k < 31) : Con yX8_has cX8_has 2 (some .boolean) 0 0 [.int (iI s), .int (iI k)] σ (AnsI (b2 (s.testBit k = true)) σ) := by
  refine con_of (by decide) rfl (Nat.le_of_ble_eq_true rfl) (ok_Z rfl (b2_01 _)) ?_
  refine ev_w (fun hR => ?_)
  have hR0 := hR
  have hb := bit_at s k hs hk
  refine ev_iload_n dX8_has_0 rfl ?_
  refine ev_iload_n dX8_has_1 rfl ?_
  refine ev_ishr dX8_has_2 ?_
  refine ev_iconst dX8_has_3 ?_
  refine ev_iand dX8_has_4 ?_
  rw [hb]
  refine ev_iconst dX8_has_5 ?_
  refine ev_icmp_ne (tgt := 13) dX8_has_6 (by decide) (by split <;> decide) (by decide) (fun h_6 => ?_) (fun h_6 => ?_)
  · refine ev_iconst dX8_has_13 ?_
    refine ev_ireturn dX8_has_14 ?_
    by_cases q : s.testBit k = true
    · first
        | (rw [b2_t q]; exact ⟨rfl, rfl⟩)
        | (rw [if_pos q] at h_6; exact absurd rfl h_6)
    · first
        | (rw [b2_f q]; exact ⟨rfl, rfl⟩)
        | (rw [if_neg q] at h_6; exact absurd h_6 (by decide))
  · refine ev_iconst dX8_has_9 ?_
    refine ev_goto (tgt := 14) dX8_has_10 (by decide) ?_
    refine ev_ireturn dX8_has_14 ?_
    by_cases q : s.testBit k = true
    · first
        | (rw [b2_t q]; exact ⟨rfl, rfl⟩)
        | (rw [if_pos q] at h_6; exact absurd rfl h_6)
    · first
        | (rw [b2_f q]; exact ⟨rfl, rfl⟩)
        | (rw [if_neg q] at h_6; exact absurd h_6 (by decide))
theorem m_bits (σ : Mem) (s : Nat) (hs : s < 2 ^ 31) : Con yX8_bits cX8_bits 3 (some .int) 0 0 [.int (iI s)] σ (AnsI (cnt s.testBit 12 : Nat) σ) := by
  refine con_of (by decide) rfl (Nat.le_of_ble_eq_true rfl) (ok_I rfl) ?_
  refine ev_w (fun hR => ?_)
  have hR0 := hR
  have loop : ∀ i : Nat, i ≤ 12 → Ev RX8 cX8_bits 3 0 0 (AnsI (cnt s.testBit 12 : Nat) σ) 4 [some (.int (iI s)), some (.int (iI (cnt s.testBit i : Nat))), some (.int (iI (i : Nat)))] [] σ := by
    refine for_up 12 (fun i hi ih => ?_)
    refine ev_w (fun hR => ?_)
    have hc := cnt_le s.testBit i
    refine ev_iload_n dX8_bits_4 rfl ?_
    refine ev_bipush dX8_bits_5 (by decide) ?_
    refine ev_icmp_ge (tgt := 24) dX8_bits_7 (by decide) (by first | exact hR.1 _ _ | exact hR0.1 _ _ | assumption | exact ⟨by omega, by omega⟩ | exact ⟨by simp [wr_at]; omega, by simp [wr_at]; omega⟩ | exact b2_R _ | exact band_R _ _ | exact bor_R _ _ | exact bshl_R _ _ | exact bshr_R _ _ | exact bxor_R _ _ | exact bs_R (by omega) | decide) (by first | exact hR.1 _ _ | exact hR0.1 _ _ | assumption | exact ⟨by omega, by omega⟩ | exact ⟨by simp [wr_at]; omega, by simp [wr_at]; omega⟩ | exact b2_R _ | exact band_R _ _ | exact bor_R _ _ | exact bshl_R _ _ | exact bshr_R _ _ | exact bxor_R _ _ | exact bs_R (by omega) | decide) (fun h_7 => ?_) (fun h_7 => ?_)
    · refine ev_iload_n dX8_bits_24 rfl ?_
      refine ev_ireturn dX8_bits_25 ?_
      obtain rfl : i = 12 := by omega
      exact ⟨rfl, rfl⟩
    · refine ev_iload_n dX8_bits_10 rfl ?_
      refine ev_iload_n dX8_bits_11 rfl ?_
      refine ev_iload_n dX8_bits_12 rfl ?_
      refine ev_ishr dX8_bits_13 ?_
      refine ev_iconst dX8_bits_14 ?_
      refine ev_iand dX8_bits_15 ?_
      refine ev_iadd dX8_bits_16 ?_
      refine ev_istore_n dX8_bits_17 rfl (by decide) rfl ?_
      refine ev_iinc dX8_bits_18 rfl rfl (by decide) rfl ?_
      refine ev_goto (tgt := 4) dX8_bits_21 (by decide) ?_
      have e : ((cnt s.testBit i : Nat) : Int) + band (bshr (s : Int) (i : Int)) 1 = (cnt s.testBit (i + 1) : Nat) := by
        rw [bit_at s i hs (by omega), cnt]
        split <;> omega
      rw [e]
      exact ih (by omega)
  refine ev_iconst dX8_bits_0 ?_
  refine ev_istore_n dX8_bits_1 rfl (by decide) rfl ?_
  refine ev_iconst dX8_bits_2 ?_
  refine ev_istore_n dX8_bits_3 rfl (by decide) rfl ?_
  exact loop 0 (by omega)
theorem m_size (σ : Mem) (x : Int) (hx : inR x) : Con yX8_size cX8_size 1 (some .int) 0 0 [.int (iI x)] σ (AnsI (absz x) σ) := by
  refine con_of (by decide) rfl (Nat.le_of_ble_eq_true rfl) (ok_I rfl) ?_
  refine ev_w (fun hR => ?_)
  have hR0 := hR
  refine ev_iload_n dX8_size_0 rfl ?_
  refine ev_if_ge (tgt := 9) dX8_size_1 (by decide) (by first | exact hR.1 _ _ | exact hR0.1 _ _ | assumption | exact ⟨by omega, by omega⟩ | exact ⟨by simp [wr_at]; omega, by simp [wr_at]; omega⟩ | exact b2_R _ | exact band_R _ _ | exact bor_R _ _ | exact bshl_R _ _ | exact bshr_R _ _ | exact bxor_R _ _ | exact bs_R (by omega) | decide) (fun h_1 => ?_) (fun h_1 => ?_)
  · refine ev_iload_n dX8_size_9 rfl ?_
    refine ev_ireturn dX8_size_10 ?_
    unfold absz
    first
      | (rw [if_pos (by omega)]; exact ⟨rfl, rfl⟩)
      | (rw [if_neg (by omega)]; exact ⟨rfl, rfl⟩)
  · refine ev_iload_n dX8_size_4 rfl ?_
    refine ev_ineg dX8_size_5 ?_
    refine ev_goto (tgt := 10) dX8_size_6 (by decide) ?_
    refine ev_ireturn dX8_size_10 ?_
    unfold absz
    first
      | (rw [if_pos (by omega)]; exact ⟨rfl, rfl⟩)
      | (rw [if_neg (by omega)]; exact ⟨rfl, rfl⟩)
theorem m_isPole (σ : Mem) (x : Int) (n : Nat) (hx : inR x) (hn : σ.1 79 0 = n) (hn2 : n ≤ 1000) : Con yX8_isPole cX8_isPole 2 (some .boolean) 1 25 [.ref 79, .int (iI x)] σ (AnsI (b2 (0 ≤ x ∧ x < n)) σ) := by
  refine con_of (by decide) rfl (Nat.le_of_ble_eq_true rfl) (ok_Z rfl (b2_01 _)) ?_
  refine ev_w (fun hR => ?_)
  have hR0 := hR
  refine ev_iload_n dX8_isPole_0 rfl ?_
  refine ev_i2l dX8_isPole_1 hx ?_
  refine ev_lconst (z := 0) dX8_isPole_2 (by decide) ?_
  refine ev_aload_n dX8_isPole_3 rfl ?_
  refine ev_getI (kz := 0) dX8_isPole_4 fl_X8_177 rfl rfl rfl ?_
  rw [hn]
  refine ev_iconst dX8_isPole_7 ?_
  refine ev_isub dX8_isPole_8 ?_
  refine ev_i2l dX8_isPole_9 ⟨by omega, by omega⟩ ?_
  refine ev_callSI dX8_isPole_10 ks_X8_180 (m_in σ x 0 ((n : Int) - 1) ⟨by omega, by omega⟩ (by decide) ⟨by omega, by omega⟩) rfl rfl ⟨by decide, by decide⟩ (Nat.le_of_ble_eq_true rfl) ?_
  refine ev_w (fun hR => ?_)
  refine ev_ireturn dX8_isPole_13 ?_
  rw [b2_congr (show (0 ≤ x ∧ x ≤ (n : Int) - 1) ↔ (0 ≤ x ∧ x < (n : Int)) by omega)]
  exact ⟨rfl, rfl⟩
theorem m_isRope (σ : Mem) (x : Int) (n : Nat) (hx : inR x) (hn : σ.1 79 4 = n) (hn2 : n ≤ 1000) : Con yX8_isRope cX8_isRope 2 (some .boolean) 1 25 [.ref 79, .int (iI x)] σ (AnsI (b2 (0 ≤ x ∧ x < n)) σ) := by
  refine con_of (by decide) rfl (Nat.le_of_ble_eq_true rfl) (ok_Z rfl (b2_01 _)) ?_
  refine ev_w (fun hR => ?_)
  have hR0 := hR
  refine ev_iload_n dX8_isRope_0 rfl ?_
  refine ev_i2l dX8_isRope_1 hx ?_
  refine ev_lconst (z := 0) dX8_isRope_2 (by decide) ?_
  refine ev_aload_n dX8_isRope_3 rfl ?_
  refine ev_getI (kz := 4) dX8_isRope_4 fl_X8_184 rfl rfl rfl ?_
  rw [hn]
  refine ev_iconst dX8_isRope_7 ?_
  refine ev_isub dX8_isRope_8 ?_
  refine ev_i2l dX8_isRope_9 ⟨by omega, by omega⟩ ?_
  refine ev_callSI dX8_isRope_10 ks_X8_180 (m_in σ x 0 ((n : Int) - 1) ⟨by omega, by omega⟩ (by decide) ⟨by omega, by omega⟩) rfl rfl ⟨by decide, by decide⟩ (Nat.le_of_ble_eq_true rfl) ?_
  refine ev_w (fun hR => ?_)
  refine ev_ireturn dX8_isRope_13 ?_
  rw [b2_congr (show (0 ≤ x ∧ x ≤ (n : Int) - 1) ↔ (0 ≤ x ∧ x < (n : Int)) by omega)]
  exact ⟨rfl, rfl⟩
theorem m_isBoy (σ : Mem) (x : Int) (n : Nat) (hx : inR x) (hn : σ.1 79 9 = n) (hn2 : n ≤ 1000) : Con yX8_isBoy cX8_isBoy 2 (some .boolean) 1 25 [.ref 79, .int (iI x)] σ (AnsI (b2 (0 ≤ x ∧ x < n)) σ) := by
  refine con_of (by decide) rfl (Nat.le_of_ble_eq_true rfl) (ok_Z rfl (b2_01 _)) ?_
  refine ev_w (fun hR => ?_)
  have hR0 := hR
  refine ev_iload_n dX8_isBoy_0 rfl ?_
  refine ev_i2l dX8_isBoy_1 hx ?_
  refine ev_lconst (z := 0) dX8_isBoy_2 (by decide) ?_
  refine ev_aload_n dX8_isBoy_3 rfl ?_
  refine ev_getI (kz := 9) dX8_isBoy_4 fl_X8_187 rfl rfl rfl ?_
  rw [hn]
  refine ev_iconst dX8_isBoy_7 ?_
  refine ev_isub dX8_isBoy_8 ?_
  refine ev_i2l dX8_isBoy_9 ⟨by omega, by omega⟩ ?_
  refine ev_callSI dX8_isBoy_10 ks_X8_180 (m_in σ x 0 ((n : Int) - 1) ⟨by omega, by omega⟩ (by decide) ⟨by omega, by omega⟩) rfl rfl ⟨by decide, by decide⟩ (Nat.le_of_ble_eq_true rfl) ?_
  refine ev_w (fun hR => ?_)
  refine ev_ireturn dX8_isBoy_13 ?_
  rw [b2_congr (show (0 ≤ x ∧ x ≤ (n : Int) - 1) ↔ (0 ≤ x ∧ x < (n : Int)) by omega)]
  exact ⟨rfl, rfl⟩
theorem m_isLoad (σ : Mem) (x : Int) (n : Nat) (hx : inR x) (hn : σ.1 79 13 = n) (hn2 : n ≤ 1000) : Con yX8_isLoad cX8_isLoad 2 (some .boolean) 1 25 [.ref 79, .int (iI x)] σ (AnsI (b2 (0 ≤ x ∧ x < n)) σ) := by
  refine con_of (by decide) rfl (Nat.le_of_ble_eq_true rfl) (ok_Z rfl (b2_01 _)) ?_
  refine ev_w (fun hR => ?_)
  have hR0 := hR
  refine ev_iload_n dX8_isLoad_0 rfl ?_
  refine ev_i2l dX8_isLoad_1 hx ?_
  refine ev_lconst (z := 0) dX8_isLoad_2 (by decide) ?_
  refine ev_aload_n dX8_isLoad_3 rfl ?_
  refine ev_getI (kz := 13) dX8_isLoad_4 fl_X8_190 rfl rfl rfl ?_
  rw [hn]
  refine ev_iconst dX8_isLoad_7 ?_
  refine ev_isub dX8_isLoad_8 ?_
  refine ev_i2l dX8_isLoad_9 ⟨by omega, by omega⟩ ?_
  refine ev_callSI dX8_isLoad_10 ks_X8_180 (m_in σ x 0 ((n : Int) - 1) ⟨by omega, by omega⟩ (by decide) ⟨by omega, by omega⟩) rfl rfl ⟨by decide, by decide⟩ (Nat.le_of_ble_eq_true rfl) ?_
  refine ev_w (fun hR => ?_)
  refine ev_ireturn dX8_isLoad_13 ?_
  rw [b2_congr (show (0 ≤ x ∧ x ≤ (n : Int) - 1) ↔ (0 ≤ x ∧ x < (n : Int)) by omega)]
  exact ⟨rfl, rfl⟩
theorem m_doneSet (σ : Mem) (n : Nat) (hn : σ.1 79 13 = n) (hn4 : n ≤ 4)  : Con yX8_doneSet cX8_doneSet 3 (some .int) 0 0 [.ref 79] σ (AnsI (bs (fun l => decide (σ.1 104 l ≠ 0)) n) σ) := by
  refine con_of (by decide) rfl (Nat.le_of_ble_eq_true rfl) (ok_I rfl) ?_
  refine ev_w (fun hR => ?_)
  have hR0 := hR
  have loop : ∀ i : Nat, i ≤ n → Ev RX8 cX8_doneSet 3 0 0 (AnsI (bs (fun l => decide (σ.1 104 l ≠ 0)) n) σ) 4 [some (.ref 79), some (.int (iI (bs (fun l => decide (σ.1 104 l ≠ 0)) i : Nat))), some (.int (iI (i : Nat)))] [] σ := by
    refine for_up n (fun i hi ih => ?_)
    refine ev_w (fun hR => ?_)
    refine ev_iload_n dX8_doneSet_4 rfl ?_
    refine ev_aload_n dX8_doneSet_5 rfl ?_
    refine ev_getI (kz := 13) dX8_doneSet_6 fl_X8_190 rfl rfl rfl ?_
    rw [hn]
    refine ev_icmp_ge (tgt := 37) dX8_doneSet_9 (by decide) (by first | exact hR.1 _ _ | exact hR0.1 _ _ | assumption | exact ⟨by omega, by omega⟩ | exact ⟨by simp [wr_at]; omega, by simp [wr_at]; omega⟩ | exact b2_R _ | exact band_R _ _ | exact bor_R _ _ | exact bshl_R _ _ | exact bshr_R _ _ | exact bxor_R _ _ | exact bs_R (by omega) | decide) (by first | exact hR.1 _ _ | exact hR0.1 _ _ | assumption | exact ⟨by omega, by omega⟩ | exact ⟨by simp [wr_at]; omega, by simp [wr_at]; omega⟩ | exact b2_R _ | exact band_R _ _ | exact bor_R _ _ | exact bshl_R _ _ | exact bshr_R _ _ | exact bxor_R _ _ | exact bs_R (by omega) | decide) (fun h_9 => ?_) (fun h_9 => ?_)
    · refine ev_iload_n dX8_doneSet_37 rfl ?_
      refine ev_ireturn dX8_doneSet_38 ?_
      obtain rfl : i = n := by omega
      exact ⟨rfl, rfl⟩
    · refine ev_iload_n dX8_doneSet_12 rfl ?_
      refine ev_aload_n dX8_doneSet_13 rfl ?_
      refine ev_getR (r := 104) dX8_doneSet_14 fl_X8_83 rfl rfl rfl ?_
      refine ev_iload_n dX8_doneSet_17 rfl ?_
      refine ev_zaload dX8_doneSet_18 rfl (by first | omega | (simp [wr_at]; omega) | (simp [wr_at, *]; omega)) (by first | omega | (simp [wr_at]; omega) | (simp [wr_at, *]; omega)) (by decide) ?_
      refine ev_if_eq (tgt := 28) dX8_doneSet_19 (by decide) (by first | exact hR.1 _ _ | exact hR0.1 _ _ | assumption | exact ⟨by omega, by omega⟩ | exact ⟨by simp [wr_at]; omega, by simp [wr_at]; omega⟩ | exact b2_R _ | exact band_R _ _ | exact bor_R _ _ | exact bshl_R _ _ | exact bshr_R _ _ | exact bxor_R _ _ | exact bs_R (by omega) | decide) (fun h_19 => ?_) (fun h_19 => ?_)
      · refine ev_iconst dX8_doneSet_28 ?_
        refine ev_ior dX8_doneSet_29 ?_
        refine ev_istore_n dX8_doneSet_30 rfl (by decide) rfl ?_
        refine ev_iinc dX8_doneSet_31 rfl rfl (by decide) rfl ?_
        refine ev_goto (tgt := 4) dX8_doneSet_34 (by decide) ?_
        first
          | (rw [bs_ort (p := fun l => decide (σ.1 104 l ≠ 0)) (n := i) (by omega) (by simp [*])]; exact ih (by omega))
          | (rw [bs_or0 (p := fun l => decide (σ.1 104 l ≠ 0)) (n := i) (by omega) (by simp [*])]; exact ih (by omega))
          | (rw [bs_orf (p := fun l => decide (σ.1 104 l ≠ 0)) (n := i) (by simp [*])]; exact ih (by omega))
      · refine ev_iconst dX8_doneSet_22 ?_
        refine ev_iload_n dX8_doneSet_23 rfl ?_
        refine ev_ishl dX8_doneSet_24 ?_
        refine ev_goto (tgt := 29) dX8_doneSet_25 (by decide) ?_
        refine ev_ior dX8_doneSet_29 ?_
        refine ev_istore_n dX8_doneSet_30 rfl (by decide) rfl ?_
        refine ev_iinc dX8_doneSet_31 rfl rfl (by decide) rfl ?_
        refine ev_goto (tgt := 4) dX8_doneSet_34 (by decide) ?_
        first
          | (rw [bs_ort (p := fun l => decide (σ.1 104 l ≠ 0)) (n := i) (by omega) (by simp [*])]; exact ih (by omega))
          | (rw [bs_or0 (p := fun l => decide (σ.1 104 l ≠ 0)) (n := i) (by omega) (by simp [*])]; exact ih (by omega))
          | (rw [bs_orf (p := fun l => decide (σ.1 104 l ≠ 0)) (n := i) (by simp [*])]; exact ih (by omega))
  refine ev_iconst dX8_doneSet_0 ?_
  refine ev_istore_n dX8_doneSet_1 rfl (by decide) rfl ?_
  refine ev_iconst dX8_doneSet_2 ?_
  refine ev_istore_n dX8_doneSet_3 rfl (by decide) rfl ?_
  exact loop 0 (by omega)
theorem m_wholeSet (σ : Mem) (n : Nat) (hn : σ.1 79 4 = n) (hn4 : n ≤ 12)  : Con yX8_wholeSet cX8_wholeSet 3 (some .int) 0 0 [.ref 79] σ (AnsI (bs (fun r => decide (σ.1 97 r = 0)) n) σ) := by
  refine con_of (by decide) rfl (Nat.le_of_ble_eq_true rfl) (ok_I rfl) ?_
  refine ev_w (fun hR => ?_)
  have hR0 := hR
  have loop : ∀ i : Nat, i ≤ n → Ev RX8 cX8_wholeSet 3 0 0 (AnsI (bs (fun r => decide (σ.1 97 r = 0)) n) σ) 4 [some (.ref 79), some (.int (iI (bs (fun r => decide (σ.1 97 r = 0)) i : Nat))), some (.int (iI (i : Nat)))] [] σ := by
    refine for_up n (fun i hi ih => ?_)
    refine ev_w (fun hR => ?_)
    refine ev_iload_n dX8_wholeSet_4 rfl ?_
    refine ev_aload_n dX8_wholeSet_5 rfl ?_
    refine ev_getI (kz := 4) dX8_wholeSet_6 fl_X8_184 rfl rfl rfl ?_
    rw [hn]
    refine ev_icmp_ge (tgt := 37) dX8_wholeSet_9 (by decide) (by first | exact hR.1 _ _ | exact hR0.1 _ _ | assumption | exact ⟨by omega, by omega⟩ | exact ⟨by simp [wr_at]; omega, by simp [wr_at]; omega⟩ | exact b2_R _ | exact band_R _ _ | exact bor_R _ _ | exact bshl_R _ _ | exact bshr_R _ _ | exact bxor_R _ _ | exact bs_R (by omega) | decide) (by first | exact hR.1 _ _ | exact hR0.1 _ _ | assumption | exact ⟨by omega, by omega⟩ | exact ⟨by simp [wr_at]; omega, by simp [wr_at]; omega⟩ | exact b2_R _ | exact band_R _ _ | exact bor_R _ _ | exact bshl_R _ _ | exact bshr_R _ _ | exact bxor_R _ _ | exact bs_R (by omega) | decide) (fun h_9 => ?_) (fun h_9 => ?_)
    · refine ev_iload_n dX8_wholeSet_37 rfl ?_
      refine ev_ireturn dX8_wholeSet_38 ?_
      obtain rfl : i = n := by omega
      exact ⟨rfl, rfl⟩
    · refine ev_iload_n dX8_wholeSet_12 rfl ?_
      refine ev_aload_n dX8_wholeSet_13 rfl ?_
      refine ev_getR (r := 97) dX8_wholeSet_14 fl_X8_62 rfl rfl rfl ?_
      refine ev_iload_n dX8_wholeSet_17 rfl ?_
      refine ev_zaload dX8_wholeSet_18 rfl (by first | omega | (simp [wr_at]; omega) | (simp [wr_at, *]; omega)) (by first | omega | (simp [wr_at]; omega) | (simp [wr_at, *]; omega)) (by decide) ?_
      refine ev_if_eq (tgt := 26) dX8_wholeSet_19 (by decide) (by first | exact hR.1 _ _ | exact hR0.1 _ _ | assumption | exact ⟨by omega, by omega⟩ | exact ⟨by simp [wr_at]; omega, by simp [wr_at]; omega⟩ | exact b2_R _ | exact band_R _ _ | exact bor_R _ _ | exact bshl_R _ _ | exact bshr_R _ _ | exact bxor_R _ _ | exact bs_R (by omega) | decide) (fun h_19 => ?_) (fun h_19 => ?_)
      · refine ev_iconst dX8_wholeSet_26 ?_
        refine ev_iload_n dX8_wholeSet_27 rfl ?_
        refine ev_ishl dX8_wholeSet_28 ?_
        refine ev_ior dX8_wholeSet_29 ?_
        refine ev_istore_n dX8_wholeSet_30 rfl (by decide) rfl ?_
        refine ev_iinc dX8_wholeSet_31 rfl rfl (by decide) rfl ?_
        refine ev_goto (tgt := 4) dX8_wholeSet_34 (by decide) ?_
        first
          | (rw [bs_ort (p := fun r => decide (σ.1 97 r = 0)) (n := i) (by omega) (by simp [*])]; exact ih (by omega))
          | (rw [bs_or0 (p := fun r => decide (σ.1 97 r = 0)) (n := i) (by omega) (by simp [*])]; exact ih (by omega))
          | (rw [bs_orf (p := fun r => decide (σ.1 97 r = 0)) (n := i) (by simp [*])]; exact ih (by omega))
      · refine ev_iconst dX8_wholeSet_22 ?_
        refine ev_goto (tgt := 29) dX8_wholeSet_23 (by decide) ?_
        refine ev_ior dX8_wholeSet_29 ?_
        refine ev_istore_n dX8_wholeSet_30 rfl (by decide) rfl ?_
        refine ev_iinc dX8_wholeSet_31 rfl rfl (by decide) rfl ?_
        refine ev_goto (tgt := 4) dX8_wholeSet_34 (by decide) ?_
        first
          | (rw [bs_ort (p := fun r => decide (σ.1 97 r = 0)) (n := i) (by omega) (by simp [*])]; exact ih (by omega))
          | (rw [bs_or0 (p := fun r => decide (σ.1 97 r = 0)) (n := i) (by omega) (by simp [*])]; exact ih (by omega))
          | (rw [bs_orf (p := fun r => decide (σ.1 97 r = 0)) (n := i) (by simp [*])]; exact ih (by omega))
  refine ev_iconst dX8_wholeSet_0 ?_
  refine ev_istore_n dX8_wholeSet_1 rfl (by decide) rfl ?_
  refine ev_iconst dX8_wholeSet_2 ?_
  refine ev_istore_n dX8_wholeSet_3 rfl (by decide) rfl ?_
  exact loop 0 (by omega)
theorem m_boysAt (σ : Mem) (n : Nat) (hn : σ.1 79 9 = n) (hn4 : n ≤ 4) (p : Int) (hp : inR p) : Con yX8_boysAt cX8_boysAt 4 (some .int) 0 0 [.ref 79, .int (iI p)] σ (AnsI (bs (fun b => decide (σ.1 98 b = p)) n) σ) := by
  refine con_of (by decide) rfl (Nat.le_of_ble_eq_true rfl) (ok_I rfl) ?_
  refine ev_w (fun hR => ?_)
  have hR0 := hR
  have loop : ∀ i : Nat, i ≤ n → Ev RX8 cX8_boysAt 4 0 0 (AnsI (bs (fun b => decide (σ.1 98 b = p)) n) σ) 4 [some (.ref 79), some (.int (iI p)), some (.int (iI (bs (fun b => decide (σ.1 98 b = p)) i : Nat))), some (.int (iI (i : Nat)))] [] σ := by
    refine for_up n (fun i hi ih => ?_)
    refine ev_w (fun hR => ?_)
    refine ev_iload_n dX8_boysAt_4 rfl ?_
    refine ev_aload_n dX8_boysAt_5 rfl ?_
    refine ev_getI (kz := 9) dX8_boysAt_6 fl_X8_187 rfl rfl rfl ?_
    rw [hn]
    refine ev_icmp_ge (tgt := 38) dX8_boysAt_9 (by decide) (by first | exact hR.1 _ _ | exact hR0.1 _ _ | assumption | exact ⟨by omega, by omega⟩ | exact ⟨by simp [wr_at]; omega, by simp [wr_at]; omega⟩ | exact b2_R _ | exact band_R _ _ | exact bor_R _ _ | exact bshl_R _ _ | exact bshr_R _ _ | exact bxor_R _ _ | exact bs_R (by omega) | decide) (by first | exact hR.1 _ _ | exact hR0.1 _ _ | assumption | exact ⟨by omega, by omega⟩ | exact ⟨by simp [wr_at]; omega, by simp [wr_at]; omega⟩ | exact b2_R _ | exact band_R _ _ | exact bor_R _ _ | exact bshl_R _ _ | exact bshr_R _ _ | exact bxor_R _ _ | exact bs_R (by omega) | decide) (fun h_9 => ?_) (fun h_9 => ?_)
    · refine ev_iload_n dX8_boysAt_38 rfl ?_
      refine ev_ireturn dX8_boysAt_39 ?_
      obtain rfl : i = n := by omega
      exact ⟨rfl, rfl⟩
    · refine ev_iload_n dX8_boysAt_12 rfl ?_
      refine ev_aload_n dX8_boysAt_13 rfl ?_
      refine ev_getR (r := 98) dX8_boysAt_14 fl_X8_65 rfl rfl rfl ?_
      refine ev_iload_n dX8_boysAt_17 rfl ?_
      refine ev_iaload dX8_boysAt_18 rfl (by first | omega | (simp [wr_at]; omega) | (simp [wr_at, *]; omega)) (by first | omega | (simp [wr_at]; omega) | (simp [wr_at, *]; omega)) (by decide) ?_
      refine ev_iload_n dX8_boysAt_19 rfl ?_
      refine ev_icmp_ne (tgt := 29) dX8_boysAt_20 (by decide) (by first | exact hR.1 _ _ | exact hR0.1 _ _ | assumption | exact ⟨by omega, by omega⟩ | exact ⟨by simp [wr_at]; omega, by simp [wr_at]; omega⟩ | exact b2_R _ | exact band_R _ _ | exact bor_R _ _ | exact bshl_R _ _ | exact bshr_R _ _ | exact bxor_R _ _ | exact bs_R (by omega) | decide) (by first | exact hR.1 _ _ | exact hR0.1 _ _ | assumption | exact ⟨by omega, by omega⟩ | exact ⟨by simp [wr_at]; omega, by simp [wr_at]; omega⟩ | exact b2_R _ | exact band_R _ _ | exact bor_R _ _ | exact bshl_R _ _ | exact bshr_R _ _ | exact bxor_R _ _ | exact bs_R (by omega) | decide) (fun h_20 => ?_) (fun h_20 => ?_)
      · refine ev_iconst dX8_boysAt_29 ?_
        refine ev_ior dX8_boysAt_30 ?_
        refine ev_istore_n dX8_boysAt_31 rfl (by decide) rfl ?_
        refine ev_iinc dX8_boysAt_32 rfl rfl (by decide) rfl ?_
        refine ev_goto (tgt := 4) dX8_boysAt_35 (by decide) ?_
        first
          | (rw [bs_ort (p := fun b => decide (σ.1 98 b = p)) (n := i) (by omega) (by simp [*])]; exact ih (by omega))
          | (rw [bs_or0 (p := fun b => decide (σ.1 98 b = p)) (n := i) (by omega) (by simp [*])]; exact ih (by omega))
          | (rw [bs_orf (p := fun b => decide (σ.1 98 b = p)) (n := i) (by simp [*])]; exact ih (by omega))
      · refine ev_iconst dX8_boysAt_23 ?_
        refine ev_iload_n dX8_boysAt_24 rfl ?_
        refine ev_ishl dX8_boysAt_25 ?_
        refine ev_goto (tgt := 30) dX8_boysAt_26 (by decide) ?_
        refine ev_ior dX8_boysAt_30 ?_
        refine ev_istore_n dX8_boysAt_31 rfl (by decide) rfl ?_
        refine ev_iinc dX8_boysAt_32 rfl rfl (by decide) rfl ?_
        refine ev_goto (tgt := 4) dX8_boysAt_35 (by decide) ?_
        first
          | (rw [bs_ort (p := fun b => decide (σ.1 98 b = p)) (n := i) (by omega) (by simp [*])]; exact ih (by omega))
          | (rw [bs_or0 (p := fun b => decide (σ.1 98 b = p)) (n := i) (by omega) (by simp [*])]; exact ih (by omega))
          | (rw [bs_orf (p := fun b => decide (σ.1 98 b = p)) (n := i) (by simp [*])]; exact ih (by omega))
  refine ev_iconst dX8_boysAt_0 ?_
  refine ev_istore_n dX8_boysAt_1 rfl (by decide) rfl ?_
  refine ev_iconst dX8_boysAt_2 ?_
  refine ev_istore_n dX8_boysAt_3 rfl (by decide) rfl ?_
  exact loop 0 (by omega)
theorem m_loadsAt (σ : Mem) (n : Nat) (hn : σ.1 79 13 = n) (hn4 : n ≤ 4) (p : Int) (hp : inR p) : Con yX8_loadsAt cX8_loadsAt 4 (some .int) 0 0 [.ref 79, .int (iI p)] σ (AnsI (bs (fun l => decide (σ.1 102 l = p)) n) σ) := by
  refine con_of (by decide) rfl (Nat.le_of_ble_eq_true rfl) (ok_I rfl) ?_
  refine ev_w (fun hR => ?_)
  have hR0 := hR
  have loop : ∀ i : Nat, i ≤ n → Ev RX8 cX8_loadsAt 4 0 0 (AnsI (bs (fun l => decide (σ.1 102 l = p)) n) σ) 4 [some (.ref 79), some (.int (iI p)), some (.int (iI (bs (fun l => decide (σ.1 102 l = p)) i : Nat))), some (.int (iI (i : Nat)))] [] σ := by
    refine for_up n (fun i hi ih => ?_)
    refine ev_w (fun hR => ?_)
    refine ev_iload_n dX8_loadsAt_4 rfl ?_
    refine ev_aload_n dX8_loadsAt_5 rfl ?_
    refine ev_getI (kz := 13) dX8_loadsAt_6 fl_X8_190 rfl rfl rfl ?_
    rw [hn]
    refine ev_icmp_ge (tgt := 38) dX8_loadsAt_9 (by decide) (by first | exact hR.1 _ _ | exact hR0.1 _ _ | assumption | exact ⟨by omega, by omega⟩ | exact ⟨by simp [wr_at]; omega, by simp [wr_at]; omega⟩ | exact b2_R _ | exact band_R _ _ | exact bor_R _ _ | exact bshl_R _ _ | exact bshr_R _ _ | exact bxor_R _ _ | exact bs_R (by omega) | decide) (by first | exact hR.1 _ _ | exact hR0.1 _ _ | assumption | exact ⟨by omega, by omega⟩ | exact ⟨by simp [wr_at]; omega, by simp [wr_at]; omega⟩ | exact b2_R _ | exact band_R _ _ | exact bor_R _ _ | exact bshl_R _ _ | exact bshr_R _ _ | exact bxor_R _ _ | exact bs_R (by omega) | decide) (fun h_9 => ?_) (fun h_9 => ?_)
    · refine ev_iload_n dX8_loadsAt_38 rfl ?_
      refine ev_ireturn dX8_loadsAt_39 ?_
      obtain rfl : i = n := by omega
      exact ⟨rfl, rfl⟩
    · refine ev_iload_n dX8_loadsAt_12 rfl ?_
      refine ev_aload_n dX8_loadsAt_13 rfl ?_
      refine ev_getR (r := 102) dX8_loadsAt_14 fl_X8_77 rfl rfl rfl ?_
      refine ev_iload_n dX8_loadsAt_17 rfl ?_
      refine ev_iaload dX8_loadsAt_18 rfl (by first | omega | (simp [wr_at]; omega) | (simp [wr_at, *]; omega)) (by first | omega | (simp [wr_at]; omega) | (simp [wr_at, *]; omega)) (by decide) ?_
      refine ev_iload_n dX8_loadsAt_19 rfl ?_
      refine ev_icmp_ne (tgt := 29) dX8_loadsAt_20 (by decide) (by first | exact hR.1 _ _ | exact hR0.1 _ _ | assumption | exact ⟨by omega, by omega⟩ | exact ⟨by simp [wr_at]; omega, by simp [wr_at]; omega⟩ | exact b2_R _ | exact band_R _ _ | exact bor_R _ _ | exact bshl_R _ _ | exact bshr_R _ _ | exact bxor_R _ _ | exact bs_R (by omega) | decide) (by first | exact hR.1 _ _ | exact hR0.1 _ _ | assumption | exact ⟨by omega, by omega⟩ | exact ⟨by simp [wr_at]; omega, by simp [wr_at]; omega⟩ | exact b2_R _ | exact band_R _ _ | exact bor_R _ _ | exact bshl_R _ _ | exact bshr_R _ _ | exact bxor_R _ _ | exact bs_R (by omega) | decide) (fun h_20 => ?_) (fun h_20 => ?_)
      · refine ev_iconst dX8_loadsAt_29 ?_
        refine ev_ior dX8_loadsAt_30 ?_
        refine ev_istore_n dX8_loadsAt_31 rfl (by decide) rfl ?_
        refine ev_iinc dX8_loadsAt_32 rfl rfl (by decide) rfl ?_
        refine ev_goto (tgt := 4) dX8_loadsAt_35 (by decide) ?_
        first
          | (rw [bs_ort (p := fun l => decide (σ.1 102 l = p)) (n := i) (by omega) (by simp [*])]; exact ih (by omega))
          | (rw [bs_or0 (p := fun l => decide (σ.1 102 l = p)) (n := i) (by omega) (by simp [*])]; exact ih (by omega))
          | (rw [bs_orf (p := fun l => decide (σ.1 102 l = p)) (n := i) (by simp [*])]; exact ih (by omega))
      · refine ev_iconst dX8_loadsAt_23 ?_
        refine ev_iload_n dX8_loadsAt_24 rfl ?_
        refine ev_ishl dX8_loadsAt_25 ?_
        refine ev_goto (tgt := 30) dX8_loadsAt_26 (by decide) ?_
        refine ev_ior dX8_loadsAt_30 ?_
        refine ev_istore_n dX8_loadsAt_31 rfl (by decide) rfl ?_
        refine ev_iinc dX8_loadsAt_32 rfl rfl (by decide) rfl ?_
        refine ev_goto (tgt := 4) dX8_loadsAt_35 (by decide) ?_
        first
          | (rw [bs_ort (p := fun l => decide (σ.1 102 l = p)) (n := i) (by omega) (by simp [*])]; exact ih (by omega))
          | (rw [bs_or0 (p := fun l => decide (σ.1 102 l = p)) (n := i) (by omega) (by simp [*])]; exact ih (by omega))
          | (rw [bs_orf (p := fun l => decide (σ.1 102 l = p)) (n := i) (by simp [*])]; exact ih (by omega))
  refine ev_iconst dX8_loadsAt_0 ?_
  refine ev_istore_n dX8_loadsAt_1 rfl (by decide) rfl ?_
  refine ev_iconst dX8_loadsAt_2 ?_
  refine ev_istore_n dX8_loadsAt_3 rfl (by decide) rfl ?_
  exact loop 0 (by omega)
theorem m_carriedBy (σ : Mem) (n : Nat) (hn : σ.1 79 13 = n) (hn4 : n ≤ 4) (p : Int) (hp : inR p) : Con yX8_carriedBy cX8_carriedBy 4 (some .int) 0 0 [.ref 79, .int (iI p)] σ (AnsI (bs (fun l => decide (σ.1 103 l = p)) n) σ) := by
  refine con_of (by decide) rfl (Nat.le_of_ble_eq_true rfl) (ok_I rfl) ?_
  refine ev_w (fun hR => ?_)
  have hR0 := hR
  have loop : ∀ i : Nat, i ≤ n → Ev RX8 cX8_carriedBy 4 0 0 (AnsI (bs (fun l => decide (σ.1 103 l = p)) n) σ) 4 [some (.ref 79), some (.int (iI p)), some (.int (iI (bs (fun l => decide (σ.1 103 l = p)) i : Nat))), some (.int (iI (i : Nat)))] [] σ := by
    refine for_up n (fun i hi ih => ?_)
    refine ev_w (fun hR => ?_)
    refine ev_iload_n dX8_carriedBy_4 rfl ?_
    refine ev_aload_n dX8_carriedBy_5 rfl ?_
    refine ev_getI (kz := 13) dX8_carriedBy_6 fl_X8_190 rfl rfl rfl ?_
    rw [hn]
    refine ev_icmp_ge (tgt := 38) dX8_carriedBy_9 (by decide) (by first | exact hR.1 _ _ | exact hR0.1 _ _ | assumption | exact ⟨by omega, by omega⟩ | exact ⟨by simp [wr_at]; omega, by simp [wr_at]; omega⟩ | exact b2_R _ | exact band_R _ _ | exact bor_R _ _ | exact bshl_R _ _ | exact bshr_R _ _ | exact bxor_R _ _ | exact bs_R (by omega) | decide) (by first | exact hR.1 _ _ | exact hR0.1 _ _ | assumption | exact ⟨by omega, by omega⟩ | exact ⟨by simp [wr_at]; omega, by simp [wr_at]; omega⟩ | exact b2_R _ | exact band_R _ _ | exact bor_R _ _ | exact bshl_R _ _ | exact bshr_R _ _ | exact bxor_R _ _ | exact bs_R (by omega) | decide) (fun h_9 => ?_) (fun h_9 => ?_)
    · refine ev_iload_n dX8_carriedBy_38 rfl ?_
      refine ev_ireturn dX8_carriedBy_39 ?_
      obtain rfl : i = n := by omega
      exact ⟨rfl, rfl⟩
    · refine ev_iload_n dX8_carriedBy_12 rfl ?_
      refine ev_aload_n dX8_carriedBy_13 rfl ?_
      refine ev_getR (r := 103) dX8_carriedBy_14 fl_X8_80 rfl rfl rfl ?_
      refine ev_iload_n dX8_carriedBy_17 rfl ?_
      refine ev_iaload dX8_carriedBy_18 rfl (by first | omega | (simp [wr_at]; omega) | (simp [wr_at, *]; omega)) (by first | omega | (simp [wr_at]; omega) | (simp [wr_at, *]; omega)) (by decide) ?_
      refine ev_iload_n dX8_carriedBy_19 rfl ?_
      refine ev_icmp_ne (tgt := 29) dX8_carriedBy_20 (by decide) (by first | exact hR.1 _ _ | exact hR0.1 _ _ | assumption | exact ⟨by omega, by omega⟩ | exact ⟨by simp [wr_at]; omega, by simp [wr_at]; omega⟩ | exact b2_R _ | exact band_R _ _ | exact bor_R _ _ | exact bshl_R _ _ | exact bshr_R _ _ | exact bxor_R _ _ | exact bs_R (by omega) | decide) (by first | exact hR.1 _ _ | exact hR0.1 _ _ | assumption | exact ⟨by omega, by omega⟩ | exact ⟨by simp [wr_at]; omega, by simp [wr_at]; omega⟩ | exact b2_R _ | exact band_R _ _ | exact bor_R _ _ | exact bshl_R _ _ | exact bshr_R _ _ | exact bxor_R _ _ | exact bs_R (by omega) | decide) (fun h_20 => ?_) (fun h_20 => ?_)
      · refine ev_iconst dX8_carriedBy_29 ?_
        refine ev_ior dX8_carriedBy_30 ?_
        refine ev_istore_n dX8_carriedBy_31 rfl (by decide) rfl ?_
        refine ev_iinc dX8_carriedBy_32 rfl rfl (by decide) rfl ?_
        refine ev_goto (tgt := 4) dX8_carriedBy_35 (by decide) ?_
        first
          | (rw [bs_ort (p := fun l => decide (σ.1 103 l = p)) (n := i) (by omega) (by simp [*])]; exact ih (by omega))
          | (rw [bs_or0 (p := fun l => decide (σ.1 103 l = p)) (n := i) (by omega) (by simp [*])]; exact ih (by omega))
          | (rw [bs_orf (p := fun l => decide (σ.1 103 l = p)) (n := i) (by simp [*])]; exact ih (by omega))
      · refine ev_iconst dX8_carriedBy_23 ?_
        refine ev_iload_n dX8_carriedBy_24 rfl ?_
        refine ev_ishl dX8_carriedBy_25 ?_
        refine ev_goto (tgt := 30) dX8_carriedBy_26 (by decide) ?_
        refine ev_ior dX8_carriedBy_30 ?_
        refine ev_istore_n dX8_carriedBy_31 rfl (by decide) rfl ?_
        refine ev_iinc dX8_carriedBy_32 rfl rfl (by decide) rfl ?_
        refine ev_goto (tgt := 4) dX8_carriedBy_35 (by decide) ?_
        first
          | (rw [bs_ort (p := fun l => decide (σ.1 103 l = p)) (n := i) (by omega) (by simp [*])]; exact ih (by omega))
          | (rw [bs_or0 (p := fun l => decide (σ.1 103 l = p)) (n := i) (by omega) (by simp [*])]; exact ih (by omega))
          | (rw [bs_orf (p := fun l => decide (σ.1 103 l = p)) (n := i) (by simp [*])]; exact ih (by omega))
  refine ev_iconst dX8_carriedBy_0 ?_
  refine ev_istore_n dX8_carriedBy_1 rfl (by decide) rfl ?_
  refine ev_iconst dX8_carriedBy_2 ?_
  refine ev_istore_n dX8_carriedBy_3 rfl (by decide) rfl ?_
  exact loop 0 (by omega)
theorem m_onRope (σ : Mem) (n : Nat) (hn : σ.1 79 9 = n) (hn4 : n ≤ 4) (r : Int) (hr : inR r) : Con yX8_onRope cX8_onRope 4 (some .int) 0 0 [.ref 79, .int (iI r)] σ (AnsI (lstI (fun b => σ.1 99 b) r n) σ) := by
  refine con_of (by decide) rfl (Nat.le_of_ble_eq_true rfl) (ok_I rfl) ?_
  refine ev_w (fun hR => ?_)
  have hR0 := hR
  have loop : ∀ i : Nat, i ≤ n → Ev RX8 cX8_onRope 4 0 0 (AnsI (lstI (fun b => σ.1 99 b) r n) σ) 4 [some (.ref 79), some (.int (iI r)), some (.int (iI (lstI (fun b => σ.1 99 b) r i))), some (.int (iI (i : Nat)))] [] σ := by
    refine for_up n (fun i hi ih => ?_)
    refine ev_w (fun hR => ?_)
    refine ev_iload_n dX8_onRope_4 rfl ?_
    refine ev_aload_n dX8_onRope_5 rfl ?_
    refine ev_getI (kz := 9) dX8_onRope_6 fl_X8_187 rfl rfl rfl ?_
    rw [hn]
    refine ev_icmp_ge (tgt := 34) dX8_onRope_9 (by decide) (by first | exact hR.1 _ _ | exact hR0.1 _ _ | assumption | exact ⟨by omega, by omega⟩ | exact ⟨by simp [wr_at]; omega, by simp [wr_at]; omega⟩ | exact b2_R _ | exact band_R _ _ | exact bor_R _ _ | exact bshl_R _ _ | exact bshr_R _ _ | exact bxor_R _ _ | exact bs_R (by omega) | decide) (by first | exact hR.1 _ _ | exact hR0.1 _ _ | assumption | exact ⟨by omega, by omega⟩ | exact ⟨by simp [wr_at]; omega, by simp [wr_at]; omega⟩ | exact b2_R _ | exact band_R _ _ | exact bor_R _ _ | exact bshl_R _ _ | exact bshr_R _ _ | exact bxor_R _ _ | exact bs_R (by omega) | decide) (fun h_9 => ?_) (fun h_9 => ?_)
    · refine ev_iload_n dX8_onRope_34 rfl ?_
      refine ev_ireturn dX8_onRope_35 ?_
      obtain rfl : i = n := by omega
      exact ⟨rfl, rfl⟩
    · refine ev_aload_n dX8_onRope_12 rfl ?_
      refine ev_getR (r := 99) dX8_onRope_13 fl_X8_68 rfl rfl rfl ?_
      refine ev_iload_n dX8_onRope_16 rfl ?_
      refine ev_iaload dX8_onRope_17 rfl (by first | omega | (simp [wr_at]; omega) | (simp [wr_at, *]; omega)) (by first | omega | (simp [wr_at]; omega) | (simp [wr_at, *]; omega)) (by decide) ?_
      refine ev_iload_n dX8_onRope_18 rfl ?_
      refine ev_icmp_ne (tgt := 26) dX8_onRope_19 (by decide) (by first | exact hR.1 _ _ | exact hR0.1 _ _ | assumption | exact ⟨by omega, by omega⟩ | exact ⟨by simp [wr_at]; omega, by simp [wr_at]; omega⟩ | exact b2_R _ | exact band_R _ _ | exact bor_R _ _ | exact bshl_R _ _ | exact bshr_R _ _ | exact bxor_R _ _ | exact bs_R (by omega) | decide) (by first | exact hR.1 _ _ | exact hR0.1 _ _ | assumption | exact ⟨by omega, by omega⟩ | exact ⟨by simp [wr_at]; omega, by simp [wr_at]; omega⟩ | exact b2_R _ | exact band_R _ _ | exact bor_R _ _ | exact bshl_R _ _ | exact bshr_R _ _ | exact bxor_R _ _ | exact bs_R (by omega) | decide) (fun h_19 => ?_) (fun h_19 => ?_)
      · refine ev_iload_n dX8_onRope_26 rfl ?_
        refine ev_istore_n dX8_onRope_27 rfl (by decide) rfl ?_
        refine ev_iinc dX8_onRope_28 rfl rfl (by decide) rfl ?_
        refine ev_goto (tgt := 4) dX8_onRope_31 (by decide) ?_
        have e : lstI (fun b => σ.1 99 b) r (i + 1) = if σ.1 99 i = r then (i : Int) else lstI (fun b => σ.1 99 b) r i := rfl
        have q := ih (by omega)
        rw [e] at q
        first
          | (rw [if_pos h_19] at q; exact q)
          | (rw [if_neg h_19] at q; exact q)
      · refine ev_iload_n dX8_onRope_22 rfl ?_
        refine ev_goto (tgt := 27) dX8_onRope_23 (by decide) ?_
        refine ev_istore_n dX8_onRope_27 rfl (by decide) rfl ?_
        refine ev_iinc dX8_onRope_28 rfl rfl (by decide) rfl ?_
        refine ev_goto (tgt := 4) dX8_onRope_31 (by decide) ?_
        have e : lstI (fun b => σ.1 99 b) r (i + 1) = if σ.1 99 i = r then (i : Int) else lstI (fun b => σ.1 99 b) r i := rfl
        have q := ih (by omega)
        rw [e] at q
        first
          | (rw [if_pos h_19] at q; exact q)
          | (rw [if_neg h_19] at q; exact q)
  refine ev_iconst dX8_onRope_0 ?_
  refine ev_istore_n dX8_onRope_1 rfl (by decide) rfl ?_
  refine ev_iconst dX8_onRope_2 ?_
  refine ev_istore_n dX8_onRope_3 rfl (by decide) rfl ?_
  exact loop 0 (by omega)
theorem m_otherEnd (σ : Mem) (r p : Int) (h0 : 0 ≤ r) (h1 : r < 12) (hp : inR p) : Con yX8_otherEnd cX8_otherEnd 3 (some .int) 0 0 [.ref 79, .int (iI r), .int (iI p)] σ (AnsI (othE (σ.1 83 r) (σ.1 84 r) p) σ) := by
  refine con_of (by decide) rfl (Nat.le_of_ble_eq_true rfl) (ok_I rfl) ?_
  refine ev_w (fun hR => ?_)
  have hR0 := hR
  refine ev_aload_n dX8_otherEnd_0 rfl ?_
  refine ev_getR (r := 83) dX8_otherEnd_1 fl_X8_19 rfl rfl rfl ?_
  refine ev_iload_n dX8_otherEnd_4 rfl ?_
  refine ev_iaload dX8_otherEnd_5 rfl (by first | omega | (simp [wr_at]; omega) | (simp [wr_at, *]; omega)) (by first | omega | (simp [wr_at]; omega) | (simp [wr_at, *]; omega)) (by decide) ?_
  refine ev_iload_n dX8_otherEnd_6 rfl ?_
  refine ev_icmp_ne (tgt := 19) dX8_otherEnd_7 (by decide) (by first | exact hR.1 _ _ | exact hR0.1 _ _ | assumption | exact ⟨by omega, by omega⟩ | exact ⟨by simp [wr_at]; omega, by simp [wr_at]; omega⟩ | exact b2_R _ | exact band_R _ _ | exact bor_R _ _ | exact bshl_R _ _ | exact bshr_R _ _ | exact bxor_R _ _ | exact bs_R (by omega) | decide) (by first | exact hR.1 _ _ | exact hR0.1 _ _ | assumption | exact ⟨by omega, by omega⟩ | exact ⟨by simp [wr_at]; omega, by simp [wr_at]; omega⟩ | exact b2_R _ | exact band_R _ _ | exact bor_R _ _ | exact bshl_R _ _ | exact bshr_R _ _ | exact bxor_R _ _ | exact bs_R (by omega) | decide) (fun h_7 => ?_) (fun h_7 => ?_)
  · refine ev_aload_n dX8_otherEnd_19 rfl ?_
    refine ev_getR (r := 84) dX8_otherEnd_20 fl_X8_22 rfl rfl rfl ?_
    refine ev_iload_n dX8_otherEnd_23 rfl ?_
    refine ev_iaload dX8_otherEnd_24 rfl (by first | omega | (simp [wr_at]; omega) | (simp [wr_at, *]; omega)) (by first | omega | (simp [wr_at]; omega) | (simp [wr_at, *]; omega)) (by decide) ?_
    refine ev_iload_n dX8_otherEnd_25 rfl ?_
    refine ev_icmp_ne (tgt := 38) dX8_otherEnd_26 (by decide) (by first | exact hR.1 _ _ | exact hR0.1 _ _ | assumption | exact ⟨by omega, by omega⟩ | exact ⟨by simp [wr_at]; omega, by simp [wr_at]; omega⟩ | exact b2_R _ | exact band_R _ _ | exact bor_R _ _ | exact bshl_R _ _ | exact bshr_R _ _ | exact bxor_R _ _ | exact bs_R (by omega) | decide) (by first | exact hR.1 _ _ | exact hR0.1 _ _ | assumption | exact ⟨by omega, by omega⟩ | exact ⟨by simp [wr_at]; omega, by simp [wr_at]; omega⟩ | exact b2_R _ | exact band_R _ _ | exact bor_R _ _ | exact bshl_R _ _ | exact bshr_R _ _ | exact bxor_R _ _ | exact bs_R (by omega) | decide) (fun h_26 => ?_) (fun h_26 => ?_)
    · refine ev_iconst dX8_otherEnd_38 ?_
      refine ev_ireturn dX8_otherEnd_39 ?_
      unfold othE
      first
        | (rw [if_pos h_7]; exact ⟨rfl, rfl⟩)
        | (rw [if_neg h_7, if_pos h_26]; exact ⟨rfl, rfl⟩)
        | (rw [if_neg h_7, if_neg h_26]; exact ⟨rfl, rfl⟩)
    · refine ev_aload_n dX8_otherEnd_29 rfl ?_
      refine ev_getR (r := 83) dX8_otherEnd_30 fl_X8_19 rfl rfl rfl ?_
      refine ev_iload_n dX8_otherEnd_33 rfl ?_
      refine ev_iaload dX8_otherEnd_34 rfl (by first | omega | (simp [wr_at]; omega) | (simp [wr_at, *]; omega)) (by first | omega | (simp [wr_at]; omega) | (simp [wr_at, *]; omega)) (by decide) ?_
      refine ev_goto (tgt := 39) dX8_otherEnd_35 (by decide) ?_
      refine ev_ireturn dX8_otherEnd_39 ?_
      unfold othE
      first
        | (rw [if_pos h_7]; exact ⟨rfl, rfl⟩)
        | (rw [if_neg h_7, if_pos h_26]; exact ⟨rfl, rfl⟩)
        | (rw [if_neg h_7, if_neg h_26]; exact ⟨rfl, rfl⟩)
  · refine ev_aload_n dX8_otherEnd_10 rfl ?_
    refine ev_getR (r := 84) dX8_otherEnd_11 fl_X8_22 rfl rfl rfl ?_
    refine ev_iload_n dX8_otherEnd_14 rfl ?_
    refine ev_iaload dX8_otherEnd_15 rfl (by first | omega | (simp [wr_at]; omega) | (simp [wr_at, *]; omega)) (by first | omega | (simp [wr_at]; omega) | (simp [wr_at, *]; omega)) (by decide) ?_
    refine ev_goto (tgt := 39) dX8_otherEnd_16 (by decide) ?_
    refine ev_ireturn dX8_otherEnd_39 ?_
    unfold othE
    first
      | (rw [if_pos h_7]; exact ⟨rfl, rfl⟩)
      | (rw [if_neg h_7, if_pos h_26]; exact ⟨rfl, rfl⟩)
      | (rw [if_neg h_7, if_neg h_26]; exact ⟨rfl, rfl⟩)
theorem m_apart (σ : Mem) (p q : Int) (h0 : 0 ≤ p) (h1 : p < 8) (h2 : 0 ≤ q) (h3 : q < 8) (hx : inR (σ.1 80 p - σ.1 80 q)) (hy : inR (σ.1 81 p - σ.1 81 q)) : Con yX8_apart cX8_apart 3 (some .int) 1 20 [.ref 79, .int (iI p), .int (iI q)] σ (AnsI (apartZ σ 80 81 p q) σ) := by
  refine con_of (by decide) rfl (Nat.le_of_ble_eq_true rfl) (ok_I rfl) ?_
  refine ev_w (fun hR => ?_)
  have hR0 := hR
  refine ev_aload_n dX8_apart_0 rfl ?_
  refine ev_getR (r := 80) dX8_apart_1 fl_X8_7 rfl rfl rfl ?_
  refine ev_iload_n dX8_apart_4 rfl ?_
  refine ev_iaload dX8_apart_5 rfl (by first | omega | (simp [wr_at]; omega) | (simp [wr_at, *]; omega)) (by first | omega | (simp [wr_at]; omega) | (simp [wr_at, *]; omega)) (by decide) ?_
  refine ev_aload_n dX8_apart_6 rfl ?_
  refine ev_getR (r := 80) dX8_apart_7 fl_X8_7 rfl rfl rfl ?_
  refine ev_iload_n dX8_apart_10 rfl ?_
  refine ev_iaload dX8_apart_11 rfl (by first | omega | (simp [wr_at]; omega) | (simp [wr_at, *]; omega)) (by first | omega | (simp [wr_at]; omega) | (simp [wr_at, *]; omega)) (by decide) ?_
  refine ev_isub dX8_apart_12 ?_
  refine ev_callSI dX8_apart_13 ks_X8_429 (m_size σ _ hx) rfl rfl ⟨by decide, by decide⟩ (Nat.le_of_ble_eq_true rfl) ?_
  refine ev_w (fun hR => ?_)
  refine ev_aload_n dX8_apart_16 rfl ?_
  refine ev_getR (r := 81) dX8_apart_17 fl_X8_13 rfl rfl rfl ?_
  refine ev_iload_n dX8_apart_20 rfl ?_
  refine ev_iaload dX8_apart_21 rfl (by first | omega | (simp [wr_at]; omega) | (simp [wr_at, *]; omega)) (by first | omega | (simp [wr_at]; omega) | (simp [wr_at, *]; omega)) (by decide) ?_
  refine ev_aload_n dX8_apart_22 rfl ?_
  refine ev_getR (r := 81) dX8_apart_23 fl_X8_13 rfl rfl rfl ?_
  refine ev_iload_n dX8_apart_26 rfl ?_
  refine ev_iaload dX8_apart_27 rfl (by first | omega | (simp [wr_at]; omega) | (simp [wr_at, *]; omega)) (by first | omega | (simp [wr_at]; omega) | (simp [wr_at, *]; omega)) (by decide) ?_
  refine ev_isub dX8_apart_28 ?_
  refine ev_callSI dX8_apart_29 ks_X8_429 (m_size σ _ hy) rfl rfl ⟨by decide, by decide⟩ (Nat.le_of_ble_eq_true rfl) ?_
  refine ev_w (fun hR => ?_)
  refine ev_iadd dX8_apart_32 ?_
  refine ev_ireturn dX8_apart_33 ?_
  exact ⟨rfl, rfl⟩
