/-- a set that one boy may carry of the live ones -/
def canC (c live : Nat) : Prop := andn c live = 0 ∧ cnt c.testBit 12 ≤ 2
def canCd (c live : Nat) : Decidable (canC c live) := by unfold canC; exact inferInstance
theorem andn_self (a : Nat) : andn a 0 = a := by unfold andn; rw [Nat.and_zero, Nat.xor_zero]
theorem k_canBeCarried (σ : Mem) (c v : Nat) (hc : c < 4096) (hv : v < 4096) : Con yX4_canBeCarried cX4_canBeCarried 2 (some .boolean) 1 20 [.int (iI c), .int (iI v)] σ (AnsI (b2 (andn c v = 0 ∧ cnt c.testBit 12 ≤ 2)) σ) := by
  refine con_of (by decide) rfl (Nat.le_of_ble_eq_true rfl) (ok_Z rfl (b2_01 _)) ?_
  refine ev_w (fun hR => ?_)
  have hR0 := hR
  refine ev_iload_n dX4_canBeCarried_0 rfl ?_
  refine ev_iload_n dX4_canBeCarried_1 rfl ?_
  refine ev_iconst dX4_canBeCarried_2 ?_
  refine ev_ixor dX4_canBeCarried_3 ?_
  refine ev_iand dX4_canBeCarried_4 ?_
  rw [band_not c v (by omega)]
  have hlt := andn_lt (n := 12) v hc
  refine ev_if_ne (tgt := 20) dX4_canBeCarried_5 (by decide) (by first | exact hR.1 _ _ | exact hR0.1 _ _ | assumption | exact ⟨by omega, by omega⟩ | exact ⟨by simp [wr_at]; omega, by simp [wr_at]; omega⟩ | exact b2_R _ | exact band_R _ _ | exact bor_R _ _ | exact bshl_R _ _ | exact bshr_R _ _ | exact bxor_R _ _ | exact bs_R (by omega) | decide) (fun h_5 => ?_) (fun h_5 => ?_)
  · refine ev_iconst dX4_canBeCarried_20 ?_
    refine ev_ireturn dX4_canBeCarried_21 ?_
    first
      | exact ⟨by rw [b2_t ⟨by omega, by omega⟩], rfl⟩
      | exact ⟨by rw [b2_f (by omega)], rfl⟩
  · refine ev_iload_n dX4_canBeCarried_8 rfl ?_
    refine ev_callSI dX4_canBeCarried_9 ks_X4_24 (k_bitCount σ c hc) rfl rfl ⟨by decide, by decide⟩ (Nat.le_of_ble_eq_true rfl) ?_
    refine ev_w (fun hR => ?_)
    refine ev_iconst dX4_canBeCarried_12 ?_
    have hcl := cnt_le c.testBit 12
    refine ev_icmp_gt (tgt := 20) dX4_canBeCarried_13 (by decide) (by first | exact hR.1 _ _ | exact hR0.1 _ _ | assumption | exact ⟨by omega, by omega⟩ | exact ⟨by simp [wr_at]; omega, by simp [wr_at]; omega⟩ | exact b2_R _ | exact band_R _ _ | exact bor_R _ _ | exact bshl_R _ _ | exact bshr_R _ _ | exact bxor_R _ _ | exact bs_R (by omega) | decide) (by first | exact hR.1 _ _ | exact hR0.1 _ _ | assumption | exact ⟨by omega, by omega⟩ | exact ⟨by simp [wr_at]; omega, by simp [wr_at]; omega⟩ | exact b2_R _ | exact band_R _ _ | exact bor_R _ _ | exact bshl_R _ _ | exact bshr_R _ _ | exact bxor_R _ _ | exact bs_R (by omega) | decide) (fun h_13 => ?_) (fun h_13 => ?_)
    · refine ev_iconst dX4_canBeCarried_20 ?_
      refine ev_ireturn dX4_canBeCarried_21 ?_
      first
        | exact ⟨by rw [b2_t ⟨by omega, by omega⟩], rfl⟩
        | exact ⟨by rw [b2_f (by omega)], rfl⟩
    · refine ev_iconst dX4_canBeCarried_16 ?_
      refine ev_goto (tgt := 21) dX4_canBeCarried_17 (by decide) ?_
      refine ev_ireturn dX4_canBeCarried_21 ?_
      first
        | exact ⟨by rw [b2_t ⟨by omega, by omega⟩], rfl⟩
        | exact ⟨by rw [b2_f (by omega)], rfl⟩
theorem k_setWays (σ : Mem) (c : Nat) (hc : c < 16) : Con yX4_setWays cX4_setWays 3 none 1 48 [.ref 72, .int (iI c), .ref 69] σ (AnsV (cpyM σ 71 75 0 ((c : Int) * 8 * 8) 64)) := by
  refine con_of (by decide) rfl (Nat.le_of_ble_eq_true rfl) (ok_V rfl) ?_
  refine ev_w (fun hR => ?_)
  have hR0 := hR
  refine ev_aload_n dX4_setWays_0 rfl ?_
  refine ev_getR (r := 71) dX4_setWays_1 fl_X4_30 rfl rfl rfl ?_
  refine ev_iconst dX4_setWays_4 ?_
  refine ev_aload_n dX4_setWays_5 rfl ?_
  refine ev_getR (r := 75) dX4_setWays_6 fl_X4_18 rfl rfl rfl ?_
  refine ev_iload_n dX4_setWays_9 rfl ?_
  refine ev_bipush dX4_setWays_10 (by decide) ?_
  refine ev_imul dX4_setWays_12 ?_
  refine ev_bipush dX4_setWays_13 (by decide) ?_
  refine ev_imul dX4_setWays_15 ?_
  refine ev_bipush dX4_setWays_16 (by decide) ?_
  refine ev_copy dX4_setWays_18 ka_X4_35 rfl rfl (by omega) (by omega) (by omega) (by omega) (by omega) (by decide) (by decide) (by decide) (by decide) (Nat.le_of_ble_eq_true rfl) ?_
  refine ev_w (fun hR => ?_)
  refine ev_return dX4_setWays_21 ?_
  exact ⟨rfl, rfl⟩
def restA (σ : Mem) (l c p : Nat) : Int := σ.1 76 (((l : Int) * 16 + c) * 8 + p)
def wayA (σ : Mem) (c p q : Nat) : Int := σ.1 75 (((c : Int) * 8 + p) * 8 + q)
theorem k_rest (σ : Mem) (l c p : Nat) (hl : l < 16) (hc : c < 16) (hp : p < 8) : Con yX4_rest cX4_rest 4 (some .int) 0 0 [.ref 72, .int (iI l), .int (iI c), .int (iI p)] σ (AnsI (restA σ l c p) σ) := by
  refine con_of (by decide) rfl (Nat.le_of_ble_eq_true rfl) (ok_I rfl) ?_
  refine ev_w (fun hR => ?_)
  have hR0 := hR
  refine ev_aload_n dX4_rest_0 rfl ?_
  refine ev_getR (r := 76) dX4_rest_1 fl_X4_21 rfl rfl rfl ?_
  refine ev_iload_n dX4_rest_4 rfl ?_
  refine ev_bipush dX4_rest_5 (by decide) ?_
  refine ev_imul dX4_rest_7 ?_
  refine ev_iload_n dX4_rest_8 rfl ?_
  refine ev_iadd dX4_rest_9 ?_
  refine ev_bipush dX4_rest_10 (by decide) ?_
  refine ev_imul dX4_rest_12 ?_
  refine ev_iload_n dX4_rest_13 rfl ?_
  refine ev_iadd dX4_rest_14 ?_
  refine ev_iaload dX4_rest_15 rfl (by first | omega | (simp [wr_at]; omega) | (simp [wr_at, *]; omega)) (by first | omega | (simp [wr_at]; omega) | (simp [wr_at, *]; omega)) (by decide) ?_
  refine ev_ireturn dX4_rest_16 ?_
  exact ⟨rfl, rfl⟩
theorem k_way (σ : Mem) (c p q : Nat) (hc : c < 16) (hp : p < 8) (hq : q < 8) : Con yX4_way cX4_way 4 (some .int) 0 0 [.ref 72, .int (iI c), .int (iI p), .int (iI q)] σ (AnsI (wayA σ c p q) σ) := by
  refine con_of (by decide) rfl (Nat.le_of_ble_eq_true rfl) (ok_I rfl) ?_
  refine ev_w (fun hR => ?_)
  have hR0 := hR
  refine ev_aload_n dX4_way_0 rfl ?_
  refine ev_getR (r := 75) dX4_way_1 fl_X4_18 rfl rfl rfl ?_
  refine ev_iload_n dX4_way_4 rfl ?_
  refine ev_bipush dX4_way_5 (by decide) ?_
  refine ev_imul dX4_way_7 ?_
  refine ev_iload_n dX4_way_8 rfl ?_
  refine ev_iadd dX4_way_9 ?_
  refine ev_bipush dX4_way_10 (by decide) ?_
  refine ev_imul dX4_way_12 ?_
  refine ev_iload_n dX4_way_13 rfl ?_
  refine ev_iadd dX4_way_14 ?_
  refine ev_iaload dX4_way_15 rfl (by first | omega | (simp [wr_at]; omega) | (simp [wr_at, *]; omega)) (by first | omega | (simp [wr_at]; omega) | (simp [wr_at, *]; omega)) (by decide) ?_
  refine ev_ireturn dX4_way_16 ?_
  exact ⟨rfl, rfl⟩
/-- the least over the first k loads of what a next stop leaves -/
def lfR (Wy : Nat → Nat → Nat → Int) (Rs : Nat → Nat → Nat → Int) (fr to : Nat → Nat) (l c p : Nat) : Nat → Int
  | 0 => 1000000
  | k + 1 => if c.testBit k = true then min (lfR Wy Rs fr to l c p k) (Wy c p (to k) + Rs l (andn c (2 ^ k)) (to k))
    else if l.testBit k = true ∧ cnt c.testBit 12 < 2 then min (lfR Wy Rs fr to l c p k) (Wy c p (fr k) + Rs (andn l (2 ^ k)) (c ||| 2 ^ k) (fr k))
    else lfR Wy Rs fr to l c p k
def lfV (Wy : Nat → Nat → Nat → Int) (Rs : Nat → Nat → Nat → Int) (fr to : Nat → Nat) (l c p : Nat) : Int := if l = 0 ∧ c = 0 then 0 else lfR Wy Rs fr to l c p 4
/-- where the loads lie and go, for those of the set v -/
def FT (σ : Mem) (v n : Nat) (fr to : Nat → Nat) : Prop := ∀ k, k < 4 → v.testBit k = true → σ.1 73 k = fr k ∧ σ.1 74 k = to k ∧ fr k < n ∧ to k < n
def WyOk (σ : Mem) (v n : Nat) : Prop := ∀ c, c < 16 → andn c v = 0 → cnt c.testBit 12 ≤ 2 → ∀ p q, p < n → q < n → 0 ≤ wayA σ c p q ∧ wayA σ c p q ≤ 1000000
theorem lfR_R {Wy Rs : Nat → Nat → Nat → Int} {fr to : Nat → Nat} {l c p : Nat} (h : ∀ k, k < 4 → (c.testBit k = true → 0 ≤ Wy c p (to k) + Rs l (andn c (2 ^ k)) (to k)) ∧ (c.testBit k = false → l.testBit k = true → cnt c.testBit 12 < 2 → 0 ≤ Wy c p (fr k) + Rs (andn l (2 ^ k)) (c ||| 2 ^ k) (fr k))) : ∀ k, k ≤ 4 → 0 ≤ lfR Wy Rs fr to l c p k ∧ lfR Wy Rs fr to l c p k ≤ 1000000 := by
  intro k
  induction k with
  | zero => intro _; unfold lfR; omega
  | succ k ih =>
    intro hk
    have h1 := ih (by omega)
    have h2 := h k (by omega)
    unfold lfR
    split
    next c1 => have := h2.1 c1; omega
    next c1 =>
      split
      next c2 => have := h2.2 (by simpa using c1) c2.1 c2.2; omega
      next => exact h1
theorem sub_of_andn {a v : Nat} (h : andn a v = 0) {k : Nat} (hk : a.testBit k = true) : v.testBit k = true := by
  have h1 := andn_test a v k
  rw [h, Nat.zero_testBit, hk] at h1
  cases hv : v.testBit k
  · rw [hv] at h1; exact absurd h1 (by decide)
  · rfl
theorem k_leastFrom (σ : Mem) (v n l c p : Nat) (fr to : Nat → Nat) (hn : n ≤ 8) (hl : l < 16) (hc : c < 16) (hp : p < n) (hlv : andn l v = 0) (hcv : andn c v = 0) (hFT : FT σ v n fr to) (hW : ∀ q, q < n → 0 ≤ wayA σ c p q ∧ wayA σ c p q ≤ 1000000) (hRs : ∀ l c p, l < 16 → c < 16 → p < n → 0 ≤ restA σ l c p ∧ restA σ l c p ≤ 1000000) : Con yX4_leastFrom cX4_leastFrom 8 (some .int) 1 23 [.ref 72, .int (iI l), .int (iI c), .int (iI p)] σ (AnsI (lfV (wayA σ) (restA σ) fr to l c p) σ) := by
  refine con_of (by decide) rfl (Nat.le_of_ble_eq_true rfl) (ok_I rfl) ?_
  refine ev_w (fun hR => ?_)
  have hR0 := hR
  have hpw : ∀ k, k < 4 → 2 ^ k < 16 := fun k hk => Nat.pow_lt_pow_right (n := 4) (by decide) hk
  have hcl := cnt_le c.testBit 12
  have hlf : ∀ k, k ≤ 4 → 0 ≤ lfR (wayA σ) (restA σ) fr to l c p k ∧ lfR (wayA σ) (restA σ) fr to l c p k ≤ 1000000 := by
    refine lfR_R (fun k hk => ⟨fun h1 => ?_, fun h1 h2 h3 => ?_⟩)
    · have e := hFT k hk (sub_of_andn hcv h1)
      have a1 := hW (to k) e.2.2.2
      have a2 := hRs l (andn c (2 ^ k)) (to k) hl (andn_lt (n := 4) _ hc) e.2.2.2
      omega
    · have e := hFT k hk (sub_of_andn hlv h2)
      have a1 := hW (fr k) e.2.2.1
      have a2 := hRs (andn l (2 ^ k)) (c ||| 2 ^ k) (fr k) (andn_lt (n := 4) _ hl) (Nat.or_lt_two_pow (n := 4) hc (hpw k hk)) e.2.2.1
      omega
  have loop : ¬ (l = 0 ∧ c = 0) → ∀ k : Nat, k ≤ 4 → ∀ (acc : Int) (w7 : Option Value), acc = lfR (wayA σ) (restA σ) fr to l c p k → Ev RX4 cX4_leastFrom 8 1 23 (AnsI (lfV (wayA σ) (restA σ) fr to l c p) σ) 32 [some (.ref 72), some (.int (iI l)), some (.int (iI c)), some (.int (iI p)), some (.int (iI (b2 (cnt c.testBit 12 < 2)))), some (.int (iI acc)), some (.int (iI (k : Nat))), w7] [] σ := by
    intro hne
    refine for_up 4 (fun k hk ih acc w7 hacc => ?_)
    refine ev_w (fun hR => ?_)
    have hlk := hlf k hk
    refine ev_iload dX4_leastFrom_32 rfl ?_
    refine ev_iconst dX4_leastFrom_34 ?_
    refine ev_icmp_ge (tgt := 157) dX4_leastFrom_35 (by decide) (by first | exact hR.1 _ _ | exact hR0.1 _ _ | assumption | exact ⟨by omega, by omega⟩ | exact ⟨by simp [wr_at]; omega, by simp [wr_at]; omega⟩ | exact b2_R _ | exact band_R _ _ | exact bor_R _ _ | exact bshl_R _ _ | exact bshr_R _ _ | exact bxor_R _ _ | exact bs_R (by omega) | decide) (by first | exact hR.1 _ _ | exact hR0.1 _ _ | assumption | exact ⟨by omega, by omega⟩ | exact ⟨by simp [wr_at]; omega, by simp [wr_at]; omega⟩ | exact b2_R _ | exact band_R _ _ | exact bor_R _ _ | exact bshl_R _ _ | exact bshr_R _ _ | exact bxor_R _ _ | exact bs_R (by omega) | decide) (fun h_35 => ?_) (fun h_35 => ?_)
    · refine ev_iload dX4_leastFrom_157 rfl ?_
      refine ev_ireturn dX4_leastFrom_159 ?_
      obtain rfl : k = 4 := by omega
      exact ⟨by rw [hacc, lfV, if_neg hne], rfl⟩
    · refine ev_iconst dX4_leastFrom_38 ?_
      refine ev_iload dX4_leastFrom_39 rfl ?_
      refine ev_ishl dX4_leastFrom_41 ?_
      rw [bshl1 k (by omega)]
      have hp2 := hpw k (by omega)
      refine ev_istore dX4_leastFrom_42 rfl (by decide) rfl ?_
      refine ev_iload_n dX4_leastFrom_44 rfl ?_
      refine ev_iload dX4_leastFrom_45 rfl ?_
      refine ev_callNI dX4_leastFrom_47 kn_X4_50 (k_has σ c k (by omega) (by omega)) rfl rfl ⟨by decide, by decide⟩ (Nat.le_of_ble_eq_true rfl) ?_
      refine ev_w (fun hR => ?_)
      refine ev_if_eq (tgt := 95) dX4_leastFrom_50 (by decide) (by first | exact hR.1 _ _ | exact hR0.1 _ _ | assumption | exact ⟨by omega, by omega⟩ | exact ⟨by simp [wr_at]; omega, by simp [wr_at]; omega⟩ | exact b2_R _ | exact band_R _ _ | exact bor_R _ _ | exact bshl_R _ _ | exact bshr_R _ _ | exact bxor_R _ _ | exact bs_R (by omega) | decide) (fun h_50 => ?_) (fun h_50 => ?_)
      · have hb := b2_eq h_50
        refine ev_iload_n dX4_leastFrom_95 rfl ?_
        refine ev_iload dX4_leastFrom_96 rfl ?_
        refine ev_callNI dX4_leastFrom_98 kn_X4_50 (k_has σ l k (by omega) (by omega)) rfl rfl ⟨by decide, by decide⟩ (Nat.le_of_ble_eq_true rfl) ?_
        refine ev_w (fun hR => ?_)
        refine ev_if_eq (tgt := 151) dX4_leastFrom_101 (by decide) (by first | exact hR.1 _ _ | exact hR0.1 _ _ | assumption | exact ⟨by omega, by omega⟩ | exact ⟨by simp [wr_at]; omega, by simp [wr_at]; omega⟩ | exact b2_R _ | exact band_R _ _ | exact bor_R _ _ | exact bshl_R _ _ | exact bshr_R _ _ | exact bxor_R _ _ | exact bs_R (by omega) | decide) (fun h_101 => ?_) (fun h_101 => ?_)
        · refine ev_iinc dX4_leastFrom_151 rfl rfl (by decide) rfl ?_
          refine ev_goto (tgt := 32) dX4_leastFrom_154 (by decide) ?_
          refine ih (by omega) _ _ ?_
          rw [hacc]
          show _ = lfR (wayA σ) (restA σ) fr to l c p (k + 1)
          rw [lfR]
          first
            | (have q1 := b2_eq h_101; rw [if_neg hb, if_neg (fun q => q1 q.1)])
            | (have q1 := b2_eq h_106; rw [if_neg hb, if_neg (fun q => q1 q.2)])
            | (have q1 := b2_ne h_101; have q2 := b2_ne h_106; rw [if_neg hb, if_pos ⟨q1, q2⟩])
            | rw [if_pos hb]
        · refine ev_iload dX4_leastFrom_104 rfl ?_
          refine ev_if_eq (tgt := 151) dX4_leastFrom_106 (by decide) (by first | exact hR.1 _ _ | exact hR0.1 _ _ | assumption | exact ⟨by omega, by omega⟩ | exact ⟨by simp [wr_at]; omega, by simp [wr_at]; omega⟩ | exact b2_R _ | exact band_R _ _ | exact bor_R _ _ | exact bshl_R _ _ | exact bshr_R _ _ | exact bxor_R _ _ | exact bs_R (by omega) | decide) (fun h_106 => ?_) (fun h_106 => ?_)
          · refine ev_iinc dX4_leastFrom_151 rfl rfl (by decide) rfl ?_
            refine ev_goto (tgt := 32) dX4_leastFrom_154 (by decide) ?_
            refine ih (by omega) _ _ ?_
            rw [hacc]
            show _ = lfR (wayA σ) (restA σ) fr to l c p (k + 1)
            rw [lfR]
            first
              | (have q1 := b2_eq h_101; rw [if_neg hb, if_neg (fun q => q1 q.1)])
              | (have q1 := b2_eq h_106; rw [if_neg hb, if_neg (fun q => q1 q.2)])
              | (have q1 := b2_ne h_101; have q2 := b2_ne h_106; rw [if_neg hb, if_pos ⟨q1, q2⟩])
              | rw [if_pos hb]
          · have hb2 := b2_ne h_101
            have hb3 := b2_ne h_106
            obtain ⟨ef, et, ef2, et2⟩ := hFT k (by omega) (sub_of_andn hlv hb2)
            have hlt := andn_lt (n := 4) (2 ^ k) hl
            have hlt2 := Nat.or_lt_two_pow (n := 4) hc hp2
            refine ev_iload dX4_leastFrom_109 rfl ?_
            refine ev_aload_n dX4_leastFrom_111 rfl ?_
            refine ev_iload_n dX4_leastFrom_112 rfl ?_
            refine ev_iload_n dX4_leastFrom_113 rfl ?_
            refine ev_aload_n dX4_leastFrom_114 rfl ?_
            refine ev_getR (r := 73) dX4_leastFrom_115 fl_X4_9 rfl rfl rfl ?_
            refine ev_iload dX4_leastFrom_118 rfl ?_
            refine ev_iaload dX4_leastFrom_120 rfl (by first | omega | (simp [wr_at]; omega) | (simp [wr_at, *]; omega)) (by first | omega | (simp [wr_at]; omega) | (simp [wr_at, *]; omega)) (by decide) ?_
            rw [ef]
            refine ev_callVI dX4_leastFrom_121 kv_X4_53 (k_way σ c p (fr k) hc (by omega) (by omega)) rfl rfl (ci := 4) rfl rfl ⟨by decide, by decide⟩ (Nat.le_of_ble_eq_true rfl) ?_
            refine ev_w (fun hR => ?_)
            refine ev_aload_n dX4_leastFrom_124 rfl ?_
            refine ev_iload_n dX4_leastFrom_125 rfl ?_
            refine ev_iload dX4_leastFrom_126 rfl ?_
            refine ev_iconst dX4_leastFrom_128 ?_
            refine ev_ixor dX4_leastFrom_129 ?_
            refine ev_iand dX4_leastFrom_130 ?_
            rw [band_not l _ (by omega)]
            refine ev_iload_n dX4_leastFrom_131 rfl ?_
            refine ev_iload dX4_leastFrom_132 rfl ?_
            refine ev_ior dX4_leastFrom_134 ?_
            rw [bor_nat c _ (by omega) (by omega)]
            refine ev_aload_n dX4_leastFrom_135 rfl ?_
            refine ev_getR (r := 73) dX4_leastFrom_136 fl_X4_9 rfl rfl rfl ?_
            refine ev_iload dX4_leastFrom_139 rfl ?_
            refine ev_iaload dX4_leastFrom_141 rfl (by first | omega | (simp [wr_at]; omega) | (simp [wr_at, *]; omega)) (by first | omega | (simp [wr_at]; omega) | (simp [wr_at, *]; omega)) (by decide) ?_
            rw [ef]
            refine ev_callVI dX4_leastFrom_142 kv_X4_56 (k_rest σ (andn l (2 ^ k)) (c ||| 2 ^ k) (fr k) hlt hlt2 (by omega)) rfl rfl (ci := 4) rfl rfl ⟨by decide, by decide⟩ (Nat.le_of_ble_eq_true rfl) ?_
            refine ev_w (fun hR => ?_)
            refine ev_iadd dX4_leastFrom_145 ?_
            have a1 := hW (fr k) ef2
            have a2 := hRs (andn l (2 ^ k)) (c ||| 2 ^ k) (fr k) hlt hlt2 ef2
            refine ev_mmin dX4_leastFrom_146 ks_X4_58 (by first | exact hR.1 _ _ | exact hR0.1 _ _ | assumption | exact ⟨by omega, by omega⟩ | exact ⟨by simp [wr_at]; omega, by simp [wr_at]; omega⟩ | exact b2_R _ | exact band_R _ _ | exact bor_R _ _ | exact bshl_R _ _ | exact bshr_R _ _ | exact bxor_R _ _ | exact bs_R (by omega) | decide) (by first | exact hR.1 _ _ | exact hR0.1 _ _ | assumption | exact ⟨by omega, by omega⟩ | exact ⟨by simp [wr_at]; omega, by simp [wr_at]; omega⟩ | exact b2_R _ | exact band_R _ _ | exact bor_R _ _ | exact bshl_R _ _ | exact bshr_R _ _ | exact bxor_R _ _ | exact bs_R (by omega) | decide) (by decide) (by decide) (Nat.le_of_ble_eq_true rfl) ?_
            refine ev_istore dX4_leastFrom_149 rfl (by decide) rfl ?_
            refine ev_iinc dX4_leastFrom_151 rfl rfl (by decide) rfl ?_
            refine ev_goto (tgt := 32) dX4_leastFrom_154 (by decide) ?_
            refine ih (by omega) _ _ ?_
            rw [hacc]
            show _ = lfR (wayA σ) (restA σ) fr to l c p (k + 1)
            rw [lfR]
            first
              | (have q1 := b2_eq h_101; rw [if_neg hb, if_neg (fun q => q1 q.1)])
              | (have q1 := b2_eq h_106; rw [if_neg hb, if_neg (fun q => q1 q.2)])
              | (have q1 := b2_ne h_101; have q2 := b2_ne h_106; rw [if_neg hb, if_pos ⟨q1, q2⟩])
              | rw [if_pos hb]
      · have hb := b2_ne h_50
        obtain ⟨ef, et, ef2, et2⟩ := hFT k (by omega) (sub_of_andn hcv hb)
        have hlt := andn_lt (n := 4) (2 ^ k) hc
        refine ev_iload dX4_leastFrom_53 rfl ?_
        refine ev_aload_n dX4_leastFrom_55 rfl ?_
        refine ev_iload_n dX4_leastFrom_56 rfl ?_
        refine ev_iload_n dX4_leastFrom_57 rfl ?_
        refine ev_aload_n dX4_leastFrom_58 rfl ?_
        refine ev_getR (r := 74) dX4_leastFrom_59 fl_X4_15 rfl rfl rfl ?_
        refine ev_iload dX4_leastFrom_62 rfl ?_
        refine ev_iaload dX4_leastFrom_64 rfl (by first | omega | (simp [wr_at]; omega) | (simp [wr_at, *]; omega)) (by first | omega | (simp [wr_at]; omega) | (simp [wr_at, *]; omega)) (by decide) ?_
        rw [et]
        refine ev_callVI dX4_leastFrom_65 kv_X4_53 (k_way σ c p (to k) hc (by omega) (by omega)) rfl rfl (ci := 4) rfl rfl ⟨by decide, by decide⟩ (Nat.le_of_ble_eq_true rfl) ?_
        refine ev_w (fun hR => ?_)
        refine ev_aload_n dX4_leastFrom_68 rfl ?_
        refine ev_iload_n dX4_leastFrom_69 rfl ?_
        refine ev_iload_n dX4_leastFrom_70 rfl ?_
        refine ev_iload dX4_leastFrom_71 rfl ?_
        refine ev_iconst dX4_leastFrom_73 ?_
        refine ev_ixor dX4_leastFrom_74 ?_
        refine ev_iand dX4_leastFrom_75 ?_
        rw [band_not c _ (by omega)]
        refine ev_aload_n dX4_leastFrom_76 rfl ?_
        refine ev_getR (r := 74) dX4_leastFrom_77 fl_X4_15 rfl rfl rfl ?_
        refine ev_iload dX4_leastFrom_80 rfl ?_
        refine ev_iaload dX4_leastFrom_82 rfl (by first | omega | (simp [wr_at]; omega) | (simp [wr_at, *]; omega)) (by first | omega | (simp [wr_at]; omega) | (simp [wr_at, *]; omega)) (by decide) ?_
        rw [et]
        refine ev_callVI dX4_leastFrom_83 kv_X4_56 (k_rest σ l (andn c (2 ^ k)) (to k) hl hlt (by omega)) rfl rfl (ci := 4) rfl rfl ⟨by decide, by decide⟩ (Nat.le_of_ble_eq_true rfl) ?_
        refine ev_w (fun hR => ?_)
        refine ev_iadd dX4_leastFrom_86 ?_
        have a1 := hW (to k) et2
        have a2 := hRs l (andn c (2 ^ k)) (to k) hl hlt et2
        refine ev_mmin dX4_leastFrom_87 ks_X4_58 (by first | exact hR.1 _ _ | exact hR0.1 _ _ | assumption | exact ⟨by omega, by omega⟩ | exact ⟨by simp [wr_at]; omega, by simp [wr_at]; omega⟩ | exact b2_R _ | exact band_R _ _ | exact bor_R _ _ | exact bshl_R _ _ | exact bshr_R _ _ | exact bxor_R _ _ | exact bs_R (by omega) | decide) (by first | exact hR.1 _ _ | exact hR0.1 _ _ | assumption | exact ⟨by omega, by omega⟩ | exact ⟨by simp [wr_at]; omega, by simp [wr_at]; omega⟩ | exact b2_R _ | exact band_R _ _ | exact bor_R _ _ | exact bshl_R _ _ | exact bshr_R _ _ | exact bxor_R _ _ | exact bs_R (by omega) | decide) (by decide) (by decide) (Nat.le_of_ble_eq_true rfl) ?_
        refine ev_istore dX4_leastFrom_90 rfl (by decide) rfl ?_
        refine ev_goto (tgt := 151) dX4_leastFrom_92 (by decide) ?_
        refine ev_iinc dX4_leastFrom_151 rfl rfl (by decide) rfl ?_
        refine ev_goto (tgt := 32) dX4_leastFrom_154 (by decide) ?_
        refine ih (by omega) _ _ ?_
        rw [hacc]
        show _ = lfR (wayA σ) (restA σ) fr to l c p (k + 1)
        rw [lfR]
        first
          | (have q1 := b2_eq h_101; rw [if_neg hb, if_neg (fun q => q1 q.1)])
          | (have q1 := b2_eq h_106; rw [if_neg hb, if_neg (fun q => q1 q.2)])
          | (have q1 := b2_ne h_101; have q2 := b2_ne h_106; rw [if_neg hb, if_pos ⟨q1, q2⟩])
          | rw [if_pos hb]
  refine ev_iload_n dX4_leastFrom_0 rfl ?_
  refine ev_if_ne (tgt := 10) dX4_leastFrom_1 (by decide) (by first | exact hR.1 _ _ | exact hR0.1 _ _ | assumption | exact ⟨by omega, by omega⟩ | exact ⟨by simp [wr_at]; omega, by simp [wr_at]; omega⟩ | exact b2_R _ | exact band_R _ _ | exact bor_R _ _ | exact bshl_R _ _ | exact bshr_R _ _ | exact bxor_R _ _ | exact bs_R (by omega) | decide) (fun h_1 => ?_) (fun h_1 => ?_)
  · refine ev_iload_n dX4_leastFrom_10 rfl ?_
    refine ev_callSI dX4_leastFrom_11 ks_X4_24 (k_bitCount σ c (by omega)) rfl rfl ⟨by decide, by decide⟩ (Nat.le_of_ble_eq_true rfl) ?_
    refine ev_w (fun hR => ?_)
    refine ev_iconst dX4_leastFrom_14 ?_
    refine ev_icmp_ge (tgt := 22) dX4_leastFrom_15 (by decide) (by first | exact hR.1 _ _ | exact hR0.1 _ _ | assumption | exact ⟨by omega, by omega⟩ | exact ⟨by simp [wr_at]; omega, by simp [wr_at]; omega⟩ | exact b2_R _ | exact band_R _ _ | exact bor_R _ _ | exact bshl_R _ _ | exact bshr_R _ _ | exact bxor_R _ _ | exact bs_R (by omega) | decide) (by first | exact hR.1 _ _ | exact hR0.1 _ _ | assumption | exact ⟨by omega, by omega⟩ | exact ⟨by simp [wr_at]; omega, by simp [wr_at]; omega⟩ | exact b2_R _ | exact band_R _ _ | exact bor_R _ _ | exact bshl_R _ _ | exact bshr_R _ _ | exact bxor_R _ _ | exact bs_R (by omega) | decide) (fun h_15 => ?_) (fun h_15 => ?_)
    · refine ev_iconst dX4_leastFrom_22 ?_
      refine ev_istore dX4_leastFrom_23 rfl (by decide) rfl ?_
      first
        | (rw [show (0 : Int) = b2 (cnt c.testBit 12 < 2) from (b2_f (by omega)).symm]
           refine ev_ab rfl ?_
           refine ev_ldc (z := 1000000) dX4_leastFrom_25 kc_X4_49 (by decide) ?_
           refine ev_istore dX4_leastFrom_27 rfl (by decide) rfl ?_
           refine ev_iconst dX4_leastFrom_29 ?_
           refine ev_istore dX4_leastFrom_30 rfl (by decide) rfl ?_
           exact loop (by omega) 0 (by omega) _ _ rfl)
        | (rw [show (1 : Int) = b2 (cnt c.testBit 12 < 2) from (b2_t (by omega)).symm]
           refine ev_ab rfl ?_
           refine ev_ldc (z := 1000000) dX4_leastFrom_25 kc_X4_49 (by decide) ?_
           refine ev_istore dX4_leastFrom_27 rfl (by decide) rfl ?_
           refine ev_iconst dX4_leastFrom_29 ?_
           refine ev_istore dX4_leastFrom_30 rfl (by decide) rfl ?_
           exact loop (by omega) 0 (by omega) _ _ rfl)
    · refine ev_iconst dX4_leastFrom_18 ?_
      refine ev_goto (tgt := 23) dX4_leastFrom_19 (by decide) ?_
      refine ev_istore dX4_leastFrom_23 rfl (by decide) rfl ?_
      first
        | (rw [show (0 : Int) = b2 (cnt c.testBit 12 < 2) from (b2_f (by omega)).symm]
           refine ev_ab rfl ?_
           refine ev_ldc (z := 1000000) dX4_leastFrom_25 kc_X4_49 (by decide) ?_
           refine ev_istore dX4_leastFrom_27 rfl (by decide) rfl ?_
           refine ev_iconst dX4_leastFrom_29 ?_
           refine ev_istore dX4_leastFrom_30 rfl (by decide) rfl ?_
           exact loop (by omega) 0 (by omega) _ _ rfl)
        | (rw [show (1 : Int) = b2 (cnt c.testBit 12 < 2) from (b2_t (by omega)).symm]
           refine ev_ab rfl ?_
           refine ev_ldc (z := 1000000) dX4_leastFrom_25 kc_X4_49 (by decide) ?_
           refine ev_istore dX4_leastFrom_27 rfl (by decide) rfl ?_
           refine ev_iconst dX4_leastFrom_29 ?_
           refine ev_istore dX4_leastFrom_30 rfl (by decide) rfl ?_
           exact loop (by omega) 0 (by omega) _ _ rfl)
  · refine ev_iload_n dX4_leastFrom_4 rfl ?_
    refine ev_if_ne (tgt := 10) dX4_leastFrom_5 (by decide) (by first | exact hR.1 _ _ | exact hR0.1 _ _ | assumption | exact ⟨by omega, by omega⟩ | exact ⟨by simp [wr_at]; omega, by simp [wr_at]; omega⟩ | exact b2_R _ | exact band_R _ _ | exact bor_R _ _ | exact bshl_R _ _ | exact bshr_R _ _ | exact bxor_R _ _ | exact bs_R (by omega) | decide) (fun h_5 => ?_) (fun h_5 => ?_)
    · refine ev_iload_n dX4_leastFrom_10 rfl ?_
      refine ev_callSI dX4_leastFrom_11 ks_X4_24 (k_bitCount σ c (by omega)) rfl rfl ⟨by decide, by decide⟩ (Nat.le_of_ble_eq_true rfl) ?_
      refine ev_w (fun hR => ?_)
      refine ev_iconst dX4_leastFrom_14 ?_
      refine ev_icmp_ge (tgt := 22) dX4_leastFrom_15 (by decide) (by first | exact hR.1 _ _ | exact hR0.1 _ _ | assumption | exact ⟨by omega, by omega⟩ | exact ⟨by simp [wr_at]; omega, by simp [wr_at]; omega⟩ | exact b2_R _ | exact band_R _ _ | exact bor_R _ _ | exact bshl_R _ _ | exact bshr_R _ _ | exact bxor_R _ _ | exact bs_R (by omega) | decide) (by first | exact hR.1 _ _ | exact hR0.1 _ _ | assumption | exact ⟨by omega, by omega⟩ | exact ⟨by simp [wr_at]; omega, by simp [wr_at]; omega⟩ | exact b2_R _ | exact band_R _ _ | exact bor_R _ _ | exact bshl_R _ _ | exact bshr_R _ _ | exact bxor_R _ _ | exact bs_R (by omega) | decide) (fun h_15 => ?_) (fun h_15 => ?_)
      · refine ev_iconst dX4_leastFrom_22 ?_
        refine ev_istore dX4_leastFrom_23 rfl (by decide) rfl ?_
        first
          | (rw [show (0 : Int) = b2 (cnt c.testBit 12 < 2) from (b2_f (by omega)).symm]
             refine ev_ab rfl ?_
             refine ev_ldc (z := 1000000) dX4_leastFrom_25 kc_X4_49 (by decide) ?_
             refine ev_istore dX4_leastFrom_27 rfl (by decide) rfl ?_
             refine ev_iconst dX4_leastFrom_29 ?_
             refine ev_istore dX4_leastFrom_30 rfl (by decide) rfl ?_
             exact loop (by omega) 0 (by omega) _ _ rfl)
          | (rw [show (1 : Int) = b2 (cnt c.testBit 12 < 2) from (b2_t (by omega)).symm]
             refine ev_ab rfl ?_
             refine ev_ldc (z := 1000000) dX4_leastFrom_25 kc_X4_49 (by decide) ?_
             refine ev_istore dX4_leastFrom_27 rfl (by decide) rfl ?_
             refine ev_iconst dX4_leastFrom_29 ?_
             refine ev_istore dX4_leastFrom_30 rfl (by decide) rfl ?_
             exact loop (by omega) 0 (by omega) _ _ rfl)
      · refine ev_iconst dX4_leastFrom_18 ?_
        refine ev_goto (tgt := 23) dX4_leastFrom_19 (by decide) ?_
        refine ev_istore dX4_leastFrom_23 rfl (by decide) rfl ?_
        first
          | (rw [show (0 : Int) = b2 (cnt c.testBit 12 < 2) from (b2_f (by omega)).symm]
             refine ev_ab rfl ?_
             refine ev_ldc (z := 1000000) dX4_leastFrom_25 kc_X4_49 (by decide) ?_
             refine ev_istore dX4_leastFrom_27 rfl (by decide) rfl ?_
             refine ev_iconst dX4_leastFrom_29 ?_
             refine ev_istore dX4_leastFrom_30 rfl (by decide) rfl ?_
             exact loop (by omega) 0 (by omega) _ _ rfl)
          | (rw [show (1 : Int) = b2 (cnt c.testBit 12 < 2) from (b2_t (by omega)).symm]
             refine ev_ab rfl ?_
             refine ev_ldc (z := 1000000) dX4_leastFrom_25 kc_X4_49 (by decide) ?_
             refine ev_istore dX4_leastFrom_27 rfl (by decide) rfl ?_
             refine ev_iconst dX4_leastFrom_29 ?_
             refine ev_istore dX4_leastFrom_30 rfl (by decide) rfl ?_
             exact loop (by omega) 0 (by omega) _ _ rfl)
    · refine ev_iconst dX4_leastFrom_8 ?_
      refine ev_ireturn dX4_leastFrom_9 ?_
      exact ⟨by rw [lfV, if_pos ⟨by omega, by omega⟩], rfl⟩
