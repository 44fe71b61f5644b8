theorem fstI_R (f : Nat → Int) (r : Int) (n : Nat) : -1 ≤ fstI f r n ∧ fstI f r n < n := by
  induction n with
  | zero => rw [fstI]; omega
  | succ n ih =>
    rw [fstI]
    by_cases h : fstI f r n = -1
    · rw [if_pos h]
      by_cases h2 : f n = r
      · rw [if_pos h2]; omega
      · rw [if_neg h2]; omega
    · rw [if_neg h]; omega
theorem othE_R {a b p : Int} (ha : inR a) (hb : inR b) : inR (othE a b p) := by
  unfold othE
  by_cases h : a = p
  · rw [if_pos h]; exact hb
  · rw [if_neg h]
    by_cases h2 : b = p
    · rw [if_pos h2]; exact ha
    · rw [if_neg h2]; decide
/-- the loads that boy b carries, as a set -/
def carS (σ : Mem) (nl : Nat) (b : Int) : Nat := bs (fun l => decide (σ.1 43 l = b)) nl
theorem carS_lt (σ : Mem) {nl : Nat} (h : nl ≤ 4) (b : Int) : carS σ nl b < 16 := by
  have h1 := bs_lt (fun l => decide (σ.1 43 l = b)) nl
  have h2 : 2 ^ nl ≤ 2 ^ 4 := Nat.pow_le_pow_right (by decide) h
  unfold carS
  omega
def goM (σ : Mem) (b r to m : Int) : Mem := ringM (wr (wr (wr σ 39 b to) 40 b r) 41 b m) r
def minB (σ : Mem) (P nl w wt : Nat) (b r : Int) : Int := minZ σ P nl w wt r.toNat b.toNat (carS σ nl b) 0
def okBR (nb nr : Nat) (b r : Int) : Prop := (0 ≤ b ∧ b < nb) ∧ (0 ≤ r ∧ r < nr)
theorem k_go (σ : Mem) (P n nr nb nl w wt : Nat) (f t : Nat → Nat) (hPO : PlanOk σ P n nr nb nl f t) (hPI : PlIs σ P) (hBt : Bits σ w wt) (b r : Int) (hb : inR b) (hr : inR r) (h0 : 0 ≤ σ.1 37 6) : Con yX7_go cX7_go 5 (some .int) 4 93 [.ref 0, .int (iI b), .int (iI r)] σ (fun v τ => if ¬ ((0 ≤ b ∧ b < nb) ∧ (0 ≤ r ∧ r < nr)) then AnsI (-1000000001) σ v τ else if σ.1 40 b ≠ -1 ∨ fstI (fun i => σ.1 40 i) r nb ≠ -1 ∨ (othE (σ.1 (P + 5) r) (σ.1 (P + 6) r) (σ.1 39 b)) = -1 ∨ minB σ P nl w wt b r = -1 then AnsI (-1000000003) σ v τ else AnsI (minB σ P nl w wt b r) (goM σ b r (othE (σ.1 (P + 5) r) (σ.1 (P + 6) r) (σ.1 39 b)) (minB σ P nl w wt b r)) v τ) := by
  refine con_of (by decide) rfl (Nat.le_of_ble_eq_true rfl) ((fun v τ h => by repeat (first | exact ok_I rfl v τ h | split at h))) ?_
  refine ev_w (fun hR => ?_)
  have hR0 := hR
  obtain ⟨hPR, ⟨hnb, hnb4⟩, ⟨hnl, hnl4⟩, hpo, hro, hbo, hlo⟩ := id hPO
  obtain ⟨hP, hn, hn8, hnr, hnr12, hft⟩ := id hPR
  obtain ⟨hw, hw2, hwt, hwt2⟩ := id hBt
  have hpl := hPI.q
  refine ev_aload_n dX7_go_0 rfl ?_
  refine ev_iload_n dX7_go_1 rfl ?_
  refine ev_callVI dX7_go_2 kv_X7_171 (k_isBoy σ b P hb hP hpl) rfl rfl (ci := 7) rfl rfl ⟨by decide, by decide⟩ (Nat.le_of_ble_eq_true rfl) ?_
  refine ev_w (fun hR => ?_)
  rw [hnb]
  refine ev_if_eq (tgt := 16) dX7_go_5 (by decide) (by first | exact hR.1 _ _ | exact hR0.1 _ _ | assumption | exact ⟨by omega, by omega⟩ | exact ⟨by simp [wr_at]; omega, by simp [wr_at]; omega⟩ | exact b2_R _ | exact bC_R _ | exact band_R _ _ | exact bor_R _ _ | exact bshl_R _ _ | exact bshr_R _ _ | exact bxor_R _ _ | exact bs_R (by omega) | decide) (fun h_5 => ?_) (fun h_5 => ?_)
  · refine ev_ldc (z := -1000000001) dX7_go_16 kc_X7_126 (by decide) ?_
    refine ev_ireturn dX7_go_18 ?_
    first
      | (have z := b2_eq h_5; rw [if_pos (fun y => z y.1)]; exact ⟨rfl, rfl⟩)
      | (have z := b2_eq h_13; rw [if_pos (fun y => z y.2)]; exact ⟨rfl, rfl⟩)
      | (have z := b2_eq (Decidable.not_not.mp h_13); rw [if_pos (fun y => z y.2)]; exact ⟨rfl, rfl⟩)
  · refine ev_aload_n dX7_go_8 rfl ?_
    refine ev_iload_n dX7_go_9 rfl ?_
    refine ev_callVI dX7_go_10 kv_X7_144 (k_isRope σ r P hr hP hpl) rfl rfl (ci := 7) rfl rfl ⟨by decide, by decide⟩ (Nat.le_of_ble_eq_true rfl) ?_
    refine ev_w (fun hR => ?_)
    rw [hnr]
    refine ev_if_ne (tgt := 19) dX7_go_13 (by decide) (by first | exact hR.1 _ _ | exact hR0.1 _ _ | assumption | exact ⟨by omega, by omega⟩ | exact ⟨by simp [wr_at]; omega, by simp [wr_at]; omega⟩ | exact b2_R _ | exact bC_R _ | exact band_R _ _ | exact bor_R _ _ | exact bshl_R _ _ | exact bshr_R _ _ | exact bxor_R _ _ | exact bs_R (by omega) | decide) (fun h_13 => ?_) (fun h_13 => ?_)
    · have q0 := b2_ne h_5
      have q1 := b2_ne h_13
      obtain ⟨b, rfl⟩ := Int.eq_ofNat_of_zero_le q0.1
      obtain ⟨r, rfl⟩ := Int.eq_ofNat_of_zero_le q1.1
      have hcs := carS_lt σ hnl4 (b : Int)
      have hif : ¬ ¬ ((0 ≤ (b : Int) ∧ (b : Int) < nb) ∧ (0 ≤ (r : Int) ∧ (r : Int) < nr)) := fun y => y ⟨q0, q1⟩
      refine ev_aload_n dX7_go_19 rfl ?_
      refine ev_getR (r := 37) dX7_go_20 fl_X7_29 rfl rfl rfl ?_
      refine ev_iload_n dX7_go_23 rfl ?_
      refine ev_callVI dX7_go_24 kv_X7_174 (k_isOnRope σ b (by omega) (by omega)) rfl rfl (ci := 5) rfl rfl ⟨by decide, by decide⟩ (Nat.le_of_ble_eq_true rfl) ?_
      refine ev_w (fun hR => ?_)
      refine ev_if_ne (tgt := 49) dX7_go_27 (by decide) (by first | exact hR.1 _ _ | exact hR0.1 _ _ | assumption | exact ⟨by omega, by omega⟩ | exact ⟨by simp [wr_at]; omega, by simp [wr_at]; omega⟩ | exact b2_R _ | exact bC_R _ | exact band_R _ _ | exact bor_R _ _ | exact bshl_R _ _ | exact bshr_R _ _ | exact bxor_R _ _ | exact bs_R (by omega) | decide) (fun h_27 => ?_) (fun h_27 => ?_)
      · refine ev_ldc (z := -1000000003) dX7_go_49 kc_X7_216 (by decide) ?_
        refine ev_ireturn dX7_go_51 ?_
        rw [if_neg hif]
        first
          | (have z := b2_ne h_27; rw [if_pos (Or.inl z)]; exact ⟨rfl, rfl⟩)
          | (rw [if_pos (Or.inr (Or.inl (by assumption)))]; exact ⟨rfl, rfl⟩)
      · refine ev_aload_n dX7_go_30 rfl ?_
        refine ev_getR (r := 37) dX7_go_31 fl_X7_29 rfl rfl rfl ?_
        refine ev_iload_n dX7_go_34 rfl ?_
        refine ev_aload_n dX7_go_35 rfl ?_
        refine ev_getQ (r := P) dX7_go_36 fl_X7_19 rfl rfl hpl ?_
        refine ev_getI (kz := 2) dX7_go_39 fl_X7_101 (plO hP) rfl rfl ?_
        rw [hnb]
        refine ev_callVI dX7_go_42 kv_X7_168 (k_boyOn σ r nb hr hnb4) rfl rfl (ci := 5) rfl rfl ⟨by decide, by decide⟩ (Nat.le_of_ble_eq_true rfl) ?_
        refine ev_w (fun hR => ?_)
        refine ev_iconst dX7_go_45 ?_
        refine ev_icmp_eq (tgt := 52) dX7_go_46 (by decide) (by have := fstI_R (fun b => σ.1 40 b) (r : Int) nb; exact ⟨by omega, by omega⟩) (by decide) (fun h_46 => ?_) (fun h_46 => ?_)
        · refine ev_aload_n dX7_go_52 rfl ?_
          refine ev_getQ (r := P) dX7_go_53 fl_X7_19 rfl rfl hpl ?_
          refine ev_iload_n dX7_go_56 rfl ?_
          refine ev_aload_n dX7_go_57 rfl ?_
          refine ev_getR (r := 37) dX7_go_58 fl_X7_29 rfl rfl rfl ?_
          refine ev_getR (r := 39) dX7_go_61 fl_X7_177 rfl rfl rfl ?_
          refine ev_iload_n dX7_go_64 rfl ?_
          refine ev_iaload dX7_go_65 rfl (by first | omega | (simp [wr_at]; omega) | (simp [wr_at, *]; omega)) (by first | omega | (simp [wr_at]; omega) | (simp [wr_at, *]; omega)) (by decide) ?_
          refine ev_callVI dX7_go_66 kv_X7_217 (k_otherEnd σ P r (σ.1 39 b) hP (by omega) (by omega) (hR.1 _ _)) rfl (plO hP) (ci := 2) rfl rfl ⟨by decide, by decide⟩ (Nat.le_of_ble_eq_true rfl) ?_
          refine ev_w (fun hR => ?_)
          refine ev_istore_n dX7_go_69 rfl (by decide) rfl ?_
          refine ev_aload_n dX7_go_70 rfl ?_
          refine ev_iload_n dX7_go_71 rfl ?_
          refine ev_iload_n dX7_go_72 rfl ?_
          refine ev_aload_n dX7_go_73 rfl ?_
          refine ev_getR (r := 37) dX7_go_74 fl_X7_29 rfl rfl rfl ?_
          refine ev_iload_n dX7_go_77 rfl ?_
          refine ev_aload_n dX7_go_78 rfl ?_
          refine ev_getQ (r := P) dX7_go_79 fl_X7_19 rfl rfl hpl ?_
          refine ev_getI (kz := 3) dX7_go_82 fl_X7_104 (plO hP) rfl rfl ?_
          rw [hnl]
          refine ev_callVI dX7_go_85 kv_X7_192 (k_carriedBy σ b nl hb hnl4) rfl rfl (ci := 5) rfl rfl ⟨by decide, by decide⟩ (Nat.le_of_ble_eq_true rfl) ?_
          refine ev_w (fun hR => ?_)
          refine ev_iconst dX7_go_88 ?_
          refine ev_callVI dX7_go_89 kv_X7_220 (k_minutesOn σ P n nr nb nl w wt f t hPO hPI hBt r b _ 0 (by omega) (by omega) (Nat.lt_of_lt_of_le hcs (by decide)) (Or.inl rfl)) rfl rfl (ci := 7) rfl rfl ⟨by decide, by decide⟩ (Nat.le_of_ble_eq_true rfl) ?_
          refine ev_w (fun hR => ?_)
          refine ev_istore dX7_go_92 rfl (by decide) rfl ?_
          rw [show minZ σ P nl w wt r b (carS σ nl (b : Int)) 0 = minB σ P nl w wt b r from rfl]
          have hmm := hPO.min (w := w) (wt := wt) (s := carS σ nl (b : Int)) (dry := 0) (show r < nr by omega) (show b < nb by omega)
          have hmb : minB σ P nl w wt (b : Int) (r : Int) = minZ σ P nl w wt r b (carS σ nl (b : Int)) 0 := rfl
          rw [← hmb] at hmm
          refine ev_iload_n dX7_go_94 rfl ?_
          refine ev_iconst dX7_go_95 ?_
          refine ev_icmp_eq (tgt := 105) dX7_go_96 (by decide) (othE_R (hR.1 _ _) (hR.1 _ _)) (by decide) (fun h_96 => ?_) (fun h_96 => ?_)
          · refine ev_ldc (z := -1000000003) dX7_go_105 kc_X7_216 (by decide) ?_
            refine ev_ireturn dX7_go_107 ?_
            rw [if_neg hif]
            first
              | (have z : (othE (σ.1 (P + 5) r) (σ.1 (P + 6) r) (σ.1 39 b)) = -1 := h_96; rw [if_pos (Or.inr (Or.inr (Or.inl z)))]; exact ⟨rfl, rfl⟩)
              | (have z : minB σ P nl w wt (b : Int) (r : Int) = -1 := by omega
                 rw [if_pos (Or.inr (Or.inr (Or.inr z)))]; exact ⟨rfl, rfl⟩)
          · refine ev_iload dX7_go_99 rfl ?_
            refine ev_iconst dX7_go_101 ?_
            refine ev_icmp_ne (tgt := 108) dX7_go_102 (by decide) (by first | exact hR.1 _ _ | exact hR0.1 _ _ | assumption | exact ⟨by omega, by omega⟩ | exact ⟨by simp [wr_at]; omega, by simp [wr_at]; omega⟩ | exact b2_R _ | exact bC_R _ | exact band_R _ _ | exact bor_R _ _ | exact bshl_R _ _ | exact bshr_R _ _ | exact bxor_R _ _ | exact bs_R (by omega) | decide) (by first | exact hR.1 _ _ | exact hR0.1 _ _ | assumption | exact ⟨by omega, by omega⟩ | exact ⟨by simp [wr_at]; omega, by simp [wr_at]; omega⟩ | exact b2_R _ | exact bC_R _ | exact band_R _ _ | exact bor_R _ _ | exact bshl_R _ _ | exact bshr_R _ _ | exact bxor_R _ _ | exact bs_R (by omega) | decide) (fun h_102 => ?_) (fun h_102 => ?_)
            · refine ev_aload_n dX7_go_108 rfl ?_
              refine ev_getR (r := 37) dX7_go_109 fl_X7_29 rfl rfl rfl ?_
              refine ev_getR (r := 39) dX7_go_112 fl_X7_177 rfl rfl rfl ?_
              refine ev_iload_n dX7_go_115 rfl ?_
              refine ev_iload_n dX7_go_116 rfl ?_
              refine ev_iastore dX7_go_117 rfl (by first | omega | (simp [wr_at]; omega) | (simp [wr_at, *]; omega)) (by first | omega | (simp [wr_at]; omega) | (simp [wr_at, *]; omega)) (by decide) (othE_R (hR0.1 _ _) (hR0.1 _ _)) ?_
              refine ev_w (fun hR => ?_)
              refine ev_aload_n dX7_go_118 rfl ?_
              refine ev_getR (r := 37) dX7_go_119 fl_X7_29 rfl rfl rfl ?_
              refine ev_getR (r := 40) dX7_go_122 fl_X7_180 rfl rfl rfl ?_
              refine ev_iload_n dX7_go_125 rfl ?_
              refine ev_iload_n dX7_go_126 rfl ?_
              refine ev_iastore dX7_go_127 rfl (by first | omega | (simp [wr_at]; omega) | (simp [wr_at, *]; omega)) (by first | omega | (simp [wr_at]; omega) | (simp [wr_at, *]; omega)) (by decide) (by first | exact hR.1 _ _ | exact hR0.1 _ _ | assumption | exact ⟨by omega, by omega⟩ | exact ⟨by simp [wr_at]; omega, by simp [wr_at]; omega⟩ | exact b2_R _ | exact bC_R _ | exact band_R _ _ | exact bor_R _ _ | exact bshl_R _ _ | exact bshr_R _ _ | exact bxor_R _ _ | exact bs_R (by omega) | decide) ?_
              refine ev_w (fun hR => ?_)
              refine ev_aload_n dX7_go_128 rfl ?_
              refine ev_getR (r := 37) dX7_go_129 fl_X7_29 rfl rfl rfl ?_
              refine ev_getR (r := 41) dX7_go_132 fl_X7_183 rfl rfl rfl ?_
              refine ev_iload_n dX7_go_135 rfl ?_
              refine ev_iload dX7_go_136 rfl ?_
              refine ev_iastore dX7_go_138 rfl (by first | omega | (simp [wr_at]; omega) | (simp [wr_at, *]; omega)) (by first | omega | (simp [wr_at]; omega) | (simp [wr_at, *]; omega)) (by decide) (by first | exact hR.1 _ _ | exact hR0.1 _ _ | assumption | exact ⟨by omega, by omega⟩ | exact ⟨by simp [wr_at]; omega, by simp [wr_at]; omega⟩ | exact b2_R _ | exact bC_R _ | exact band_R _ _ | exact bor_R _ _ | exact bshl_R _ _ | exact bshr_R _ _ | exact bxor_R _ _ | exact bs_R (by omega) | decide) ?_
              refine ev_w (fun hR => ?_)
              refine ev_aload_n dX7_go_139 rfl ?_
              refine ev_getR (r := 37) dX7_go_140 fl_X7_29 rfl rfl rfl ?_
              refine ev_iload_n dX7_go_143 rfl ?_
              refine ev_callVV dX7_go_144 kv_X7_224 (k_addRing _ r hr (by rw [wr_nec _ (by decide), wr_nec _ (by decide), wr_nec _ (by decide)]; exact h0)) rfl rfl (ci := 5) rfl rfl ⟨by decide, by decide⟩ (Nat.le_of_ble_eq_true rfl) ?_
              refine ev_w (fun hR => ?_)
              refine ev_iload dX7_go_147 rfl ?_
              refine ev_ireturn dX7_go_149 ?_
              have z1 := b2_eq h_27
              rw [if_neg hif, if_neg (fun y => by rcases y with y | y | y | y; exact z1 y; exact y h_46; exact h_96 y; exact h_102 y)]
              exact ⟨rfl, rfl⟩
            · refine ev_ldc (z := -1000000003) dX7_go_105 kc_X7_216 (by decide) ?_
              refine ev_ireturn dX7_go_107 ?_
              rw [if_neg hif]
              first
                | (have z : (othE (σ.1 (P + 5) r) (σ.1 (P + 6) r) (σ.1 39 b)) = -1 := h_96; rw [if_pos (Or.inr (Or.inr (Or.inl z)))]; exact ⟨rfl, rfl⟩)
                | (have z : minB σ P nl w wt (b : Int) (r : Int) = -1 := by omega
                   rw [if_pos (Or.inr (Or.inr (Or.inr z)))]; exact ⟨rfl, rfl⟩)
        · refine ev_ldc (z := -1000000003) dX7_go_49 kc_X7_216 (by decide) ?_
          refine ev_ireturn dX7_go_51 ?_
          rw [if_neg hif]
          first
            | (have z := b2_ne h_27; rw [if_pos (Or.inl z)]; exact ⟨rfl, rfl⟩)
            | (rw [if_pos (Or.inr (Or.inl (by assumption)))]; exact ⟨rfl, rfl⟩)
    · refine ev_ldc (z := -1000000001) dX7_go_16 kc_X7_126 (by decide) ?_
      refine ev_ireturn dX7_go_18 ?_
      first
        | (have z := b2_eq h_5; rw [if_pos (fun y => z y.1)]; exact ⟨rfl, rfl⟩)
        | (have z := b2_eq h_13; rw [if_pos (fun y => z y.2)]; exact ⟨rfl, rfl⟩)
        | (have z := b2_eq (Decidable.not_not.mp h_13); rw [if_pos (fun y => z y.2)]; exact ⟨rfl, rfl⟩)
theorem k_take (σ : Mem) (P n nr nb nl w wt : Nat) (f t : Nat → Nat) (hPO : PlanOk σ P n nr nb nl f t) (hPI : PlIs σ P) (hBt : Bits σ w wt) (b l : Int) (hb : inR b) (hl : inR l) : Con yX7_take cX7_take 4 (some .int) 1 24 [.ref 0, .int (iI b), .int (iI l)] σ (fun v τ => if ¬ ((0 ≤ b ∧ b < nb) ∧ (0 ≤ l ∧ l < nl)) then AnsI (-1000000001) σ v τ else if σ.1 40 b ≠ -1 ∨ σ.1 42 l ≠ σ.1 39 b ∨ 2 ≤ cnt (carS σ nl b).testBit 12 then AnsI (-1000000003) σ v τ else AnsI ((cnt (carS σ nl b).testBit 12 : Nat) + 1) (wr (wr σ 42 l (-1)) 43 l b) v τ) := by
  refine con_of (by decide) rfl (Nat.le_of_ble_eq_true rfl) ((fun v τ h => by repeat (first | exact ok_I rfl v τ h | split at h))) ?_
  refine ev_w (fun hR => ?_)
  have hR0 := hR
  obtain ⟨hPR, ⟨hnb, hnb4⟩, ⟨hnl, hnl4⟩, hpo, hro, hbo, hlo⟩ := id hPO
  obtain ⟨hP, hn, hn8, hnr, hnr12, hft⟩ := id hPR
  obtain ⟨hw, hw2, hwt, hwt2⟩ := id hBt
  have hpl := hPI.q
  refine ev_aload_n dX7_take_0 rfl ?_
  refine ev_iload_n dX7_take_1 rfl ?_
  refine ev_callVI dX7_take_2 kv_X7_171 (k_isBoy σ b P hb hP hpl) rfl rfl (ci := 7) rfl rfl ⟨by decide, by decide⟩ (Nat.le_of_ble_eq_true rfl) ?_
  refine ev_w (fun hR => ?_)
  rw [hnb]
  refine ev_if_eq (tgt := 16) dX7_take_5 (by decide) (by first | exact hR.1 _ _ | exact hR0.1 _ _ | assumption | exact ⟨by omega, by omega⟩ | exact ⟨by simp [wr_at]; omega, by simp [wr_at]; omega⟩ | exact b2_R _ | exact bC_R _ | exact band_R _ _ | exact bor_R _ _ | exact bshl_R _ _ | exact bshr_R _ _ | exact bxor_R _ _ | exact bs_R (by omega) | decide) (fun h_5 => ?_) (fun h_5 => ?_)
  · refine ev_ldc (z := -1000000001) dX7_take_16 kc_X7_126 (by decide) ?_
    refine ev_ireturn dX7_take_18 ?_
    first
      | (have z := b2_eq h_5; rw [if_pos (fun y => z y.1)]; exact ⟨rfl, rfl⟩)
      | (have z := b2_eq h_13; rw [if_pos (fun y => z y.2)]; exact ⟨rfl, rfl⟩)
      | (have z := b2_eq (Decidable.not_not.mp h_13); rw [if_pos (fun y => z y.2)]; exact ⟨rfl, rfl⟩)
  · refine ev_aload_n dX7_take_8 rfl ?_
    refine ev_iload_n dX7_take_9 rfl ?_
    refine ev_callVI dX7_take_10 kv_X7_195 (k_isLoad σ l P hl hP hpl) rfl rfl (ci := 7) rfl rfl ⟨by decide, by decide⟩ (Nat.le_of_ble_eq_true rfl) ?_
    refine ev_w (fun hR => ?_)
    rw [hnl]
    refine ev_if_ne (tgt := 19) dX7_take_13 (by decide) (by first | exact hR.1 _ _ | exact hR0.1 _ _ | assumption | exact ⟨by omega, by omega⟩ | exact ⟨by simp [wr_at]; omega, by simp [wr_at]; omega⟩ | exact b2_R _ | exact bC_R _ | exact band_R _ _ | exact bor_R _ _ | exact bshl_R _ _ | exact bshr_R _ _ | exact bxor_R _ _ | exact bs_R (by omega) | decide) (fun h_13 => ?_) (fun h_13 => ?_)
    · have q0 := b2_ne h_5
      have q1 := b2_ne h_13
      have hcs := carS_lt σ hnl4 b
      have hcl := cnt_le (carS σ nl b).testBit 12
      have hif : ¬ ¬ ((0 ≤ b ∧ b < nb) ∧ (0 ≤ l ∧ l < nl)) := fun y => y ⟨q0, q1⟩
      refine ev_aload_n dX7_take_19 rfl ?_
      refine ev_getR (r := 37) dX7_take_20 fl_X7_29 rfl rfl rfl ?_
      refine ev_iload_n dX7_take_23 rfl ?_
      refine ev_aload_n dX7_take_24 rfl ?_
      refine ev_getQ (r := P) dX7_take_25 fl_X7_19 rfl rfl hpl ?_
      refine ev_getI (kz := 3) dX7_take_28 fl_X7_104 (plO hP) rfl rfl ?_
      rw [hnl]
      refine ev_callVI dX7_take_31 kv_X7_192 (k_carriedBy σ b nl hb hnl4) rfl rfl (ci := 5) rfl rfl ⟨by decide, by decide⟩ (Nat.le_of_ble_eq_true rfl) ?_
      refine ev_w (fun hR => ?_)
      rw [show bs (fun l => decide (σ.1 43 l = b)) nl = carS σ nl b from rfl]
      refine ev_callSI dX7_take_34 ks_X7_228 (k_bitCount σ (carS σ nl b) (by omega)) rfl rfl ⟨by decide, by decide⟩ (Nat.le_of_ble_eq_true rfl) ?_
      refine ev_w (fun hR => ?_)
      refine ev_istore_n dX7_take_37 rfl (by decide) rfl ?_
      refine ev_aload_n dX7_take_38 rfl ?_
      refine ev_getR (r := 37) dX7_take_39 fl_X7_29 rfl rfl rfl ?_
      refine ev_iload_n dX7_take_42 rfl ?_
      refine ev_callVI dX7_take_43 kv_X7_174 (k_isOnRope σ b (by omega) (by omega)) rfl rfl (ci := 5) rfl rfl ⟨by decide, by decide⟩ (Nat.le_of_ble_eq_true rfl) ?_
      refine ev_w (fun hR => ?_)
      refine ev_if_ne (tgt := 75) dX7_take_46 (by decide) (by first | exact hR.1 _ _ | exact hR0.1 _ _ | assumption | exact ⟨by omega, by omega⟩ | exact ⟨by simp [wr_at]; omega, by simp [wr_at]; omega⟩ | exact b2_R _ | exact bC_R _ | exact band_R _ _ | exact bor_R _ _ | exact bshl_R _ _ | exact bshr_R _ _ | exact bxor_R _ _ | exact bs_R (by omega) | decide) (fun h_46 => ?_) (fun h_46 => ?_)
      · refine ev_ldc (z := -1000000003) dX7_take_75 kc_X7_216 (by decide) ?_
        refine ev_ireturn dX7_take_77 ?_
        rw [if_neg hif]
        first
          | (have z := b2_ne h_46; rw [if_pos (Or.inl z)]; exact ⟨rfl, rfl⟩)
          | (have z : 2 ≤ cnt (carS σ nl b).testBit 12 := by omega
             rw [if_pos (Or.inr (Or.inr z))]; exact ⟨rfl, rfl⟩)
          | (rw [if_pos (Or.inr (Or.inl (by assumption)))]; exact ⟨rfl, rfl⟩)
      · refine ev_aload_n dX7_take_49 rfl ?_
        refine ev_getR (r := 37) dX7_take_50 fl_X7_29 rfl rfl rfl ?_
        refine ev_getR (r := 42) dX7_take_53 fl_X7_198 rfl rfl rfl ?_
        refine ev_iload_n dX7_take_56 rfl ?_
        refine ev_iaload dX7_take_57 rfl (by first | omega | (simp [wr_at]; omega) | (simp [wr_at, *]; omega)) (by first | omega | (simp [wr_at]; omega) | (simp [wr_at, *]; omega)) (by decide) ?_
        refine ev_aload_n dX7_take_58 rfl ?_
        refine ev_getR (r := 37) dX7_take_59 fl_X7_29 rfl rfl rfl ?_
        refine ev_getR (r := 39) dX7_take_62 fl_X7_177 rfl rfl rfl ?_
        refine ev_iload_n dX7_take_65 rfl ?_
        refine ev_iaload dX7_take_66 rfl (by first | omega | (simp [wr_at]; omega) | (simp [wr_at, *]; omega)) (by first | omega | (simp [wr_at]; omega) | (simp [wr_at, *]; omega)) (by decide) ?_
        refine ev_icmp_ne (tgt := 75) dX7_take_67 (by decide) (by first | exact hR.1 _ _ | exact hR0.1 _ _ | assumption | exact ⟨by omega, by omega⟩ | exact ⟨by simp [wr_at]; omega, by simp [wr_at]; omega⟩ | exact b2_R _ | exact bC_R _ | exact band_R _ _ | exact bor_R _ _ | exact bshl_R _ _ | exact bshr_R _ _ | exact bxor_R _ _ | exact bs_R (by omega) | decide) (by first | exact hR.1 _ _ | exact hR0.1 _ _ | assumption | exact ⟨by omega, by omega⟩ | exact ⟨by simp [wr_at]; omega, by simp [wr_at]; omega⟩ | exact b2_R _ | exact bC_R _ | exact band_R _ _ | exact bor_R _ _ | exact bshl_R _ _ | exact bshr_R _ _ | exact bxor_R _ _ | exact bs_R (by omega) | decide) (fun h_67 => ?_) (fun h_67 => ?_)
        · refine ev_ldc (z := -1000000003) dX7_take_75 kc_X7_216 (by decide) ?_
          refine ev_ireturn dX7_take_77 ?_
          rw [if_neg hif]
          first
            | (have z := b2_ne h_46; rw [if_pos (Or.inl z)]; exact ⟨rfl, rfl⟩)
            | (have z : 2 ≤ cnt (carS σ nl b).testBit 12 := by omega
               rw [if_pos (Or.inr (Or.inr z))]; exact ⟨rfl, rfl⟩)
            | (rw [if_pos (Or.inr (Or.inl (by assumption)))]; exact ⟨rfl, rfl⟩)
        · refine ev_iload_n dX7_take_70 rfl ?_
          refine ev_iconst dX7_take_71 ?_
          refine ev_icmp_lt (tgt := 78) dX7_take_72 (by decide) (by first | exact hR.1 _ _ | exact hR0.1 _ _ | assumption | exact ⟨by omega, by omega⟩ | exact ⟨by simp [wr_at]; omega, by simp [wr_at]; omega⟩ | exact b2_R _ | exact bC_R _ | exact band_R _ _ | exact bor_R _ _ | exact bshl_R _ _ | exact bshr_R _ _ | exact bxor_R _ _ | exact bs_R (by omega) | decide) (by first | exact hR.1 _ _ | exact hR0.1 _ _ | assumption | exact ⟨by omega, by omega⟩ | exact ⟨by simp [wr_at]; omega, by simp [wr_at]; omega⟩ | exact b2_R _ | exact bC_R _ | exact band_R _ _ | exact bor_R _ _ | exact bshl_R _ _ | exact bshr_R _ _ | exact bxor_R _ _ | exact bs_R (by omega) | decide) (fun h_72 => ?_) (fun h_72 => ?_)
          · refine ev_aload_n dX7_take_78 rfl ?_
            refine ev_getR (r := 37) dX7_take_79 fl_X7_29 rfl rfl rfl ?_
            refine ev_getR (r := 42) dX7_take_82 fl_X7_198 rfl rfl rfl ?_
            refine ev_iload_n dX7_take_85 rfl ?_
            refine ev_iconst dX7_take_86 ?_
            refine ev_iastore dX7_take_87 rfl (by first | omega | (simp [wr_at]; omega) | (simp [wr_at, *]; omega)) (by first | omega | (simp [wr_at]; omega) | (simp [wr_at, *]; omega)) (by decide) (by first | exact hR.1 _ _ | exact hR0.1 _ _ | assumption | exact ⟨by omega, by omega⟩ | exact ⟨by simp [wr_at]; omega, by simp [wr_at]; omega⟩ | exact b2_R _ | exact bC_R _ | exact band_R _ _ | exact bor_R _ _ | exact bshl_R _ _ | exact bshr_R _ _ | exact bxor_R _ _ | exact bs_R (by omega) | decide) ?_
            refine ev_w (fun hR => ?_)
            refine ev_aload_n dX7_take_88 rfl ?_
            refine ev_getR (r := 37) dX7_take_89 fl_X7_29 rfl rfl rfl ?_
            refine ev_getR (r := 43) dX7_take_92 fl_X7_213 rfl rfl rfl ?_
            refine ev_iload_n dX7_take_95 rfl ?_
            refine ev_iload_n dX7_take_96 rfl ?_
            refine ev_iastore dX7_take_97 rfl (by first | omega | (simp [wr_at]; omega) | (simp [wr_at, *]; omega)) (by first | omega | (simp [wr_at]; omega) | (simp [wr_at, *]; omega)) (by decide) (by first | exact hR.1 _ _ | exact hR0.1 _ _ | assumption | exact ⟨by omega, by omega⟩ | exact ⟨by simp [wr_at]; omega, by simp [wr_at]; omega⟩ | exact b2_R _ | exact bC_R _ | exact band_R _ _ | exact bor_R _ _ | exact bshl_R _ _ | exact bshr_R _ _ | exact bxor_R _ _ | exact bs_R (by omega) | decide) ?_
            refine ev_w (fun hR => ?_)
            refine ev_iload_n dX7_take_98 rfl ?_
            refine ev_iconst dX7_take_99 ?_
            refine ev_iadd dX7_take_100 ?_
            refine ev_ireturn dX7_take_101 ?_
            have z1 := b2_eq h_46
            rw [if_neg hif, if_neg (fun y => by rcases y with y | y | y; exact z1 y; exact y (by omega); omega)]
            exact ⟨rfl, rfl⟩
          · refine ev_ldc (z := -1000000003) dX7_take_75 kc_X7_216 (by decide) ?_
            refine ev_ireturn dX7_take_77 ?_
            rw [if_neg hif]
            first
              | (have z := b2_ne h_46; rw [if_pos (Or.inl z)]; exact ⟨rfl, rfl⟩)
              | (have z : 2 ≤ cnt (carS σ nl b).testBit 12 := by omega
                 rw [if_pos (Or.inr (Or.inr z))]; exact ⟨rfl, rfl⟩)
              | (rw [if_pos (Or.inr (Or.inl (by assumption)))]; exact ⟨rfl, rfl⟩)
    · refine ev_ldc (z := -1000000001) dX7_take_16 kc_X7_126 (by decide) ?_
      refine ev_ireturn dX7_take_18 ?_
      first
        | (have z := b2_eq h_5; rw [if_pos (fun y => z y.1)]; exact ⟨rfl, rfl⟩)
        | (have z := b2_eq h_13; rw [if_pos (fun y => z y.2)]; exact ⟨rfl, rfl⟩)
        | (have z := b2_eq (Decidable.not_not.mp h_13); rw [if_pos (fun y => z y.2)]; exact ⟨rfl, rfl⟩)
theorem k_lay (σ : Mem) (P n nr nb nl w wt : Nat) (f t : Nat → Nat) (hPO : PlanOk σ P n nr nb nl f t) (hPI : PlIs σ P) (hBt : Bits σ w wt) (b l : Int) (hb : inR b) (hl : inR l) : Con yX7_lay cX7_lay 3 (some .int) 1 24 [.ref 0, .int (iI b), .int (iI l)] σ (fun v τ => if ¬ ((0 ≤ b ∧ b < nb) ∧ (0 ≤ l ∧ l < nl)) then AnsI (-1000000001) σ v τ else if σ.1 40 b ≠ -1 ∨ σ.1 43 l ≠ b then AnsI (-1000000003) σ v τ else AnsI (cnt (carS (wr (wr σ 42 l (σ.1 39 b)) 43 l (-1)) nl b).testBit 12 : Nat) (wr (wr σ 42 l (σ.1 39 b)) 43 l (-1)) v τ) := by
  refine con_of (by decide) rfl (Nat.le_of_ble_eq_true rfl) ((fun v τ h => by repeat (first | exact ok_I rfl v τ h | split at h))) ?_
  refine ev_w (fun hR => ?_)
  have hR0 := hR
  obtain ⟨hPR, ⟨hnb, hnb4⟩, ⟨hnl, hnl4⟩, hpo, hro, hbo, hlo⟩ := id hPO
  obtain ⟨hP, hn, hn8, hnr, hnr12, hft⟩ := id hPR
  obtain ⟨hw, hw2, hwt, hwt2⟩ := id hBt
  have hpl := hPI.q
  refine ev_aload_n dX7_lay_0 rfl ?_
  refine ev_iload_n dX7_lay_1 rfl ?_
  refine ev_callVI dX7_lay_2 kv_X7_171 (k_isBoy σ b P hb hP hpl) rfl rfl (ci := 7) rfl rfl ⟨by decide, by decide⟩ (Nat.le_of_ble_eq_true rfl) ?_
  refine ev_w (fun hR => ?_)
  rw [hnb]
  refine ev_if_eq (tgt := 16) dX7_lay_5 (by decide) (by first | exact hR.1 _ _ | exact hR0.1 _ _ | assumption | exact ⟨by omega, by omega⟩ | exact ⟨by simp [wr_at]; omega, by simp [wr_at]; omega⟩ | exact b2_R _ | exact bC_R _ | exact band_R _ _ | exact bor_R _ _ | exact bshl_R _ _ | exact bshr_R _ _ | exact bxor_R _ _ | exact bs_R (by omega) | decide) (fun h_5 => ?_) (fun h_5 => ?_)
  · refine ev_ldc (z := -1000000001) dX7_lay_16 kc_X7_126 (by decide) ?_
    refine ev_ireturn dX7_lay_18 ?_
    first
      | (have z := b2_eq h_5; rw [if_pos (fun y => z y.1)]; exact ⟨rfl, rfl⟩)
      | (have z := b2_eq h_13; rw [if_pos (fun y => z y.2)]; exact ⟨rfl, rfl⟩)
      | (have z := b2_eq (Decidable.not_not.mp h_13); rw [if_pos (fun y => z y.2)]; exact ⟨rfl, rfl⟩)
  · refine ev_aload_n dX7_lay_8 rfl ?_
    refine ev_iload_n dX7_lay_9 rfl ?_
    refine ev_callVI dX7_lay_10 kv_X7_195 (k_isLoad σ l P hl hP hpl) rfl rfl (ci := 7) rfl rfl ⟨by decide, by decide⟩ (Nat.le_of_ble_eq_true rfl) ?_
    refine ev_w (fun hR => ?_)
    rw [hnl]
    refine ev_if_ne (tgt := 19) dX7_lay_13 (by decide) (by first | exact hR.1 _ _ | exact hR0.1 _ _ | assumption | exact ⟨by omega, by omega⟩ | exact ⟨by simp [wr_at]; omega, by simp [wr_at]; omega⟩ | exact b2_R _ | exact bC_R _ | exact band_R _ _ | exact bor_R _ _ | exact bshl_R _ _ | exact bshr_R _ _ | exact bxor_R _ _ | exact bs_R (by omega) | decide) (fun h_13 => ?_) (fun h_13 => ?_)
    · have q0 := b2_ne h_5
      have q1 := b2_ne h_13
      have hif : ¬ ¬ ((0 ≤ b ∧ b < nb) ∧ (0 ≤ l ∧ l < nl)) := fun y => y ⟨q0, q1⟩
      refine ev_aload_n dX7_lay_19 rfl ?_
      refine ev_getR (r := 37) dX7_lay_20 fl_X7_29 rfl rfl rfl ?_
      refine ev_iload_n dX7_lay_23 rfl ?_
      refine ev_callVI dX7_lay_24 kv_X7_174 (k_isOnRope σ b (by omega) (by omega)) rfl rfl (ci := 5) rfl rfl ⟨by decide, by decide⟩ (Nat.le_of_ble_eq_true rfl) ?_
      refine ev_w (fun hR => ?_)
      refine ev_if_ne (tgt := 43) dX7_lay_27 (by decide) (by first | exact hR.1 _ _ | exact hR0.1 _ _ | assumption | exact ⟨by omega, by omega⟩ | exact ⟨by simp [wr_at]; omega, by simp [wr_at]; omega⟩ | exact b2_R _ | exact bC_R _ | exact band_R _ _ | exact bor_R _ _ | exact bshl_R _ _ | exact bshr_R _ _ | exact bxor_R _ _ | exact bs_R (by omega) | decide) (fun h_27 => ?_) (fun h_27 => ?_)
      · refine ev_ldc (z := -1000000003) dX7_lay_43 kc_X7_216 (by decide) ?_
        refine ev_ireturn dX7_lay_45 ?_
        rw [if_neg hif]
        first
          | (have z := b2_ne h_27; rw [if_pos (Or.inl z)]; exact ⟨rfl, rfl⟩)
          | (rw [if_pos (Or.inr (by assumption))]; exact ⟨rfl, rfl⟩)
      · refine ev_aload_n dX7_lay_30 rfl ?_
        refine ev_getR (r := 37) dX7_lay_31 fl_X7_29 rfl rfl rfl ?_
        refine ev_getR (r := 43) dX7_lay_34 fl_X7_213 rfl rfl rfl ?_
        refine ev_iload_n dX7_lay_37 rfl ?_
        refine ev_iaload dX7_lay_38 rfl (by first | omega | (simp [wr_at]; omega) | (simp [wr_at, *]; omega)) (by first | omega | (simp [wr_at]; omega) | (simp [wr_at, *]; omega)) (by decide) ?_
        refine ev_iload_n dX7_lay_39 rfl ?_
        refine ev_icmp_eq (tgt := 46) dX7_lay_40 (by decide) (by first | exact hR.1 _ _ | exact hR0.1 _ _ | assumption | exact ⟨by omega, by omega⟩ | exact ⟨by simp [wr_at]; omega, by simp [wr_at]; omega⟩ | exact b2_R _ | exact bC_R _ | exact band_R _ _ | exact bor_R _ _ | exact bshl_R _ _ | exact bshr_R _ _ | exact bxor_R _ _ | exact bs_R (by omega) | decide) (by first | exact hR.1 _ _ | exact hR0.1 _ _ | assumption | exact ⟨by omega, by omega⟩ | exact ⟨by simp [wr_at]; omega, by simp [wr_at]; omega⟩ | exact b2_R _ | exact bC_R _ | exact band_R _ _ | exact bor_R _ _ | exact bshl_R _ _ | exact bshr_R _ _ | exact bxor_R _ _ | exact bs_R (by omega) | decide) (fun h_40 => ?_) (fun h_40 => ?_)
        · refine ev_aload_n dX7_lay_46 rfl ?_
          refine ev_getR (r := 37) dX7_lay_47 fl_X7_29 rfl rfl rfl ?_
          refine ev_getR (r := 42) dX7_lay_50 fl_X7_198 rfl rfl rfl ?_
          refine ev_iload_n dX7_lay_53 rfl ?_
          refine ev_aload_n dX7_lay_54 rfl ?_
          refine ev_getR (r := 37) dX7_lay_55 fl_X7_29 rfl rfl rfl ?_
          refine ev_getR (r := 39) dX7_lay_58 fl_X7_177 rfl rfl rfl ?_
          refine ev_iload_n dX7_lay_61 rfl ?_
          refine ev_iaload dX7_lay_62 rfl (by first | omega | (simp [wr_at]; omega) | (simp [wr_at, *]; omega)) (by first | omega | (simp [wr_at]; omega) | (simp [wr_at, *]; omega)) (by decide) ?_
          refine ev_iastore dX7_lay_63 rfl (by first | omega | (simp [wr_at]; omega) | (simp [wr_at, *]; omega)) (by first | omega | (simp [wr_at]; omega) | (simp [wr_at, *]; omega)) (by decide) (by first | exact hR.1 _ _ | exact hR0.1 _ _ | assumption | exact ⟨by omega, by omega⟩ | exact ⟨by simp [wr_at]; omega, by simp [wr_at]; omega⟩ | exact b2_R _ | exact bC_R _ | exact band_R _ _ | exact bor_R _ _ | exact bshl_R _ _ | exact bshr_R _ _ | exact bxor_R _ _ | exact bs_R (by omega) | decide) ?_
          refine ev_w (fun hR => ?_)
          refine ev_aload_n dX7_lay_64 rfl ?_
          refine ev_getR (r := 37) dX7_lay_65 fl_X7_29 rfl rfl rfl ?_
          refine ev_getR (r := 43) dX7_lay_68 fl_X7_213 rfl rfl rfl ?_
          refine ev_iload_n dX7_lay_71 rfl ?_
          refine ev_iconst dX7_lay_72 ?_
          refine ev_iastore dX7_lay_73 rfl (by first | omega | (simp [wr_at]; omega) | (simp [wr_at, *]; omega)) (by first | omega | (simp [wr_at]; omega) | (simp [wr_at, *]; omega)) (by decide) (by first | exact hR.1 _ _ | exact hR0.1 _ _ | assumption | exact ⟨by omega, by omega⟩ | exact ⟨by simp [wr_at]; omega, by simp [wr_at]; omega⟩ | exact b2_R _ | exact bC_R _ | exact band_R _ _ | exact bor_R _ _ | exact bshl_R _ _ | exact bshr_R _ _ | exact bxor_R _ _ | exact bs_R (by omega) | decide) ?_
          refine ev_w (fun hR => ?_)
          refine ev_aload_n dX7_lay_74 rfl ?_
          refine ev_getR (r := 37) dX7_lay_75 fl_X7_29 rfl rfl rfl ?_
          refine ev_iload_n dX7_lay_78 rfl ?_
          refine ev_aload_n dX7_lay_79 rfl ?_
          refine ev_getQ (r := P) dX7_lay_80 fl_X7_19 rfl rfl (by rw [wr_nec _ (by decide), wr_nec _ (by decide)]; exact hpl) ?_
          refine ev_getI (kz := 3) dX7_lay_83 fl_X7_104 (plO hP) rfl rfl ?_
          rw [wr_nec _ (by omega), wr_nec _ (by omega), hnl]
          refine ev_callVI dX7_lay_86 kv_X7_192 (k_carriedBy _ b nl hb hnl4) rfl rfl (ci := 5) rfl rfl ⟨by decide, by decide⟩ (Nat.le_of_ble_eq_true rfl) ?_
          refine ev_w (fun hR => ?_)
          have hcs := carS_lt (wr (wr σ 42 l (σ.1 39 b)) 43 l (-1)) hnl4 b
          rw [show bs (fun l_1 => decide ((wr (wr σ 42 l (σ.1 39 b)) 43 l (-1)).1 43 l_1 = b)) nl = carS (wr (wr σ 42 l (σ.1 39 b)) 43 l (-1)) nl b from rfl]
          refine ev_callSI dX7_lay_89 ks_X7_228 (k_bitCount _ (carS (wr (wr σ 42 l (σ.1 39 b)) 43 l (-1)) nl b) (by omega)) rfl rfl ⟨by decide, by decide⟩ (Nat.le_of_ble_eq_true rfl) ?_
          refine ev_w (fun hR => ?_)
          refine ev_ireturn dX7_lay_92 ?_
          have z1 := b2_eq h_27
          rw [if_neg hif, if_neg (fun y => by rcases y with y | y; exact z1 y; exact y (by assumption))]
          exact ⟨rfl, rfl⟩
        · refine ev_ldc (z := -1000000003) dX7_lay_43 kc_X7_216 (by decide) ?_
          refine ev_ireturn dX7_lay_45 ?_
          rw [if_neg hif]
          first
            | (have z := b2_ne h_27; rw [if_pos (Or.inl z)]; exact ⟨rfl, rfl⟩)
            | (rw [if_pos (Or.inr (by assumption))]; exact ⟨rfl, rfl⟩)
    · refine ev_ldc (z := -1000000001) dX7_lay_16 kc_X7_126 (by decide) ?_
      refine ev_ireturn dX7_lay_18 ?_
      first
        | (have z := b2_eq h_5; rw [if_pos (fun y => z y.1)]; exact ⟨rfl, rfl⟩)
        | (have z := b2_eq h_13; rw [if_pos (fun y => z y.2)]; exact ⟨rfl, rfl⟩)
        | (have z := b2_eq (Decidable.not_not.mp h_13); rw [if_pos (fun y => z y.2)]; exact ⟨rfl, rfl⟩)
theorem k_cut (σ : Mem) (P n nr nb nl w wt : Nat) (f t : Nat → Nat) (hPO : PlanOk σ P n nr nb nl f t) (hPI : PlIs σ P) (hBt : Bits σ w wt) (r : Int) (hr : inR r) : Con yX7_cut cX7_cut 2 (some .int) 1 23 [.ref 0, .int (iI r)] σ (fun v τ => if ¬ (0 ≤ r ∧ r < nr) then AnsI (-1000000001) σ v τ else if ¬ w.testBit r.toNat = true ∨ fstI (fun i => σ.1 40 i) r nb ≠ -1 then AnsI (-1000000003) σ v τ else AnsI 1 (wr σ 37 3 (andn w (2 ^ r.toNat) : Nat)) v τ) := by
  refine con_of (by decide) rfl (Nat.le_of_ble_eq_true rfl) ((fun v τ h => by repeat (first | exact ok_I rfl v τ h | split at h))) ?_
  refine ev_w (fun hR => ?_)
  have hR0 := hR
  obtain ⟨hPR, ⟨hnb, hnb4⟩, ⟨hnl, hnl4⟩, hpo, hro, hbo, hlo⟩ := id hPO
  obtain ⟨hP, hn, hn8, hnr, hnr12, hft⟩ := id hPR
  obtain ⟨hw, hw2, hwt, hwt2⟩ := id hBt
  have hpl := hPI.q
  refine ev_aload_n dX7_cut_0 rfl ?_
  refine ev_iload_n dX7_cut_1 rfl ?_
  refine ev_callVI dX7_cut_2 kv_X7_144 (k_isRope σ r P hr hP hpl) rfl rfl (ci := 7) rfl rfl ⟨by decide, by decide⟩ (Nat.le_of_ble_eq_true rfl) ?_
  refine ev_w (fun hR => ?_)
  rw [hnr]
  refine ev_if_ne (tgt := 11) dX7_cut_5 (by decide) (by first | exact hR.1 _ _ | exact hR0.1 _ _ | assumption | exact ⟨by omega, by omega⟩ | exact ⟨by simp [wr_at]; omega, by simp [wr_at]; omega⟩ | exact b2_R _ | exact bC_R _ | exact band_R _ _ | exact bor_R _ _ | exact bshl_R _ _ | exact bshr_R _ _ | exact bxor_R _ _ | exact bs_R (by omega) | decide) (fun h_5 => ?_) (fun h_5 => ?_)
  · have q0 := b2_ne h_5
    obtain ⟨r, rfl⟩ := Int.eq_ofNat_of_zero_le q0.1
    have hif : ¬ ¬ (0 ≤ (r : Int) ∧ (r : Int) < nr) := fun y => y q0
    have hal := andn_le w (2 ^ r)
    have hp2 : 2 ^ r < 2 ^ 12 := Nat.pow_lt_pow_right (by decide) (by omega)
    refine ev_aload_n dX7_cut_11 rfl ?_
    refine ev_getR (r := 37) dX7_cut_12 fl_X7_29 rfl rfl rfl ?_
    refine ev_getI (kz := 3) dX7_cut_15 fl_X7_119 rfl rfl rfl ?_
    rw [hw]
    refine ev_iload_n dX7_cut_18 rfl ?_
    refine ev_callSI dX7_cut_19 ks_X7_237 (k_has σ w r (by omega) (by omega)) rfl rfl ⟨by decide, by decide⟩ (Nat.le_of_ble_eq_true rfl) ?_
    refine ev_w (fun hR => ?_)
    refine ev_if_eq (tgt := 44) dX7_cut_22 (by decide) (by first | exact hR.1 _ _ | exact hR0.1 _ _ | assumption | exact ⟨by omega, by omega⟩ | exact ⟨by simp [wr_at]; omega, by simp [wr_at]; omega⟩ | exact b2_R _ | exact bC_R _ | exact band_R _ _ | exact bor_R _ _ | exact bshl_R _ _ | exact bshr_R _ _ | exact bxor_R _ _ | exact bs_R (by omega) | decide) (fun h_22 => ?_) (fun h_22 => ?_)
    · refine ev_ldc (z := -1000000003) dX7_cut_44 kc_X7_216 (by decide) ?_
      refine ev_ireturn dX7_cut_46 ?_
      rw [if_neg hif]
      first
        | (have z : ¬ w.testBit ((r : Int)).toNat = true := b2_eq h_22
           rw [if_pos (Or.inl z)]; exact ⟨rfl, rfl⟩)
        | (rw [if_pos (Or.inr (by assumption))]; exact ⟨rfl, rfl⟩)
    · refine ev_aload_n dX7_cut_25 rfl ?_
      refine ev_getR (r := 37) dX7_cut_26 fl_X7_29 rfl rfl rfl ?_
      refine ev_iload_n dX7_cut_29 rfl ?_
      refine ev_aload_n dX7_cut_30 rfl ?_
      refine ev_getQ (r := P) dX7_cut_31 fl_X7_19 rfl rfl hpl ?_
      refine ev_getI (kz := 2) dX7_cut_34 fl_X7_101 (plO hP) rfl rfl ?_
      rw [hnb]
      refine ev_callVI dX7_cut_37 kv_X7_168 (k_boyOn σ r nb hr hnb4) rfl rfl (ci := 5) rfl rfl ⟨by decide, by decide⟩ (Nat.le_of_ble_eq_true rfl) ?_
      refine ev_w (fun hR => ?_)
      refine ev_iconst dX7_cut_40 ?_
      refine ev_icmp_eq (tgt := 47) dX7_cut_41 (by decide) (by have := fstI_R (fun b => σ.1 40 b) (r : Int) nb; exact ⟨by omega, by omega⟩) (by decide) (fun h_41 => ?_) (fun h_41 => ?_)
      · refine ev_aload_n dX7_cut_47 rfl ?_
        refine ev_getR (r := 37) dX7_cut_48 fl_X7_29 rfl rfl rfl ?_
        refine ev_dup dX7_cut_51 rfl ?_
        refine ev_getI (kz := 3) dX7_cut_52 fl_X7_119 rfl rfl rfl ?_
        rw [hw]
        refine ev_iconst dX7_cut_55 ?_
        refine ev_iload_n dX7_cut_56 rfl ?_
        refine ev_ishl dX7_cut_57 ?_
        refine ev_iconst dX7_cut_58 ?_
        refine ev_ixor dX7_cut_59 ?_
        refine ev_iand dX7_cut_60 ?_
        rw [bshl1 r (by omega), band_not w _ (by omega)]
        refine ev_putI (kz := 3) dX7_cut_61 fp_X7_119 rfl rfl rfl (by first | exact hR.1 _ _ | exact hR0.1 _ _ | assumption | exact ⟨by omega, by omega⟩ | exact ⟨by simp [wr_at]; omega, by simp [wr_at]; omega⟩ | exact b2_R _ | exact bC_R _ | exact band_R _ _ | exact bor_R _ _ | exact bshl_R _ _ | exact bshr_R _ _ | exact bxor_R _ _ | exact bs_R (by omega) | decide) ?_
        refine ev_w (fun hR => ?_)
        refine ev_iconst dX7_cut_64 ?_
        refine ev_ireturn dX7_cut_65 ?_
        have z1 : w.testBit ((r : Int)).toNat = true := b2_ne h_22
        rw [if_neg hif, if_neg (fun y => by rcases y with y | y; exact y z1; exact y (by assumption))]
        exact ⟨rfl, rfl⟩
      · refine ev_ldc (z := -1000000003) dX7_cut_44 kc_X7_216 (by decide) ?_
        refine ev_ireturn dX7_cut_46 ?_
        rw [if_neg hif]
        first
          | (have z : ¬ w.testBit ((r : Int)).toNat = true := b2_eq h_22
             rw [if_pos (Or.inl z)]; exact ⟨rfl, rfl⟩)
          | (rw [if_pos (Or.inr (by assumption))]; exact ⟨rfl, rfl⟩)
  · refine ev_ldc (z := -1000000001) dX7_cut_8 kc_X7_126 (by decide) ?_
    refine ev_ireturn dX7_cut_10 ?_
    have z := b2_eq (by omega : b2 (0 ≤ r ∧ r < (nr : Int)) = 0)
    rw [if_pos z]
    exact ⟨rfl, rfl⟩
theorem k_splice (σ : Mem) (P n nr nb nl w wt : Nat) (f t : Nat → Nat) (hPO : PlanOk σ P n nr nb nl f t) (hPI : PlIs σ P) (hBt : Bits σ w wt) (r : Int) (hr : inR r) : Con yX7_splice cX7_splice 2 (some .int) 1 21 [.ref 0, .int (iI r)] σ (fun v τ => if ¬ (0 ≤ r ∧ r < nr) then AnsI (-1000000001) σ v τ else if w.testBit r.toNat = true then AnsI (-1000000003) σ v τ else AnsI 1 (wr (wr σ 37 3 (w ||| 2 ^ r.toNat : Nat)) 38 r 0) v τ) := by
  refine con_of (by decide) rfl (Nat.le_of_ble_eq_true rfl) ((fun v τ h => by repeat (first | exact ok_I rfl v τ h | split at h))) ?_
  refine ev_w (fun hR => ?_)
  have hR0 := hR
  obtain ⟨hPR, ⟨hnb, hnb4⟩, ⟨hnl, hnl4⟩, hpo, hro, hbo, hlo⟩ := id hPO
  obtain ⟨hP, hn, hn8, hnr, hnr12, hft⟩ := id hPR
  obtain ⟨hw, hw2, hwt, hwt2⟩ := id hBt
  have hpl := hPI.q
  refine ev_aload_n dX7_splice_0 rfl ?_
  refine ev_iload_n dX7_splice_1 rfl ?_
  refine ev_callVI dX7_splice_2 kv_X7_144 (k_isRope σ r P hr hP hpl) rfl rfl (ci := 7) rfl rfl ⟨by decide, by decide⟩ (Nat.le_of_ble_eq_true rfl) ?_
  refine ev_w (fun hR => ?_)
  rw [hnr]
  refine ev_if_ne (tgt := 11) dX7_splice_5 (by decide) (by first | exact hR.1 _ _ | exact hR0.1 _ _ | assumption | exact ⟨by omega, by omega⟩ | exact ⟨by simp [wr_at]; omega, by simp [wr_at]; omega⟩ | exact b2_R _ | exact bC_R _ | exact band_R _ _ | exact bor_R _ _ | exact bshl_R _ _ | exact bshr_R _ _ | exact bxor_R _ _ | exact bs_R (by omega) | decide) (fun h_5 => ?_) (fun h_5 => ?_)
  · have q0 := b2_ne h_5
    obtain ⟨r, rfl⟩ := Int.eq_ofNat_of_zero_le q0.1
    have hif : ¬ ¬ (0 ≤ (r : Int) ∧ (r : Int) < nr) := fun y => y q0
    have hal := andn_le w (2 ^ r)
    have hp2 : 2 ^ r < 2 ^ 12 := Nat.pow_lt_pow_right (by decide) (by omega)
    have hol := Nat.or_lt_two_pow (n := 12) hw2 hp2
    refine ev_aload_n dX7_splice_11 rfl ?_
    refine ev_getR (r := 37) dX7_splice_12 fl_X7_29 rfl rfl rfl ?_
    refine ev_getI (kz := 3) dX7_splice_15 fl_X7_119 rfl rfl rfl ?_
    rw [hw]
    refine ev_iload_n dX7_splice_18 rfl ?_
    refine ev_callSI dX7_splice_19 ks_X7_237 (k_has σ w r (by omega) (by omega)) rfl rfl ⟨by decide, by decide⟩ (Nat.le_of_ble_eq_true rfl) ?_
    refine ev_w (fun hR => ?_)
    refine ev_if_eq (tgt := 28) dX7_splice_22 (by decide) (by first | exact hR.1 _ _ | exact hR0.1 _ _ | assumption | exact ⟨by omega, by omega⟩ | exact ⟨by simp [wr_at]; omega, by simp [wr_at]; omega⟩ | exact b2_R _ | exact bC_R _ | exact band_R _ _ | exact bor_R _ _ | exact bshl_R _ _ | exact bshr_R _ _ | exact bxor_R _ _ | exact bs_R (by omega) | decide) (fun h_22 => ?_) (fun h_22 => ?_)
    · refine ev_aload_n dX7_splice_28 rfl ?_
      refine ev_getR (r := 37) dX7_splice_29 fl_X7_29 rfl rfl rfl ?_
      refine ev_dup dX7_splice_32 rfl ?_
      refine ev_getI (kz := 3) dX7_splice_33 fl_X7_119 rfl rfl rfl ?_
      rw [hw]
      refine ev_iconst dX7_splice_36 ?_
      refine ev_iload_n dX7_splice_37 rfl ?_
      refine ev_ishl dX7_splice_38 ?_
      refine ev_ior dX7_splice_39 ?_
      rw [bshl1 r (by omega), bor_nat w _ (by omega) (by omega)]
      refine ev_putI (kz := 3) dX7_splice_40 fp_X7_119 rfl rfl rfl (by first | exact hR.1 _ _ | exact hR0.1 _ _ | assumption | exact ⟨by omega, by omega⟩ | exact ⟨by simp [wr_at]; omega, by simp [wr_at]; omega⟩ | exact b2_R _ | exact bC_R _ | exact band_R _ _ | exact bor_R _ _ | exact bshl_R _ _ | exact bshr_R _ _ | exact bxor_R _ _ | exact bs_R (by omega) | decide) ?_
      refine ev_w (fun hR => ?_)
      refine ev_aload_n dX7_splice_43 rfl ?_
      refine ev_getR (r := 37) dX7_splice_44 fl_X7_29 rfl rfl rfl ?_
      refine ev_getR (r := 38) dX7_splice_47 fl_X7_159 rfl rfl rfl ?_
      refine ev_iload_n dX7_splice_50 rfl ?_
      refine ev_iconst dX7_splice_51 ?_
      refine ev_iastore dX7_splice_52 rfl (by first | omega | (simp [wr_at]; omega) | (simp [wr_at, *]; omega)) (by first | omega | (simp [wr_at]; omega) | (simp [wr_at, *]; omega)) (by decide) (by first | exact hR.1 _ _ | exact hR0.1 _ _ | assumption | exact ⟨by omega, by omega⟩ | exact ⟨by simp [wr_at]; omega, by simp [wr_at]; omega⟩ | exact b2_R _ | exact bC_R _ | exact band_R _ _ | exact bor_R _ _ | exact bshl_R _ _ | exact bshr_R _ _ | exact bxor_R _ _ | exact bs_R (by omega) | decide) ?_
      refine ev_w (fun hR => ?_)
      refine ev_iconst dX7_splice_53 ?_
      refine ev_ireturn dX7_splice_54 ?_
      have z : ¬ w.testBit ((r : Int)).toNat = true := b2_eq h_22
      rw [if_neg hif, if_neg z]
      exact ⟨rfl, rfl⟩
    · refine ev_ldc (z := -1000000003) dX7_splice_25 kc_X7_216 (by decide) ?_
      refine ev_ireturn dX7_splice_27 ?_
      have z : w.testBit ((r : Int)).toNat = true := b2_ne (by omega : ¬ b2 (w.testBit r = true) = 0)
      rw [if_neg hif, if_pos z]
      exact ⟨rfl, rfl⟩
  · refine ev_ldc (z := -1000000001) dX7_splice_8 kc_X7_126 (by decide) ?_
    refine ev_ireturn dX7_splice_10 ?_
    have z := b2_eq (by omega : b2 (0 ≤ r ∧ r < (nr : Int)) = 0)
    rw [if_pos z]
    exact ⟨rfl, rfl⟩
theorem k_wet (σ : Mem) (P n nr nb nl w wt : Nat) (f t : Nat → Nat) (hPO : PlanOk σ P n nr nb nl f t) (hPI : PlIs σ P) (hBt : Bits σ w wt) (r z : Int) (hr : inR r) (hz : inR z) : Con yX7_wet cX7_wet 4 (some .int) 1 22 [.ref 0, .int (iI r), .int (iI z)] σ (fun v τ => if ¬ (0 ≤ r ∧ r < nr) then AnsI (-1000000001) σ v τ else AnsI (b2 (wt.testBit r.toNat = true)) (wetM σ r.toNat wt z) v τ) := by
  refine con_of (by decide) rfl (Nat.le_of_ble_eq_true rfl) ((fun v τ h => by repeat (first | exact ok_I rfl v τ h | split at h))) ?_
  refine ev_w (fun hR => ?_)
  have hR0 := hR
  obtain ⟨hPR, ⟨hnb, hnb4⟩, ⟨hnl, hnl4⟩, hpo, hro, hbo, hlo⟩ := id hPO
  obtain ⟨hP, hn, hn8, hnr, hnr12, hft⟩ := id hPR
  obtain ⟨hw, hw2, hwt, hwt2⟩ := id hBt
  have hpl := hPI.q
  refine ev_aload_n dX7_wet_0 rfl ?_
  refine ev_iload_n dX7_wet_1 rfl ?_
  refine ev_callVI dX7_wet_2 kv_X7_144 (k_isRope σ r P hr hP hpl) rfl rfl (ci := 7) rfl rfl ⟨by decide, by decide⟩ (Nat.le_of_ble_eq_true rfl) ?_
  refine ev_w (fun hR => ?_)
  rw [hnr]
  refine ev_if_ne (tgt := 11) dX7_wet_5 (by decide) (by first | exact hR.1 _ _ | exact hR0.1 _ _ | assumption | exact ⟨by omega, by omega⟩ | exact ⟨by simp [wr_at]; omega, by simp [wr_at]; omega⟩ | exact b2_R _ | exact bC_R _ | exact band_R _ _ | exact bor_R _ _ | exact bshl_R _ _ | exact bshr_R _ _ | exact bxor_R _ _ | exact bs_R (by omega) | decide) (fun h_5 => ?_) (fun h_5 => ?_)
  · have q0 := b2_ne h_5
    obtain ⟨r, rfl⟩ := Int.eq_ofNat_of_zero_le q0.1
    have hif : ¬ ¬ (0 ≤ (r : Int) ∧ (r : Int) < nr) := fun y => y q0
    have hal := andn_le w (2 ^ r)
    have hp2 : 2 ^ r < 2 ^ 12 := Nat.pow_lt_pow_right (by decide) (by omega)
    refine ev_aload_n dX7_wet_11 rfl ?_
    refine ev_getR (r := 37) dX7_wet_12 fl_X7_29 rfl rfl rfl ?_
    refine ev_getI (kz := 4) dX7_wet_15 fl_X7_162 rfl rfl rfl ?_
    rw [hwt]
    refine ev_iload_n dX7_wet_18 rfl ?_
    refine ev_callSI dX7_wet_19 ks_X7_165 (k_bit σ wt r (by omega) (by omega)) rfl rfl ⟨by decide, by decide⟩ (Nat.le_of_ble_eq_true rfl) ?_
    refine ev_w (fun hR => ?_)
    refine ev_istore_n dX7_wet_22 rfl (by decide) rfl ?_
    refine ev_aload_n dX7_wet_23 rfl ?_
    refine ev_getR (r := 37) dX7_wet_24 fl_X7_29 rfl rfl rfl ?_
    refine ev_iload_n dX7_wet_27 rfl ?_
    refine ev_iload_n dX7_wet_28 rfl ?_
    refine ev_callVV dX7_wet_29 kv_X7_241 (k_setWet σ z wt r (by omega) hwt hwt2 hz) rfl rfl (ci := 5) rfl rfl ⟨by decide, by decide⟩ (Nat.le_of_ble_eq_true rfl) ?_
    refine ev_w (fun hR => ?_)
    refine ev_iload_n dX7_wet_32 rfl ?_
    refine ev_ireturn dX7_wet_33 ?_
    rw [if_neg hif]
    exact ⟨rfl, rfl⟩
  · refine ev_ldc (z := -1000000001) dX7_wet_8 kc_X7_126 (by decide) ?_
    refine ev_ireturn dX7_wet_10 ?_
    have z := b2_eq (by omega : b2 (0 ≤ r ∧ r < (nr : Int)) = 0)
    rw [if_pos z]
    exact ⟨rfl, rfl⟩
