def sDl (c : Nat) : Prop := 124 ≤ c ∧ c ≤ 127
theorem MOk.dl {μ ν σ : Mem} {P n nr nb nl mb w wt dv : Nat} {f t : Nat → Nat} (hMO : MOk μ σ P n nr nb nl mb w wt dv f t) (hS : Same sDl μ ν) : MOk ν σ P n nr nb nl mb w wt dv f t := ⟨hMO.1, hMO.2.1, (hMO.rp.to (fun k _ => hS.at (by unfold sDl; decide) k) (fun c h1 h2 _ => hS.1 c (by unfold sDl; omega))).2.1, by
  have := hMO.2.2.2
  unfold MDy at *
  rw [hS.1 79 (by unfold sDl; decide), hS.1 95 (by unfold sDl; decide), hS.1 96 (by unfold sDl; decide), hS.1 97 (by unfold sDl; decide), hS.1 98 (by unfold sDl; decide), hS.1 99 (by unfold sDl; decide), hS.1 100 (by unfold sDl; decide), hS.1 101 (by unfold sDl; decide), hS.1 102 (by unfold sDl; decide), hS.1 103 (by unfold sDl; decide), hS.1 104 (by unfold sDl; decide), hS.1 105 (by unfold sDl; decide), hS.1 106 (by unfold sDl; decide)]
  exact this⟩
theorem lfK_top {nb v code nl : Nat} (hv : v < 2 ^ nl) : ∀ k, k ≤ 4 - nl → lfK nb v code k = code := by
  intro k
  induction k with
  | zero => intro _; rfl
  | succ k ih =>
    intro hk
    rw [lfK, ih (by omega), Nat.testBit_lt_two_pow (Nat.lt_of_lt_of_le hv (Nat.pow_le_pow_right (by decide) (show nl ≤ 3 - k by omega)))]
    rfl
theorem lfK_le {nb v code : Nat} : ∀ k, lfK nb v code k ≤ code := by
  intro k
  induction k with
  | zero => exact Nat.le_refl _
  | succ k ih =>
    rw [lfK]
    split
    · exact Nat.le_trans (Nat.div_le_self _ _) ih
    · exact ih
def sG (nb v code nl b : Nat) : Nat := bs (fun l => v.testBit l && decide (dgt nb v code l = b)) nl
def mxG (R : Nat → Nat → Int) (nb v code nl : Nat) : Nat → Int
  | 0 => 0
  | b + 1 => max (mxG R nb v code nl b) (R b (sG nb v code nl b))
def lvS (nl dv : Nat) : Nat := andn (2 ^ nl - 1) dv
theorem lvS_bit {nl dv l : Nat} (hl : l < nl) : (lvS nl dv).testBit l = !dv.testBit l := by
  unfold lvS
  rw [andn_test, Nat.testBit_two_pow_sub_one]
  simp [hl]
theorem lvS_lt {nl dv : Nat} : lvS nl dv < 2 ^ nl := by
  have := andn_le (2 ^ nl - 1) dv
  have := Nat.two_pow_pos nl
  unfold lvS
  omega
set_option maxHeartbeats 4000000 in
theorem m_longestBy (ν σ : Mem) (P n nr nb nl mb w wt dv : Nat) (f t : Nat → Nat) (hMO : MOk ν σ P n nr nb nl mb w wt dv f t) (R : Nat → Nat → Int) (hR9 : ∀ b s : Nat, b < nb → s < 2 ^ nl → ν.1 125 (16 * (b : Int) + s) = R b s ∧ 0 ≤ R b s ∧ R b s ≤ 1000000) (hnb1 : 1 ≤ nb) (code : Nat) (hc : code < 256) : Con yX8_longestBy cX8_longestBy 7 (some .int) 0 0 [.ref 79, .int (iI code)] ν (AnsIP (mxG R nb (lvS nl dv) code nl nb) (fun ν9 => Same (fun c => c = 127) ν ν9 ∧ ∀ l : Nat, l < nl → ν9.1 127 l = (if (lvS nl dv).testBit l then (dgt nb (lvS nl dv) code l : Int) else -1))) := by
  refine con_of (by decide) rfl (Nat.le_of_ble_eq_true rfl) (ok_IP rfl) ?_
  refine ev_w (fun hR => ?_)
  have hR0 := hR
  have hM := hMO.rp
  obtain ⟨hPO, hMP, hwc⟩ := id hM
  obtain ⟨hPR, ⟨hnb, hnb4⟩, ⟨hnl, hnl4⟩, hpo, hro, hbo, hlo⟩ := id hPO
  obtain ⟨hP, hn, hn8, hnr, hnr12, hft⟩ := id hPR
  obtain ⟨⟨cn, cr, cb, cl⟩, mp, mr, mbo, ml⟩ := id hMP
  have h2l : 2 ^ nl ≤ 2 ^ 4 := Nat.pow_le_pow_right (by decide) hnl4
  have hlv := lvS_lt (nl := nl) (dv := dv)
  generalize hv9 : lvS nl dv = v at *
  have hvb : ∀ l, l < nl → v.testBit l = !dv.testBit l := fun l hl => by rw [← hv9]; exact lvS_bit hl
  have mxR9 : ∀ b, b ≤ nb → 0 ≤ mxG R nb v code nl b ∧ mxG R nb v code nl b ≤ 1000000 := by
    intro b
    induction b with
    | zero => intro _; rw [mxG]; exact ⟨by decide, by decide⟩
    | succ b ih =>
      intro hb
      have i := ih (by omega)
      have r := hR9 b (sG nb v code nl b) (by omega) (bs_lt _ _)
      rw [mxG]
      omega
  have big : ∀ ν1, Same (fun c => c = 127) ν ν1 → (∀ l : Nat, l < nl → ν1.1 127 l = (if v.testBit l then (dgt nb v code l : Int) else -1)) → ∀ b : Nat, b ≤ nb → ∀ y2 x5 x6, Ev RX8 cX8_longestBy 7 0 0 (AnsIP (mxG R nb v code nl nb) (fun ν9 => Same (fun c => c = 127) ν ν9 ∧ ∀ l : Nat, l < nl → ν9.1 127 l = (if v.testBit l then (dgt nb v code l : Int) else -1))) 69 [some (.ref 79), some (.int (iI code)), some (.int (iI y2)), some (.int (iI (mxG R nb v code nl b))), some (.int (iI (b : Nat))), x5, x6] [] ν1 := by
    intro ν1 hS hd
    have hcb : ν1.1 79 9 = nb := by rw [hS.at (by decide)]; exact cb
    have hcl : ν1.1 79 13 = nl := by rw [hS.at (by decide)]; exact cl
    refine for_up nb (fun b hb ih => ?_)
    intro y2 x5 x6
    refine ev_w (fun hR => ?_)
    have hmR := mxR9 b hb
    have hsu : mxG R nb v code nl (b + 1) = max (mxG R nb v code nl b) (R b (sG nb v code nl b)) := rfl
    refine ev_iload dX8_longestBy_69 rfl ?_
    refine ev_aload_n dX8_longestBy_71 rfl ?_
    refine ev_getI (kz := 9) dX8_longestBy_72 fl_X8_187 rfl rfl rfl ?_
    rw [hcb]
    refine ev_icmp_ge (tgt := 165) dX8_longestBy_75 (by decide) (by first | exact hR.1 _ _ | exact hR0.1 _ _ | assumption | exact ⟨by omega, by omega⟩ | exact ⟨by simp [wr_at]; omega, by simp [wr_at]; omega⟩ | exact b2_R _ | exact bC_R _ | exact band_R _ _ | exact bor_R _ _ | exact bshl_R _ _ | exact bshr_R _ _ | exact bxor_R _ _ | exact bs_R (by omega) | decide) (by first | exact hR.1 _ _ | exact hR0.1 _ _ | assumption | exact ⟨by omega, by omega⟩ | exact ⟨by simp [wr_at]; omega, by simp [wr_at]; omega⟩ | exact b2_R _ | exact bC_R _ | exact band_R _ _ | exact bor_R _ _ | exact bshl_R _ _ | exact bshr_R _ _ | exact bxor_R _ _ | exact bs_R (by omega) | decide) (fun h_75 => ?_) (fun h_75 => ?_)
    · refine ev_iload_n dX8_longestBy_165 rfl ?_
      refine ev_ireturn dX8_longestBy_166 ?_
      obtain rfl : b = nb := by omega
      exact ⟨rfl, hS, hd⟩
    · have hbn : b < nb := by omega
      have set9 : ∀ l : Nat, l ≤ nl → Ev RX8 cX8_longestBy 7 0 0 (AnsIP (mxG R nb v code nl nb) (fun ν9 => Same (fun c => c = 127) ν ν9 ∧ ∀ l : Nat, l < nl → ν9.1 127 l = (if v.testBit l then (dgt nb v code l : Int) else -1))) 84 [some (.ref 79), some (.int (iI code)), some (.int (iI y2)), some (.int (iI (mxG R nb v code nl b))), some (.int (iI (b : Nat))), some (.int (iI (bs (fun l => v.testBit l && decide (dgt nb v code l = b)) l : Nat))), some (.int (iI (l : Nat)))] [] ν1 := by
        refine for_up nl (fun l hl ihl => ?_)
        refine ev_w (fun hR => ?_)
        refine ev_iload dX8_longestBy_84 rfl ?_
        refine ev_aload_n dX8_longestBy_86 rfl ?_
        refine ev_getI (kz := 13) dX8_longestBy_87 fl_X8_190 rfl rfl rfl ?_
        rw [hcl]
        refine ev_icmp_ge (tgt := 124) dX8_longestBy_90 (by decide) (by first | exact hR.1 _ _ | exact hR0.1 _ _ | assumption | exact ⟨by omega, by omega⟩ | exact ⟨by simp [wr_at]; omega, by simp [wr_at]; omega⟩ | exact b2_R _ | exact bC_R _ | exact band_R _ _ | exact bor_R _ _ | exact bshl_R _ _ | exact bshr_R _ _ | exact bxor_R _ _ | exact bs_R (by omega) | decide) (by first | exact hR.1 _ _ | exact hR0.1 _ _ | assumption | exact ⟨by omega, by omega⟩ | exact ⟨by simp [wr_at]; omega, by simp [wr_at]; omega⟩ | exact b2_R _ | exact bC_R _ | exact band_R _ _ | exact bor_R _ _ | exact bshl_R _ _ | exact bshr_R _ _ | exact bxor_R _ _ | exact bs_R (by omega) | decide) (fun h_90 => ?_) (fun h_90 => ?_)
        · obtain rfl : l = nl := by omega
          have hsl := bs_lt (fun l => v.testBit l && decide (dgt nb v code l = b)) l
          rw [show bs (fun l => v.testBit l && decide (dgt nb v code l = b)) l = sG nb v code l b from rfl] at hsl
          have h125 : ν1.1 125 (16 * (b : Int) + (sG nb v code l b : Nat)) = R b (sG nb v code l b) := by rw [hS.at (by decide)]; exact (hR9 b _ hbn hsl).1
          have hRR := (hR9 b _ hbn hsl).2
          rw [show bs (fun l => v.testBit l && decide (dgt nb v code l = b)) l = sG nb v code l b from rfl]
          refine ev_aload_n dX8_longestBy_124 rfl ?_
          refine ev_getR (r := 125) dX8_longestBy_125 fl_X8_150 rfl rfl rfl ?_
          refine ev_bipush dX8_longestBy_128 (by decide) ?_
          refine ev_iload dX8_longestBy_130 rfl ?_
          refine ev_imul dX8_longestBy_132 ?_
          refine ev_iload dX8_longestBy_133 rfl ?_
          refine ev_iadd dX8_longestBy_135 ?_
          refine ev_iaload dX8_longestBy_136 rfl (by first | omega | (simp [wr_at]; omega) | (simp [wr_at, *]; omega)) (by first | omega | (simp [wr_at]; omega) | (simp [wr_at, *]; omega)) (by decide) ?_
          rw [h125]
          refine ev_iload_n dX8_longestBy_137 rfl ?_
          refine ev_icmp_le (tgt := 157) dX8_longestBy_138 (by decide) (by first | exact hR.1 _ _ | exact hR0.1 _ _ | assumption | exact ⟨by omega, by omega⟩ | exact ⟨by simp [wr_at]; omega, by simp [wr_at]; omega⟩ | exact b2_R _ | exact bC_R _ | exact band_R _ _ | exact bor_R _ _ | exact bshl_R _ _ | exact bshr_R _ _ | exact bxor_R _ _ | exact bs_R (by omega) | decide) (by first | exact hR.1 _ _ | exact hR0.1 _ _ | assumption | exact ⟨by omega, by omega⟩ | exact ⟨by simp [wr_at]; omega, by simp [wr_at]; omega⟩ | exact b2_R _ | exact bC_R _ | exact band_R _ _ | exact bor_R _ _ | exact bshl_R _ _ | exact bshr_R _ _ | exact bxor_R _ _ | exact bs_R (by omega) | decide) (fun h_138 => ?_) (fun h_138 => ?_)
          · refine ev_iload_n dX8_longestBy_157 rfl ?_
            refine ev_istore_n dX8_longestBy_158 rfl (by decide) rfl ?_
            refine ev_iinc dX8_longestBy_159 rfl rfl (by decide) rfl ?_
            refine ev_goto (tgt := 69) dX8_longestBy_162 (by decide) ?_
            have q := ih (by omega) y2 (some (.int (iI (sG nb v code l b : Nat)))) (some (.int (iI (l : Nat))))
            rw [hsu] at q
            first
              | (rw [show max (mxG R nb v code l b) (R b (sG nb v code l b)) = R b (sG nb v code l b) by omega] at q; exact q)
              | (rw [show max (mxG R nb v code l b) (R b (sG nb v code l b)) = mxG R nb v code l b by omega] at q; exact q)
          · refine ev_aload_n dX8_longestBy_141 rfl ?_
            refine ev_getR (r := 125) dX8_longestBy_142 fl_X8_150 rfl rfl rfl ?_
            refine ev_bipush dX8_longestBy_145 (by decide) ?_
            refine ev_iload dX8_longestBy_147 rfl ?_
            refine ev_imul dX8_longestBy_149 ?_
            refine ev_iload dX8_longestBy_150 rfl ?_
            refine ev_iadd dX8_longestBy_152 ?_
            refine ev_iaload dX8_longestBy_153 rfl (by first | omega | (simp [wr_at]; omega) | (simp [wr_at, *]; omega)) (by first | omega | (simp [wr_at]; omega) | (simp [wr_at, *]; omega)) (by decide) ?_
            rw [h125]
            refine ev_goto (tgt := 158) dX8_longestBy_154 (by decide) ?_
            refine ev_istore_n dX8_longestBy_158 rfl (by decide) rfl ?_
            refine ev_iinc dX8_longestBy_159 rfl rfl (by decide) rfl ?_
            refine ev_goto (tgt := 69) dX8_longestBy_162 (by decide) ?_
            have q := ih (by omega) y2 (some (.int (iI (sG nb v code l b : Nat)))) (some (.int (iI (l : Nat))))
            rw [hsu] at q
            first
              | (rw [show max (mxG R nb v code l b) (R b (sG nb v code l b)) = R b (sG nb v code l b) by omega] at q; exact q)
              | (rw [show max (mxG R nb v code l b) (R b (sG nb v code l b)) = mxG R nb v code l b by omega] at q; exact q)
        · have hln : l < nl := by omega
          have e127 := hd l hln
          have hiff : ν1.1 127 (l : Int) = (b : Int) ↔ (v.testBit l && decide (dgt nb v code l = b)) = true := by
            rw [e127]
            simp only [Bool.and_eq_true, decide_eq_true_eq]
            split
            next q => simp only [q, true_and]; omega
            next q => simp only [q]; constructor
                      · intro y; omega
                      · intro y; exact absurd y.1 (by simp)
          refine ev_iload dX8_longestBy_93 rfl ?_
          refine ev_aload_n dX8_longestBy_95 rfl ?_
          refine ev_getR (r := 127) dX8_longestBy_96 fl_X8_156 rfl rfl rfl ?_
          refine ev_iload dX8_longestBy_99 rfl ?_
          refine ev_iaload dX8_longestBy_101 rfl (by first | omega | (simp [wr_at]; omega) | (simp [wr_at, *]; omega)) (by first | omega | (simp [wr_at]; omega) | (simp [wr_at, *]; omega)) (by decide) ?_
          refine ev_iload dX8_longestBy_102 rfl ?_
          refine ev_icmp_ne (tgt := 114) dX8_longestBy_104 (by decide) (by first | exact hR.1 _ _ | exact hR0.1 _ _ | assumption | exact ⟨by omega, by omega⟩ | exact ⟨by simp [wr_at]; omega, by simp [wr_at]; omega⟩ | exact b2_R _ | exact bC_R _ | exact band_R _ _ | exact bor_R _ _ | exact bshl_R _ _ | exact bshr_R _ _ | exact bxor_R _ _ | exact bs_R (by omega) | decide) (by first | exact hR.1 _ _ | exact hR0.1 _ _ | assumption | exact ⟨by omega, by omega⟩ | exact ⟨by simp [wr_at]; omega, by simp [wr_at]; omega⟩ | exact b2_R _ | exact bC_R _ | exact band_R _ _ | exact bor_R _ _ | exact bshl_R _ _ | exact bshr_R _ _ | exact bxor_R _ _ | exact bs_R (by omega) | decide) (fun h_104 => ?_) (fun h_104 => ?_)
          · refine ev_iconst dX8_longestBy_114 ?_
            refine ev_ior dX8_longestBy_115 ?_
            refine ev_istore dX8_longestBy_116 rfl (by decide) rfl ?_
            refine ev_iinc dX8_longestBy_118 rfl rfl (by decide) rfl ?_
            refine ev_goto (tgt := 84) dX8_longestBy_121 (by decide) ?_
            first
              | (rw [bs_ort (p := (fun l => v.testBit l && decide (dgt nb v code l = b))) (n := l) (by omega) (hiff.mp h_104)]; exact ihl (by omega))
              | (rw [bs_or0 (p := (fun l => v.testBit l && decide (dgt nb v code l = b))) (n := l) (by omega) (by
                   cases q : ((fun l => v.testBit l && decide (dgt nb v code l = b)) l) with
                   | false => exact q
                   | true => exact absurd (hiff.mpr q) h_104)]; exact ihl (by omega))
          · refine ev_iconst dX8_longestBy_107 ?_
            refine ev_iload dX8_longestBy_108 rfl ?_
            refine ev_ishl dX8_longestBy_110 ?_
            refine ev_goto (tgt := 115) dX8_longestBy_111 (by decide) ?_
            refine ev_ior dX8_longestBy_115 ?_
            refine ev_istore dX8_longestBy_116 rfl (by decide) rfl ?_
            refine ev_iinc dX8_longestBy_118 rfl rfl (by decide) rfl ?_
            refine ev_goto (tgt := 84) dX8_longestBy_121 (by decide) ?_
            first
              | (rw [bs_ort (p := (fun l => v.testBit l && decide (dgt nb v code l = b))) (n := l) (by omega) (hiff.mp h_104)]; exact ihl (by omega))
              | (rw [bs_or0 (p := (fun l => v.testBit l && decide (dgt nb v code l = b))) (n := l) (by omega) (by
                   cases q : ((fun l => v.testBit l && decide (dgt nb v code l = b)) l) with
                   | false => exact q
                   | true => exact absurd (hiff.mpr q) h_104)]; exact ihl (by omega))
      refine ev_iconst dX8_longestBy_78 ?_
      refine ev_istore dX8_longestBy_79 rfl (by decide) rfl ?_
      refine ev_iconst dX8_longestBy_81 ?_
      refine ev_istore dX8_longestBy_82 rfl (by decide) rfl ?_
      exact set9 0 (by omega)
  have dig : ∀ j : Nat, j ≤ nl → ∀ ν1, Same (fun c => c = 127) ν ν1 → (∀ l : Nat, nl - j ≤ l → l < nl → ν1.1 127 l = (if v.testBit l then (dgt nb v code l : Int) else -1)) → ∀ x4 x5 x6, Ev RX8 cX8_longestBy 7 0 0 (AnsIP (mxG R nb v code nl nb) (fun ν9 => Same (fun c => c = 127) ν ν9 ∧ ∀ l : Nat, l < nl → ν9.1 127 l = (if v.testBit l then (dgt nb v code l : Int) else -1))) 9 [some (.ref 79), some (.int (iI code)), some (.int (iI (lfK nb v code (4 - nl + j) : Nat))), some (.int (iI ((nl : Int) - 1 - (j : Nat)))), x4, x5, x6] [] ν1 := by
    refine for_up nl (fun j hj ih => ?_)
    intro ν1 hS hd x4 x5 x6
    refine ev_w (fun hR => ?_)
    have hcb : ν1.1 79 9 = nb := by rw [hS.at (by decide)]; exact cb
    have hfl := lfK_le (nb := nb) (v := v) (code := code) (4 - nl + j)
    have hsu : lfK nb v code (4 - nl + j + 1) = if v.testBit (3 - (4 - nl + j)) then lfK nb v code (4 - nl + j) / nb else lfK nb v code (4 - nl + j) := rfl
    refine ev_iload_n dX8_longestBy_9 rfl ?_
    refine ev_if_lt (tgt := 64) dX8_longestBy_10 (by decide) (by first | exact hR.1 _ _ | exact hR0.1 _ _ | assumption | exact ⟨by omega, by omega⟩ | exact ⟨by simp [wr_at]; omega, by simp [wr_at]; omega⟩ | exact b2_R _ | exact bC_R _ | exact band_R _ _ | exact bor_R _ _ | exact bshl_R _ _ | exact bshr_R _ _ | exact bxor_R _ _ | exact bs_R (by omega) | decide) (fun h_10 => ?_) (fun h_10 => ?_)
    · refine ev_iconst dX8_longestBy_64 ?_
      refine ev_istore_n dX8_longestBy_65 rfl (by decide) rfl ?_
      refine ev_iconst dX8_longestBy_66 ?_
      refine ev_istore dX8_longestBy_67 rfl (by decide) rfl ?_
      obtain rfl : j = nl := by omega
      have q := big ν1 hS (fun l hl => hd l (by omega) hl) 0 (by omega) (lfK nb v code (4 - j + j) : Nat) x5 x6
      exact q
    · obtain ⟨l, hl⟩ : ∃ l : Nat, l = nl - 1 - j := ⟨_, rfl⟩
      have hln : l < nl := by omega
      have hli : (nl : Int) - 1 - (j : Int) = (l : Int) := by omega
      rw [hli]
      have hl3 : 3 - (4 - nl + j) = l := by omega
      have hl4 : 3 - l = 4 - nl + j := by omega
      have e104 : ν1.1 104 (l : Int) = b2 (dv.testBit l = true) := by rw [hS.at (by decide)]; exact hMO.dn hln
      have hvl := hvb l hln
      have hdg : dgt nb v code l = lfK nb v code (4 - nl + j) % nb := by unfold dgt; rw [hl4]
      rw [hl3] at hsu
      generalize hlf : lfK nb v code (4 - nl + j) = lf at *
      have hdl : lf / nb ≤ lf := Nat.div_le_self _ _
      have hml : lf % nb < nb := Nat.mod_lt _ (by omega)
      have etm : ((lf : Int)).tmod (nb : Int) = ((lf % nb : Nat) : Int) := by rw [Int.tmod_eq_emod_of_nonneg (by omega)]; omega
      have etd : ((lf : Int)).tdiv (nb : Int) = ((lf / nb : Nat) : Int) := by rw [Int.tdiv_eq_ediv_of_nonneg (by omega)]; omega
      have etd1 : ((lf : Int)).tdiv 1 = (lf : Int) := Int.tdiv_one _
      refine ev_aload_n dX8_longestBy_13 rfl ?_
      refine ev_getR (r := 127) dX8_longestBy_14 fl_X8_156 rfl rfl rfl ?_
      refine ev_iload_n dX8_longestBy_17 rfl ?_
      refine ev_aload_n dX8_longestBy_18 rfl ?_
      refine ev_getR (r := 104) dX8_longestBy_19 fl_X8_83 rfl rfl rfl ?_
      refine ev_iload_n dX8_longestBy_22 rfl ?_
      refine ev_zaload dX8_longestBy_23 rfl (by first | omega | (simp [wr_at]; omega) | (simp [wr_at, *]; omega)) (by first | omega | (simp [wr_at]; omega) | (simp [wr_at, *]; omega)) (by decide) ?_
      rw [e104]
      refine ev_if_eq (tgt := 31) dX8_longestBy_24 (by decide) (by first | exact hR.1 _ _ | exact hR0.1 _ _ | assumption | exact ⟨by omega, by omega⟩ | exact ⟨by simp [wr_at]; omega, by simp [wr_at]; omega⟩ | exact b2_R _ | exact bC_R _ | exact band_R _ _ | exact bor_R _ _ | exact bshl_R _ _ | exact bshr_R _ _ | exact bxor_R _ _ | exact bs_R (by omega) | decide) (fun h_24 => ?_) (fun h_24 => ?_)
      · refine ev_iload_n dX8_longestBy_31 rfl ?_
        refine ev_aload_n dX8_longestBy_32 rfl ?_
        refine ev_getI (kz := 9) dX8_longestBy_33 fl_X8_187 rfl rfl rfl ?_
        rw [hcb]
        refine ev_irem dX8_longestBy_36 (by first | exact hR.1 _ _ | exact hR0.1 _ _ | assumption | exact ⟨by omega, by omega⟩ | exact ⟨by simp [wr_at]; omega, by simp [wr_at]; omega⟩ | exact b2_R _ | exact bC_R _ | exact band_R _ _ | exact bor_R _ _ | exact bshl_R _ _ | exact bshr_R _ _ | exact bxor_R _ _ | exact bs_R (by omega) | decide) (by first | exact hR.1 _ _ | exact hR0.1 _ _ | assumption | exact ⟨by omega, by omega⟩ | exact ⟨by simp [wr_at]; omega, by simp [wr_at]; omega⟩ | exact b2_R _ | exact bC_R _ | exact band_R _ _ | exact bor_R _ _ | exact bshl_R _ _ | exact bshr_R _ _ | exact bxor_R _ _ | exact bs_R (by omega) | decide) (by omega) (by omega) ?_
        try rw [etm]
        refine ev_iastore dX8_longestBy_37 rfl (by first | omega | (simp [wr_at]; omega) | (simp [wr_at, *]; omega)) (by first | omega | (simp [wr_at]; omega) | (simp [wr_at, *]; omega)) (by decide) (by first | exact ⟨by omega, by omega⟩ | decide) ?_
        refine ev_w (fun hR => ?_)
        refine ev_iload_n dX8_longestBy_38 rfl ?_
        refine ev_aload_n dX8_longestBy_39 rfl ?_
        refine ev_getR (r := 104) dX8_longestBy_40 fl_X8_83 rfl rfl rfl ?_
        refine ev_iload_n dX8_longestBy_43 rfl ?_
        refine ev_zaload dX8_longestBy_44 rfl (by first | omega | (simp [wr_at]; omega) | (simp [wr_at, *]; omega)) (by first | omega | (simp [wr_at]; omega) | (simp [wr_at, *]; omega)) (by decide) ?_
        rw [wr_nec _ (by decide), e104]
        refine ev_if_eq (tgt := 52) dX8_longestBy_45 (by decide) (by first | exact hR.1 _ _ | exact hR0.1 _ _ | assumption | exact ⟨by omega, by omega⟩ | exact ⟨by simp [wr_at]; omega, by simp [wr_at]; omega⟩ | exact b2_R _ | exact bC_R _ | exact band_R _ _ | exact bor_R _ _ | exact bshl_R _ _ | exact bshr_R _ _ | exact bxor_R _ _ | exact bs_R (by omega) | decide) (fun h_45 => ?_) (fun h_45 => ?_)
        · refine ev_aload_n dX8_longestBy_52 rfl ?_
          refine ev_getI (kz := 9) dX8_longestBy_53 fl_X8_187 rfl rfl rfl ?_
          try rw [wr_nec _ (by decide), hcb]
          refine ev_idiv dX8_longestBy_56 (by first | exact hR.1 _ _ | exact hR0.1 _ _ | assumption | exact ⟨by omega, by omega⟩ | exact ⟨by simp [wr_at]; omega, by simp [wr_at]; omega⟩ | exact b2_R _ | exact bC_R _ | exact band_R _ _ | exact bor_R _ _ | exact bshl_R _ _ | exact bshr_R _ _ | exact bxor_R _ _ | exact bs_R (by omega) | decide) (by first | exact hR.1 _ _ | exact hR0.1 _ _ | assumption | exact ⟨by omega, by omega⟩ | exact ⟨by simp [wr_at]; omega, by simp [wr_at]; omega⟩ | exact b2_R _ | exact bC_R _ | exact band_R _ _ | exact bor_R _ _ | exact bshl_R _ _ | exact bshr_R _ _ | exact bxor_R _ _ | exact bs_R (by omega) | decide) (by omega) (by omega) ?_
          refine ev_istore_n dX8_longestBy_57 rfl (by decide) rfl ?_
          refine ev_iinc dX8_longestBy_58 rfl rfl (by decide) rfl ?_
          refine ev_goto (tgt := 9) dX8_longestBy_61 (by decide) ?_
          first
            | (exfalso; omega)
            | (have q9 : ∀ (A : Int), A = (if v.testBit l then (dgt nb v code l : Int) else -1) → ∀ x4 x5 x6, Ev RX8 cX8_longestBy 7 0 0 (AnsIP (mxG R nb v code nl nb) (fun ν9 => Same (fun c => c = 127) ν ν9 ∧ ∀ l : Nat, l < nl → ν9.1 127 l = (if v.testBit l then (dgt nb v code l : Int) else -1))) 9 [some (.ref 79), some (.int (iI code)), some (.int (iI (lfK nb v code (4 - nl + j + 1) : Nat))), some (.int (iI ((l : Int) + -1))), x4, x5, x6] [] (wr ν1 127 (l : Int) A) := by
                 intro A hA x4 x5 x6
                 have q := ih (by omega) (wr ν1 127 (l : Int) A) (hS.wr rfl) (fun l9 h1 h2 => by
                   rw [wr_at]
                   by_cases e : l9 = l
                   · subst e; rw [if_pos ⟨rfl, rfl⟩, hA]
                   · rw [if_neg (by omega)]; exact hd l9 (by omega) h2) x4 x5 x6
                 rw [show 4 - nl + (j + 1) = 4 - nl + j + 1 from rfl] at q
                 rw [show (nl : Int) - 1 - ((j + 1 : Nat) : Int) = (l : Int) + -1 by omega] at q
                 exact q
               first
                 | (have y : dv.testBit l = true := by first | exact b2_ne h_24 | exact b2_ne (fun z => h_24 z)
                    have hvl2 : v.testBit l = false := by rw [hvl, y]; rfl
                    have q := q9 (-1) (by rw [hvl2]; rfl) x4 x5 x6
                    rw [hsu, hvl2] at q
                    rw [etd1]
                    exact q)
                 | (have y := b2_eq h_24
                    have hvl2 : v.testBit l = true := by rw [hvl]; simp [y]
                    have q := q9 (((lf % nb : Nat) : Int)) (by rw [if_pos hvl2, hdg]) x4 x5 x6
                    rw [hsu, if_pos hvl2] at q
                    rw [etd]
                    exact q))
        · refine ev_iconst dX8_longestBy_48 ?_
          refine ev_goto (tgt := 56) dX8_longestBy_49 (by decide) ?_
          try rw [wr_nec _ (by decide), hcb]
          refine ev_idiv dX8_longestBy_56 (by first | exact hR.1 _ _ | exact hR0.1 _ _ | assumption | exact ⟨by omega, by omega⟩ | exact ⟨by simp [wr_at]; omega, by simp [wr_at]; omega⟩ | exact b2_R _ | exact bC_R _ | exact band_R _ _ | exact bor_R _ _ | exact bshl_R _ _ | exact bshr_R _ _ | exact bxor_R _ _ | exact bs_R (by omega) | decide) (by first | exact hR.1 _ _ | exact hR0.1 _ _ | assumption | exact ⟨by omega, by omega⟩ | exact ⟨by simp [wr_at]; omega, by simp [wr_at]; omega⟩ | exact b2_R _ | exact bC_R _ | exact band_R _ _ | exact bor_R _ _ | exact bshl_R _ _ | exact bshr_R _ _ | exact bxor_R _ _ | exact bs_R (by omega) | decide) (by omega) (by omega) ?_
          refine ev_istore_n dX8_longestBy_57 rfl (by decide) rfl ?_
          refine ev_iinc dX8_longestBy_58 rfl rfl (by decide) rfl ?_
          refine ev_goto (tgt := 9) dX8_longestBy_61 (by decide) ?_
          first
            | (exfalso; omega)
            | (have q9 : ∀ (A : Int), A = (if v.testBit l then (dgt nb v code l : Int) else -1) → ∀ x4 x5 x6, Ev RX8 cX8_longestBy 7 0 0 (AnsIP (mxG R nb v code nl nb) (fun ν9 => Same (fun c => c = 127) ν ν9 ∧ ∀ l : Nat, l < nl → ν9.1 127 l = (if v.testBit l then (dgt nb v code l : Int) else -1))) 9 [some (.ref 79), some (.int (iI code)), some (.int (iI (lfK nb v code (4 - nl + j + 1) : Nat))), some (.int (iI ((l : Int) + -1))), x4, x5, x6] [] (wr ν1 127 (l : Int) A) := by
                 intro A hA x4 x5 x6
                 have q := ih (by omega) (wr ν1 127 (l : Int) A) (hS.wr rfl) (fun l9 h1 h2 => by
                   rw [wr_at]
                   by_cases e : l9 = l
                   · subst e; rw [if_pos ⟨rfl, rfl⟩, hA]
                   · rw [if_neg (by omega)]; exact hd l9 (by omega) h2) x4 x5 x6
                 rw [show 4 - nl + (j + 1) = 4 - nl + j + 1 from rfl] at q
                 rw [show (nl : Int) - 1 - ((j + 1 : Nat) : Int) = (l : Int) + -1 by omega] at q
                 exact q
               first
                 | (have y : dv.testBit l = true := by first | exact b2_ne h_24 | exact b2_ne (fun z => h_24 z)
                    have hvl2 : v.testBit l = false := by rw [hvl, y]; rfl
                    have q := q9 (-1) (by rw [hvl2]; rfl) x4 x5 x6
                    rw [hsu, hvl2] at q
                    rw [etd1]
                    exact q)
                 | (have y := b2_eq h_24
                    have hvl2 : v.testBit l = true := by rw [hvl]; simp [y]
                    have q := q9 (((lf % nb : Nat) : Int)) (by rw [if_pos hvl2, hdg]) x4 x5 x6
                    rw [hsu, if_pos hvl2] at q
                    rw [etd]
                    exact q))
      · refine ev_iconst dX8_longestBy_27 ?_
        refine ev_goto (tgt := 37) dX8_longestBy_28 (by decide) ?_
        try rw [etm]
        refine ev_iastore dX8_longestBy_37 rfl (by first | omega | (simp [wr_at]; omega) | (simp [wr_at, *]; omega)) (by first | omega | (simp [wr_at]; omega) | (simp [wr_at, *]; omega)) (by decide) (by first | exact ⟨by omega, by omega⟩ | decide) ?_
        refine ev_w (fun hR => ?_)
        refine ev_iload_n dX8_longestBy_38 rfl ?_
        refine ev_aload_n dX8_longestBy_39 rfl ?_
        refine ev_getR (r := 104) dX8_longestBy_40 fl_X8_83 rfl rfl rfl ?_
        refine ev_iload_n dX8_longestBy_43 rfl ?_
        refine ev_zaload dX8_longestBy_44 rfl (by first | omega | (simp [wr_at]; omega) | (simp [wr_at, *]; omega)) (by first | omega | (simp [wr_at]; omega) | (simp [wr_at, *]; omega)) (by decide) ?_
        rw [wr_nec _ (by decide), e104]
        refine ev_if_eq (tgt := 52) dX8_longestBy_45 (by decide) (by first | exact hR.1 _ _ | exact hR0.1 _ _ | assumption | exact ⟨by omega, by omega⟩ | exact ⟨by simp [wr_at]; omega, by simp [wr_at]; omega⟩ | exact b2_R _ | exact bC_R _ | exact band_R _ _ | exact bor_R _ _ | exact bshl_R _ _ | exact bshr_R _ _ | exact bxor_R _ _ | exact bs_R (by omega) | decide) (fun h_45 => ?_) (fun h_45 => ?_)
        · refine ev_aload_n dX8_longestBy_52 rfl ?_
          refine ev_getI (kz := 9) dX8_longestBy_53 fl_X8_187 rfl rfl rfl ?_
          try rw [wr_nec _ (by decide), hcb]
          refine ev_idiv dX8_longestBy_56 (by first | exact hR.1 _ _ | exact hR0.1 _ _ | assumption | exact ⟨by omega, by omega⟩ | exact ⟨by simp [wr_at]; omega, by simp [wr_at]; omega⟩ | exact b2_R _ | exact bC_R _ | exact band_R _ _ | exact bor_R _ _ | exact bshl_R _ _ | exact bshr_R _ _ | exact bxor_R _ _ | exact bs_R (by omega) | decide) (by first | exact hR.1 _ _ | exact hR0.1 _ _ | assumption | exact ⟨by omega, by omega⟩ | exact ⟨by simp [wr_at]; omega, by simp [wr_at]; omega⟩ | exact b2_R _ | exact bC_R _ | exact band_R _ _ | exact bor_R _ _ | exact bshl_R _ _ | exact bshr_R _ _ | exact bxor_R _ _ | exact bs_R (by omega) | decide) (by omega) (by omega) ?_
          refine ev_istore_n dX8_longestBy_57 rfl (by decide) rfl ?_
          refine ev_iinc dX8_longestBy_58 rfl rfl (by decide) rfl ?_
          refine ev_goto (tgt := 9) dX8_longestBy_61 (by decide) ?_
          first
            | (exfalso; omega)
            | (have q9 : ∀ (A : Int), A = (if v.testBit l then (dgt nb v code l : Int) else -1) → ∀ x4 x5 x6, Ev RX8 cX8_longestBy 7 0 0 (AnsIP (mxG R nb v code nl nb) (fun ν9 => Same (fun c => c = 127) ν ν9 ∧ ∀ l : Nat, l < nl → ν9.1 127 l = (if v.testBit l then (dgt nb v code l : Int) else -1))) 9 [some (.ref 79), some (.int (iI code)), some (.int (iI (lfK nb v code (4 - nl + j + 1) : Nat))), some (.int (iI ((l : Int) + -1))), x4, x5, x6] [] (wr ν1 127 (l : Int) A) := by
                 intro A hA x4 x5 x6
                 have q := ih (by omega) (wr ν1 127 (l : Int) A) (hS.wr rfl) (fun l9 h1 h2 => by
                   rw [wr_at]
                   by_cases e : l9 = l
                   · subst e; rw [if_pos ⟨rfl, rfl⟩, hA]
                   · rw [if_neg (by omega)]; exact hd l9 (by omega) h2) x4 x5 x6
                 rw [show 4 - nl + (j + 1) = 4 - nl + j + 1 from rfl] at q
                 rw [show (nl : Int) - 1 - ((j + 1 : Nat) : Int) = (l : Int) + -1 by omega] at q
                 exact q
               first
                 | (have y : dv.testBit l = true := by first | exact b2_ne h_24 | exact b2_ne (fun z => h_24 z)
                    have hvl2 : v.testBit l = false := by rw [hvl, y]; rfl
                    have q := q9 (-1) (by rw [hvl2]; rfl) x4 x5 x6
                    rw [hsu, hvl2] at q
                    rw [etd1]
                    exact q)
                 | (have y := b2_eq h_24
                    have hvl2 : v.testBit l = true := by rw [hvl]; simp [y]
                    have q := q9 (((lf % nb : Nat) : Int)) (by rw [if_pos hvl2, hdg]) x4 x5 x6
                    rw [hsu, if_pos hvl2] at q
                    rw [etd]
                    exact q))
        · refine ev_iconst dX8_longestBy_48 ?_
          refine ev_goto (tgt := 56) dX8_longestBy_49 (by decide) ?_
          try rw [wr_nec _ (by decide), hcb]
          refine ev_idiv dX8_longestBy_56 (by first | exact hR.1 _ _ | exact hR0.1 _ _ | assumption | exact ⟨by omega, by omega⟩ | exact ⟨by simp [wr_at]; omega, by simp [wr_at]; omega⟩ | exact b2_R _ | exact bC_R _ | exact band_R _ _ | exact bor_R _ _ | exact bshl_R _ _ | exact bshr_R _ _ | exact bxor_R _ _ | exact bs_R (by omega) | decide) (by first | exact hR.1 _ _ | exact hR0.1 _ _ | assumption | exact ⟨by omega, by omega⟩ | exact ⟨by simp [wr_at]; omega, by simp [wr_at]; omega⟩ | exact b2_R _ | exact bC_R _ | exact band_R _ _ | exact bor_R _ _ | exact bshl_R _ _ | exact bshr_R _ _ | exact bxor_R _ _ | exact bs_R (by omega) | decide) (by omega) (by omega) ?_
          refine ev_istore_n dX8_longestBy_57 rfl (by decide) rfl ?_
          refine ev_iinc dX8_longestBy_58 rfl rfl (by decide) rfl ?_
          refine ev_goto (tgt := 9) dX8_longestBy_61 (by decide) ?_
          first
            | (exfalso; omega)
            | (have q9 : ∀ (A : Int), A = (if v.testBit l then (dgt nb v code l : Int) else -1) → ∀ x4 x5 x6, Ev RX8 cX8_longestBy 7 0 0 (AnsIP (mxG R nb v code nl nb) (fun ν9 => Same (fun c => c = 127) ν ν9 ∧ ∀ l : Nat, l < nl → ν9.1 127 l = (if v.testBit l then (dgt nb v code l : Int) else -1))) 9 [some (.ref 79), some (.int (iI code)), some (.int (iI (lfK nb v code (4 - nl + j + 1) : Nat))), some (.int (iI ((l : Int) + -1))), x4, x5, x6] [] (wr ν1 127 (l : Int) A) := by
                 intro A hA x4 x5 x6
                 have q := ih (by omega) (wr ν1 127 (l : Int) A) (hS.wr rfl) (fun l9 h1 h2 => by
                   rw [wr_at]
                   by_cases e : l9 = l
                   · subst e; rw [if_pos ⟨rfl, rfl⟩, hA]
                   · rw [if_neg (by omega)]; exact hd l9 (by omega) h2) x4 x5 x6
                 rw [show 4 - nl + (j + 1) = 4 - nl + j + 1 from rfl] at q
                 rw [show (nl : Int) - 1 - ((j + 1 : Nat) : Int) = (l : Int) + -1 by omega] at q
                 exact q
               first
                 | (have y : dv.testBit l = true := by first | exact b2_ne h_24 | exact b2_ne (fun z => h_24 z)
                    have hvl2 : v.testBit l = false := by rw [hvl, y]; rfl
                    have q := q9 (-1) (by rw [hvl2]; rfl) x4 x5 x6
                    rw [hsu, hvl2] at q
                    rw [etd1]
                    exact q)
                 | (have y := b2_eq h_24
                    have hvl2 : v.testBit l = true := by rw [hvl]; simp [y]
                    have q := q9 (((lf % nb : Nat) : Int)) (by rw [if_pos hvl2, hdg]) x4 x5 x6
                    rw [hsu, if_pos hvl2] at q
                    rw [etd]
                    exact q))
  refine ev_iload_n dX8_longestBy_0 rfl ?_
  refine ev_istore_n dX8_longestBy_1 rfl (by decide) rfl ?_
  refine ev_aload_n dX8_longestBy_2 rfl ?_
  refine ev_getI (kz := 13) dX8_longestBy_3 fl_X8_190 rfl rfl rfl ?_
  rw [cl]
  refine ev_iconst dX8_longestBy_6 ?_
  refine ev_isub dX8_longestBy_7 ?_
  refine ev_istore_n dX8_longestBy_8 rfl (by decide) rfl ?_
  have q := dig 0 (by omega) ν Same.rf (fun l h1 h2 => by omega) none none none
  rw [show lfK nb v code (4 - nl + 0) = code from lfK_top hlv _ (by omega), show (nl : Int) - 1 - ((0 : Nat) : Int) = (nl : Int) - 1 by omega] at q
  exact q
