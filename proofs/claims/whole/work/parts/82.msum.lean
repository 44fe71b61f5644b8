theorem mid_k {n : Nat} {D : Nat → Nat → Int} {k i j : Nat} (h0 : D k k = 0) : midD D k i j k j = D k j := by
  unfold midD fw1
  split
  · rw [h0]; omega
  · rfl
theorem mid_c {n : Nat} {D : Nat → Nat → Int} {k i j : Nat} (h0 : D k k = 0) : midD D k i j i k = D i k := by
  unfold midD fw1
  split
  · rw [h0]; omega
  · rfl
theorem mid_0 {D : Nat → Nat → Int} {k p q : Nat} : midD D k 0 0 p q = D p q := by
  unfold midD
  rw [if_neg (by omega)]
theorem mid_row {D : Nat → Nat → Int} {k i n p q : Nat} (hq : q < n) : midD D k i n p q = midD D k (i + 1) 0 p q := by
  unfold midD
  by_cases h : p < i ∨ (p = i ∧ q < n)
  · rw [if_pos h, if_pos (by omega)]
  · rw [if_neg h, if_neg (by omega)]
theorem mid_all {D : Nat → Nat → Int} {k n p q : Nat} (hp : p < n) : midD D k n 0 p q = fw1 D k p q := by
  unfold midD
  rw [if_pos (by omega)]
theorem mid_step {D : Nat → Nat → Int} {k i j p q : Nat} : midD D k i (j + 1) p q = if p = i ∧ q = j then fw1 D k i j else midD D k i j p q := by
  unfold midD
  by_cases e : p = i ∧ q = j
  · rw [if_pos e, if_pos (by omega), e.1, e.2]
  · rw [if_neg e]
    by_cases h : p < i ∨ (p = i ∧ q < j)
    · rw [if_pos h, if_pos (by omega)]
    · rw [if_neg h, if_neg (by omega)]
theorem mid_at {D : Nat → Nat → Int} {k i j : Nat} : midD D k i j i j = D i j := by
  unfold midD
  rw [if_neg (by omega)]
set_option maxHeartbeats 4000000 in
theorem m_sumWith (μ σ : Mem) (P n nr nb nl mb w wt dv : Nat) (f t : Nat → Nat) (hMO : MOk μ σ P n nr nb nl mb w wt dv f t) (a b : Nat) (ha : a < n) (hb : b < n) (hab : a ≠ b) (h1 : 1 ≤ apartZ σ (P + 1) (P + 2) a b) (h99 : apartZ σ (P + 1) (P + 2) a b ≤ 99) : Con yX8_sumWith cX8_sumWith 7 (some .int) 2 42 [.ref 79, .int (iI a), .int (iI b)] μ (AnsIP (sumN (apartZ σ (P + 1) (P + 2)) (dstF f t (fun r => σ.1 (P + 7) r) n nr w) n a b) (fun ν => Same s128 μ ν)) := by
  refine con_of (by decide) rfl (Nat.le_of_ble_eq_true rfl) (ok_IP rfl) ?_
  refine ev_w (fun hR => ?_)
  have hR0 := hR
  have hM := hMO.rp
  obtain ⟨hPO, hMP, hwc⟩ := id hM
  obtain ⟨hPR, ⟨hnb, hnb4⟩, ⟨hnl, hnl4⟩, hpo, hro, hbo, hlo⟩ := id hPO
  obtain ⟨hP, hn, hn8, hnr, hnr12, hft⟩ := id hPR
  obtain ⟨⟨cn, cr, cb, cl⟩, mp, mr, mbo, ml⟩ := id hMP
  have hDi := dstF_dist hPO w
  have hcc : ∀ r, r < nr → costF (fun r => σ.1 (P + 7) r) w r = -1 ∨ (1 ≤ costF (fun r => σ.1 (P + 7) r) w r ∧ costF (fun r => σ.1 (P + 7) r) w r ≤ 99) := by
    intro r hr
    have q := (hro r hr).1
    show (if w.testBit r then σ.1 (P + 7) r else -1) = -1 ∨ (1 ≤ (if w.testBit r then σ.1 (P + 7) r else -1) ∧ (if w.testBit r then σ.1 (P + 7) r else -1) ≤ 99)
    split <;> omega
  have hcR := rope_eq hDi hcc (fun r hr => (hft r hr).2.2) hn8 ha hb hab h1 h99
  have hE0 := fun m (hm : m ≤ nr) p q => edg_ok (f := f) (t := t) (fun r hr => by have := hcc r hr; omega : ∀ r, r < nr → costF (fun r => σ.1 (P + 7) r) w r = -1 ∨ (0 ≤ costF (fun r => σ.1 (P + 7) r) w r ∧ costF (fun r => σ.1 (P + 7) r) w r ≤ 1000000)) m hm p q
  have hE1 := fun p => edg_diag (f := f) (t := t) (c := costF (fun r => σ.1 (P + 7) r) w) (fun r hr => (hft r hr).2.2.2.2) nr (Nat.le_refl _) p
  generalize hwd : apartZ σ (P + 1) (P + 2) (a : Int) (b : Int) = wd at *
  generalize hcF : costF (fun r => σ.1 (P + 7) r) w = c9 at *
  have okE : okD n (e2D f t c9 nr a b wd) := fun p q _ _ => by
    have := hE0 nr (Nat.le_refl _) p q
    unfold e2D e1D
    split <;> omega
  have dgE : ∀ p, p < n → e2D f t c9 nr a b wd p p = 0 := fun p _ => by
    have := hE1 p
    unfold e2D e1D
    split <;> omega
  have okW := fun k (hk : k ≤ n) => fwN_ok okE k hk
  have dgW := fun k (hk : k ≤ n) => fwN_diag okE dgE k hk
  have leW := fw_le (n := n) (D := e2D f t c9 nr a b wd)
  have w999 : ∀ k p q, fwN (e2D f t c9 nr a b wd) k p q ≤ 999 := fun k p q => by
    have z := leW k p q
    have : e2D f t c9 nr a b wd p q ≤ 999 := by unfold e2D e1D; split <;> omega
    omega
  have hfin : sumN (apartZ σ (P + 1) (P + 2)) (dstF f t (fun r => σ.1 (P + 7) r) n nr w) n a b = sumPr (fwN (e2D f t c9 nr a b wd) n) n n := by
    unfold sumN
    rw [hwd]
    exact sumPr_congr (fun p q hp hq => (hcR p q hp hq).symm) n (Nat.le_refl _)
  rw [hfin]
  generalize hEE : e2D f t c9 nr a b wd = E at *
  have sum2 : ∀ ν, Same s128 μ ν → (∀ p q : Nat, p < n → q < n → ν.1 128 (8 * (p : Int) + q) = fwN E n p q) → ∀ i : Nat, i ≤ n → ∀ x5 x6, Ev RX8 cX8_sumWith 7 2 42 (AnsIP (sumPr (fwN E n) n n) (fun ν => Same s128 μ ν)) 230 [some (.ref 79), some (.int (iI a)), some (.int (iI b)), some (.int (iI (sumPr (fwN E n) n i))), some (.int (iI (i : Nat))), x5, x6] [] ν := by
    intro ν hS hW
    have hcn : ν.1 79 0 = n := by rw [hS.at (by unfold s128; decide)]; exact cn
    refine for_up n (fun i hi ih => ?_)
    intro x5 x6
    refine ev_w (fun hR => ?_)
    have hsR := (sumPr_R (F := fwN E n) (n := n) (M := 1000) (fun p q hp hq => by have := okW n (Nat.le_refl _) p q hp hq; have := w999 n p q; omega) i hi)
    refine ev_iload dX8_sumWith_230 rfl ?_
    refine ev_aload_n dX8_sumWith_232 rfl ?_
    refine ev_getI (kz := 0) dX8_sumWith_233 fl_X8_177 rfl rfl rfl ?_
    rw [hcn]
    refine ev_icmp_ge (tgt := 282) dX8_sumWith_236 (by decide) (by first | exact hR.1 _ _ | exact hR0.1 _ _ | assumption | exact ⟨by omega, by omega⟩ | exact ⟨by simp [wr_at]; omega, by simp [wr_at]; omega⟩ | exact b2_R _ | exact bC_R _ | exact band_R _ _ | exact bor_R _ _ | exact bshl_R _ _ | exact bshr_R _ _ | exact bxor_R _ _ | exact bs_R (by omega) | decide) (by first | exact hR.1 _ _ | exact hR0.1 _ _ | assumption | exact ⟨by omega, by omega⟩ | exact ⟨by simp [wr_at]; omega, by simp [wr_at]; omega⟩ | exact b2_R _ | exact bC_R _ | exact band_R _ _ | exact bor_R _ _ | exact bshl_R _ _ | exact bshr_R _ _ | exact bxor_R _ _ | exact bs_R (by omega) | decide) (fun h_236 => ?_) (fun h_236 => ?_)
    · refine ev_iload_n dX8_sumWith_282 rfl ?_
      refine ev_ireturn dX8_sumWith_283 ?_
      obtain rfl : i = n := by omega
      exact ⟨rfl, hS⟩
    · have row : ∀ j : Nat, j ≤ n - (i + 1) → ∀ x6, Ev RX8 cX8_sumWith 7 2 42 (AnsIP (sumPr (fwN E n) n n) (fun ν => Same s128 μ ν)) 245 [some (.ref 79), some (.int (iI a)), some (.int (iI b)), some (.int (iI (sumPr (fwN E n) n i + sumI (fun j => fwN E n i (i + 1 + j)) j))), some (.int (iI (i : Nat))), some (.int (iI ((i : Nat) + 1 + (j : Nat) : Int))), x6] [] ν := by
        refine for_up (n - (i + 1)) (fun j hj ihj => ?_)
        intro x6
        refine ev_w (fun hR => ?_)
        have hjR := sumI_R (f := fun j => fwN E n i (i + 1 + j)) (n := j) (M := 1000) (fun q hq => by have := okW n (Nat.le_refl _) i (i + 1 + q) (by omega) (by omega); have := w999 n i (i + 1 + q); omega)
        have hs28 : sumPr (fun _ _ => (1 : Int)) n i ≤ 64 := by
          have : ∀ n, n ≤ 8 → ∀ i, i ≤ n → sumPr (fun _ _ => (1 : Int)) n i ≤ 64 := by decide
          exact this n hn8 i hi
        refine ev_iload dX8_sumWith_245 rfl ?_
        refine ev_aload_n dX8_sumWith_247 rfl ?_
        refine ev_getI (kz := 0) dX8_sumWith_248 fl_X8_177 rfl rfl rfl ?_
        rw [hcn]
        refine ev_icmp_ge (tgt := 276) dX8_sumWith_251 (by decide) (by first | exact hR.1 _ _ | exact hR0.1 _ _ | assumption | exact ⟨by omega, by omega⟩ | exact ⟨by simp [wr_at]; omega, by simp [wr_at]; omega⟩ | exact b2_R _ | exact bC_R _ | exact band_R _ _ | exact bor_R _ _ | exact bshl_R _ _ | exact bshr_R _ _ | exact bxor_R _ _ | exact bs_R (by omega) | decide) (by first | exact hR.1 _ _ | exact hR0.1 _ _ | assumption | exact ⟨by omega, by omega⟩ | exact ⟨by simp [wr_at]; omega, by simp [wr_at]; omega⟩ | exact b2_R _ | exact bC_R _ | exact band_R _ _ | exact bor_R _ _ | exact bshl_R _ _ | exact bshr_R _ _ | exact bxor_R _ _ | exact bs_R (by omega) | decide) (fun h_251 => ?_) (fun h_251 => ?_)
        · refine ev_iinc dX8_sumWith_276 rfl rfl (by decide) rfl ?_
          refine ev_goto (tgt := 230) dX8_sumWith_279 (by decide) ?_
          obtain rfl : j = n - (i + 1) := by omega
          exact ih (by omega) _ _
        · refine ev_iload_n dX8_sumWith_254 rfl ?_
          refine ev_aload_n dX8_sumWith_255 rfl ?_
          refine ev_getR (r := 128) dX8_sumWith_256 fl_X8_159 rfl rfl rfl ?_
          refine ev_bipush dX8_sumWith_259 (by decide) ?_
          refine ev_iload dX8_sumWith_261 rfl ?_
          refine ev_imul dX8_sumWith_263 ?_
          refine ev_iload dX8_sumWith_264 rfl ?_
          refine ev_iadd dX8_sumWith_266 ?_
          refine ev_iaload dX8_sumWith_267 rfl (by first | omega | (simp [wr_at]; omega) | (simp [wr_at, *]; omega)) (by first | omega | (simp [wr_at]; omega) | (simp [wr_at, *]; omega)) (by decide) ?_
          rw [show (8 * (i : Int) + ((i : Int) + 1 + (j : Int))) = 8 * (i : Int) + ((i + 1 + j : Nat) : Int) by omega, hW i (i + 1 + j) (by omega) (by omega)]
          have hWR := okW n (Nat.le_refl _) i (i + 1 + j) (by omega) (by omega)
          refine ev_iadd dX8_sumWith_268 ?_
          refine ev_istore_n dX8_sumWith_269 rfl (by decide) rfl ?_
          refine ev_iinc dX8_sumWith_270 rfl rfl (by decide) rfl ?_
          refine ev_goto (tgt := 245) dX8_sumWith_273 (by decide) ?_
          have q := ihj (by omega) x6
          rw [show sumI (fun j => fwN E n i (i + 1 + j)) (j + 1) = sumI (fun j => fwN E n i (i + 1 + j)) j + fwN E n i (i + 1 + j) from rfl, ← Int.add_assoc] at q
          exact q
      refine ev_iload dX8_sumWith_239 rfl ?_
      refine ev_iconst dX8_sumWith_241 ?_
      refine ev_iadd dX8_sumWith_242 ?_
      refine ev_istore dX8_sumWith_243 rfl (by decide) rfl ?_
      have q := row 0 (by omega) x6
      rw [show sumPr (fwN E n) n i + sumI (fun j => fwN E n i (i + 1 + j)) 0 = sumPr (fwN E n) n i from Int.add_zero _] at q
      exact q
  have all : ∀ k : Nat, k ≤ n → ∀ ν, Same s128 μ ν → (∀ p q : Nat, p < n → q < n → ν.1 128 (8 * (p : Int) + q) = fwN E k p q) → ∀ x4 x5 x6, Ev RX8 cX8_sumWith 7 2 42 (AnsIP (sumPr (fwN E n) n n) (fun ν => Same s128 μ ν)) 99 [some (.ref 79), some (.int (iI a)), some (.int (iI b)), some (.int (iI (k : Nat))), x4, x5, x6] [] ν := by
    refine for_up n (fun k hk ihk => ?_)
    intro ν hS hW x4 x5 x6
    refine ev_w (fun hR => ?_)
    have hcn : ν.1 79 0 = n := by rw [hS.at (by unfold s128; decide)]; exact cn
    refine ev_iload_n dX8_sumWith_99 rfl ?_
    refine ev_aload_n dX8_sumWith_100 rfl ?_
    refine ev_getI (kz := 0) dX8_sumWith_101 fl_X8_177 rfl rfl rfl ?_
    rw [hcn]
    refine ev_icmp_ge (tgt := 225) dX8_sumWith_104 (by decide) (by first | exact hR.1 _ _ | exact hR0.1 _ _ | assumption | exact ⟨by omega, by omega⟩ | exact ⟨by simp [wr_at]; omega, by simp [wr_at]; omega⟩ | exact b2_R _ | exact bC_R _ | exact band_R _ _ | exact bor_R _ _ | exact bshl_R _ _ | exact bshr_R _ _ | exact bxor_R _ _ | exact bs_R (by omega) | decide) (by first | exact hR.1 _ _ | exact hR0.1 _ _ | assumption | exact ⟨by omega, by omega⟩ | exact ⟨by simp [wr_at]; omega, by simp [wr_at]; omega⟩ | exact b2_R _ | exact bC_R _ | exact band_R _ _ | exact bor_R _ _ | exact bshl_R _ _ | exact bshr_R _ _ | exact bxor_R _ _ | exact bs_R (by omega) | decide) (fun h_104 => ?_) (fun h_104 => ?_)
    · refine ev_iconst dX8_sumWith_225 ?_
      refine ev_istore_n dX8_sumWith_226 rfl (by decide) rfl ?_
      refine ev_iconst dX8_sumWith_227 ?_
      refine ev_istore dX8_sumWith_228 rfl (by decide) rfl ?_
      obtain rfl : k = n := by omega
      exact sum2 ν hS hW 0 (by omega) _ _
    · have hkn : k < n := by omega
      have dk := dgW k hk k hkn
      have ok := okW k hk
      have lo2 : ∀ i : Nat, i ≤ n → ∀ ν, Same s128 μ ν → (∀ p q : Nat, p < n → q < n → ν.1 128 (8 * (p : Int) + q) = midD (fwN E k) k i 0 p q) → ∀ x5 x6, Ev RX8 cX8_sumWith 7 2 42 (AnsIP (sumPr (fwN E n) n n) (fun ν => Same s128 μ ν)) 110 [some (.ref 79), some (.int (iI a)), some (.int (iI b)), some (.int (iI (k : Nat))), some (.int (iI (i : Nat))), x5, x6] [] ν := by
        refine for_up n (fun i hi ihi => ?_)
        intro ν hS hW x5 x6
        refine ev_w (fun hR => ?_)
        have hcn : ν.1 79 0 = n := by rw [hS.at (by unfold s128; decide)]; exact cn
        refine ev_iload dX8_sumWith_110 rfl ?_
        refine ev_aload_n dX8_sumWith_112 rfl ?_
        refine ev_getI (kz := 0) dX8_sumWith_113 fl_X8_177 rfl rfl rfl ?_
        rw [hcn]
        refine ev_icmp_ge (tgt := 219) dX8_sumWith_116 (by decide) (by first | exact hR.1 _ _ | exact hR0.1 _ _ | assumption | exact ⟨by omega, by omega⟩ | exact ⟨by simp [wr_at]; omega, by simp [wr_at]; omega⟩ | exact b2_R _ | exact bC_R _ | exact band_R _ _ | exact bor_R _ _ | exact bshl_R _ _ | exact bshr_R _ _ | exact bxor_R _ _ | exact bs_R (by omega) | decide) (by first | exact hR.1 _ _ | exact hR0.1 _ _ | assumption | exact ⟨by omega, by omega⟩ | exact ⟨by simp [wr_at]; omega, by simp [wr_at]; omega⟩ | exact b2_R _ | exact bC_R _ | exact band_R _ _ | exact bor_R _ _ | exact bshl_R _ _ | exact bshr_R _ _ | exact bxor_R _ _ | exact bs_R (by omega) | decide) (fun h_116 => ?_) (fun h_116 => ?_)
        · refine ev_iinc dX8_sumWith_219 rfl rfl (by decide) rfl ?_
          refine ev_goto (tgt := 99) dX8_sumWith_222 (by decide) ?_
          obtain rfl : i = n := by omega
          exact ihk (by omega) ν hS (fun p q hp hq => by rw [hW p q hp hq, mid_all hp]; rfl) _ _ _
        · have hin : i < n := by omega
          have lo3 : ∀ j : Nat, j ≤ n → ∀ ν, Same s128 μ ν → (∀ p q : Nat, p < n → q < n → ν.1 128 (8 * (p : Int) + q) = midD (fwN E k) k i j p q) → ∀ x6, Ev RX8 cX8_sumWith 7 2 42 (AnsIP (sumPr (fwN E n) n n) (fun ν => Same s128 μ ν)) 122 [some (.ref 79), some (.int (iI a)), some (.int (iI b)), some (.int (iI (k : Nat))), some (.int (iI (i : Nat))), some (.int (iI (j : Nat))), x6] [] ν := by
            refine for_up n (fun j hj ihj => ?_)
            intro ν hS hW x6
            refine ev_w (fun hR => ?_)
            have hcn : ν.1 79 0 = n := by rw [hS.at (by unfold s128; decide)]; exact cn
            refine ev_iload dX8_sumWith_122 rfl ?_
            refine ev_aload_n dX8_sumWith_124 rfl ?_
            refine ev_getI (kz := 0) dX8_sumWith_125 fl_X8_177 rfl rfl rfl ?_
            rw [hcn]
            refine ev_icmp_ge (tgt := 213) dX8_sumWith_128 (by decide) (by first | exact hR.1 _ _ | exact hR0.1 _ _ | assumption | exact ⟨by omega, by omega⟩ | exact ⟨by simp [wr_at]; omega, by simp [wr_at]; omega⟩ | exact b2_R _ | exact bC_R _ | exact band_R _ _ | exact bor_R _ _ | exact bshl_R _ _ | exact bshr_R _ _ | exact bxor_R _ _ | exact bs_R (by omega) | decide) (by first | exact hR.1 _ _ | exact hR0.1 _ _ | assumption | exact ⟨by omega, by omega⟩ | exact ⟨by simp [wr_at]; omega, by simp [wr_at]; omega⟩ | exact b2_R _ | exact bC_R _ | exact band_R _ _ | exact bor_R _ _ | exact bshl_R _ _ | exact bshr_R _ _ | exact bxor_R _ _ | exact bs_R (by omega) | decide) (fun h_128 => ?_) (fun h_128 => ?_)
            · refine ev_iinc dX8_sumWith_213 rfl rfl (by decide) rfl ?_
              refine ev_goto (tgt := 110) dX8_sumWith_216 (by decide) ?_
              obtain rfl : j = n := by omega
              exact ihi (by omega) ν hS (fun p q hp hq => by rw [hW p q hp hq, mid_row hq]) _ _
            · have hjn : j < n := by omega
              have eik : ν.1 128 (8 * (i : Int) + k) = fwN E k i k := by rw [hW i k hin hkn, mid_c (n := n) dk]
              have ekj : ν.1 128 (8 * (k : Int) + j) = fwN E k k j := by rw [hW k j hkn hjn, mid_k (n := n) dk]
              have eij : ν.1 128 (8 * (i : Int) + j) = fwN E k i j := by rw [hW i j hin hjn, mid_at]
              have r1 := ok i k hin hkn
              have r2 := ok k j hkn hjn
              have r3 := ok i j hin hjn
              have fin9 : ∀ A : Int, A = fw1 (fwN E k) k i j → ∀ x6, Ev RX8 cX8_sumWith 7 2 42 (AnsIP (sumPr (fwN E n) n n) (fun ν => Same s128 μ ν)) 122 [some (.ref 79), some (.int (iI a)), some (.int (iI b)), some (.int (iI (k : Nat))), some (.int (iI (i : Nat))), some (.int (iI ((j : Nat) + 1 : Nat))), x6] [] (wr ν 128 (8 * (i : Int) + j) A) := by
                intro A hA x6
                refine ihj (by omega) _ (hS.wr rfl) (fun p q hp hq => ?_) _
                rw [way_wr (by omega) (by omega), mid_step]
                by_cases e : p = i ∧ q = j
                · rw [if_pos e, if_pos e, hA]
                · rw [if_neg e, if_neg e]; exact hW p q hp hq
              refine ev_aload_n dX8_sumWith_131 rfl ?_
              refine ev_getR (r := 128) dX8_sumWith_132 fl_X8_159 rfl rfl rfl ?_
              refine ev_bipush dX8_sumWith_135 (by decide) ?_
              refine ev_iload dX8_sumWith_137 rfl ?_
              refine ev_imul dX8_sumWith_139 ?_
              refine ev_iload_n dX8_sumWith_140 rfl ?_
              refine ev_iadd dX8_sumWith_141 ?_
              refine ev_iaload dX8_sumWith_142 rfl (by first | omega | (simp [wr_at]; omega) | (simp [wr_at, *]; omega)) (by first | omega | (simp [wr_at]; omega) | (simp [wr_at, *]; omega)) (by decide) ?_
              rw [eik]
              refine ev_aload_n dX8_sumWith_143 rfl ?_
              refine ev_getR (r := 128) dX8_sumWith_144 fl_X8_159 rfl rfl rfl ?_
              refine ev_bipush dX8_sumWith_147 (by decide) ?_
              refine ev_iload_n dX8_sumWith_149 rfl ?_
              refine ev_imul dX8_sumWith_150 ?_
              refine ev_iload dX8_sumWith_151 rfl ?_
              refine ev_iadd dX8_sumWith_153 ?_
              refine ev_iaload dX8_sumWith_154 rfl (by first | omega | (simp [wr_at]; omega) | (simp [wr_at, *]; omega)) (by first | omega | (simp [wr_at]; omega) | (simp [wr_at, *]; omega)) (by decide) ?_
              rw [ekj]
              refine ev_iadd dX8_sumWith_155 ?_
              refine ev_istore dX8_sumWith_156 rfl (by decide) rfl ?_
              refine ev_aload_n dX8_sumWith_158 rfl ?_
              refine ev_getR (r := 128) dX8_sumWith_159 fl_X8_159 rfl rfl rfl ?_
              refine ev_bipush dX8_sumWith_162 (by decide) ?_
              refine ev_iload dX8_sumWith_164 rfl ?_
              refine ev_imul dX8_sumWith_166 ?_
              refine ev_iload dX8_sumWith_167 rfl ?_
              refine ev_iadd dX8_sumWith_169 ?_
              refine ev_iload dX8_sumWith_170 rfl ?_
              refine ev_aload_n dX8_sumWith_172 rfl ?_
              refine ev_getR (r := 128) dX8_sumWith_173 fl_X8_159 rfl rfl rfl ?_
              refine ev_bipush dX8_sumWith_176 (by decide) ?_
              refine ev_iload dX8_sumWith_178 rfl ?_
              refine ev_imul dX8_sumWith_180 ?_
              refine ev_iload dX8_sumWith_181 rfl ?_
              refine ev_iadd dX8_sumWith_183 ?_
              refine ev_iaload dX8_sumWith_184 rfl (by first | omega | (simp [wr_at]; omega) | (simp [wr_at, *]; omega)) (by first | omega | (simp [wr_at]; omega) | (simp [wr_at, *]; omega)) (by decide) ?_
              rw [eij]
              refine ev_icmp_ge (tgt := 193) dX8_sumWith_185 (by decide) (by first | exact hR.1 _ _ | exact hR0.1 _ _ | assumption | exact ⟨by omega, by omega⟩ | exact ⟨by simp [wr_at]; omega, by simp [wr_at]; omega⟩ | exact b2_R _ | exact bC_R _ | exact band_R _ _ | exact bor_R _ _ | exact bshl_R _ _ | exact bshr_R _ _ | exact bxor_R _ _ | exact bs_R (by omega) | decide) (by first | exact hR.1 _ _ | exact hR0.1 _ _ | assumption | exact ⟨by omega, by omega⟩ | exact ⟨by simp [wr_at]; omega, by simp [wr_at]; omega⟩ | exact b2_R _ | exact bC_R _ | exact band_R _ _ | exact bor_R _ _ | exact bshl_R _ _ | exact bshr_R _ _ | exact bxor_R _ _ | exact bs_R (by omega) | decide) (fun h_185 => ?_) (fun h_185 => ?_)
              · refine ev_aload_n dX8_sumWith_193 rfl ?_
                refine ev_getR (r := 128) dX8_sumWith_194 fl_X8_159 rfl rfl rfl ?_
                refine ev_bipush dX8_sumWith_197 (by decide) ?_
                refine ev_iload dX8_sumWith_199 rfl ?_
                refine ev_imul dX8_sumWith_201 ?_
                refine ev_iload dX8_sumWith_202 rfl ?_
                refine ev_iadd dX8_sumWith_204 ?_
                refine ev_iaload dX8_sumWith_205 rfl (by first | omega | (simp [wr_at]; omega) | (simp [wr_at, *]; omega)) (by first | omega | (simp [wr_at]; omega) | (simp [wr_at, *]; omega)) (by decide) ?_
                try rw [eij]
                refine ev_iastore dX8_sumWith_206 rfl (by first | omega | (simp [wr_at]; omega) | (simp [wr_at, *]; omega)) (by first | omega | (simp [wr_at]; omega) | (simp [wr_at, *]; omega)) (by decide) (by first | exact hR.1 _ _ | exact hR0.1 _ _ | assumption | exact ⟨by omega, by omega⟩ | exact ⟨by simp [wr_at]; omega, by simp [wr_at]; omega⟩ | exact b2_R _ | exact bC_R _ | exact band_R _ _ | exact bor_R _ _ | exact bshl_R _ _ | exact bshr_R _ _ | exact bxor_R _ _ | exact bs_R (by omega) | decide) ?_
                refine ev_w (fun hR => ?_)
                refine ev_iinc dX8_sumWith_207 rfl rfl (by decide) rfl ?_
                refine ev_goto (tgt := 122) dX8_sumWith_210 (by decide) ?_
                refine fin9 _ ?_ _
                unfold fw1
                omega
              · refine ev_iload dX8_sumWith_188 rfl ?_
                refine ev_goto (tgt := 206) dX8_sumWith_190 (by decide) ?_
                try rw [eij]
                refine ev_iastore dX8_sumWith_206 rfl (by first | omega | (simp [wr_at]; omega) | (simp [wr_at, *]; omega)) (by first | omega | (simp [wr_at]; omega) | (simp [wr_at, *]; omega)) (by decide) (by first | exact hR.1 _ _ | exact hR0.1 _ _ | assumption | exact ⟨by omega, by omega⟩ | exact ⟨by simp [wr_at]; omega, by simp [wr_at]; omega⟩ | exact b2_R _ | exact bC_R _ | exact band_R _ _ | exact bor_R _ _ | exact bshl_R _ _ | exact bshr_R _ _ | exact bxor_R _ _ | exact bs_R (by omega) | decide) ?_
                refine ev_w (fun hR => ?_)
                refine ev_iinc dX8_sumWith_207 rfl rfl (by decide) rfl ?_
                refine ev_goto (tgt := 122) dX8_sumWith_210 (by decide) ?_
                refine fin9 _ ?_ _
                unfold fw1
                omega
          refine ev_iconst dX8_sumWith_119 ?_
          refine ev_istore dX8_sumWith_120 rfl (by decide) rfl ?_
          exact lo3 0 (by omega) ν hS hW _
      refine ev_iconst dX8_sumWith_107 ?_
      refine ev_istore dX8_sumWith_108 rfl (by decide) rfl ?_
      exact lo2 0 (by omega) ν hS (fun p q hp hq => by rw [hW p q hp hq, mid_0]) _ _
  have rps : ∀ r : Nat, r ≤ nr → ∀ ν, Same s128 μ ν → (∀ p q : Nat, p < 8 → q < 8 → ν.1 128 (8 * (p : Int) + q) = e1D f t c9 r p q) → ∀ x4 x5 x6, Ev RX8 cX8_sumWith 7 2 42 (AnsIP (sumPr (fwN E n) n n) (fun ν => Same s128 μ ν)) 40 [some (.ref 79), some (.int (iI a)), some (.int (iI b)), some (.int (iI (r : Nat))), x4, x5, x6] [] ν := by
    refine for_up nr (fun r hr ih => ?_)
    intro ν hS hW x4 x5 x6
    refine ev_w (fun hR => ?_)
    have hrp := hM.way hS
    have hMp2 : MOk ν σ P n nr nb nl mb w wt dv f t := ⟨hPO, hMO.2.1, hrp.2.1, by
      have := hMO.2.2.2
      unfold MDy at *
      rw [hS.1 79 (by unfold s128; decide), hS.1 95 (by unfold s128; decide), hS.1 96 (by unfold s128; decide), hS.1 97 (by unfold s128; decide), hS.1 98 (by unfold s128; decide), hS.1 99 (by unfold s128; decide), hS.1 100 (by unfold s128; decide), hS.1 101 (by unfold s128; decide), hS.1 102 (by unfold s128; decide), hS.1 103 (by unfold s128; decide), hS.1 104 (by unfold s128; decide), hS.1 105 (by unfold s128; decide), hS.1 106 (by unfold s128; decide)]
      exact this⟩
    have hcr : ν.1 79 4 = nr := hrp.2.1.1.2.1
    refine ev_iload_n dX8_sumWith_40 rfl ?_
    refine ev_aload_n dX8_sumWith_41 rfl ?_
    refine ev_getI (kz := 4) dX8_sumWith_42 fl_X8_184 rfl rfl rfl ?_
    rw [hcr]
    refine ev_icmp_ge (tgt := 85) dX8_sumWith_45 (by decide) (by first | exact hR.1 _ _ | exact hR0.1 _ _ | assumption | exact ⟨by omega, by omega⟩ | exact ⟨by simp [wr_at]; omega, by simp [wr_at]; omega⟩ | exact b2_R _ | exact bC_R _ | exact band_R _ _ | exact bor_R _ _ | exact bshl_R _ _ | exact bshr_R _ _ | exact bxor_R _ _ | exact bs_R (by omega) | decide) (by first | exact hR.1 _ _ | exact hR0.1 _ _ | assumption | exact ⟨by omega, by omega⟩ | exact ⟨by simp [wr_at]; omega, by simp [wr_at]; omega⟩ | exact b2_R _ | exact bC_R _ | exact band_R _ _ | exact bor_R _ _ | exact bshl_R _ _ | exact bshr_R _ _ | exact bxor_R _ _ | exact bs_R (by omega) | decide) (fun h_45 => ?_) (fun h_45 => ?_)
    · refine ev_aload_n dX8_sumWith_85 rfl ?_
      refine ev_iload_n dX8_sumWith_86 rfl ?_
      refine ev_iload_n dX8_sumWith_87 rfl ?_
      refine ev_aload_n dX8_sumWith_88 rfl ?_
      refine ev_iload_n dX8_sumWith_89 rfl ?_
      refine ev_iload_n dX8_sumWith_90 rfl ?_
      refine ev_callVI dX8_sumWith_91 kv_X8_436 (m_apart2 ν σ P n nr nb nl mb w wt dv f t hMp2 a b ha hb) rfl rfl (ci := 8) rfl rfl ⟨by decide, by decide⟩ (Nat.le_of_ble_eq_true rfl) ?_
      refine ev_w (fun hR => ?_)
      rw [hwd]
      refine ev_callVV dX8_sumWith_94 kv_X8_432 (m_shorten ν a b (by omega) (by omega) wd ⟨by omega, by omega⟩) rfl rfl (ci := 8) rfl rfl ⟨by decide, by decide⟩ (Nat.le_of_ble_eq_true rfl) ?_
      refine ev_w (fun hR => ?_)
      refine ev_iconst dX8_sumWith_97 ?_
      refine ev_istore_n dX8_sumWith_98 rfl (by decide) rfl ?_
      obtain rfl : r = nr := by omega
      refine all 0 (by omega) _ (shoM_same hS) (fun p q hp hq => ?_) _ _ _
      rw [shoM_at (by omega) (by omega) (by omega), hW p q (by omega) (by omega), hW a b (by omega) (by omega)]
      show _ = E p q
      rw [← hEE]
      unfold e2D
      by_cases e : (p = a ∧ q = b) ∨ (p = b ∧ q = a)
      · rw [if_pos e, if_pos e]
        rcases e with ⟨rfl, rfl⟩ | ⟨rfl, rfl⟩
        · omega
        · unfold e1D; rw [edg_sym r p q]; omega
      · rw [if_neg e, if_neg e]
    · have hrn : r < nr := by omega
      have hfr := hft r hrn
      have e83 : ν.1 83 (r : Int) = (f r : Int) := by rw [(hrp.2.1.2.2.1 r hrn).1, hfr.1]
      have e84 : ν.1 84 (r : Int) = (t r : Int) := by rw [(hrp.2.1.2.2.1 r hrn).2.1, hfr.2.1]
      have e85 : ν.1 85 (r : Int) = σ.1 (P + 7) r := (hrp.2.1.2.2.1 r hrn).2.2.1
      have ecut := (hrp.2.2 r hrn).2
      have hfe := (hro r hrn).1
      have hc9 : c9 r = if w.testBit r then σ.1 (P + 7) r else -1 := by rw [← hcF]; rfl
      have est : ∀ p q, edg f t c9 (r + 1) p q = (if c9 r ≠ -1 ∧ ((p = f r ∧ q = t r) ∨ (p = t r ∧ q = f r)) then min (edg f t c9 r p q) (c9 r) else edg f t c9 r p q) := fun p q => rfl
      refine ev_aload_n dX8_sumWith_48 rfl ?_
      refine ev_getR (r := 97) dX8_sumWith_49 fl_X8_62 rfl rfl rfl ?_
      refine ev_iload_n dX8_sumWith_52 rfl ?_
      refine ev_zaload dX8_sumWith_53 rfl (by first | omega | (simp [wr_at]; omega) | (simp [wr_at, *]; omega)) (by first | omega | (simp [wr_at]; omega) | (simp [wr_at, *]; omega)) (by decide) ?_
      rw [ecut]
      refine ev_if_ne (tgt := 79) dX8_sumWith_54 (by decide) (by first | exact hR.1 _ _ | exact hR0.1 _ _ | assumption | exact ⟨by omega, by omega⟩ | exact ⟨by simp [wr_at]; omega, by simp [wr_at]; omega⟩ | exact b2_R _ | exact bC_R _ | exact band_R _ _ | exact bor_R _ _ | exact bshl_R _ _ | exact bshr_R _ _ | exact bxor_R _ _ | exact bs_R (by omega) | decide) (fun h_54 => ?_) (fun h_54 => ?_)
      · refine ev_iinc dX8_sumWith_79 rfl rfl (by decide) rfl ?_
        refine ev_goto (tgt := 40) dX8_sumWith_82 (by decide) ?_
        first
          | (have q9 := b2_ne h_54
             rw [if_neg (by rw [q9]; decide)] at hc9
             refine ih (by omega) ν hS (fun p q hp hq => ?_) _ _ _
             rw [hW p q hp hq]
             unfold e1D
             rw [est, if_neg (fun z => z.1 hc9)])
          | (have q9 : w.testBit r = true := by simpa using b2_eq h_54
             rw [if_pos q9] at hc9
             refine ih (by omega) _ (shoM_same hS) (fun p q hp hq => ?_) _ _ _
             rw [shoM_at (by omega) (by omega) hq, hW p q hp hq, hW (f r) (t r) (by omega) (by omega)]
             unfold e1D
             rw [est]
             by_cases e : (p = f r ∧ q = t r) ∨ (p = t r ∧ q = f r)
             · rw [if_pos e, if_pos ⟨by omega, e⟩, hc9]
               rcases e with ⟨rfl, rfl⟩ | ⟨rfl, rfl⟩
               · omega
               · rw [edg_sym r (t r) (f r)]; omega
             · rw [if_neg e, if_neg (fun z => e z.2)])
      · refine ev_aload_n dX8_sumWith_57 rfl ?_
        refine ev_aload_n dX8_sumWith_58 rfl ?_
        refine ev_getR (r := 83) dX8_sumWith_59 fl_X8_19 rfl rfl rfl ?_
        refine ev_iload_n dX8_sumWith_62 rfl ?_
        refine ev_iaload dX8_sumWith_63 rfl (by first | omega | (simp [wr_at]; omega) | (simp [wr_at, *]; omega)) (by first | omega | (simp [wr_at]; omega) | (simp [wr_at, *]; omega)) (by decide) ?_
        rw [e83]
        refine ev_aload_n dX8_sumWith_64 rfl ?_
        refine ev_getR (r := 84) dX8_sumWith_65 fl_X8_22 rfl rfl rfl ?_
        refine ev_iload_n dX8_sumWith_68 rfl ?_
        refine ev_iaload dX8_sumWith_69 rfl (by first | omega | (simp [wr_at]; omega) | (simp [wr_at, *]; omega)) (by first | omega | (simp [wr_at]; omega) | (simp [wr_at, *]; omega)) (by decide) ?_
        rw [e84]
        refine ev_aload_n dX8_sumWith_70 rfl ?_
        refine ev_getR (r := 85) dX8_sumWith_71 fl_X8_25 rfl rfl rfl ?_
        refine ev_iload_n dX8_sumWith_74 rfl ?_
        refine ev_iaload dX8_sumWith_75 rfl (by first | omega | (simp [wr_at]; omega) | (simp [wr_at, *]; omega)) (by first | omega | (simp [wr_at]; omega) | (simp [wr_at, *]; omega)) (by decide) ?_
        rw [e85]
        refine ev_callVV dX8_sumWith_76 kv_X8_432 (m_shorten ν (f r) (t r) (by omega) (by omega) _ ⟨by omega, by omega⟩) rfl rfl (ci := 8) rfl rfl ⟨by decide, by decide⟩ (Nat.le_of_ble_eq_true rfl) ?_
        refine ev_w (fun hR => ?_)
        refine ev_iinc dX8_sumWith_79 rfl rfl (by decide) rfl ?_
        refine ev_goto (tgt := 40) dX8_sumWith_82 (by decide) ?_
        first
          | (have q9 := b2_ne h_54
             rw [if_neg (by rw [q9]; decide)] at hc9
             refine ih (by omega) ν hS (fun p q hp hq => ?_) _ _ _
             rw [hW p q hp hq]
             unfold e1D
             rw [est, if_neg (fun z => z.1 hc9)])
          | (have q9 : w.testBit r = true := by simpa using b2_eq h_54
             rw [if_pos q9] at hc9
             refine ih (by omega) _ (shoM_same hS) (fun p q hp hq => ?_) _ _ _
             rw [shoM_at (by omega) (by omega) hq, hW p q hp hq, hW (f r) (t r) (by omega) (by omega)]
             unfold e1D
             rw [est]
             by_cases e : (p = f r ∧ q = t r) ∨ (p = t r ∧ q = f r)
             · rw [if_pos e, if_pos ⟨by omega, e⟩, hc9]
               rcases e with ⟨rfl, rfl⟩ | ⟨rfl, rfl⟩
               · omega
               · rw [edg_sym r (t r) (f r)]; omega
             · rw [if_neg e, if_neg (fun z => e z.2)])
  have ini : ∀ k : Nat, k ≤ 64 → ∀ ν, Same s128 μ ν → (∀ j : Nat, j < k → ν.1 128 j = if j / 8 = j % 8 then 0 else 999) → Ev RX8 cX8_sumWith 7 2 42 (AnsIP (sumPr (fwN E n) n n) (fun ν => Same s128 μ ν)) 2 [some (.ref 79), some (.int (iI a)), some (.int (iI b)), some (.int (iI (k : Nat))), none, none, none] [] ν := by
    refine for_up 64 (fun k hk ih => ?_)
    intro ν hS hW
    refine ev_w (fun hR => ?_)
    refine ev_iload_n dX8_sumWith_2 rfl ?_
    refine ev_bipush dX8_sumWith_3 (by decide) ?_
    refine ev_icmp_ge (tgt := 38) dX8_sumWith_5 (by decide) (by first | exact hR.1 _ _ | exact hR0.1 _ _ | assumption | exact ⟨by omega, by omega⟩ | exact ⟨by simp [wr_at]; omega, by simp [wr_at]; omega⟩ | exact b2_R _ | exact bC_R _ | exact band_R _ _ | exact bor_R _ _ | exact bshl_R _ _ | exact bshr_R _ _ | exact bxor_R _ _ | exact bs_R (by omega) | decide) (by first | exact hR.1 _ _ | exact hR0.1 _ _ | assumption | exact ⟨by omega, by omega⟩ | exact ⟨by simp [wr_at]; omega, by simp [wr_at]; omega⟩ | exact b2_R _ | exact bC_R _ | exact band_R _ _ | exact bor_R _ _ | exact bshl_R _ _ | exact bshr_R _ _ | exact bxor_R _ _ | exact bs_R (by omega) | decide) (fun h_5 => ?_) (fun h_5 => ?_)
    · refine ev_iconst dX8_sumWith_38 ?_
      refine ev_istore_n dX8_sumWith_39 rfl (by decide) rfl ?_
      obtain rfl : k = 64 := by omega
      refine rps 0 (by omega) ν hS (fun p q hp hq => ?_) _ _ _
      have q9 := hW (8 * p + q) (by omega)
      rw [show ((8 * p + q : Nat) : Int) = 8 * (p : Int) + q by omega] at q9
      rw [q9]
      show _ = min (if p = q then (0 : Int) else 1000000) 999
      by_cases e : p = q
      · rw [if_pos (by omega), if_pos e]; decide
      · rw [if_neg (by omega), if_neg e]; decide
    · refine ev_aload_n dX8_sumWith_8 rfl ?_
      refine ev_getR (r := 128) dX8_sumWith_9 fl_X8_159 rfl rfl rfl ?_
      refine ev_iload_n dX8_sumWith_12 rfl ?_
      refine ev_iload_n dX8_sumWith_13 rfl ?_
      refine ev_bipush dX8_sumWith_14 (by decide) ?_
      refine ev_idiv dX8_sumWith_16 (by first | exact hR.1 _ _ | exact hR0.1 _ _ | assumption | exact ⟨by omega, by omega⟩ | exact ⟨by simp [wr_at]; omega, by simp [wr_at]; omega⟩ | exact b2_R _ | exact bC_R _ | exact band_R _ _ | exact bor_R _ _ | exact bshl_R _ _ | exact bshr_R _ _ | exact bxor_R _ _ | exact bs_R (by omega) | decide) (by first | exact hR.1 _ _ | exact hR0.1 _ _ | assumption | exact ⟨by omega, by omega⟩ | exact ⟨by simp [wr_at]; omega, by simp [wr_at]; omega⟩ | exact b2_R _ | exact bC_R _ | exact band_R _ _ | exact bor_R _ _ | exact bshl_R _ _ | exact bshr_R _ _ | exact bxor_R _ _ | exact bs_R (by omega) | decide) (by omega) (by omega) ?_
      refine ev_iload_n dX8_sumWith_17 rfl ?_
      refine ev_bipush dX8_sumWith_18 (by decide) ?_
      refine ev_irem dX8_sumWith_20 (by first | exact hR.1 _ _ | exact hR0.1 _ _ | assumption | exact ⟨by omega, by omega⟩ | exact ⟨by simp [wr_at]; omega, by simp [wr_at]; omega⟩ | exact b2_R _ | exact bC_R _ | exact band_R _ _ | exact bor_R _ _ | exact bshl_R _ _ | exact bshr_R _ _ | exact bxor_R _ _ | exact bs_R (by omega) | decide) (by first | exact hR.1 _ _ | exact hR0.1 _ _ | assumption | exact ⟨by omega, by omega⟩ | exact ⟨by simp [wr_at]; omega, by simp [wr_at]; omega⟩ | exact b2_R _ | exact bC_R _ | exact band_R _ _ | exact bor_R _ _ | exact bshl_R _ _ | exact bshr_R _ _ | exact bxor_R _ _ | exact bs_R (by omega) | decide) (by omega) (by omega) ?_
      refine ev_icmp_ne (tgt := 28) dX8_sumWith_21 (by decide) (by rw [Int.tdiv_eq_ediv_of_nonneg (by omega)]; exact ⟨by omega, by omega⟩) (by rw [Int.tmod_eq_emod_of_nonneg (by omega)]; exact ⟨by omega, by omega⟩) (fun h_21 => ?_) (fun h_21 => ?_)
      · rw [Int.tdiv_eq_ediv_of_nonneg (by omega), Int.tmod_eq_emod_of_nonneg (by omega)] at h_21
        refine ev_sipush dX8_sumWith_28 (by decide) ?_
        refine ev_iastore dX8_sumWith_31 rfl (by first | omega | (simp [wr_at]; omega) | (simp [wr_at, *]; omega)) (by first | omega | (simp [wr_at]; omega) | (simp [wr_at, *]; omega)) (by decide) (by first | exact hR.1 _ _ | exact hR0.1 _ _ | assumption | exact ⟨by omega, by omega⟩ | exact ⟨by simp [wr_at]; omega, by simp [wr_at]; omega⟩ | exact b2_R _ | exact bC_R _ | exact band_R _ _ | exact bor_R _ _ | exact bshl_R _ _ | exact bshr_R _ _ | exact bxor_R _ _ | exact bs_R (by omega) | decide) ?_
        refine ev_w (fun hR => ?_)
        refine ev_iinc dX8_sumWith_32 rfl rfl (by decide) rfl ?_
        refine ev_goto (tgt := 2) dX8_sumWith_35 (by decide) ?_
        refine ih (by omega) _ (hS.wr rfl) (fun j hj => ?_)
        rw [wr_at]
        by_cases e : j = k
        · subst e
          first
            | rw [if_pos ⟨rfl, rfl⟩, if_pos (by omega)]
            | rw [if_pos ⟨rfl, rfl⟩, if_neg (by omega)]
        · rw [if_neg (by omega)]
          exact hW j (by omega)
      · rw [Int.tdiv_eq_ediv_of_nonneg (by omega), Int.tmod_eq_emod_of_nonneg (by omega)] at h_21
        refine ev_iconst dX8_sumWith_24 ?_
        refine ev_goto (tgt := 31) dX8_sumWith_25 (by decide) ?_
        refine ev_iastore dX8_sumWith_31 rfl (by first | omega | (simp [wr_at]; omega) | (simp [wr_at, *]; omega)) (by first | omega | (simp [wr_at]; omega) | (simp [wr_at, *]; omega)) (by decide) (by first | exact hR.1 _ _ | exact hR0.1 _ _ | assumption | exact ⟨by omega, by omega⟩ | exact ⟨by simp [wr_at]; omega, by simp [wr_at]; omega⟩ | exact b2_R _ | exact bC_R _ | exact band_R _ _ | exact bor_R _ _ | exact bshl_R _ _ | exact bshr_R _ _ | exact bxor_R _ _ | exact bs_R (by omega) | decide) ?_
        refine ev_w (fun hR => ?_)
        refine ev_iinc dX8_sumWith_32 rfl rfl (by decide) rfl ?_
        refine ev_goto (tgt := 2) dX8_sumWith_35 (by decide) ?_
        refine ih (by omega) _ (hS.wr rfl) (fun j hj => ?_)
        rw [wr_at]
        by_cases e : j = k
        · subst e
          first
            | rw [if_pos ⟨rfl, rfl⟩, if_pos (by omega)]
            | rw [if_pos ⟨rfl, rfl⟩, if_neg (by omega)]
        · rw [if_neg (by omega)]
          exact hW j (by omega)
  refine ev_iconst dX8_sumWith_0 ?_
  refine ev_istore_n dX8_sumWith_1 rfl (by decide) rfl ?_
  exact ini 0 (by omega) μ Same.rf (fun j hj => by omega)
