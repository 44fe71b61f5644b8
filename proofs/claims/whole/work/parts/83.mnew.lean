theorem MOk.way {μ ν σ : Mem} {P n nr nb nl mb w wt dv : Nat} {f t : Nat → Nat} (hMO : MOk μ σ P n nr nb nl mb w wt dv f t) (hS : Same s128 μ ν) : MOk ν σ P n nr nb nl mb w wt dv f t := ⟨hMO.1, hMO.2.1, (hMO.rp.way hS).2.1, by
  have := hMO.2.2.2
  unfold MDy at *
  rw [hS.1 79 (by unfold s128; decide), hS.1 95 (by unfold s128; decide), hS.1 96 (by unfold s128; decide), hS.1 97 (by unfold s128; decide), hS.1 98 (by unfold s128; decide), hS.1 99 (by unfold s128; decide), hS.1 100 (by unfold s128; decide), hS.1 101 (by unfold s128; decide), hS.1 102 (by unfold s128; decide), hS.1 103 (by unfold s128; decide), hS.1 104 (by unfold s128; decide), hS.1 105 (by unfold s128; decide), hS.1 106 (by unfold s128; decide)]
  exact this⟩
def bpZ (B : Int) : Int := if B = -1 then -1 else B % 64
def lsZ (B : Int) : Int := if B = -1 then 0 else B / 64
set_option maxHeartbeats 4000000 in
theorem m_newRope (μ σ : Mem) (P n nr nb nl mb w wt dv : Nat) (f t : Nat → Nat) (hMO : MOk μ σ P n nr nb nl mb w wt dv f t) (x : Int) (hx : inR x) : Con yX8_newRope cX8_newRope 8 (some .int) 3 68 [.ref 79, .int (iI x)] μ (AnsIP (newZ (bestN (apartZ σ (P + 1) (P + 2)) (dstF f t (fun r => σ.1 (P + 7) r) n nr w) f t n nr w n) x) (fun ν => Same s128 μ ν)) := by
  refine con_of (by decide) rfl (Nat.le_of_ble_eq_true rfl) (ok_IP rfl) ?_
  refine ev_w (fun hR => ?_)
  have hR0 := hR
  have hM := hMO.rp
  obtain ⟨hPO, hMP, hwc⟩ := id hM
  obtain ⟨hPR, ⟨hnb, hnb4⟩, ⟨hnl, hnl4⟩, hpo, hro, hbo, hlo⟩ := id hPO
  obtain ⟨hP, hn, hn8, hnr, hnr12, hft⟩ := id hPR
  obtain ⟨⟨cn, cr, cb, cl⟩, mp, mr, mbo, ml⟩ := id hMP
  have hok := dstF_ok hPO w
  have hsw := fun ν (hS : Same s128 μ ν) a b ha hb hab h1 h99 => m_sumWith ν σ P n nr nb nl mb w wt dv f t (hMO.way hS) a b ha hb hab h1 h99
  have haR := fun (p q : Nat) (hp : p < n) (hq : q < n) => apart_R hPO hp hq
  have hap := fun ν (hS : Same s128 μ ν) p q hp hq => m_apart2 ν σ P n nr nb nl mb w wt dv f t (hMO.way hS) p q hp hq
  generalize hA9 : (apartZ σ (P + 1) (P + 2)) = A at *
  generalize hD9 : (dstF f t (fun r => σ.1 (P + 7) r) n nr w) = D at *
  have hsR : ∀ p q : Nat, p < n → q < n → 1 ≤ A p q → 0 ≤ sumN A D n p q ∧ sumN A D n p q ≤ 28200000 := by
    intro p q hp hq h1
    have z := codeN_R (A := A) hok hn8 hp hq h1
    unfold codeN at z
    omega
  have hbr := bestN_R (A := A) (f := f) (t := t) (nr := nr) (w := w) hok hn8
  have rowP : ∀ (acc : Int) (p j : Nat), p < n → j ≤ n - (p + 1) → (acc = -1 ∨ (0 ≤ acc ∧ acc % 64 < 8 * p)) → (rowN A D f t n nr w acc p j = -1 ∨ (0 ≤ rowN A D f t n nr w acc p j ∧ rowN A D f t n nr w acc p j % 64 < 8 * p + (p + 1 + j))) := by
    intro acc p j hp
    induction j with
    | zero => intro _ h; rw [rowN]; omega
    | succ j ih =>
      intro hj h
      have i := ih (by omega) h
      rw [rowN]
      unfold stepN
      split
      next q9 =>
        have hk : 1 ≤ A p (p + 1 + j : Nat) := by
          have z : okN A f t nr w p (p + 1 + j) := by
            refine Classical.byContradiction (fun y => ?_)
            have q1 := q9.1
            rw [dC_f y] at q1
            exact absurd q1 (by decide)
          exact z.1
        have z := hsR p (p + 1 + j) hp (by omega) hk
        unfold codeN
        omega
      next => omega
  have bestP : ∀ p, p ≤ n → (bestN A D f t n nr w p = -1 ∨ (0 ≤ bestN A D f t n nr w p ∧ bestN A D f t n nr w p % 64 < 8 * p)) := by
    intro p
    induction p with
    | zero => intro _; exact Or.inl rfl
    | succ p ih =>
      intro hp
      have z := rowP _ p (n - (p + 1)) (by omega) (Nat.le_refl _) (ih (by omega))
      rw [bestN]
      omega
  have loop : (0 ≤ x ∧ x ≤ 2) → ∀ p : Nat, p ≤ n → ∀ ν, Same s128 μ ν → ∀ x5 x6 x7, Ev RX8 cX8_newRope 8 3 68 (AnsIP (newZ (bestN A D f t n nr w n) x) (fun ν => Same s128 μ ν)) 22 [some (.ref 79), some (.int (iI x)), some (.int (iI (bpZ (bestN A D f t n nr w p)))), some (.int (iI (lsZ (bestN A D f t n nr w p)))), some (.int (iI (p : Nat))), x5, x6, x7] [] ν := by
    intro hx9
    refine for_up n (fun p hp ih => ?_)
    intro ν hS x5 x6 x7
    refine ev_w (fun hR => ?_)
    have hcn : ν.1 79 0 = n := (hM.way hS).2.1.1.1
    have hbp := bestP p hp
    have hb2 := hbr.2 p hp
    refine ev_iload dX8_newRope_22 rfl ?_
    refine ev_aload_n dX8_newRope_24 rfl ?_
    refine ev_getI (kz := 0) dX8_newRope_25 fl_X8_177 rfl rfl rfl ?_
    rw [hcn]
    refine ev_icmp_ge (tgt := 145) dX8_newRope_28 (by decide) (by first | exact hR.1 _ _ | exact hR0.1 _ _ | assumption | exact ⟨by omega, by omega⟩ | exact ⟨by simp [wr_at]; omega, by simp [wr_at]; omega⟩ | exact b2_R _ | exact bC_R _ | exact band_R _ _ | exact bor_R _ _ | exact bshl_R _ _ | exact bshr_R _ _ | exact bxor_R _ _ | exact bs_R (by omega) | decide) (by first | exact hR.1 _ _ | exact hR0.1 _ _ | assumption | exact ⟨by omega, by omega⟩ | exact ⟨by simp [wr_at]; omega, by simp [wr_at]; omega⟩ | exact b2_R _ | exact bC_R _ | exact band_R _ _ | exact bor_R _ _ | exact bshl_R _ _ | exact bshr_R _ _ | exact bxor_R _ _ | exact bs_R (by omega) | decide) (fun h_28 => ?_) (fun h_28 => ?_)
    · have hbz9 : -1 ≤ bpZ (bestN A D f t n nr w p) ∧ bpZ (bestN A D f t n nr w p) ≤ 64 ∧ inR (lsZ (bestN A D f t n nr w p)) := by
        unfold bpZ lsZ
        split
        · exact ⟨by omega, by omega, by decide⟩
        · exact ⟨by omega, by omega, by omega, by omega⟩
      refine ev_iload_n dX8_newRope_145 rfl ?_
      refine ev_if_ge (tgt := 153) dX8_newRope_146 (by decide) ⟨by omega, by omega⟩ (fun h_146 => ?_) (fun h_146 => ?_)
      · refine ev_iload_n dX8_newRope_153 rfl ?_
        refine ev_if_ne (tgt := 164) dX8_newRope_154 (by decide) (by first | exact hR.1 _ _ | exact hR0.1 _ _ | assumption | exact ⟨by omega, by omega⟩ | exact ⟨by simp [wr_at]; omega, by simp [wr_at]; omega⟩ | exact b2_R _ | exact bC_R _ | exact band_R _ _ | exact bor_R _ _ | exact bshl_R _ _ | exact bshr_R _ _ | exact bxor_R _ _ | exact bs_R (by omega) | decide) (fun h_154 => ?_) (fun h_154 => ?_)
        · refine ev_iload_n dX8_newRope_164 rfl ?_
          refine ev_iconst dX8_newRope_165 ?_
          refine ev_icmp_ne (tgt := 176) dX8_newRope_166 (by decide) (by first | exact hR.1 _ _ | exact hR0.1 _ _ | assumption | exact ⟨by omega, by omega⟩ | exact ⟨by simp [wr_at]; omega, by simp [wr_at]; omega⟩ | exact b2_R _ | exact bC_R _ | exact band_R _ _ | exact bor_R _ _ | exact bshl_R _ _ | exact bshr_R _ _ | exact bxor_R _ _ | exact bs_R (by omega) | decide) (by first | exact hR.1 _ _ | exact hR0.1 _ _ | assumption | exact ⟨by omega, by omega⟩ | exact ⟨by simp [wr_at]; omega, by simp [wr_at]; omega⟩ | exact b2_R _ | exact bC_R _ | exact band_R _ _ | exact bor_R _ _ | exact bshl_R _ _ | exact bshr_R _ _ | exact bxor_R _ _ | exact bs_R (by omega) | decide) (fun h_166 => ?_) (fun h_166 => ?_)
          · refine ev_iload_n dX8_newRope_176 rfl ?_
            refine ev_ireturn dX8_newRope_177 ?_
            have hB := bestP p hp
            obtain rfl : p = n := by omega
            unfold newZ
            rw [if_neg (fun z => z hx9)]
            generalize hac : bestN A D f t p nr w p = B at *
            have hbz : (B = -1 ∧ bpZ B = -1 ∧ lsZ B = 0) ∨ (0 ≤ B ∧ bpZ B = B % 64 ∧ lsZ B = B / 64) := by
              unfold bpZ lsZ
              rcases hB with h | h
              · exact Or.inl ⟨h, if_pos h, if_pos h⟩
              · exact Or.inr ⟨h.1, if_neg (by omega), if_neg (by omega)⟩
            first
              | (rw [if_pos (by omega)]; exact ⟨rfl, hS⟩)
              | (rw [if_neg (by omega), if_pos (by omega)]
                 refine ⟨?_, hS⟩
                 have e : (bpZ B).tdiv 8 = (B.tdiv 8).tmod 8 := by
                   rw [Int.tdiv_eq_ediv_of_nonneg (by omega), Int.tdiv_eq_ediv_of_nonneg (by omega), Int.tmod_eq_emod_of_nonneg (by omega)]
                   omega
                 rw [e])
              | (rw [if_neg (by omega), if_neg (by omega), if_pos (by omega)]
                 refine ⟨?_, hS⟩
                 have e : (bpZ B).tmod 8 = B.tmod 8 := by
                   rw [Int.tmod_eq_emod_of_nonneg (by omega), Int.tmod_eq_emod_of_nonneg (by omega)]
                   omega
                 rw [e])
              | (rw [if_neg (by omega), if_neg (by omega), if_neg (by omega)]
                 refine ⟨?_, hS⟩
                 have e : lsZ B = B.tdiv 64 := by
                   rw [Int.tdiv_eq_ediv_of_nonneg (by omega)]
                   omega
                 rw [e])
          · refine ev_iload_n dX8_newRope_169 rfl ?_
            refine ev_bipush dX8_newRope_170 (by decide) ?_
            refine ev_irem dX8_newRope_172 ⟨by omega, by omega⟩ (by decide) (by omega) (by omega) ?_
            refine ev_goto (tgt := 177) dX8_newRope_173 (by decide) ?_
            refine ev_ireturn dX8_newRope_177 ?_
            have hB := bestP p hp
            obtain rfl : p = n := by omega
            unfold newZ
            rw [if_neg (fun z => z hx9)]
            generalize hac : bestN A D f t p nr w p = B at *
            have hbz : (B = -1 ∧ bpZ B = -1 ∧ lsZ B = 0) ∨ (0 ≤ B ∧ bpZ B = B % 64 ∧ lsZ B = B / 64) := by
              unfold bpZ lsZ
              rcases hB with h | h
              · exact Or.inl ⟨h, if_pos h, if_pos h⟩
              · exact Or.inr ⟨h.1, if_neg (by omega), if_neg (by omega)⟩
            first
              | (rw [if_pos (by omega)]; exact ⟨rfl, hS⟩)
              | (rw [if_neg (by omega), if_pos (by omega)]
                 refine ⟨?_, hS⟩
                 have e : (bpZ B).tdiv 8 = (B.tdiv 8).tmod 8 := by
                   rw [Int.tdiv_eq_ediv_of_nonneg (by omega), Int.tdiv_eq_ediv_of_nonneg (by omega), Int.tmod_eq_emod_of_nonneg (by omega)]
                   omega
                 rw [e])
              | (rw [if_neg (by omega), if_neg (by omega), if_pos (by omega)]
                 refine ⟨?_, hS⟩
                 have e : (bpZ B).tmod 8 = B.tmod 8 := by
                   rw [Int.tmod_eq_emod_of_nonneg (by omega), Int.tmod_eq_emod_of_nonneg (by omega)]
                   omega
                 rw [e])
              | (rw [if_neg (by omega), if_neg (by omega), if_neg (by omega)]
                 refine ⟨?_, hS⟩
                 have e : lsZ B = B.tdiv 64 := by
                   rw [Int.tdiv_eq_ediv_of_nonneg (by omega)]
                   omega
                 rw [e])
        · refine ev_iload_n dX8_newRope_157 rfl ?_
          refine ev_bipush dX8_newRope_158 (by decide) ?_
          refine ev_idiv dX8_newRope_160 ⟨by omega, by omega⟩ (by decide) (by omega) (by omega) ?_
          refine ev_goto (tgt := 177) dX8_newRope_161 (by decide) ?_
          refine ev_ireturn dX8_newRope_177 ?_
          have hB := bestP p hp
          obtain rfl : p = n := by omega
          unfold newZ
          rw [if_neg (fun z => z hx9)]
          generalize hac : bestN A D f t p nr w p = B at *
          have hbz : (B = -1 ∧ bpZ B = -1 ∧ lsZ B = 0) ∨ (0 ≤ B ∧ bpZ B = B % 64 ∧ lsZ B = B / 64) := by
            unfold bpZ lsZ
            rcases hB with h | h
            · exact Or.inl ⟨h, if_pos h, if_pos h⟩
            · exact Or.inr ⟨h.1, if_neg (by omega), if_neg (by omega)⟩
          first
            | (rw [if_pos (by omega)]; exact ⟨rfl, hS⟩)
            | (rw [if_neg (by omega), if_pos (by omega)]
               refine ⟨?_, hS⟩
               have e : (bpZ B).tdiv 8 = (B.tdiv 8).tmod 8 := by
                 rw [Int.tdiv_eq_ediv_of_nonneg (by omega), Int.tdiv_eq_ediv_of_nonneg (by omega), Int.tmod_eq_emod_of_nonneg (by omega)]
                 omega
               rw [e])
            | (rw [if_neg (by omega), if_neg (by omega), if_pos (by omega)]
               refine ⟨?_, hS⟩
               have e : (bpZ B).tmod 8 = B.tmod 8 := by
                 rw [Int.tmod_eq_emod_of_nonneg (by omega), Int.tmod_eq_emod_of_nonneg (by omega)]
                 omega
               rw [e])
            | (rw [if_neg (by omega), if_neg (by omega), if_neg (by omega)]
               refine ⟨?_, hS⟩
               have e : lsZ B = B.tdiv 64 := by
                 rw [Int.tdiv_eq_ediv_of_nonneg (by omega)]
                 omega
               rw [e])
      · refine ev_iconst dX8_newRope_149 ?_
        refine ev_goto (tgt := 177) dX8_newRope_150 (by decide) ?_
        refine ev_ireturn dX8_newRope_177 ?_
        have hB := bestP p hp
        obtain rfl : p = n := by omega
        unfold newZ
        rw [if_neg (fun z => z hx9)]
        generalize hac : bestN A D f t p nr w p = B at *
        have hbz : (B = -1 ∧ bpZ B = -1 ∧ lsZ B = 0) ∨ (0 ≤ B ∧ bpZ B = B % 64 ∧ lsZ B = B / 64) := by
          unfold bpZ lsZ
          rcases hB with h | h
          · exact Or.inl ⟨h, if_pos h, if_pos h⟩
          · exact Or.inr ⟨h.1, if_neg (by omega), if_neg (by omega)⟩
        first
          | (rw [if_pos (by omega)]; exact ⟨rfl, hS⟩)
          | (rw [if_neg (by omega), if_pos (by omega)]
             refine ⟨?_, hS⟩
             have e : (bpZ B).tdiv 8 = (B.tdiv 8).tmod 8 := by
               rw [Int.tdiv_eq_ediv_of_nonneg (by omega), Int.tdiv_eq_ediv_of_nonneg (by omega), Int.tmod_eq_emod_of_nonneg (by omega)]
               omega
             rw [e])
          | (rw [if_neg (by omega), if_neg (by omega), if_pos (by omega)]
             refine ⟨?_, hS⟩
             have e : (bpZ B).tmod 8 = B.tmod 8 := by
               rw [Int.tmod_eq_emod_of_nonneg (by omega), Int.tmod_eq_emod_of_nonneg (by omega)]
               omega
             rw [e])
          | (rw [if_neg (by omega), if_neg (by omega), if_neg (by omega)]
             refine ⟨?_, hS⟩
             have e : lsZ B = B.tdiv 64 := by
               rw [Int.tdiv_eq_ediv_of_nonneg (by omega)]
               omega
             rw [e])
    · have hpn : p < n := by omega
      have hsuc : bestN A D f t n nr w (p + 1) = rowN A D f t n nr w (bestN A D f t n nr w p) p (n - (p + 1)) := rfl
      have hrp := fun j hj => rowP _ p j hpn hj hbp
      have hrr := fun j hj => hbr.1 p j _ hpn hj hb2
      rw [hsuc] at ih
      generalize hac : bestN A D f t n nr w p = acc at *
      have row : ∀ j : Nat, j ≤ n - (p + 1) → ∀ ν, Same s128 μ ν → ∀ x6 x7, Ev RX8 cX8_newRope 8 3 68 (AnsIP (newZ (bestN A D f t n nr w n) x) (fun ν => Same s128 μ ν)) 37 [some (.ref 79), some (.int (iI x)), some (.int (iI (bpZ (rowN A D f t n nr w acc p j)))), some (.int (iI (lsZ (rowN A D f t n nr w acc p j)))), some (.int (iI (p : Nat))), some (.int (iI ((p : Nat) + 1 + (j : Nat) : Int))), x6, x7] [] ν := by
        refine for_up (n - (p + 1)) (fun j hj ihj => ?_)
        intro ν hS x6 x7
        refine ev_w (fun hR => ?_)
        have hcn : ν.1 79 0 = n := (hM.way hS).2.1.1.1
        have hB := hrp j hj
        have hB2 := hrr j hj
        have hrs : rowN A D f t n nr w acc p (j + 1) = stepN A D f t n nr w (rowN A D f t n nr w acc p j) p (p + 1 + j) := rfl
        rw [hrs] at ihj
        generalize hB9 : rowN A D f t n nr w acc p j = B at *
        have hbz : (B = -1 ∧ bpZ B = -1 ∧ lsZ B = 0) ∨ (0 ≤ B ∧ bpZ B = B % 64 ∧ lsZ B = B / 64) := by
          unfold bpZ lsZ
          rcases hB with h | h
          · exact Or.inl ⟨h, if_pos h, if_pos h⟩
          · exact Or.inr ⟨h.1, if_neg (by omega), if_neg (by omega)⟩
        refine ev_iload dX8_newRope_37 rfl ?_
        refine ev_aload_n dX8_newRope_39 rfl ?_
        refine ev_getI (kz := 0) dX8_newRope_40 fl_X8_177 rfl rfl rfl ?_
        rw [hcn]
        refine ev_icmp_ge (tgt := 139) dX8_newRope_43 (by decide) (by first | exact hR.1 _ _ | exact hR0.1 _ _ | assumption | exact ⟨by omega, by omega⟩ | exact ⟨by simp [wr_at]; omega, by simp [wr_at]; omega⟩ | exact b2_R _ | exact bC_R _ | exact band_R _ _ | exact bor_R _ _ | exact bshl_R _ _ | exact bshr_R _ _ | exact bxor_R _ _ | exact bs_R (by omega) | decide) (by first | exact hR.1 _ _ | exact hR0.1 _ _ | assumption | exact ⟨by omega, by omega⟩ | exact ⟨by simp [wr_at]; omega, by simp [wr_at]; omega⟩ | exact b2_R _ | exact bC_R _ | exact band_R _ _ | exact bor_R _ _ | exact bshl_R _ _ | exact bshr_R _ _ | exact bxor_R _ _ | exact bs_R (by omega) | decide) (fun h_43 => ?_) (fun h_43 => ?_)
        · refine ev_iinc dX8_newRope_139 rfl rfl (by decide) rfl ?_
          refine ev_goto (tgt := 22) dX8_newRope_142 (by decide) ?_
          obtain rfl : j = n - (p + 1) := by omega
          rw [hB9] at ih
          exact ih (by omega) ν hS _ _ _
        · obtain ⟨q, hq⟩ : ∃ q : Nat, q = p + 1 + j := ⟨_, rfl⟩
          have hq2 : (p : Int) + 1 + j = (q : Int) := by omega
          rw [hq2]
          rw [← hq] at ihj
          have hqn : q < n := by omega
          have haq := haR p q hpn hqn
          refine ev_aload_n dX8_newRope_46 rfl ?_
          refine ev_iload dX8_newRope_47 rfl ?_
          refine ev_iload dX8_newRope_49 rfl ?_
          refine ev_callVI dX8_newRope_51 kv_X8_441 (m_hasWhole ν σ P n nr nb nl w wt f t (hM.way hS) p q hpn hqn (by omega)) rfl rfl (ci := 8) rfl rfl ⟨by decide, by decide⟩ (Nat.le_of_ble_eq_true rfl) ?_
          refine ev_w (fun hR => ?_)
          refine ev_if_ne (tgt := 133) dX8_newRope_54 (by decide) (by first | exact hR.1 _ _ | exact hR0.1 _ _ | assumption | exact ⟨by omega, by omega⟩ | exact ⟨by simp [wr_at]; omega, by simp [wr_at]; omega⟩ | exact b2_R _ | exact bC_R _ | exact band_R _ _ | exact bor_R _ _ | exact bshl_R _ _ | exact bshr_R _ _ | exact bxor_R _ _ | exact bs_R (by omega) | decide) (fun h_54 => ?_) (fun h_54 => ?_)
          · refine ev_iinc dX8_newRope_133 rfl rfl (by decide) rfl ?_
            refine ev_goto (tgt := 37) dX8_newRope_136 (by decide) ?_
            first
              | (exfalso; omega)
              | (have e9 : stepN A D f t n nr w B p q = B := by
                   unfold stepN
                   rw [if_neg (fun z => ?_)]
                   have z1 : okN A f t nr w p q := by
                     refine Classical.byContradiction (fun y => ?_)
                     have q1 := z.1
                     rw [dC_f y] at q1
                     exact absurd q1 (by decide)
                   first
                     | exact z1.2.2 (bC_ne h_54)
                     | exact b2_eq h_73 ⟨z1.1, z1.2.1⟩
                 have q9 := ihj (by omega) ν hS x6 x7
                 rw [e9] at q9
                 rw [← hq2]
                 exact q9)
              | (have q9 := ihj (by omega) _ (hS.tr hq_81) (some (.int (iI s9))) (some (.int (iI 1)))
                 rw [hst1 (by omega), hbc.1, hbc.2] at q9
                 rw [← hq2]
                 rw [← hq2] at q9
                 exact q9)
              | (have q9 := ihj (by omega) _ (hS.tr hq_81) (some (.int (iI s9))) (some (.int (iI 0)))
                 rw [hst2 (by omega)] at q9
                 rw [← hq2]
                 exact q9)
          · have hnj := bC_eq (by omega : bC (jnd f t nr w p q) = 0)
            refine ev_aload_n dX8_newRope_57 rfl ?_
            refine ev_iload dX8_newRope_58 rfl ?_
            refine ev_iload dX8_newRope_60 rfl ?_
            refine ev_callVI dX8_newRope_62 kv_X8_436 (hap ν hS p q hpn hqn) rfl rfl (ci := 8) rfl rfl ⟨by decide, by decide⟩ (Nat.le_of_ble_eq_true rfl) ?_
            refine ev_w (fun hR => ?_)
            refine ev_i2l dX8_newRope_65 ⟨by omega, by omega⟩ ?_
            refine ev_lconst (z := 1) dX8_newRope_66 (by decide) ?_
            refine ev_ldc2 (z := 99) dX8_newRope_67 kl_X8_368 (by decide) ?_
            refine ev_callSI dX8_newRope_70 ks_X8_180 (m_in ν (A p q) 1 99 ⟨by omega, by omega⟩ (by decide) (by decide)) rfl rfl ⟨by decide, by decide⟩ (Nat.le_of_ble_eq_true rfl) ?_
            refine ev_w (fun hR => ?_)
            refine ev_if_eq (tgt := 133) dX8_newRope_73 (by decide) (by first | exact hR.1 _ _ | exact hR0.1 _ _ | assumption | exact ⟨by omega, by omega⟩ | exact ⟨by simp [wr_at]; omega, by simp [wr_at]; omega⟩ | exact b2_R _ | exact bC_R _ | exact band_R _ _ | exact bor_R _ _ | exact bshl_R _ _ | exact bshr_R _ _ | exact bxor_R _ _ | exact bs_R (by omega) | decide) (fun h_73 => ?_) (fun h_73 => ?_)
            · refine ev_iinc dX8_newRope_133 rfl rfl (by decide) rfl ?_
              refine ev_goto (tgt := 37) dX8_newRope_136 (by decide) ?_
              first
                | (exfalso; omega)
                | (have e9 : stepN A D f t n nr w B p q = B := by
                     unfold stepN
                     rw [if_neg (fun z => ?_)]
                     have z1 : okN A f t nr w p q := by
                       refine Classical.byContradiction (fun y => ?_)
                       have q1 := z.1
                       rw [dC_f y] at q1
                       exact absurd q1 (by decide)
                     first
                       | exact z1.2.2 (bC_ne h_54)
                       | exact b2_eq h_73 ⟨z1.1, z1.2.1⟩
                   have q9 := ihj (by omega) ν hS x6 x7
                   rw [e9] at q9
                   rw [← hq2]
                   exact q9)
                | (have q9 := ihj (by omega) _ (hS.tr hq_81) (some (.int (iI s9))) (some (.int (iI 1)))
                   rw [hst1 (by omega), hbc.1, hbc.2] at q9
                   rw [← hq2]
                   rw [← hq2] at q9
                   exact q9)
                | (have q9 := ihj (by omega) _ (hS.tr hq_81) (some (.int (iI s9))) (some (.int (iI 0)))
                   rw [hst2 (by omega)] at q9
                   rw [← hq2]
                   exact q9)
            · have hrg := b2_ne h_73
              have hokn : okN A f t nr w p q := ⟨hrg.1, hrg.2, hnj⟩
              have hs9 := hsR p q hpn hqn hrg.1
              have hcode : codeN A D n p q = sumN A D n p q * 64 + (8 * p + q) := by unfold codeN; omega
              have hst1 : (B = -1 ∨ codeN A D n p q < B) → stepN A D f t n nr w B p q = codeN A D n p q := fun h => by unfold stepN; rw [if_pos ⟨dC_t hokn, h⟩]
              have hst2 : ¬ (B = -1 ∨ codeN A D n p q < B) → stepN A D f t n nr w B p q = B := fun h => by unfold stepN; rw [if_neg (fun z => h z.2)]
              have hbc : bpZ (codeN A D n p q) = 8 * p + q ∧ lsZ (codeN A D n p q) = sumN A D n p q := by
                unfold bpZ lsZ
                rw [hcode, if_neg (by omega), if_neg (by omega)]
                omega
              have hsw9 := hsw ν hS p q hpn hqn (by omega) hrg.1 hrg.2
              generalize hcd : codeN A D n p q = code at *
              generalize hsm : sumN A D n p q = s9 at *
              refine ev_aload_n dX8_newRope_76 rfl ?_
              refine ev_iload dX8_newRope_77 rfl ?_
              refine ev_iload dX8_newRope_79 rfl ?_
              refine ev_callVP dX8_newRope_81 kv_X8_444 (hsw9) rfl rfl (ci := 8) rfl rfl ⟨by decide, by decide⟩ (Nat.le_of_ble_eq_true rfl) ?_
              rintro v_81 τ_81 ⟨rfl, hq_81⟩
              refine ev_w (fun hR => ?_)
              refine ev_istore dX8_newRope_84 rfl (by decide) rfl ?_
              refine ev_iload_n dX8_newRope_86 rfl ?_
              refine ev_if_lt (tgt := 96) dX8_newRope_87 (by decide) ⟨by omega, by omega⟩ (fun h_87 => ?_) (fun h_87 => ?_)
              · refine ev_iconst dX8_newRope_96 ?_
                refine ev_goto (tgt := 101) dX8_newRope_97 (by decide) ?_
                refine ev_istore dX8_newRope_101 rfl (by decide) rfl ?_
                refine ev_iload dX8_newRope_103 rfl ?_
                refine ev_if_eq (tgt := 119) dX8_newRope_105 (by decide) (by first | exact hR.1 _ _ | exact hR0.1 _ _ | assumption | exact ⟨by omega, by omega⟩ | exact ⟨by simp [wr_at]; omega, by simp [wr_at]; omega⟩ | exact b2_R _ | exact bC_R _ | exact band_R _ _ | exact bor_R _ _ | exact bshl_R _ _ | exact bshr_R _ _ | exact bxor_R _ _ | exact bs_R (by omega) | decide) (fun h_105 => ?_) (fun h_105 => ?_)
                · refine ev_iload_n dX8_newRope_119 rfl ?_
                  refine ev_istore_n dX8_newRope_120 rfl (by decide) rfl ?_
                  refine ev_iload dX8_newRope_121 rfl ?_
                  refine ev_if_eq (tgt := 131) dX8_newRope_123 (by decide) (by first | exact hR.1 _ _ | exact hR0.1 _ _ | assumption | exact ⟨by omega, by omega⟩ | exact ⟨by simp [wr_at]; omega, by simp [wr_at]; omega⟩ | exact b2_R _ | exact bC_R _ | exact band_R _ _ | exact bor_R _ _ | exact bshl_R _ _ | exact bshr_R _ _ | exact bxor_R _ _ | exact bs_R (by omega) | decide) (fun h_123 => ?_) (fun h_123 => ?_)
                  · refine ev_iload_n dX8_newRope_131 rfl ?_
                    refine ev_istore_n dX8_newRope_132 rfl (by decide) rfl ?_
                    refine ev_iinc dX8_newRope_133 rfl rfl (by decide) rfl ?_
                    refine ev_goto (tgt := 37) dX8_newRope_136 (by decide) ?_
                    first
                      | (exfalso; omega)
                      | (have e9 : stepN A D f t n nr w B p q = B := by
                           unfold stepN
                           rw [if_neg (fun z => ?_)]
                           have z1 : okN A f t nr w p q := by
                             refine Classical.byContradiction (fun y => ?_)
                             have q1 := z.1
                             rw [dC_f y] at q1
                             exact absurd q1 (by decide)
                           first
                             | exact z1.2.2 (bC_ne h_54)
                             | exact b2_eq h_73 ⟨z1.1, z1.2.1⟩
                         have q9 := ihj (by omega) ν hS x6 x7
                         rw [e9] at q9
                         rw [← hq2]
                         exact q9)
                      | (have q9 := ihj (by omega) _ (hS.tr hq_81) (some (.int (iI s9))) (some (.int (iI 1)))
                         rw [hst1 (by omega), hbc.1, hbc.2] at q9
                         rw [← hq2]
                         rw [← hq2] at q9
                         exact q9)
                      | (have q9 := ihj (by omega) _ (hS.tr hq_81) (some (.int (iI s9))) (some (.int (iI 0)))
                         rw [hst2 (by omega)] at q9
                         rw [← hq2]
                         exact q9)
                  · refine ev_iload dX8_newRope_126 rfl ?_
                    refine ev_goto (tgt := 132) dX8_newRope_128 (by decide) ?_
                    refine ev_istore_n dX8_newRope_132 rfl (by decide) rfl ?_
                    refine ev_iinc dX8_newRope_133 rfl rfl (by decide) rfl ?_
                    refine ev_goto (tgt := 37) dX8_newRope_136 (by decide) ?_
                    first
                      | (exfalso; omega)
                      | (have e9 : stepN A D f t n nr w B p q = B := by
                           unfold stepN
                           rw [if_neg (fun z => ?_)]
                           have z1 : okN A f t nr w p q := by
                             refine Classical.byContradiction (fun y => ?_)
                             have q1 := z.1
                             rw [dC_f y] at q1
                             exact absurd q1 (by decide)
                           first
                             | exact z1.2.2 (bC_ne h_54)
                             | exact b2_eq h_73 ⟨z1.1, z1.2.1⟩
                         have q9 := ihj (by omega) ν hS x6 x7
                         rw [e9] at q9
                         rw [← hq2]
                         exact q9)
                      | (have q9 := ihj (by omega) _ (hS.tr hq_81) (some (.int (iI s9))) (some (.int (iI 1)))
                         rw [hst1 (by omega), hbc.1, hbc.2] at q9
                         rw [← hq2]
                         rw [← hq2] at q9
                         exact q9)
                      | (have q9 := ihj (by omega) _ (hS.tr hq_81) (some (.int (iI s9))) (some (.int (iI 0)))
                         rw [hst2 (by omega)] at q9
                         rw [← hq2]
                         exact q9)
                · refine ev_bipush dX8_newRope_108 (by decide) ?_
                  refine ev_iload dX8_newRope_110 rfl ?_
                  refine ev_imul dX8_newRope_112 ?_
                  refine ev_iload dX8_newRope_113 rfl ?_
                  refine ev_iadd dX8_newRope_115 ?_
                  refine ev_goto (tgt := 120) dX8_newRope_116 (by decide) ?_
                  refine ev_istore_n dX8_newRope_120 rfl (by decide) rfl ?_
                  refine ev_iload dX8_newRope_121 rfl ?_
                  refine ev_if_eq (tgt := 131) dX8_newRope_123 (by decide) (by first | exact hR.1 _ _ | exact hR0.1 _ _ | assumption | exact ⟨by omega, by omega⟩ | exact ⟨by simp [wr_at]; omega, by simp [wr_at]; omega⟩ | exact b2_R _ | exact bC_R _ | exact band_R _ _ | exact bor_R _ _ | exact bshl_R _ _ | exact bshr_R _ _ | exact bxor_R _ _ | exact bs_R (by omega) | decide) (fun h_123 => ?_) (fun h_123 => ?_)
                  · refine ev_iload_n dX8_newRope_131 rfl ?_
                    refine ev_istore_n dX8_newRope_132 rfl (by decide) rfl ?_
                    refine ev_iinc dX8_newRope_133 rfl rfl (by decide) rfl ?_
                    refine ev_goto (tgt := 37) dX8_newRope_136 (by decide) ?_
                    first
                      | (exfalso; omega)
                      | (have e9 : stepN A D f t n nr w B p q = B := by
                           unfold stepN
                           rw [if_neg (fun z => ?_)]
                           have z1 : okN A f t nr w p q := by
                             refine Classical.byContradiction (fun y => ?_)
                             have q1 := z.1
                             rw [dC_f y] at q1
                             exact absurd q1 (by decide)
                           first
                             | exact z1.2.2 (bC_ne h_54)
                             | exact b2_eq h_73 ⟨z1.1, z1.2.1⟩
                         have q9 := ihj (by omega) ν hS x6 x7
                         rw [e9] at q9
                         rw [← hq2]
                         exact q9)
                      | (have q9 := ihj (by omega) _ (hS.tr hq_81) (some (.int (iI s9))) (some (.int (iI 1)))
                         rw [hst1 (by omega), hbc.1, hbc.2] at q9
                         rw [← hq2]
                         rw [← hq2] at q9
                         exact q9)
                      | (have q9 := ihj (by omega) _ (hS.tr hq_81) (some (.int (iI s9))) (some (.int (iI 0)))
                         rw [hst2 (by omega)] at q9
                         rw [← hq2]
                         exact q9)
                  · refine ev_iload dX8_newRope_126 rfl ?_
                    refine ev_goto (tgt := 132) dX8_newRope_128 (by decide) ?_
                    refine ev_istore_n dX8_newRope_132 rfl (by decide) rfl ?_
                    refine ev_iinc dX8_newRope_133 rfl rfl (by decide) rfl ?_
                    refine ev_goto (tgt := 37) dX8_newRope_136 (by decide) ?_
                    first
                      | (exfalso; omega)
                      | (have e9 : stepN A D f t n nr w B p q = B := by
                           unfold stepN
                           rw [if_neg (fun z => ?_)]
                           have z1 : okN A f t nr w p q := by
                             refine Classical.byContradiction (fun y => ?_)
                             have q1 := z.1
                             rw [dC_f y] at q1
                             exact absurd q1 (by decide)
                           first
                             | exact z1.2.2 (bC_ne h_54)
                             | exact b2_eq h_73 ⟨z1.1, z1.2.1⟩
                         have q9 := ihj (by omega) ν hS x6 x7
                         rw [e9] at q9
                         rw [← hq2]
                         exact q9)
                      | (have q9 := ihj (by omega) _ (hS.tr hq_81) (some (.int (iI s9))) (some (.int (iI 1)))
                         rw [hst1 (by omega), hbc.1, hbc.2] at q9
                         rw [← hq2]
                         rw [← hq2] at q9
                         exact q9)
                      | (have q9 := ihj (by omega) _ (hS.tr hq_81) (some (.int (iI s9))) (some (.int (iI 0)))
                         rw [hst2 (by omega)] at q9
                         rw [← hq2]
                         exact q9)
              · refine ev_iload dX8_newRope_90 rfl ?_
                refine ev_iload_n dX8_newRope_92 rfl ?_
                refine ev_icmp_ge (tgt := 100) dX8_newRope_93 (by decide) ⟨by omega, by omega⟩ ⟨by omega, by omega⟩ (fun h_93 => ?_) (fun h_93 => ?_)
                · refine ev_iconst dX8_newRope_100 ?_
                  refine ev_istore dX8_newRope_101 rfl (by decide) rfl ?_
                  refine ev_iload dX8_newRope_103 rfl ?_
                  refine ev_if_eq (tgt := 119) dX8_newRope_105 (by decide) (by first | exact hR.1 _ _ | exact hR0.1 _ _ | assumption | exact ⟨by omega, by omega⟩ | exact ⟨by simp [wr_at]; omega, by simp [wr_at]; omega⟩ | exact b2_R _ | exact bC_R _ | exact band_R _ _ | exact bor_R _ _ | exact bshl_R _ _ | exact bshr_R _ _ | exact bxor_R _ _ | exact bs_R (by omega) | decide) (fun h_105 => ?_) (fun h_105 => ?_)
                  · refine ev_iload_n dX8_newRope_119 rfl ?_
                    refine ev_istore_n dX8_newRope_120 rfl (by decide) rfl ?_
                    refine ev_iload dX8_newRope_121 rfl ?_
                    refine ev_if_eq (tgt := 131) dX8_newRope_123 (by decide) (by first | exact hR.1 _ _ | exact hR0.1 _ _ | assumption | exact ⟨by omega, by omega⟩ | exact ⟨by simp [wr_at]; omega, by simp [wr_at]; omega⟩ | exact b2_R _ | exact bC_R _ | exact band_R _ _ | exact bor_R _ _ | exact bshl_R _ _ | exact bshr_R _ _ | exact bxor_R _ _ | exact bs_R (by omega) | decide) (fun h_123 => ?_) (fun h_123 => ?_)
                    · refine ev_iload_n dX8_newRope_131 rfl ?_
                      refine ev_istore_n dX8_newRope_132 rfl (by decide) rfl ?_
                      refine ev_iinc dX8_newRope_133 rfl rfl (by decide) rfl ?_
                      refine ev_goto (tgt := 37) dX8_newRope_136 (by decide) ?_
                      first
                        | (exfalso; omega)
                        | (have e9 : stepN A D f t n nr w B p q = B := by
                             unfold stepN
                             rw [if_neg (fun z => ?_)]
                             have z1 : okN A f t nr w p q := by
                               refine Classical.byContradiction (fun y => ?_)
                               have q1 := z.1
                               rw [dC_f y] at q1
                               exact absurd q1 (by decide)
                             first
                               | exact z1.2.2 (bC_ne h_54)
                               | exact b2_eq h_73 ⟨z1.1, z1.2.1⟩
                           have q9 := ihj (by omega) ν hS x6 x7
                           rw [e9] at q9
                           rw [← hq2]
                           exact q9)
                        | (have q9 := ihj (by omega) _ (hS.tr hq_81) (some (.int (iI s9))) (some (.int (iI 1)))
                           rw [hst1 (by omega), hbc.1, hbc.2] at q9
                           rw [← hq2]
                           rw [← hq2] at q9
                           exact q9)
                        | (have q9 := ihj (by omega) _ (hS.tr hq_81) (some (.int (iI s9))) (some (.int (iI 0)))
                           rw [hst2 (by omega)] at q9
                           rw [← hq2]
                           exact q9)
                    · refine ev_iload dX8_newRope_126 rfl ?_
                      refine ev_goto (tgt := 132) dX8_newRope_128 (by decide) ?_
                      refine ev_istore_n dX8_newRope_132 rfl (by decide) rfl ?_
                      refine ev_iinc dX8_newRope_133 rfl rfl (by decide) rfl ?_
                      refine ev_goto (tgt := 37) dX8_newRope_136 (by decide) ?_
                      first
                        | (exfalso; omega)
                        | (have e9 : stepN A D f t n nr w B p q = B := by
                             unfold stepN
                             rw [if_neg (fun z => ?_)]
                             have z1 : okN A f t nr w p q := by
                               refine Classical.byContradiction (fun y => ?_)
                               have q1 := z.1
                               rw [dC_f y] at q1
                               exact absurd q1 (by decide)
                             first
                               | exact z1.2.2 (bC_ne h_54)
                               | exact b2_eq h_73 ⟨z1.1, z1.2.1⟩
                           have q9 := ihj (by omega) ν hS x6 x7
                           rw [e9] at q9
                           rw [← hq2]
                           exact q9)
                        | (have q9 := ihj (by omega) _ (hS.tr hq_81) (some (.int (iI s9))) (some (.int (iI 1)))
                           rw [hst1 (by omega), hbc.1, hbc.2] at q9
                           rw [← hq2]
                           rw [← hq2] at q9
                           exact q9)
                        | (have q9 := ihj (by omega) _ (hS.tr hq_81) (some (.int (iI s9))) (some (.int (iI 0)))
                           rw [hst2 (by omega)] at q9
                           rw [← hq2]
                           exact q9)
                  · refine ev_bipush dX8_newRope_108 (by decide) ?_
                    refine ev_iload dX8_newRope_110 rfl ?_
                    refine ev_imul dX8_newRope_112 ?_
                    refine ev_iload dX8_newRope_113 rfl ?_
                    refine ev_iadd dX8_newRope_115 ?_
                    refine ev_goto (tgt := 120) dX8_newRope_116 (by decide) ?_
                    refine ev_istore_n dX8_newRope_120 rfl (by decide) rfl ?_
                    refine ev_iload dX8_newRope_121 rfl ?_
                    refine ev_if_eq (tgt := 131) dX8_newRope_123 (by decide) (by first | exact hR.1 _ _ | exact hR0.1 _ _ | assumption | exact ⟨by omega, by omega⟩ | exact ⟨by simp [wr_at]; omega, by simp [wr_at]; omega⟩ | exact b2_R _ | exact bC_R _ | exact band_R _ _ | exact bor_R _ _ | exact bshl_R _ _ | exact bshr_R _ _ | exact bxor_R _ _ | exact bs_R (by omega) | decide) (fun h_123 => ?_) (fun h_123 => ?_)
                    · refine ev_iload_n dX8_newRope_131 rfl ?_
                      refine ev_istore_n dX8_newRope_132 rfl (by decide) rfl ?_
                      refine ev_iinc dX8_newRope_133 rfl rfl (by decide) rfl ?_
                      refine ev_goto (tgt := 37) dX8_newRope_136 (by decide) ?_
                      first
                        | (exfalso; omega)
                        | (have e9 : stepN A D f t n nr w B p q = B := by
                             unfold stepN
                             rw [if_neg (fun z => ?_)]
                             have z1 : okN A f t nr w p q := by
                               refine Classical.byContradiction (fun y => ?_)
                               have q1 := z.1
                               rw [dC_f y] at q1
                               exact absurd q1 (by decide)
                             first
                               | exact z1.2.2 (bC_ne h_54)
                               | exact b2_eq h_73 ⟨z1.1, z1.2.1⟩
                           have q9 := ihj (by omega) ν hS x6 x7
                           rw [e9] at q9
                           rw [← hq2]
                           exact q9)
                        | (have q9 := ihj (by omega) _ (hS.tr hq_81) (some (.int (iI s9))) (some (.int (iI 1)))
                           rw [hst1 (by omega), hbc.1, hbc.2] at q9
                           rw [← hq2]
                           rw [← hq2] at q9
                           exact q9)
                        | (have q9 := ihj (by omega) _ (hS.tr hq_81) (some (.int (iI s9))) (some (.int (iI 0)))
                           rw [hst2 (by omega)] at q9
                           rw [← hq2]
                           exact q9)
                    · refine ev_iload dX8_newRope_126 rfl ?_
                      refine ev_goto (tgt := 132) dX8_newRope_128 (by decide) ?_
                      refine ev_istore_n dX8_newRope_132 rfl (by decide) rfl ?_
                      refine ev_iinc dX8_newRope_133 rfl rfl (by decide) rfl ?_
                      refine ev_goto (tgt := 37) dX8_newRope_136 (by decide) ?_
                      first
                        | (exfalso; omega)
                        | (have e9 : stepN A D f t n nr w B p q = B := by
                             unfold stepN
                             rw [if_neg (fun z => ?_)]
                             have z1 : okN A f t nr w p q := by
                               refine Classical.byContradiction (fun y => ?_)
                               have q1 := z.1
                               rw [dC_f y] at q1
                               exact absurd q1 (by decide)
                             first
                               | exact z1.2.2 (bC_ne h_54)
                               | exact b2_eq h_73 ⟨z1.1, z1.2.1⟩
                           have q9 := ihj (by omega) ν hS x6 x7
                           rw [e9] at q9
                           rw [← hq2]
                           exact q9)
                        | (have q9 := ihj (by omega) _ (hS.tr hq_81) (some (.int (iI s9))) (some (.int (iI 1)))
                           rw [hst1 (by omega), hbc.1, hbc.2] at q9
                           rw [← hq2]
                           rw [← hq2] at q9
                           exact q9)
                        | (have q9 := ihj (by omega) _ (hS.tr hq_81) (some (.int (iI s9))) (some (.int (iI 0)))
                           rw [hst2 (by omega)] at q9
                           rw [← hq2]
                           exact q9)
                · refine ev_iconst dX8_newRope_96 ?_
                  refine ev_goto (tgt := 101) dX8_newRope_97 (by decide) ?_
                  refine ev_istore dX8_newRope_101 rfl (by decide) rfl ?_
                  refine ev_iload dX8_newRope_103 rfl ?_
                  refine ev_if_eq (tgt := 119) dX8_newRope_105 (by decide) (by first | exact hR.1 _ _ | exact hR0.1 _ _ | assumption | exact ⟨by omega, by omega⟩ | exact ⟨by simp [wr_at]; omega, by simp [wr_at]; omega⟩ | exact b2_R _ | exact bC_R _ | exact band_R _ _ | exact bor_R _ _ | exact bshl_R _ _ | exact bshr_R _ _ | exact bxor_R _ _ | exact bs_R (by omega) | decide) (fun h_105 => ?_) (fun h_105 => ?_)
                  · refine ev_iload_n dX8_newRope_119 rfl ?_
                    refine ev_istore_n dX8_newRope_120 rfl (by decide) rfl ?_
                    refine ev_iload dX8_newRope_121 rfl ?_
                    refine ev_if_eq (tgt := 131) dX8_newRope_123 (by decide) (by first | exact hR.1 _ _ | exact hR0.1 _ _ | assumption | exact ⟨by omega, by omega⟩ | exact ⟨by simp [wr_at]; omega, by simp [wr_at]; omega⟩ | exact b2_R _ | exact bC_R _ | exact band_R _ _ | exact bor_R _ _ | exact bshl_R _ _ | exact bshr_R _ _ | exact bxor_R _ _ | exact bs_R (by omega) | decide) (fun h_123 => ?_) (fun h_123 => ?_)
                    · refine ev_iload_n dX8_newRope_131 rfl ?_
                      refine ev_istore_n dX8_newRope_132 rfl (by decide) rfl ?_
                      refine ev_iinc dX8_newRope_133 rfl rfl (by decide) rfl ?_
                      refine ev_goto (tgt := 37) dX8_newRope_136 (by decide) ?_
                      first
                        | (exfalso; omega)
                        | (have e9 : stepN A D f t n nr w B p q = B := by
                             unfold stepN
                             rw [if_neg (fun z => ?_)]
                             have z1 : okN A f t nr w p q := by
                               refine Classical.byContradiction (fun y => ?_)
                               have q1 := z.1
                               rw [dC_f y] at q1
                               exact absurd q1 (by decide)
                             first
                               | exact z1.2.2 (bC_ne h_54)
                               | exact b2_eq h_73 ⟨z1.1, z1.2.1⟩
                           have q9 := ihj (by omega) ν hS x6 x7
                           rw [e9] at q9
                           rw [← hq2]
                           exact q9)
                        | (have q9 := ihj (by omega) _ (hS.tr hq_81) (some (.int (iI s9))) (some (.int (iI 1)))
                           rw [hst1 (by omega), hbc.1, hbc.2] at q9
                           rw [← hq2]
                           rw [← hq2] at q9
                           exact q9)
                        | (have q9 := ihj (by omega) _ (hS.tr hq_81) (some (.int (iI s9))) (some (.int (iI 0)))
                           rw [hst2 (by omega)] at q9
                           rw [← hq2]
                           exact q9)
                    · refine ev_iload dX8_newRope_126 rfl ?_
                      refine ev_goto (tgt := 132) dX8_newRope_128 (by decide) ?_
                      refine ev_istore_n dX8_newRope_132 rfl (by decide) rfl ?_
                      refine ev_iinc dX8_newRope_133 rfl rfl (by decide) rfl ?_
                      refine ev_goto (tgt := 37) dX8_newRope_136 (by decide) ?_
                      first
                        | (exfalso; omega)
                        | (have e9 : stepN A D f t n nr w B p q = B := by
                             unfold stepN
                             rw [if_neg (fun z => ?_)]
                             have z1 : okN A f t nr w p q := by
                               refine Classical.byContradiction (fun y => ?_)
                               have q1 := z.1
                               rw [dC_f y] at q1
                               exact absurd q1 (by decide)
                             first
                               | exact z1.2.2 (bC_ne h_54)
                               | exact b2_eq h_73 ⟨z1.1, z1.2.1⟩
                           have q9 := ihj (by omega) ν hS x6 x7
                           rw [e9] at q9
                           rw [← hq2]
                           exact q9)
                        | (have q9 := ihj (by omega) _ (hS.tr hq_81) (some (.int (iI s9))) (some (.int (iI 1)))
                           rw [hst1 (by omega), hbc.1, hbc.2] at q9
                           rw [← hq2]
                           rw [← hq2] at q9
                           exact q9)
                        | (have q9 := ihj (by omega) _ (hS.tr hq_81) (some (.int (iI s9))) (some (.int (iI 0)))
                           rw [hst2 (by omega)] at q9
                           rw [← hq2]
                           exact q9)
                  · refine ev_bipush dX8_newRope_108 (by decide) ?_
                    refine ev_iload dX8_newRope_110 rfl ?_
                    refine ev_imul dX8_newRope_112 ?_
                    refine ev_iload dX8_newRope_113 rfl ?_
                    refine ev_iadd dX8_newRope_115 ?_
                    refine ev_goto (tgt := 120) dX8_newRope_116 (by decide) ?_
                    refine ev_istore_n dX8_newRope_120 rfl (by decide) rfl ?_
                    refine ev_iload dX8_newRope_121 rfl ?_
                    refine ev_if_eq (tgt := 131) dX8_newRope_123 (by decide) (by first | exact hR.1 _ _ | exact hR0.1 _ _ | assumption | exact ⟨by omega, by omega⟩ | exact ⟨by simp [wr_at]; omega, by simp [wr_at]; omega⟩ | exact b2_R _ | exact bC_R _ | exact band_R _ _ | exact bor_R _ _ | exact bshl_R _ _ | exact bshr_R _ _ | exact bxor_R _ _ | exact bs_R (by omega) | decide) (fun h_123 => ?_) (fun h_123 => ?_)
                    · refine ev_iload_n dX8_newRope_131 rfl ?_
                      refine ev_istore_n dX8_newRope_132 rfl (by decide) rfl ?_
                      refine ev_iinc dX8_newRope_133 rfl rfl (by decide) rfl ?_
                      refine ev_goto (tgt := 37) dX8_newRope_136 (by decide) ?_
                      first
                        | (exfalso; omega)
                        | (have e9 : stepN A D f t n nr w B p q = B := by
                             unfold stepN
                             rw [if_neg (fun z => ?_)]
                             have z1 : okN A f t nr w p q := by
                               refine Classical.byContradiction (fun y => ?_)
                               have q1 := z.1
                               rw [dC_f y] at q1
                               exact absurd q1 (by decide)
                             first
                               | exact z1.2.2 (bC_ne h_54)
                               | exact b2_eq h_73 ⟨z1.1, z1.2.1⟩
                           have q9 := ihj (by omega) ν hS x6 x7
                           rw [e9] at q9
                           rw [← hq2]
                           exact q9)
                        | (have q9 := ihj (by omega) _ (hS.tr hq_81) (some (.int (iI s9))) (some (.int (iI 1)))
                           rw [hst1 (by omega), hbc.1, hbc.2] at q9
                           rw [← hq2]
                           rw [← hq2] at q9
                           exact q9)
                        | (have q9 := ihj (by omega) _ (hS.tr hq_81) (some (.int (iI s9))) (some (.int (iI 0)))
                           rw [hst2 (by omega)] at q9
                           rw [← hq2]
                           exact q9)
                    · refine ev_iload dX8_newRope_126 rfl ?_
                      refine ev_goto (tgt := 132) dX8_newRope_128 (by decide) ?_
                      refine ev_istore_n dX8_newRope_132 rfl (by decide) rfl ?_
                      refine ev_iinc dX8_newRope_133 rfl rfl (by decide) rfl ?_
                      refine ev_goto (tgt := 37) dX8_newRope_136 (by decide) ?_
                      first
                        | (exfalso; omega)
                        | (have e9 : stepN A D f t n nr w B p q = B := by
                             unfold stepN
                             rw [if_neg (fun z => ?_)]
                             have z1 : okN A f t nr w p q := by
                               refine Classical.byContradiction (fun y => ?_)
                               have q1 := z.1
                               rw [dC_f y] at q1
                               exact absurd q1 (by decide)
                             first
                               | exact z1.2.2 (bC_ne h_54)
                               | exact b2_eq h_73 ⟨z1.1, z1.2.1⟩
                           have q9 := ihj (by omega) ν hS x6 x7
                           rw [e9] at q9
                           rw [← hq2]
                           exact q9)
                        | (have q9 := ihj (by omega) _ (hS.tr hq_81) (some (.int (iI s9))) (some (.int (iI 1)))
                           rw [hst1 (by omega), hbc.1, hbc.2] at q9
                           rw [← hq2]
                           rw [← hq2] at q9
                           exact q9)
                        | (have q9 := ihj (by omega) _ (hS.tr hq_81) (some (.int (iI s9))) (some (.int (iI 0)))
                           rw [hst2 (by omega)] at q9
                           rw [← hq2]
                           exact q9)
      refine ev_iload dX8_newRope_31 rfl ?_
      refine ev_iconst dX8_newRope_33 ?_
      refine ev_iadd dX8_newRope_34 ?_
      refine ev_istore dX8_newRope_35 rfl (by decide) rfl ?_
      have q9 := row 0 (by omega) ν hS x6 x7
      rw [show ((p : Int) + 1 + ((0 : Nat) : Int)) = (p : Int) + 1 from Int.add_zero _] at q9
      exact q9
  refine ev_iload_n dX8_newRope_0 rfl ?_
  refine ev_i2l dX8_newRope_1 hx ?_
  refine ev_lconst (z := 0) dX8_newRope_2 (by decide) ?_
  refine ev_ldc2 (z := 2) dX8_newRope_3 kl_X8_439 (by decide) ?_
  refine ev_callSI dX8_newRope_6 ks_X8_180 (m_in μ x 0 2 ⟨by omega, by omega⟩ (by decide) (by decide)) rfl rfl ⟨by decide, by decide⟩ (Nat.le_of_ble_eq_true rfl) ?_
  refine ev_w (fun hR => ?_)
  refine ev_if_ne (tgt := 15) dX8_newRope_9 (by decide) (by first | exact hR.1 _ _ | exact hR0.1 _ _ | assumption | exact ⟨by omega, by omega⟩ | exact ⟨by simp [wr_at]; omega, by simp [wr_at]; omega⟩ | exact b2_R _ | exact bC_R _ | exact band_R _ _ | exact bor_R _ _ | exact bshl_R _ _ | exact bshr_R _ _ | exact bxor_R _ _ | exact bs_R (by omega) | decide) (fun h_9 => ?_) (fun h_9 => ?_)
  · refine ev_iconst dX8_newRope_15 ?_
    refine ev_istore_n dX8_newRope_16 rfl (by decide) rfl ?_
    refine ev_iconst dX8_newRope_17 ?_
    refine ev_istore_n dX8_newRope_18 rfl (by decide) rfl ?_
    refine ev_iconst dX8_newRope_19 ?_
    refine ev_istore dX8_newRope_20 rfl (by decide) rfl ?_
    exact loop (b2_ne h_9) 0 (by omega) μ Same.rf _ _ _
  · refine ev_ldc (z := -1000000002) dX8_newRope_12 kc_X8_204 (by decide) ?_
    refine ev_ireturn dX8_newRope_14 ?_
    unfold newZ
    rw [if_pos (b2_eq (by omega : b2 (0 ≤ x ∧ x ≤ 2) = 0))]
    exact ⟨rfl, Same.rf⟩
