theorem lbs_mono {σ : Mem} {P n nr nb nl : Nat} {f t : Nat → Nat} (hPO : PlanOk σ P n nr nb nl f t) {c c' : Nat} (hs : Sub c' c) : lbs σ (P + 14) nl c' ≤ lbs σ (P + 14) nl c := by
  unfold lbs
  refine sumI_mono (fun l hl => ?_)
  have := (hPO.2.2.2.2.2.2 l hl).2.2.2.1
  by_cases q : c'.testBit l = true
  · rw [if_pos q, if_pos (hs l q)]; exact Int.le_refl _
  · rw [if_neg q]
    split <;> omega
theorem anyK_mono {σ : Mem} {ck nl : Nat} {kd : Int} {c c' : Nat} (hs : Sub c' c) (h : anyK σ ck nl c' kd = true) : anyK σ ck nl c kd = true := by
  unfold anyK at *
  obtain ⟨i, h1, h2⟩ := anyB_iff.mp h
  simp only [Bool.and_eq_true] at h2
  exact anyB_iff.mpr ⟨i, h1, by simp only [Bool.and_eq_true]; exact ⟨hs i h2.1, h2.2⟩⟩
theorem minF_mono {fe pa : Int} {wt : Bool} {dry : Int} {a b : Bool} (h : a = true → b = true) (h1 : 1 ≤ fe) (h2 : fe ≤ 99) (h3 : 1 ≤ pa) (h4 : pa ≤ 50) : minF fe pa a wt dry ≤ minF fe pa b wt dry := by
  have m := min0_R h1 h2 h3 h4
  have l := lev_R m.1 m.2
  have ml : min0 fe pa ≤ lev (min0 fe pa) := by unfold lev; omega
  have key : (if a = true then lev (min0 fe pa) else min0 fe pa) ≤ (if b = true then lev (min0 fe pa) else min0 fe pa) := by
    cases a with
    | true => rw [h rfl]; exact Int.le_refl _
    | false => cases b <;> simp <;> omega
  unfold minF
  split <;> omega
theorem cost_ok {σ : Mem} {P n nr nb nl w wt b : Nat} {f t : Nat → Nat} (hPO : PlanOk σ P n nr nb nl f t) (hb : b < nb) : CostOk (fun c r => minZ σ P nl w wt r b c 0) nr := by
  intro r hr c
  have hm := hPO.min (w := w) (wt := wt) (s := c) (dry := 0) hr hb
  have hrr := hPO.2.2.2.2.1 r hr
  have hbb := (hPO.2.2.2.2.2.1 b hb).2.2
  refine ⟨by show minZ σ P nl w wt r b c 0 = -1 ∨ 1 ≤ minZ σ P nl w wt r b c 0; omega, fun c' hs hne => ?_⟩
  show minZ σ P nl w wt r b c' 0 ≠ -1 ∧ minZ σ P nl w wt r b c' 0 ≤ minZ σ P nl w wt r b c 0
  have hne2 : minZ σ P nl w wt r b c 0 ≠ -1 := hne
  have lm := lbs_mono hPO hs
  unfold minZ at hne2 ⊢
  by_cases q : w.testBit r = true ∧ σ.1 (P + 10) b + lbs σ (P + 14) nl c ≤ σ.1 (P + 8) r ∧ (20 ≤ σ.1 (P + 7) r ∨ ¬ anyK σ (P + 16) nl c 3 = true)
  · have q' : w.testBit r = true ∧ σ.1 (P + 10) b + lbs σ (P + 14) nl c' ≤ σ.1 (P + 8) r ∧ (20 ≤ σ.1 (P + 7) r ∨ ¬ anyK σ (P + 16) nl c' 3 = true) := ⟨q.1, by have := q.2.1; omega, q.2.2.imp id (fun y z => y (anyK_mono hs z))⟩
    rw [if_pos q, if_pos q']
    have mf := minF_mono (wt := wt.testBit r) (dry := 0) (a := anyK σ (P + 16) nl c' 2) (b := anyK σ (P + 16) nl c 2) (anyK_mono hs) hrr.1.1 hrr.1.2 hbb.1 hbb.2
    have mr := minF_R (lv := anyK σ (P + 16) nl c' 2) (wt := wt.testBit r) (dry := 0) hrr.1.1 hrr.1.2 hbb.1 hbb.2
    exact ⟨by omega, mf⟩
  · rw [if_neg q] at hne2; exact absurd rfl hne2
theorem ft_ok {σ : Mem} {P n nr nb nl mb w wt dv : Nat} {f t : Nat → Nat} (hPO : PlanOk σ P n nr nb nl f t) (hDy : DynOk σ P n nr nb nl mb w wt dv) {s : Nat} (hs : s < 2 ^ nl) : FtOk (andn s dv) n (frZ σ P) (toZ σ P) := by
  intro k hk hb
  rw [andn_test] at hb
  simp only [Bool.and_eq_true, Bool.not_eq_true'] at hb
  have hkn : k < nl := by
    refine Classical.byContradiction (fun hn => ?_)
    have : s.testBit k = false := Nat.testBit_lt_two_pow (Nat.lt_of_lt_of_le hs (Nat.pow_le_pow_right (by decide) (by omega)))
    rw [this] at hb
    exact absurd hb.1 (by decide)
  have hl := hPO.2.2.2.2.2.2 k hkn
  have hL := hDy.2.2.2.2.2.2.2.2.2.2 k hkn
  unfold LoadOk at hL
  unfold frZ toZ
  rcases hL with h | h | h
  · rw [h.1] at hb; exact absurd hb.2 (by decide)
  · rw [if_neg (by omega)]; omega
  · rw [if_pos h.2.1]; omega
/-- the reference's first state -/
def stI (v : Nat) : Nat → Int
  | 0 => 80
  | l + 1 => stI v l - (if v.testBit l then 2 * (3 ^ l : Nat) else 0)
set_option maxRecDepth 100000 in
theorem stI_enc : ∀ m, m ≤ 4 → ∀ v, v < 2 ^ m → stI v m = (enc v 0 : Nat) := by decide +kernel
set_option maxRecDepth 100000 in
theorem stI_R : ∀ v, v < 16 → ∀ m, m ≤ 4 → 0 ≤ stI v m ∧ stI v m ≤ 80 := by decide +kernel
set_option maxRecDepth 100000 in
theorem enc_80 : ∀ v, v < 16 → enc v 0 < 81 ∧ (enc v 0 = 80 → v = 0) ∧ lSet (enc v 0) = v ∧ cSet (enc v 0) = 0 := by decide +kernel
def mnL (ν : Mem) : Nat → Int
  | 0 => 1000000
  | p + 1 => if BB ν p 80 < mnL ν p then BB ν p 80 else mnL ν p
theorem mnL_le (ν : Mem) : ∀ n p, p < n → mnL ν n ≤ BB ν p 80 := by
  intro n
  induction n with
  | zero => intro p hp; omega
  | succ n ih =>
    intro p hp
    rw [mnL]
    by_cases e : p = n
    · subst e; split <;> omega
    · have := ih p (by omega)
      split <;> omega
theorem mnL_ub (ν : Mem) : ∀ n, mnL ν n ≤ 1000000 := by
  intro n
  induction n with
  | zero => exact Int.le_refl _
  | succ n ih => rw [mnL]; split <;> omega
theorem mnL_ge {ν : Mem} {K : Int} (hK : K ≤ 1000000) : ∀ n, (∀ p, p < n → K ≤ BB ν p 80) → K ≤ mnL ν n := by
  intro n
  induction n with
  | zero => intro _; exact hK
  | succ n ih =>
    intro h
    have a := ih (fun p hp => h p (by omega))
    have b := h n (by omega)
    rw [mnL]
    split <;> omega
set_option maxHeartbeats 8000000 in
theorem m_roundOf (μ σ : Mem) (P n nr nb nl mb w wt dv : Nat) (f t : Nat → Nat) (hMO : MOk μ σ P n nr nb nl mb w wt dv f t) (b s : Nat) (hb : b < nb) (hs : s < 2 ^ nl) : Con yX8_roundOf cX8_roundOf 7 (some .int) 4 98 [.ref 79, .int (iI b), .int (iI s)] μ (AnsIP (min (rndC σ P n nr nl w wt f t b (andn s dv)) 1000000) (fun ν => Same s124 μ ν)) := by
  refine con_of (by decide) rfl (Nat.le_of_ble_eq_true rfl) (ok_IP rfl) ?_
  refine ev_w (fun hR => ?_)
  have hR0 := hR
  have hM := hMO.rp
  obtain ⟨hPO, hMP, hwc⟩ := id hM
  obtain ⟨hPR, ⟨hnb, hnb4⟩, ⟨hnl, hnl4⟩, hpo, hro, hbo, hlo⟩ := id hPO
  obtain ⟨hP, hn, hn8, hnr, hnr12, hft⟩ := id hPR
  obtain ⟨⟨cn, cr, cb, cl⟩, mp, mr, mbo, ml⟩ := id hMP
  have hDy := hMO.2.1
  obtain ⟨k1, k2, k3, k4, k5, k6, k7, k8, k9, k10, k11⟩ := id hDy
  have hs16 : s < 16 := Nat.lt_of_lt_of_le hs (Nat.pow_le_pow_right (by decide) hnl4)
  have hlv : andn s dv < 2 ^ nl := Nat.lt_of_le_of_lt (andn_le _ _) hs
  have hlv16 : andn s dv < 16 := Nat.lt_of_le_of_lt (andn_le _ _) hs16
  have hC := cost_ok (w := w) (wt := wt) hPO hb
  have hDi : ∀ c, isDist (dst σ P n nr nl w wt f t b c 0) f t (fun r => minZ σ P nl w wt r b c 0) n nr := fun c => dst_dist hPO hb
  have hW := wy_ok2 hC hDi
  have hFt := ft_ok hPO hDy hs
  have pw : ∀ i, i < 4 → 3 ^ i ≤ 27 := by decide
  have hen := enc_80 (andn s dv) hlv16
  have hkb := k9 b hb
  have hdb : μ.1 99 (b : Int) = σ.1 40 b ∧ μ.1 101 (b : Int) = σ.1 41 b ∧ (σ.1 40 b = -1 → μ.1 98 (b : Int) = σ.1 39 b) ∧ (σ.1 40 b ≠ -1 → μ.1 98 (b : Int) = -1 ∧ μ.1 100 (b : Int) = σ.1 39 b) := hMO.2.2.2.2.2.1 b hb
  obtain ⟨p0, hp0⟩ := Int.eq_ofNat_of_zero_le hkb.1.1
  have hp0n : p0 < n := by omega
  have hgo : 0 ≤ σ.1 41 b ∧ σ.1 41 b ≤ 400 := by omega
  have hrc : andn s dv ≠ 0 → rndC σ P n nr nl w wt f t b (andn s dv) = σ.1 41 b + Vf (fun c => dst σ P n nr nl w wt f t b c 0) (frZ σ P) (toZ σ P) (andn s dv) 0 p0 := by
    intro h
    unfold rndC
    rw [if_neg h, hp0, rsV_fuel 9 (andn s dv) 0 _ (by
      have := cnt_lt16 hlv16
      have c0 : cnt (0 : Nat).testBit 12 = 0 := by decide
      omega)]
    rfl
  generalize hlive : andn s dv = live at *
  have hv0 := V_nn hW hFt _ live 0 p0 (Nat.lt_succ_self _) (fun i hi => hi) (fun i hi => absurd hi (by simp)) hp0n
  generalize hK9 : min (σ.1 41 b + Vf (fun c => dst σ P n nr nl w wt f t b c 0) (frZ σ P) (toZ σ P) live 0 p0) 1000000 = K9 at *
  have hfix : ∀ ν, TInv μ ν (fun st p => Vf (fun c => dst σ P n nr nl w wt f t b c 0) (frZ σ P) (toZ σ P) (lSet st) (cSet st) p) live n p0 (enc live 0) K9 (σ.1 41 b) → (∀ p st, p < n → st < 81 → BB ν p st < 1000000 → EdOk ν (fun c r => minZ σ P nl w wt r b c 0) f t (frZ σ P) (toZ σ P) nr nl p st) → mnL ν n = K9 := by
    intro ν hI hE
    have h1 : K9 ≤ mnL ν n := mnL_ge (by omega) n (fun p hp => by
      have bR := bb_R hI hn8 hp (show 80 < 81 by decide)
      by_cases q : BB ν p 80 < 1000000
      · have z := (hI.2.2.1 p 80 hp (by decide) q).2
        have e1 : lSet 80 = 0 := by decide
        have e2 : cSet 80 = 0 := by decide
        have z2 : K9 ≤ BB ν p 80 + Vf (fun c => dst σ P n nr nl w wt f t b c 0) (frZ σ P) (toZ σ P) (lSet 80) (cSet 80) p := z
        rw [e1, e2, Vf_0] at z2
        omega
      · omega)
    have c0 : cnt (0 : Nat).testBit 12 = 0 := by decide
    have h2 := fix_le (B := BB ν) (cost := fun c r => minZ σ P nl w wt r b c 0) (Ls := mnL ν n) hC hDi hFt (fun r hr => ⟨(hft r hr).2.2.1, (hft r hr).2.2.2.1⟩) hlv hnl4 (fun p st hp hst => bb_R hI hn8 hp hst) hE (fun p hp => mnL_le ν n p hp) (mnL_ub ν n) _ live 0 p0 (Nat.lt_succ_self _) hlv16 (by decide) (by rw [Nat.and_zero]) (fun i hi => hi) (fun i hi => absurd hi (by simp)) (by rw [c0]; decide) hp0n (fun k hk => absurd hk (by simp))
    have h3 := hI.2.2.2
    have h4 := mnL_ub ν n
    omega
  have last : ∀ ν, TInv μ ν (fun st p => Vf (fun c => dst σ P n nr nl w wt f t b c 0) (frZ σ P) (toZ σ P) (lSet st) (cSet st) p) live n p0 (enc live 0) K9 (σ.1 41 b) → mnL ν n = K9 → ∀ p : Nat, p ≤ n → ∀ y3 y4 : Int, Ev RX8 cX8_roundOf 7 4 98 (AnsIP K9 (fun ν => Same s124 μ ν)) 215 [some (.ref 79), some (.int (iI b)), some (.int (iI s)), some (.int (iI y3)), some (.int (iI y4)), some (.int (iI (mnL ν p))), some (.int (iI (p : Nat)))] [] ν := by
    intro ν hI hfin
    have hcn : ν.1 79 0 = n := by rw [hI.1.at (by unfold s124; decide)]; exact cn
    refine for_up n (fun p hp ih => ?_)
    intro y3 y4
    refine ev_w (fun hR => ?_)
    have hmR : 0 ≤ mnL ν p ∧ mnL ν p ≤ 1000000 := ⟨mnL_ge (by decide) p (fun q hq => (bb_R hI hn8 (show q < n by omega) (show 80 < 81 by decide)).1), mnL_ub ν p⟩
    have hsu : mnL ν (p + 1) = if BB ν p 80 < mnL ν p then BB ν p 80 else mnL ν p := rfl
    refine ev_iload dX8_roundOf_215 rfl ?_
    refine ev_aload_n dX8_roundOf_217 rfl ?_
    refine ev_getI (kz := 0) dX8_roundOf_218 fl_X8_177 rfl rfl rfl ?_
    rw [hcn]
    refine ev_icmp_ge (tgt := 268) dX8_roundOf_221 (by decide) (by first | exact hR.1 _ _ | exact hR0.1 _ _ | assumption | exact ⟨by omega, by omega⟩ | exact ⟨by simp [wr_at]; omega, by simp [wr_at]; omega⟩ | exact b2_R _ | exact bC_R _ | exact band_R _ _ | exact bor_R _ _ | exact bshl_R _ _ | exact bshr_R _ _ | exact bxor_R _ _ | exact bs_R (by omega) | decide) (by first | exact hR.1 _ _ | exact hR0.1 _ _ | assumption | exact ⟨by omega, by omega⟩ | exact ⟨by simp [wr_at]; omega, by simp [wr_at]; omega⟩ | exact b2_R _ | exact bC_R _ | exact band_R _ _ | exact bor_R _ _ | exact bshl_R _ _ | exact bshr_R _ _ | exact bxor_R _ _ | exact bs_R (by omega) | decide) (fun h_221 => ?_) (fun h_221 => ?_)
    · refine ev_iload dX8_roundOf_268 rfl ?_
      refine ev_ireturn dX8_roundOf_270 ?_
      obtain rfl : p = n := by omega
      rw [hfin]
      exact ⟨rfl, hI.1⟩
    · have bR := bb_R hI hn8 (show p < n by omega) (show 80 < 81 by decide)
      refine ev_aload_n dX8_roundOf_224 rfl ?_
      refine ev_getR (r := 124) dX8_roundOf_225 fl_X8_147 rfl rfl rfl ?_
      refine ev_bipush dX8_roundOf_228 (by decide) ?_
      refine ev_iload dX8_roundOf_230 rfl ?_
      refine ev_imul dX8_roundOf_232 ?_
      refine ev_bipush dX8_roundOf_233 (by decide) ?_
      refine ev_iadd dX8_roundOf_235 ?_
      refine ev_iaload dX8_roundOf_236 rfl (by first | omega | (simp [wr_at]; omega) | (simp [wr_at, *]; omega)) (by first | omega | (simp [wr_at]; omega) | (simp [wr_at, *]; omega)) (by decide) ?_
      rw [show ν.1 124 (81 * (p : Int) + 80) = BB ν p 80 from rfl]
      refine ev_iload dX8_roundOf_237 rfl ?_
      refine ev_icmp_ge (tgt := 258) dX8_roundOf_239 (by decide) (by first | exact hR.1 _ _ | exact hR0.1 _ _ | assumption | exact ⟨by omega, by omega⟩ | exact ⟨by simp [wr_at]; omega, by simp [wr_at]; omega⟩ | exact b2_R _ | exact bC_R _ | exact band_R _ _ | exact bor_R _ _ | exact bshl_R _ _ | exact bshr_R _ _ | exact bxor_R _ _ | exact bs_R (by omega) | decide) (by first | exact hR.1 _ _ | exact hR0.1 _ _ | assumption | exact ⟨by omega, by omega⟩ | exact ⟨by simp [wr_at]; omega, by simp [wr_at]; omega⟩ | exact b2_R _ | exact bC_R _ | exact band_R _ _ | exact bor_R _ _ | exact bshl_R _ _ | exact bshr_R _ _ | exact bxor_R _ _ | exact bs_R (by omega) | decide) (fun h_239 => ?_) (fun h_239 => ?_)
      · refine ev_iload dX8_roundOf_258 rfl ?_
        refine ev_istore dX8_roundOf_260 rfl (by decide) rfl ?_
        refine ev_iinc dX8_roundOf_262 rfl rfl (by decide) rfl ?_
        refine ev_goto (tgt := 215) dX8_roundOf_265 (by decide) ?_
        have q := ih (by omega) y3 y4
        rw [hsu] at q
        first
          | (rw [if_pos (by omega)] at q; exact q)
          | (rw [if_neg (by omega)] at q; exact q)
      · refine ev_aload_n dX8_roundOf_242 rfl ?_
        refine ev_getR (r := 124) dX8_roundOf_243 fl_X8_147 rfl rfl rfl ?_
        refine ev_bipush dX8_roundOf_246 (by decide) ?_
        refine ev_iload dX8_roundOf_248 rfl ?_
        refine ev_imul dX8_roundOf_250 ?_
        refine ev_bipush dX8_roundOf_251 (by decide) ?_
        refine ev_iadd dX8_roundOf_253 ?_
        refine ev_iaload dX8_roundOf_254 rfl (by first | omega | (simp [wr_at]; omega) | (simp [wr_at, *]; omega)) (by first | omega | (simp [wr_at]; omega) | (simp [wr_at, *]; omega)) (by decide) ?_
        rw [show ν.1 124 (81 * (p : Int) + 80) = BB ν p 80 from rfl]
        refine ev_goto (tgt := 260) dX8_roundOf_255 (by decide) ?_
        refine ev_istore dX8_roundOf_260 rfl (by decide) rfl ?_
        refine ev_iinc dX8_roundOf_262 rfl rfl (by decide) rfl ?_
        refine ev_goto (tgt := 215) dX8_roundOf_265 (by decide) ?_
        have q := ih (by omega) y3 y4
        rw [hsu] at q
        first
          | (rw [if_pos (by omega)] at q; exact q)
          | (rw [if_neg (by omega)] at q; exact q)
  have done : ∀ ν, TInv μ ν (fun st p => Vf (fun c => dst σ P n nr nl w wt f t b c 0) (frZ σ P) (toZ σ P) (lSet st) (cSet st) p) live n p0 (enc live 0) K9 (σ.1 41 b) → mnL ν n = K9 → ∀ (y3 : Int) x5 x6, Ev RX8 cX8_roundOf 7 4 98 (AnsIP K9 (fun ν => Same s124 μ ν)) 132 [some (.ref 79), some (.int (iI b)), some (.int (iI s)), some (.int (iI y3)), some (.int (iI 0)), x5, x6] [] ν := by
    intro ν hI hfin y3 x5 x6
    refine ev_w (fun hR => ?_)
    refine ev_iload dX8_roundOf_132 rfl ?_
    refine ev_if_eq (tgt := 207) dX8_roundOf_134 (by decide) (by first | exact hR.1 _ _ | exact hR0.1 _ _ | assumption | exact ⟨by omega, by omega⟩ | exact ⟨by simp [wr_at]; omega, by simp [wr_at]; omega⟩ | exact b2_R _ | exact bC_R _ | exact band_R _ _ | exact bor_R _ _ | exact bshl_R _ _ | exact bshr_R _ _ | exact bxor_R _ _ | exact bs_R (by omega) | decide) (fun h_134 => ?_) (fun h_134 => ?_)
    · refine ev_ldcw (z := 1000000) dX8_roundOf_207 kc_X8_388 (by decide) ?_
      refine ev_istore dX8_roundOf_210 rfl (by decide) rfl ?_
      refine ev_iconst dX8_roundOf_212 ?_
      refine ev_istore dX8_roundOf_213 rfl (by decide) rfl ?_
      exact last ν hI hfin 0 (by omega) _ _
    · exact absurd rfl h_134
  have inner : ∀ (y3 : Int) (m0 : Int), (∀ ν, TInv μ ν (fun st p => Vf (fun c => dst σ P n nr nl w wt f t b c 0) (frZ σ P) (toZ σ P) (lSet st) (cSet st) p) live n p0 (enc live 0) K9 (σ.1 41 b) → bsum ν < m0 → ∀ x5 x6, Ev RX8 cX8_roundOf 7 4 98 (AnsIP K9 (fun ν => Same s124 μ ν)) 132 [some (.ref 79), some (.int (iI b)), some (.int (iI s)), some (.int (iI y3)), some (.int (iI 1)), x5, x6] [] ν) → ∀ νs, TInv μ νs (fun st p => Vf (fun c => dst σ P n nr nl w wt f t b c 0) (frZ σ P) (toZ σ P) (lSet st) (cSet st) p) live n p0 (enc live 0) K9 (σ.1 41 b) → bsum νs ≤ m0 → ∀ k : Nat, k ≤ 81 * n → ∀ z ν1, ((z = 0 ∧ ν1 = νs ∧ (∀ k9 : Nat, k9 < k → BB νs (k9 / 81) (k9 % 81) < 1000000 → EdOk νs (fun c r => minZ σ P nl w wt r b c 0) f t (frZ σ P) (toZ σ P) nr nl (k9 / 81) (k9 % 81))) ∨ (z = 1 ∧ TInv μ ν1 (fun st p => Vf (fun c => dst σ P n nr nl w wt f t b c 0) (frZ σ P) (toZ σ P) (lSet st) (cSet st) p) live n p0 (enc live 0) K9 (σ.1 41 b) ∧ bsum ν1 < bsum νs)) → ∀ x6, Ev RX8 cX8_roundOf 7 4 98 (AnsIP K9 (fun ν => Same s124 μ ν)) 143 [some (.ref 79), some (.int (iI b)), some (.int (iI s)), some (.int (iI y3)), some (.int (iI z)), some (.int (iI (k : Nat))), x6] [] ν1 := by
    intro y3 m0 hout νs hIs hm
    refine for_up (81 * n) (fun k hk ih => ?_)
    intro z ν1 hz x6
    refine ev_w (fun hR => ?_)
    have hT1 : TInv μ ν1 (fun st p => Vf (fun c => dst σ P n nr nl w wt f t b c 0) (frZ σ P) (toZ σ P) (lSet st) (cSet st) p) live n p0 (enc live 0) K9 (σ.1 41 b) := by
      rcases hz with q | q
      · rw [q.2.1]; exact hIs
      · exact q.2.1
    have hzz : z = 0 ∨ z = 1 := by
      rcases hz with q | q
      · exact Or.inl q.1
      · exact Or.inr q.1
    have hzR : inR z := by rcases hzz with rfl | rfl <;> decide
    have hcn : ν1.1 79 0 = n := by rw [hT1.1.at (by unfold s124; decide)]; exact cn
    refine ev_iload dX8_roundOf_143 rfl ?_
    refine ev_bipush dX8_roundOf_145 (by decide) ?_
    refine ev_aload_n dX8_roundOf_147 rfl ?_
    refine ev_getI (kz := 0) dX8_roundOf_148 fl_X8_177 rfl rfl rfl ?_
    rw [hcn]
    refine ev_imul dX8_roundOf_151 ?_
    refine ev_icmp_ge (tgt := 204) dX8_roundOf_152 (by decide) ⟨by omega, by omega⟩ ⟨by omega, by omega⟩ (fun h_152 => ?_) (fun h_152 => ?_)
    · refine ev_goto (tgt := 132) dX8_roundOf_204 (by decide) ?_
      obtain rfl : k = 81 * n := by omega
      rcases hz with q | q
      · have e9 := q.2.1
        subst e9
        rw [q.1]
        refine done ν1 hT1 (hfix ν1 hT1 (fun p st hp hst hfin => ?_)) _ _ _
        have z9 := q.2.2 (81 * p + st) (by omega)
        rw [show (81 * p + st) / 81 = p by omega, show (81 * p + st) % 81 = st by omega] at z9
        exact z9 hfin
      · rw [q.1]
        exact hout ν1 q.2.1 (by have := q.2.2; omega) _ _
    · have hpk : k / 81 < n := by omega
      have hsk : k % 81 < 81 := by omega
      have ebb : ν1.1 124 (k : Int) = BB ν1 (k / 81) (k % 81) := by
        unfold BB
        rw [show (81 * ((k / 81 : Nat) : Int) + ((k % 81 : Nat) : Int)) = (k : Int) by omega]
      have hk9 := hT1.2.1 k (by omega)
      have stay : ∀ x6, (BB ν1 (k / 81) (k % 81) < 1000000 → EdOk ν1 (fun c r => minZ σ P nl w wt r b c 0) f t (frZ σ P) (toZ σ P) nr nl (k / 81) (k % 81)) → Ev RX8 cX8_roundOf 7 4 98 (AnsIP K9 (fun ν => Same s124 μ ν)) 143 [some (.ref 79), some (.int (iI b)), some (.int (iI s)), some (.int (iI y3)), some (.int (iI z)), some (.int (iI ((k : Nat) + 1 : Nat))), x6] [] ν1 := by
        intro x6 hok
        refine ih (by omega) z ν1 ?_ x6
        rcases hz with q | q
        · refine Or.inl ⟨q.1, q.2.1, fun k9 hk9 h1 => ?_⟩
          by_cases e : k9 = k
          · subst e
            have y9 := q.2.1
            subst y9
            exact hok h1
          · exact q.2.2 k9 (by omega) h1
        · exact Or.inr q
      refine ev_aload_n dX8_roundOf_155 rfl ?_
      refine ev_getR (r := 124) dX8_roundOf_156 fl_X8_147 rfl rfl rfl ?_
      refine ev_iload dX8_roundOf_159 rfl ?_
      refine ev_iaload dX8_roundOf_161 rfl (by omega) (by omega) (by decide) ?_
      refine ev_ldcw (z := 1000000) dX8_roundOf_162 kc_X8_388 (by decide) ?_
      refine ev_icmp_ge (tgt := 186) dX8_roundOf_165 (by decide) (hR.1 _ _) (by decide) (fun h_165 => ?_) (fun h_165 => ?_)
      · refine ev_iload dX8_roundOf_186 rfl ?_
        refine ev_if_eq (tgt := 195) dX8_roundOf_188 (by decide) (by first | exact hR.1 _ _ | exact hR0.1 _ _ | assumption | exact ⟨by omega, by omega⟩ | exact ⟨by simp [wr_at]; omega, by simp [wr_at]; omega⟩ | exact b2_R _ | exact bC_R _ | exact band_R _ _ | exact bor_R _ _ | exact bshl_R _ _ | exact bshr_R _ _ | exact bxor_R _ _ | exact bs_R (by omega) | decide) (fun h_188 => ?_) (fun h_188 => ?_)
        · refine ev_iconst dX8_roundOf_195 ?_
          refine ev_istore dX8_roundOf_196 rfl (by decide) rfl ?_
          refine ev_iinc dX8_roundOf_198 rfl rfl (by decide) rfl ?_
          refine ev_goto (tgt := 143) dX8_roundOf_201 (by decide) ?_
          first
            | (have h0 : z = 0 := by omega
               have q9 := stay x6 (fun y => by rw [← ebb] at y; omega)
               rw [h0] at q9
               exact q9)
            | (have h0 : z = 1 := by omega
               have q9 := stay x6 (fun y => by rw [← ebb] at y; omega)
               rw [h0] at q9
               exact q9)
            | (have hz9 : z_180 = 0 := by omega
               have w9 : τ_180 = ν1 ∧ EdOk ν1 (fun c r => minZ σ P nl w wt r b c 0) f t (frZ σ P) (toZ σ P) nr nl (k / 81) (k % 81) := by
                 rcases hq_180 with y | y
                 · exact y.2
                 · omega
               have h0 : z = 0 := by omega
               have q9 := stay x6 (fun _ => w9.2)
               rw [h0] at q9
               rw [w9.1]
               exact q9)
            | (have hz9 : z_180 = 0 := by omega
               have w9 : τ_180 = ν1 ∧ EdOk ν1 (fun c r => minZ σ P nl w wt r b c 0) f t (frZ σ P) (toZ σ P) nr nl (k / 81) (k % 81) := by
                 rcases hq_180 with y | y
                 · exact y.2
                 · omega
               have h0 : z = 1 := by omega
               have q9 := stay x6 (fun _ => w9.2)
               rw [h0] at q9
               rw [w9.1]
               exact q9)
            | (rcases hq_180 with y | y
               · omega
               · refine ih (by omega) 1 _ (Or.inr ⟨rfl, y.2.1, ?_⟩) x6
                 have y3 := y.2.2
                 rcases hz with q | q
                 · rw [← q.2.1]; exact y3
                 · have := q.2.2; omega)
        · refine ev_iconst dX8_roundOf_191 ?_
          refine ev_goto (tgt := 196) dX8_roundOf_192 (by decide) ?_
          refine ev_istore dX8_roundOf_196 rfl (by decide) rfl ?_
          refine ev_iinc dX8_roundOf_198 rfl rfl (by decide) rfl ?_
          refine ev_goto (tgt := 143) dX8_roundOf_201 (by decide) ?_
          first
            | (have h0 : z = 0 := by omega
               have q9 := stay x6 (fun y => by rw [← ebb] at y; omega)
               rw [h0] at q9
               exact q9)
            | (have h0 : z = 1 := by omega
               have q9 := stay x6 (fun y => by rw [← ebb] at y; omega)
               rw [h0] at q9
               exact q9)
            | (have hz9 : z_180 = 0 := by omega
               have w9 : τ_180 = ν1 ∧ EdOk ν1 (fun c r => minZ σ P nl w wt r b c 0) f t (frZ σ P) (toZ σ P) nr nl (k / 81) (k % 81) := by
                 rcases hq_180 with y | y
                 · exact y.2
                 · omega
               have h0 : z = 0 := by omega
               have q9 := stay x6 (fun _ => w9.2)
               rw [h0] at q9
               rw [w9.1]
               exact q9)
            | (have hz9 : z_180 = 0 := by omega
               have w9 : τ_180 = ν1 ∧ EdOk ν1 (fun c r => minZ σ P nl w wt r b c 0) f t (frZ σ P) (toZ σ P) nr nl (k / 81) (k % 81) := by
                 rcases hq_180 with y | y
                 · exact y.2
                 · omega
               have h0 : z = 1 := by omega
               have q9 := stay x6 (fun _ => w9.2)
               rw [h0] at q9
               rw [w9.1]
               exact q9)
            | (rcases hq_180 with y | y
               · omega
               · refine ih (by omega) 1 _ (Or.inr ⟨rfl, y.2.1, ?_⟩) x6
                 have y3 := y.2.2
                 rcases hz with q | q
                 · rw [← q.2.1]; exact y3
                 · have := q.2.2; omega)
      · have hgo9 := m_goOn μ σ P n nr nb nl mb w wt dv f t hMO b live p0 (enc live 0) K9 (σ.1 41 b) hb hW hFt ν1 hT1 (k / 81) (k % 81) hpk hsk (by rw [← ebb]; omega)
        refine ev_aload_n dX8_roundOf_168 rfl ?_
        refine ev_iload_n dX8_roundOf_169 rfl ?_
        refine ev_iload dX8_roundOf_170 rfl ?_
        refine ev_bipush dX8_roundOf_172 (by decide) ?_
        refine ev_idiv dX8_roundOf_174 ⟨by omega, by omega⟩ (by decide) (by omega) (by omega) ?_
        refine ev_iload dX8_roundOf_175 rfl ?_
        refine ev_bipush dX8_roundOf_177 (by decide) ?_
        refine ev_irem dX8_roundOf_179 ⟨by omega, by omega⟩ (by decide) (by omega) (by omega) ?_
        rw [show ((k : Int).tdiv 81) = ((k / 81 : Nat) : Int) from by rw [Int.tdiv_eq_ediv_of_nonneg (by omega)]; omega, show ((k : Int).tmod 81) = ((k % 81 : Nat) : Int) from by rw [Int.tmod_eq_emod_of_nonneg (by omega)]; omega]
        refine ev_callVP dX8_roundOf_180 kv_X8_411 (hgo9) rfl rfl (ci := 8) rfl rfl ⟨by decide, by decide⟩ (Nat.le_of_ble_eq_true rfl) ?_
        rintro v_180 τ_180 ⟨z_180, rfl, hq_180⟩
        refine ev_w (fun hR => ?_)
        refine ev_if_ne (tgt := 191) dX8_roundOf_183 (by decide) (by rcases hq_180 with y | y <;> rw [y.1] <;> decide) (fun h_183 => ?_) (fun h_183 => ?_)
        · refine ev_iconst dX8_roundOf_191 ?_
          refine ev_goto (tgt := 196) dX8_roundOf_192 (by decide) ?_
          refine ev_istore dX8_roundOf_196 rfl (by decide) rfl ?_
          refine ev_iinc dX8_roundOf_198 rfl rfl (by decide) rfl ?_
          refine ev_goto (tgt := 143) dX8_roundOf_201 (by decide) ?_
          first
            | (have h0 : z = 0 := by omega
               have q9 := stay x6 (fun y => by rw [← ebb] at y; omega)
               rw [h0] at q9
               exact q9)
            | (have h0 : z = 1 := by omega
               have q9 := stay x6 (fun y => by rw [← ebb] at y; omega)
               rw [h0] at q9
               exact q9)
            | (have hz9 : z_180 = 0 := by omega
               have w9 : τ_180 = ν1 ∧ EdOk ν1 (fun c r => minZ σ P nl w wt r b c 0) f t (frZ σ P) (toZ σ P) nr nl (k / 81) (k % 81) := by
                 rcases hq_180 with y | y
                 · exact y.2
                 · omega
               have h0 : z = 0 := by omega
               have q9 := stay x6 (fun _ => w9.2)
               rw [h0] at q9
               rw [w9.1]
               exact q9)
            | (have hz9 : z_180 = 0 := by omega
               have w9 : τ_180 = ν1 ∧ EdOk ν1 (fun c r => minZ σ P nl w wt r b c 0) f t (frZ σ P) (toZ σ P) nr nl (k / 81) (k % 81) := by
                 rcases hq_180 with y | y
                 · exact y.2
                 · omega
               have h0 : z = 1 := by omega
               have q9 := stay x6 (fun _ => w9.2)
               rw [h0] at q9
               rw [w9.1]
               exact q9)
            | (rcases hq_180 with y | y
               · omega
               · refine ih (by omega) 1 _ (Or.inr ⟨rfl, y.2.1, ?_⟩) x6
                 have y3 := y.2.2
                 rcases hz with q | q
                 · rw [← q.2.1]; exact y3
                 · have := q.2.2; omega)
        · refine ev_iload dX8_roundOf_186 rfl ?_
          refine ev_if_eq (tgt := 195) dX8_roundOf_188 (by decide) (by first | exact hR.1 _ _ | exact hR0.1 _ _ | assumption | exact ⟨by omega, by omega⟩ | exact ⟨by simp [wr_at]; omega, by simp [wr_at]; omega⟩ | exact b2_R _ | exact bC_R _ | exact band_R _ _ | exact bor_R _ _ | exact bshl_R _ _ | exact bshr_R _ _ | exact bxor_R _ _ | exact bs_R (by omega) | decide) (fun h_188 => ?_) (fun h_188 => ?_)
          · refine ev_iconst dX8_roundOf_195 ?_
            refine ev_istore dX8_roundOf_196 rfl (by decide) rfl ?_
            refine ev_iinc dX8_roundOf_198 rfl rfl (by decide) rfl ?_
            refine ev_goto (tgt := 143) dX8_roundOf_201 (by decide) ?_
            first
              | (have h0 : z = 0 := by omega
                 have q9 := stay x6 (fun y => by rw [← ebb] at y; omega)
                 rw [h0] at q9
                 exact q9)
              | (have h0 : z = 1 := by omega
                 have q9 := stay x6 (fun y => by rw [← ebb] at y; omega)
                 rw [h0] at q9
                 exact q9)
              | (have hz9 : z_180 = 0 := by omega
                 have w9 : τ_180 = ν1 ∧ EdOk ν1 (fun c r => minZ σ P nl w wt r b c 0) f t (frZ σ P) (toZ σ P) nr nl (k / 81) (k % 81) := by
                   rcases hq_180 with y | y
                   · exact y.2
                   · omega
                 have h0 : z = 0 := by omega
                 have q9 := stay x6 (fun _ => w9.2)
                 rw [h0] at q9
                 rw [w9.1]
                 exact q9)
              | (have hz9 : z_180 = 0 := by omega
                 have w9 : τ_180 = ν1 ∧ EdOk ν1 (fun c r => minZ σ P nl w wt r b c 0) f t (frZ σ P) (toZ σ P) nr nl (k / 81) (k % 81) := by
                   rcases hq_180 with y | y
                   · exact y.2
                   · omega
                 have h0 : z = 1 := by omega
                 have q9 := stay x6 (fun _ => w9.2)
                 rw [h0] at q9
                 rw [w9.1]
                 exact q9)
              | (rcases hq_180 with y | y
                 · omega
                 · refine ih (by omega) 1 _ (Or.inr ⟨rfl, y.2.1, ?_⟩) x6
                   have y3 := y.2.2
                   rcases hz with q | q
                   · rw [← q.2.1]; exact y3
                   · have := q.2.2; omega)
          · refine ev_iconst dX8_roundOf_191 ?_
            refine ev_goto (tgt := 196) dX8_roundOf_192 (by decide) ?_
            refine ev_istore dX8_roundOf_196 rfl (by decide) rfl ?_
            refine ev_iinc dX8_roundOf_198 rfl rfl (by decide) rfl ?_
            refine ev_goto (tgt := 143) dX8_roundOf_201 (by decide) ?_
            first
              | (have h0 : z = 0 := by omega
                 have q9 := stay x6 (fun y => by rw [← ebb] at y; omega)
                 rw [h0] at q9
                 exact q9)
              | (have h0 : z = 1 := by omega
                 have q9 := stay x6 (fun y => by rw [← ebb] at y; omega)
                 rw [h0] at q9
                 exact q9)
              | (have hz9 : z_180 = 0 := by omega
                 have w9 : τ_180 = ν1 ∧ EdOk ν1 (fun c r => minZ σ P nl w wt r b c 0) f t (frZ σ P) (toZ σ P) nr nl (k / 81) (k % 81) := by
                   rcases hq_180 with y | y
                   · exact y.2
                   · omega
                 have h0 : z = 0 := by omega
                 have q9 := stay x6 (fun _ => w9.2)
                 rw [h0] at q9
                 rw [w9.1]
                 exact q9)
              | (have hz9 : z_180 = 0 := by omega
                 have w9 : τ_180 = ν1 ∧ EdOk ν1 (fun c r => minZ σ P nl w wt r b c 0) f t (frZ σ P) (toZ σ P) nr nl (k / 81) (k % 81) := by
                   rcases hq_180 with y | y
                   · exact y.2
                   · omega
                 have h0 : z = 1 := by omega
                 have q9 := stay x6 (fun _ => w9.2)
                 rw [h0] at q9
                 rw [w9.1]
                 exact q9)
              | (rcases hq_180 with y | y
                 · omega
                 · refine ih (by omega) 1 _ (Or.inr ⟨rfl, y.2.1, ?_⟩) x6
                   have y3 := y.2.2
                   rcases hz with q | q
                   · rw [← q.2.1]; exact y3
                   · have := q.2.2; omega)
  have outer : ∀ (y3 : Int) (m0 : Nat), (∀ ν, TInv μ ν (fun st p => Vf (fun c => dst σ P n nr nl w wt f t b c 0) (frZ σ P) (toZ σ P) (lSet st) (cSet st) p) live n p0 (enc live 0) K9 (σ.1 41 b) → bsum ν < m0 → ∀ x5 x6, Ev RX8 cX8_roundOf 7 4 98 (AnsIP K9 (fun ν => Same s124 μ ν)) 132 [some (.ref 79), some (.int (iI b)), some (.int (iI s)), some (.int (iI y3)), some (.int (iI 1)), x5, x6] [] ν) := by
    intro y3 m0
    induction m0 with
    | zero =>
      intro ν hI hlt
      have := bsum_0 hI
      omega
    | succ m0 iho =>
      intro ν hI hlt x5 x6
      refine ev_w (fun hR => ?_)
      refine ev_iload dX8_roundOf_132 rfl ?_
      refine ev_if_eq (tgt := 207) dX8_roundOf_134 (by decide) (by first | exact hR.1 _ _ | exact hR0.1 _ _ | assumption | exact ⟨by omega, by omega⟩ | exact ⟨by simp [wr_at]; omega, by simp [wr_at]; omega⟩ | exact b2_R _ | exact bC_R _ | exact band_R _ _ | exact bor_R _ _ | exact bshl_R _ _ | exact bshr_R _ _ | exact bxor_R _ _ | exact bs_R (by omega) | decide) (fun h_134 => ?_) (fun h_134 => ?_)
      · exact absurd h_134 (by decide)
      · refine ev_iconst dX8_roundOf_137 ?_
        refine ev_istore dX8_roundOf_138 rfl (by decide) rfl ?_
        refine ev_iconst dX8_roundOf_140 ?_
        refine ev_istore dX8_roundOf_141 rfl (by decide) rfl ?_
        exact inner y3 m0 iho ν hI (by omega) 0 (by omega) 0 ν (Or.inl ⟨rfl, rfl, fun k9 hk9 => by omega⟩) _
  have fill : live ≠ 0 → ∀ k : Nat, k ≤ 648 → ∀ ν, (Same s124 μ ν ∧ ∀ j : Nat, j < k → ν.1 124 j = 1000000) → ∀ x5 x6, Ev RX8 cX8_roundOf 7 4 98 (AnsIP K9 (fun ν => Same s124 μ ν)) 65 [some (.ref 79), some (.int (iI b)), some (.int (iI s)), some (.int (iI (enc live 0 : Nat))), some (.int (iI (k : Nat))), x5, x6] [] ν := by
    intro hne
    refine for_up 648 (fun k hk ih => ?_)
    intro ν hν x5 x6
    refine ev_w (fun hR => ?_)
    refine ev_iload dX8_roundOf_65 rfl ?_
    refine ev_sipush dX8_roundOf_67 (by decide) ?_
    refine ev_icmp_ge (tgt := 89) dX8_roundOf_70 (by decide) (by first | exact hR.1 _ _ | exact hR0.1 _ _ | assumption | exact ⟨by omega, by omega⟩ | exact ⟨by simp [wr_at]; omega, by simp [wr_at]; omega⟩ | exact b2_R _ | exact bC_R _ | exact band_R _ _ | exact bor_R _ _ | exact bshl_R _ _ | exact bshr_R _ _ | exact bxor_R _ _ | exact bs_R (by omega) | decide) (by first | exact hR.1 _ _ | exact hR0.1 _ _ | assumption | exact ⟨by omega, by omega⟩ | exact ⟨by simp [wr_at]; omega, by simp [wr_at]; omega⟩ | exact b2_R _ | exact bC_R _ | exact band_R _ _ | exact bor_R _ _ | exact bshl_R _ _ | exact bshr_R _ _ | exact bxor_R _ _ | exact bs_R (by omega) | decide) (fun h_70 => ?_) (fun h_70 => ?_)
    · obtain rfl : k = 648 := by omega
      have hdb2 : ν.1 101 (b : Int) = σ.1 41 b ∧ (σ.1 40 b = -1 → ν.1 98 (b : Int) = σ.1 39 b) ∧ (σ.1 40 b ≠ -1 → ν.1 98 (b : Int) = -1 ∧ ν.1 100 (b : Int) = σ.1 39 b) := by
        rw [hν.1.1 101 (by unfold s124; decide), hν.1.1 98 (by unfold s124; decide), hν.1.1 100 (by unfold s124; decide)]
        exact hdb.2
      refine ev_aload_n dX8_roundOf_89 rfl ?_
      refine ev_getR (r := 124) dX8_roundOf_90 fl_X8_147 rfl rfl rfl ?_
      refine ev_bipush dX8_roundOf_93 (by decide) ?_
      refine ev_aload_n dX8_roundOf_95 rfl ?_
      refine ev_getR (r := 98) dX8_roundOf_96 fl_X8_65 rfl rfl rfl ?_
      refine ev_iload_n dX8_roundOf_99 rfl ?_
      refine ev_iaload dX8_roundOf_100 rfl (by first | omega | (simp [wr_at]; omega) | (simp [wr_at, *]; omega)) (by first | omega | (simp [wr_at]; omega) | (simp [wr_at, *]; omega)) (by decide) ?_
      refine ev_if_ge (tgt := 113) dX8_roundOf_101 (by decide) (by first | exact hR.1 _ _ | exact hR0.1 _ _ | assumption | exact ⟨by omega, by omega⟩ | exact ⟨by simp [wr_at]; omega, by simp [wr_at]; omega⟩ | exact b2_R _ | exact bC_R _ | exact band_R _ _ | exact bor_R _ _ | exact bshl_R _ _ | exact bshr_R _ _ | exact bxor_R _ _ | exact bs_R (by omega) | decide) (fun h_101 => ?_) (fun h_101 => ?_)
      · refine ev_aload_n dX8_roundOf_113 rfl ?_
        refine ev_getR (r := 98) dX8_roundOf_114 fl_X8_65 rfl rfl rfl ?_
        refine ev_iload_n dX8_roundOf_117 rfl ?_
        refine ev_iaload dX8_roundOf_118 rfl (by first | omega | (simp [wr_at]; omega) | (simp [wr_at, *]; omega)) (by first | omega | (simp [wr_at]; omega) | (simp [wr_at, *]; omega)) (by decide) ?_
        first
          | (exfalso; by_cases q : σ.1 40 b = -1
             · have := hdb2.2.1 q; omega
             · have := (hdb2.2.2 q).1; omega)
          | rw [show ν.1 100 (b : Int) = (p0 : Int) from by
              by_cases q : σ.1 40 b = -1
              · have := hdb2.2.1 q; omega
              · rw [(hdb2.2.2 q).2, hp0]]
          | rw [show ν.1 98 (b : Int) = (p0 : Int) from by
              by_cases q : σ.1 40 b = -1
              · rw [hdb2.2.1 q, hp0]
              · have := (hdb2.2.2 q).1; omega]
        refine ev_imul dX8_roundOf_119 ?_
        refine ev_iload_n dX8_roundOf_120 rfl ?_
        refine ev_iadd dX8_roundOf_121 ?_
        refine ev_aload_n dX8_roundOf_122 rfl ?_
        refine ev_getR (r := 101) dX8_roundOf_123 fl_X8_74 rfl rfl rfl ?_
        refine ev_iload_n dX8_roundOf_126 rfl ?_
        refine ev_iaload dX8_roundOf_127 rfl (by first | omega | (simp [wr_at]; omega) | (simp [wr_at, *]; omega)) (by first | omega | (simp [wr_at]; omega) | (simp [wr_at, *]; omega)) (by decide) ?_
        rw [hdb2.1]
        refine ev_iastore dX8_roundOf_128 rfl (by first | omega | (simp [wr_at]; omega) | (simp [wr_at, *]; omega)) (by first | omega | (simp [wr_at]; omega) | (simp [wr_at, *]; omega)) (by decide) (by first | exact hR.1 _ _ | exact hR0.1 _ _ | assumption | exact ⟨by omega, by omega⟩ | exact ⟨by simp [wr_at]; omega, by simp [wr_at]; omega⟩ | exact b2_R _ | exact bC_R _ | exact band_R _ _ | exact bor_R _ _ | exact bshl_R _ _ | exact bshr_R _ _ | exact bxor_R _ _ | exact bs_R (by omega) | decide) ?_
        refine ev_w (fun hR => ?_)
        refine ev_iconst dX8_roundOf_129 ?_
        refine ev_istore dX8_roundOf_130 rfl (by decide) rfl ?_
        have at9 : ∀ j : Nat, j < 648 → (wr ν 124 (81 * (p0 : Int) + ((enc live 0 : Nat) : Int)) (σ.1 41 b)).1 124 j = if j = 81 * p0 + enc live 0 then σ.1 41 b else 1000000 := by
          intro j hj
          rw [wr_at]
          by_cases e : j = 81 * p0 + enc live 0
          · rw [if_pos ⟨rfl, by omega⟩, if_pos e]
          · rw [if_neg (by omega), if_neg e]; exact hν.2 j hj
        have bb9 : ∀ p st, p < n → st < 81 → BB (wr ν 124 (81 * (p0 : Int) + ((enc live 0 : Nat) : Int)) (σ.1 41 b)) p st = if p = p0 ∧ st = enc live 0 then σ.1 41 b else 1000000 := by
          intro p st hp hst
          unfold BB
          rw [show (81 * (p : Int) + st) = ((81 * p + st : Nat) : Int) by omega, at9 _ (by omega)]
          by_cases e : p = p0 ∧ st = enc live 0
          · rw [if_pos (by omega), if_pos e]
          · rw [if_neg (by omega), if_neg e]
        have hI0 : TInv μ (wr ν 124 (81 * (p0 : Int) + ((enc live 0 : Nat) : Int)) (σ.1 41 b)) (fun st p => Vf (fun c => dst σ P n nr nl w wt f t b c 0) (frZ σ P) (toZ σ P) (lSet st) (cSet st) p) live n p0 (enc live 0) K9 (σ.1 41 b) := by
          refine ⟨hν.1.wr rfl, fun j hj => ?_, fun p st hp hst => ?_, ?_⟩
          · rw [at9 j hj]; split <;> omega
          · rw [bb9 p st hp hst]
            split
            next e =>
              obtain ⟨rfl, rfl⟩ := e
              intro _
              refine ⟨⟨by rw [hen.2.2.2]; decide, by rw [hen.2.2.1]; exact fun i hi => hi, by rw [hen.2.2.2]; exact fun i hi => absurd hi (by simp)⟩, ?_⟩
              dsimp only
              rw [hen.2.2.1, hen.2.2.2]
              omega
            next => intro y; omega
          · rw [bb9 p0 (enc live 0) hp0n hen.1, if_pos ⟨rfl, rfl⟩]; exact Int.le_refl _
        have h0 := bsum_0 hI0
        exact outer _ ((bsum (wr ν 124 (81 * (p0 : Int) + ((enc live 0 : Nat) : Int)) (σ.1 41 b))).toNat + 1) _ hI0 (by omega) _ _
      · refine ev_aload_n dX8_roundOf_104 rfl ?_
        refine ev_getR (r := 100) dX8_roundOf_105 fl_X8_71 rfl rfl rfl ?_
        refine ev_iload_n dX8_roundOf_108 rfl ?_
        refine ev_iaload dX8_roundOf_109 rfl (by first | omega | (simp [wr_at]; omega) | (simp [wr_at, *]; omega)) (by first | omega | (simp [wr_at]; omega) | (simp [wr_at, *]; omega)) (by decide) ?_
        refine ev_goto (tgt := 119) dX8_roundOf_110 (by decide) ?_
        first
          | (exfalso; by_cases q : σ.1 40 b = -1
             · have := hdb2.2.1 q; omega
             · have := (hdb2.2.2 q).1; omega)
          | rw [show ν.1 100 (b : Int) = (p0 : Int) from by
              by_cases q : σ.1 40 b = -1
              · have := hdb2.2.1 q; omega
              · rw [(hdb2.2.2 q).2, hp0]]
          | rw [show ν.1 98 (b : Int) = (p0 : Int) from by
              by_cases q : σ.1 40 b = -1
              · rw [hdb2.2.1 q, hp0]
              · have := (hdb2.2.2 q).1; omega]
        refine ev_imul dX8_roundOf_119 ?_
        refine ev_iload_n dX8_roundOf_120 rfl ?_
        refine ev_iadd dX8_roundOf_121 ?_
        refine ev_aload_n dX8_roundOf_122 rfl ?_
        refine ev_getR (r := 101) dX8_roundOf_123 fl_X8_74 rfl rfl rfl ?_
        refine ev_iload_n dX8_roundOf_126 rfl ?_
        refine ev_iaload dX8_roundOf_127 rfl (by first | omega | (simp [wr_at]; omega) | (simp [wr_at, *]; omega)) (by first | omega | (simp [wr_at]; omega) | (simp [wr_at, *]; omega)) (by decide) ?_
        rw [hdb2.1]
        refine ev_iastore dX8_roundOf_128 rfl (by first | omega | (simp [wr_at]; omega) | (simp [wr_at, *]; omega)) (by first | omega | (simp [wr_at]; omega) | (simp [wr_at, *]; omega)) (by decide) (by first | exact hR.1 _ _ | exact hR0.1 _ _ | assumption | exact ⟨by omega, by omega⟩ | exact ⟨by simp [wr_at]; omega, by simp [wr_at]; omega⟩ | exact b2_R _ | exact bC_R _ | exact band_R _ _ | exact bor_R _ _ | exact bshl_R _ _ | exact bshr_R _ _ | exact bxor_R _ _ | exact bs_R (by omega) | decide) ?_
        refine ev_w (fun hR => ?_)
        refine ev_iconst dX8_roundOf_129 ?_
        refine ev_istore dX8_roundOf_130 rfl (by decide) rfl ?_
        have at9 : ∀ j : Nat, j < 648 → (wr ν 124 (81 * (p0 : Int) + ((enc live 0 : Nat) : Int)) (σ.1 41 b)).1 124 j = if j = 81 * p0 + enc live 0 then σ.1 41 b else 1000000 := by
          intro j hj
          rw [wr_at]
          by_cases e : j = 81 * p0 + enc live 0
          · rw [if_pos ⟨rfl, by omega⟩, if_pos e]
          · rw [if_neg (by omega), if_neg e]; exact hν.2 j hj
        have bb9 : ∀ p st, p < n → st < 81 → BB (wr ν 124 (81 * (p0 : Int) + ((enc live 0 : Nat) : Int)) (σ.1 41 b)) p st = if p = p0 ∧ st = enc live 0 then σ.1 41 b else 1000000 := by
          intro p st hp hst
          unfold BB
          rw [show (81 * (p : Int) + st) = ((81 * p + st : Nat) : Int) by omega, at9 _ (by omega)]
          by_cases e : p = p0 ∧ st = enc live 0
          · rw [if_pos (by omega), if_pos e]
          · rw [if_neg (by omega), if_neg e]
        have hI0 : TInv μ (wr ν 124 (81 * (p0 : Int) + ((enc live 0 : Nat) : Int)) (σ.1 41 b)) (fun st p => Vf (fun c => dst σ P n nr nl w wt f t b c 0) (frZ σ P) (toZ σ P) (lSet st) (cSet st) p) live n p0 (enc live 0) K9 (σ.1 41 b) := by
          refine ⟨hν.1.wr rfl, fun j hj => ?_, fun p st hp hst => ?_, ?_⟩
          · rw [at9 j hj]; split <;> omega
          · rw [bb9 p st hp hst]
            split
            next e =>
              obtain ⟨rfl, rfl⟩ := e
              intro _
              refine ⟨⟨by rw [hen.2.2.2]; decide, by rw [hen.2.2.1]; exact fun i hi => hi, by rw [hen.2.2.2]; exact fun i hi => absurd hi (by simp)⟩, ?_⟩
              dsimp only
              rw [hen.2.2.1, hen.2.2.2]
              omega
            next => intro y; omega
          · rw [bb9 p0 (enc live 0) hp0n hen.1, if_pos ⟨rfl, rfl⟩]; exact Int.le_refl _
        have h0 := bsum_0 hI0
        exact outer _ ((bsum (wr ν 124 (81 * (p0 : Int) + ((enc live 0 : Nat) : Int)) (σ.1 41 b))).toNat + 1) _ hI0 (by omega) _ _
    · refine ev_aload_n dX8_roundOf_73 rfl ?_
      refine ev_getR (r := 124) dX8_roundOf_74 fl_X8_147 rfl rfl rfl ?_
      refine ev_iload dX8_roundOf_77 rfl ?_
      refine ev_ldcw (z := 1000000) dX8_roundOf_79 kc_X8_388 (by decide) ?_
      refine ev_iastore dX8_roundOf_82 rfl (by first | omega | (simp [wr_at]; omega) | (simp [wr_at, *]; omega)) (by first | omega | (simp [wr_at]; omega) | (simp [wr_at, *]; omega)) (by decide) (by first | exact hR.1 _ _ | exact hR0.1 _ _ | assumption | exact ⟨by omega, by omega⟩ | exact ⟨by simp [wr_at]; omega, by simp [wr_at]; omega⟩ | exact b2_R _ | exact bC_R _ | exact band_R _ _ | exact bor_R _ _ | exact bshl_R _ _ | exact bshr_R _ _ | exact bxor_R _ _ | exact bs_R (by omega) | decide) ?_
      refine ev_w (fun hR => ?_)
      refine ev_iinc dX8_roundOf_83 rfl rfl (by decide) rfl ?_
      refine ev_goto (tgt := 65) dX8_roundOf_86 (by decide) ?_
      refine ih (by omega) _ ⟨hν.1.wr rfl, fun j hj => ?_⟩ _ _
      rw [wr_at]
      by_cases e : j = k
      · rw [if_pos ⟨rfl, by omega⟩]
      · rw [if_neg (by omega)]; exact hν.2 j (by omega)
  have first : ∀ l : Nat, l ≤ nl → ∀ x5 x6, Ev RX8 cX8_roundOf 7 4 98 (AnsIP (min (rndC σ P n nr nl w wt f t b live) 1000000) (fun ν => Same s124 μ ν)) 6 [some (.ref 79), some (.int (iI b)), some (.int (iI s)), some (.int (iI (stI live l))), some (.int (iI (l : Nat))), x5, x6] [] μ := by
    refine for_up nl (fun l hl ih => ?_)
    intro x5 x6
    refine ev_w (fun hR => ?_)
    have hsR := stI_R live hlv16 l (by omega)
    have hsu : stI live (l + 1) = stI live l - (if live.testBit l then 2 * (3 ^ l : Nat) else 0) := rfl
    refine ev_iload dX8_roundOf_6 rfl ?_
    refine ev_aload_n dX8_roundOf_8 rfl ?_
    refine ev_getI (kz := 13) dX8_roundOf_9 fl_X8_190 rfl rfl rfl ?_
    rw [cl]
    refine ev_icmp_ge (tgt := 54) dX8_roundOf_12 (by decide) (by first | exact hR.1 _ _ | exact hR0.1 _ _ | assumption | exact ⟨by omega, by omega⟩ | exact ⟨by simp [wr_at]; omega, by simp [wr_at]; omega⟩ | exact b2_R _ | exact bC_R _ | exact band_R _ _ | exact bor_R _ _ | exact bshl_R _ _ | exact bshr_R _ _ | exact bxor_R _ _ | exact bs_R (by omega) | decide) (by first | exact hR.1 _ _ | exact hR0.1 _ _ | assumption | exact ⟨by omega, by omega⟩ | exact ⟨by simp [wr_at]; omega, by simp [wr_at]; omega⟩ | exact b2_R _ | exact bC_R _ | exact band_R _ _ | exact bor_R _ _ | exact bshl_R _ _ | exact bshr_R _ _ | exact bxor_R _ _ | exact bs_R (by omega) | decide) (fun h_12 => ?_) (fun h_12 => ?_)
    · obtain rfl : l = nl := by omega
      have hse := stI_enc l hnl4 live hlv
      rw [hse] at hsR
      rw [hse]
      refine ev_iload_n dX8_roundOf_54 rfl ?_
      refine ev_bipush dX8_roundOf_55 (by decide) ?_
      refine ev_icmp_ne (tgt := 62) dX8_roundOf_57 (by decide) (by first | exact hR.1 _ _ | exact hR0.1 _ _ | assumption | exact ⟨by omega, by omega⟩ | exact ⟨by simp [wr_at]; omega, by simp [wr_at]; omega⟩ | exact b2_R _ | exact bC_R _ | exact band_R _ _ | exact bor_R _ _ | exact bshl_R _ _ | exact bshr_R _ _ | exact bxor_R _ _ | exact bs_R (by omega) | decide) (by first | exact hR.1 _ _ | exact hR0.1 _ _ | assumption | exact ⟨by omega, by omega⟩ | exact ⟨by simp [wr_at]; omega, by simp [wr_at]; omega⟩ | exact b2_R _ | exact bC_R _ | exact band_R _ _ | exact bor_R _ _ | exact bshl_R _ _ | exact bshr_R _ _ | exact bxor_R _ _ | exact bs_R (by omega) | decide) (fun h_57 => ?_) (fun h_57 => ?_)
      · refine ev_iconst dX8_roundOf_62 ?_
        refine ev_istore dX8_roundOf_63 rfl (by decide) rfl ?_
        have hne : live ≠ 0 := fun y => h_57 (by rw [y]; rfl)
        rw [hrc hne, hK9]
        exact fill hne 0 (by omega) μ ⟨Same.rf, fun j hj => by omega⟩ _ _
      · refine ev_iconst dX8_roundOf_60 ?_
        refine ev_ireturn dX8_roundOf_61 ?_
        have hl0 := hen.2.1 (by omega)
        unfold rndC
        rw [if_pos hl0]
        exact ⟨rfl, Same.rf⟩
    · have hln : l < nl := by omega
      have hu := pw l (by omega)
      have edn : μ.1 104 (l : Int) = b2 (dv.testBit l = true) := hMO.dn hln
      have hlb : live.testBit l = (s.testBit l && !dv.testBit l) := by rw [← hlive, andn_test]
      refine ev_iload_n dX8_roundOf_15 rfl ?_
      refine ev_iload_n dX8_roundOf_16 rfl ?_
      refine ev_iload dX8_roundOf_17 rfl ?_
      refine ev_callSI dX8_roundOf_19 ks_X8_339 (m_has μ s l (by omega) (by omega)) rfl rfl ⟨by decide, by decide⟩ (Nat.le_of_ble_eq_true rfl) ?_
      refine ev_w (fun hR => ?_)
      refine ev_if_eq (tgt := 45) dX8_roundOf_22 (by decide) (by first | exact hR.1 _ _ | exact hR0.1 _ _ | assumption | exact ⟨by omega, by omega⟩ | exact ⟨by simp [wr_at]; omega, by simp [wr_at]; omega⟩ | exact b2_R _ | exact bC_R _ | exact band_R _ _ | exact bor_R _ _ | exact bshl_R _ _ | exact bshr_R _ _ | exact bxor_R _ _ | exact bs_R (by omega) | decide) (fun h_22 => ?_) (fun h_22 => ?_)
      · refine ev_iconst dX8_roundOf_45 ?_
        refine ev_isub dX8_roundOf_46 ?_
        refine ev_istore_n dX8_roundOf_47 rfl (by decide) rfl ?_
        refine ev_iinc dX8_roundOf_48 rfl rfl (by decide) rfl ?_
        refine ev_goto (tgt := 6) dX8_roundOf_51 (by decide) ?_
        have q9 := ih (by omega) x5 x6
        rw [hsu] at q9
        first
          | (rw [if_neg (by have y := b2_eq h_22; rw [hlb]; simp [y])] at q9; exact q9)
          | (rw [if_neg (by have y := b2_ne h_32; rw [hlb, y]; simp)] at q9; exact q9)
          | (rw [if_pos (by have y := b2_ne h_22; have y2 := b2_eq h_32; rw [hlb, y]; simp [y2])] at q9; exact q9)
      · refine ev_aload_n dX8_roundOf_25 rfl ?_
        refine ev_getR (r := 104) dX8_roundOf_26 fl_X8_83 rfl rfl rfl ?_
        refine ev_iload dX8_roundOf_29 rfl ?_
        refine ev_zaload dX8_roundOf_31 rfl (by first | omega | (simp [wr_at]; omega) | (simp [wr_at, *]; omega)) (by first | omega | (simp [wr_at]; omega) | (simp [wr_at, *]; omega)) (by decide) ?_
        rw [edn]
        refine ev_if_ne (tgt := 45) dX8_roundOf_32 (by decide) (by first | exact hR.1 _ _ | exact hR0.1 _ _ | assumption | exact ⟨by omega, by omega⟩ | exact ⟨by simp [wr_at]; omega, by simp [wr_at]; omega⟩ | exact b2_R _ | exact bC_R _ | exact band_R _ _ | exact bor_R _ _ | exact bshl_R _ _ | exact bshr_R _ _ | exact bxor_R _ _ | exact bs_R (by omega) | decide) (fun h_32 => ?_) (fun h_32 => ?_)
        · refine ev_iconst dX8_roundOf_45 ?_
          refine ev_isub dX8_roundOf_46 ?_
          refine ev_istore_n dX8_roundOf_47 rfl (by decide) rfl ?_
          refine ev_iinc dX8_roundOf_48 rfl rfl (by decide) rfl ?_
          refine ev_goto (tgt := 6) dX8_roundOf_51 (by decide) ?_
          have q9 := ih (by omega) x5 x6
          rw [hsu] at q9
          first
            | (rw [if_neg (by have y := b2_eq h_22; rw [hlb]; simp [y])] at q9; exact q9)
            | (rw [if_neg (by have y := b2_ne h_32; rw [hlb, y]; simp)] at q9; exact q9)
            | (rw [if_pos (by have y := b2_ne h_22; have y2 := b2_eq h_32; rw [hlb, y]; simp [y2])] at q9; exact q9)
        · refine ev_iconst dX8_roundOf_35 ?_
          refine ev_iload dX8_roundOf_36 rfl ?_
          refine ev_callSI dX8_roundOf_38 ks_X8_399 (m_unit μ l (by omega)) rfl rfl ⟨by decide, by decide⟩ (Nat.le_of_ble_eq_true rfl) ?_
          refine ev_w (fun hR => ?_)
          refine ev_imul dX8_roundOf_41 ?_
          refine ev_goto (tgt := 46) dX8_roundOf_42 (by decide) ?_
          refine ev_isub dX8_roundOf_46 ?_
          refine ev_istore_n dX8_roundOf_47 rfl (by decide) rfl ?_
          refine ev_iinc dX8_roundOf_48 rfl rfl (by decide) rfl ?_
          refine ev_goto (tgt := 6) dX8_roundOf_51 (by decide) ?_
          have q9 := ih (by omega) x5 x6
          rw [hsu] at q9
          first
            | (rw [if_neg (by have y := b2_eq h_22; rw [hlb]; simp [y])] at q9; exact q9)
            | (rw [if_neg (by have y := b2_ne h_32; rw [hlb, y]; simp)] at q9; exact q9)
            | (rw [if_pos (by have y := b2_ne h_22; have y2 := b2_eq h_32; rw [hlb, y]; simp [y2])] at q9; exact q9)
  refine ev_bipush dX8_roundOf_0 (by decide) ?_
  refine ev_istore_n dX8_roundOf_2 rfl (by decide) rfl ?_
  refine ev_iconst dX8_roundOf_3 ?_
  refine ev_istore dX8_roundOf_4 rfl (by decide) rfl ?_
  exact first 0 (by omega) _ _
theorem m_round (μ σ : Mem) (P n nr nb nl mb w wt dv : Nat) (f t : Nat → Nat) (hMO : MOk μ σ P n nr nb nl mb w wt dv f t) (hRo : RoundOk σ n nb nl) (N : Nat) (hN : N = 2 ^ nl) (b x : Int) (hb : inR b) (hx : inR x) : Con yX8_round cX8_round 4 (some .int) 5 124 [.ref 79, .int (iI b), .int (iI x)] μ (AnsIP (roundZ nb N dv (rndC σ P n nr nl w wt f t) b x) (fun ν => Same s124 μ ν)) := by
  refine con_of (by decide) rfl (Nat.le_of_ble_eq_true rfl) (ok_IP rfl) ?_
  refine ev_w (fun hR => ?_)
  have hR0 := hR
  have hM := hMO.rp
  obtain ⟨hPO, hMP, hwc⟩ := id hM
  obtain ⟨hPR, ⟨hnb, hnb4⟩, ⟨hnl, hnl4⟩, hpo, hro, hbo, hlo⟩ := id hPO
  obtain ⟨hP, hn, hn8, hnr, hnr12, hft⟩ := id hPR
  obtain ⟨⟨cn, cr, cb, cl⟩, mp, mr, mbo, ml⟩ := id hMP
  have h2l : 2 ^ nl ≤ 2 ^ 4 := Nat.pow_le_pow_right (by decide) hnl4
  refine ev_aload_n dX8_round_0 rfl ?_
  refine ev_iload_n dX8_round_1 rfl ?_
  refine ev_callVI dX8_round_2 kv_X8_330 (m_isBoy μ b nb (by assumption) cb (by omega)) rfl rfl (ci := 8) rfl rfl ⟨by decide, by decide⟩ (Nat.le_of_ble_eq_true rfl) ?_
  refine ev_w (fun hR => ?_)
  refine ev_if_eq (tgt := 26) dX8_round_5 (by decide) (by first | exact hR.1 _ _ | exact hR0.1 _ _ | assumption | exact ⟨by omega, by omega⟩ | exact ⟨by simp [wr_at]; omega, by simp [wr_at]; omega⟩ | exact b2_R _ | exact bC_R _ | exact band_R _ _ | exact bor_R _ _ | exact bshl_R _ _ | exact bshr_R _ _ | exact bxor_R _ _ | exact bs_R (by omega) | decide) (fun h_5 => ?_) (fun h_5 => ?_)
  · refine ev_ldcw (z := -1000000001) dX8_round_26 kc_X8_316 (by decide) ?_
    refine ev_ireturn dX8_round_29 ?_
    unfold roundZ
    first
      | (have z := b2_eq h_5; rw [if_pos (fun y => z y.1)]; exact ⟨rfl, Same.rf⟩)
      | (have z := b2_eq (by omega : b2 (0 ≤ x ∧ x ≤ ((2 ^ nl : Nat) : Int) - 1) = 0); rw [if_pos (fun y => z ⟨y.2.1, by omega⟩)]; exact ⟨rfl, Same.rf⟩)
  · have q0 := b2_ne h_5
    refine ev_iload_n dX8_round_8 rfl ?_
    refine ev_i2l dX8_round_9 hx ?_
    refine ev_lconst (z := 0) dX8_round_10 (by decide) ?_
    refine ev_iconst dX8_round_11 ?_
    refine ev_aload_n dX8_round_12 rfl ?_
    refine ev_getI (kz := 13) dX8_round_13 fl_X8_190 rfl rfl rfl ?_
    rw [cl]
    refine ev_ishl dX8_round_16 ?_
    rw [bshl1 nl (by omega)]
    refine ev_iconst dX8_round_17 ?_
    refine ev_isub dX8_round_18 ?_
    refine ev_i2l dX8_round_19 ⟨by omega, by omega⟩ ?_
    refine ev_callSI dX8_round_20 ks_X8_180 (m_in μ x 0 ((2 ^ nl : Nat) - 1) ⟨by omega, by omega⟩ (by decide) ⟨by omega, by omega⟩) rfl rfl ⟨by decide, by decide⟩ (Nat.le_of_ble_eq_true rfl) ?_
    refine ev_w (fun hR => ?_)
    refine ev_if_ne (tgt := 30) dX8_round_23 (by decide) (by first | exact hR.1 _ _ | exact hR0.1 _ _ | assumption | exact ⟨by omega, by omega⟩ | exact ⟨by simp [wr_at]; omega, by simp [wr_at]; omega⟩ | exact b2_R _ | exact bC_R _ | exact band_R _ _ | exact bor_R _ _ | exact bshl_R _ _ | exact bshr_R _ _ | exact bxor_R _ _ | exact bs_R (by omega) | decide) (fun h_23 => ?_) (fun h_23 => ?_)
    · have q1 := b2_ne h_23
      obtain ⟨b, rfl⟩ := Int.eq_ofNat_of_zero_le q0.1
      obtain ⟨s, rfl⟩ := Int.eq_ofNat_of_zero_le q1.1
      have hrR := rndC_R (w := w) (wt := wt) hPO hRo (show b < nb by omega) (show andn s dv < 2 ^ nl from Nat.lt_of_le_of_lt (andn_le _ _) (by omega))
      refine ev_aload_n dX8_round_30 rfl ?_
      refine ev_iload_n dX8_round_31 rfl ?_
      refine ev_iload_n dX8_round_32 rfl ?_
      refine ev_callVP dX8_round_33 kv_X8_414 (m_roundOf μ σ P n nr nb nl mb w wt dv f t hMO b s (by omega) (by omega)) rfl rfl (ci := 8) rfl rfl ⟨by decide, by decide⟩ (Nat.le_of_ble_eq_true rfl) ?_
      rintro v_33 τ_33 ⟨rfl, hq_33⟩
      refine ev_w (fun hR => ?_)
      have hmn : min (rndC σ P n nr nl w wt f t b (andn s dv)) 1000000 = min (rndC σ P n nr nl w wt f t b (andn s dv)) 1000000 := rfl
      generalize hr9 : rndC σ P n nr nl w wt f t b (andn s dv) = r9 at *
      have hor : orN r9 = if min r9 1000000 < 1000000 then min r9 1000000 else -1 := by
        unfold orN
        split <;> split <;> omega
      refine ev_istore_n dX8_round_36 rfl (by decide) rfl ?_
      refine ev_iload_n dX8_round_37 rfl ?_
      refine ev_ldcw (z := 1000000) dX8_round_38 kc_X8_388 (by decide) ?_
      refine ev_icmp_lt (tgt := 48) dX8_round_41 (by decide) ⟨by omega, by omega⟩ ⟨by omega, by omega⟩ (fun h_41 => ?_) (fun h_41 => ?_)
      · refine ev_iload_n dX8_round_48 rfl ?_
        refine ev_ireturn dX8_round_49 ?_
        unfold roundZ
        rw [if_neg (fun y => y ⟨q0, ⟨q1.1, by omega⟩⟩), show ((b : Int)).toNat = b from rfl, show ((s : Int)).toNat = s from rfl, hr9, hor]
        first
          | (rw [if_pos (by omega)]; exact ⟨rfl, hq_33⟩)
          | (rw [if_neg (by omega)]; exact ⟨rfl, hq_33⟩)
      · refine ev_iconst dX8_round_44 ?_
        refine ev_goto (tgt := 49) dX8_round_45 (by decide) ?_
        refine ev_ireturn dX8_round_49 ?_
        unfold roundZ
        rw [if_neg (fun y => y ⟨q0, ⟨q1.1, by omega⟩⟩), show ((b : Int)).toNat = b from rfl, show ((s : Int)).toNat = s from rfl, hr9, hor]
        first
          | (rw [if_pos (by omega)]; exact ⟨rfl, hq_33⟩)
          | (rw [if_neg (by omega)]; exact ⟨rfl, hq_33⟩)
    · refine ev_ldcw (z := -1000000001) dX8_round_26 kc_X8_316 (by decide) ?_
      refine ev_ireturn dX8_round_29 ?_
      unfold roundZ
      first
        | (have z := b2_eq h_5; rw [if_pos (fun y => z y.1)]; exact ⟨rfl, Same.rf⟩)
        | (have z := b2_eq (by omega : b2 (0 ≤ x ∧ x ≤ ((2 ^ nl : Nat) : Int) - 1) = 0); rw [if_pos (fun y => z ⟨y.2.1, by omega⟩)]; exact ⟨rfl, Same.rf⟩)
