def s124 (c : Nat) : Prop := c = 124
theorem MOk.bst {μ ν σ : Mem} {P n nr nb nl mb w wt dv : Nat} {f t : Nat → Nat} (hMO : MOk μ σ P n nr nb nl mb w wt dv f t) (hS : Same s124 μ ν) : MOk ν σ P n nr nb nl mb w wt dv f t := ⟨hMO.1, hMO.2.1, (hMO.rp.to (fun k _ => hS.at (by unfold s124; decide) k) (fun c h1 h2 _ => hS.1 c (by unfold s124; omega))).2.1, by
  have := hMO.2.2.2
  unfold MDy at *
  rw [hS.1 79 (by unfold s124; decide), hS.1 95 (by unfold s124; decide), hS.1 96 (by unfold s124; decide), hS.1 97 (by unfold s124; decide), hS.1 98 (by unfold s124; decide), hS.1 99 (by unfold s124; decide), hS.1 100 (by unfold s124; decide), hS.1 101 (by unfold s124; decide), hS.1 102 (by unfold s124; decide), hS.1 103 (by unfold s124; decide), hS.1 104 (by unfold s124; decide), hS.1 105 (by unfold s124; decide), hS.1 106 (by unfold s124; decide)]
  exact this⟩
def BB (ν : Mem) (p st : Nat) : Int := ν.1 124 (81 * (p : Int) + st)
def bsum (ν : Mem) : Int := sumI (fun k => ν.1 124 k) 648
/-- the reference's table under way: K is what no way can go below -/
def TInv (μ ν : Mem) (V : Nat → Nat → Int) (live n p0 st0 : Nat) (K go : Int) : Prop := Same s124 μ ν ∧ (∀ k : Nat, k < 648 → 0 ≤ ν.1 124 k ∧ ν.1 124 k ≤ 1000000) ∧ (∀ p st, p < n → st < 81 → BB ν p st < 1000000 → okst live st ∧ K ≤ BB ν p st + V st p) ∧ BB ν p0 st0 ≤ go
theorem bb_R {μ ν : Mem} {V : Nat → Nat → Int} {live n p0 st0 : Nat} {K go : Int} (h : TInv μ ν V live n p0 st0 K go) (hn : n ≤ 8) {p st : Nat} (hp : p < n) (hs : st < 81) : 0 ≤ BB ν p st ∧ BB ν p st ≤ 1000000 := by
  have := h.2.1 (81 * p + st) (by omega)
  rw [show ((81 * p + st : Nat) : Int) = 81 * (p : Int) + st by omega] at this
  exact this
theorem bsum_0 {μ ν : Mem} {V : Nat → Nat → Int} {live n p0 st0 : Nat} {K go : Int} (h : TInv μ ν V live n p0 st0 K go) : 0 ≤ bsum ν := (sumI_R (M := 1000000) (fun i hi => h.2.1 i hi)).1
theorem tstep {μ ν : Mem} {V : Nat → Nat → Int} {live n p0 st0 : Nat} {K go : Int} (h : TInv μ ν V live n p0 st0 K go) (hn : n ≤ 8) {q s : Nat} (hq : q < n) (hs : s < 81) {v : Int} (hv : 0 ≤ v) (ho : okst live s) (hK : K ≤ v + V s q) (hlt : v < BB ν q s) : TInv μ (wr ν 124 ((81 * q + s : Nat) : Int) v) V live n p0 st0 K go ∧ bsum (wr ν 124 ((81 * q + s : Nat) : Int) v) < bsum ν := by
  obtain ⟨h1, h2, h3, h4⟩ := id h
  have bq := bb_R h hn hq hs
  have at9 : ∀ k : Nat, (wr ν 124 ((81 * q + s : Nat) : Int) v).1 124 k = if k = 81 * q + s then v else ν.1 124 k := fun k => by
    rw [wr_at]
    by_cases e : k = 81 * q + s
    · rw [if_pos ⟨rfl, by omega⟩, if_pos e]
    · rw [if_neg (by omega), if_neg e]
  have bb9 : ∀ p st, st < 81 → BB (wr ν 124 ((81 * q + s : Nat) : Int) v) p st = if p = q ∧ st = s then v else BB ν p st := fun p st hst => by
    unfold BB
    rw [show (81 * (p : Int) + st) = ((81 * p + st : Nat) : Int) by omega, at9]
    by_cases e : p = q ∧ st = s
    · rw [if_pos (by omega), if_pos e]
    · rw [if_neg (by omega), if_neg e]
  have e9 : BB ν q s = ν.1 124 ((81 * q + s : Nat) : Int) := by unfold BB; rw [show (81 * (q : Int) + s) = ((81 * q + s : Nat) : Int) by omega]
  refine ⟨⟨h1.wr rfl, fun k hk => ?_, fun p st hp hst => ?_, ?_⟩, ?_⟩
  · rw [at9]
    split
    · omega
    · exact h2 k hk
  · rw [bb9 p st hst]
    split
    next e => obtain ⟨rfl, rfl⟩ := e; intro _; exact ⟨ho, hK⟩
    next => exact h3 p st hp hst
  · by_cases e : p0 = q ∧ st0 = s
    · obtain ⟨rfl, rfl⟩ := e
      rw [bb9 p0 st0 hs, if_pos ⟨rfl, rfl⟩]; omega
    · unfold BB at *
      rw [wr_at]
      split
      next e2 => rw [e2.2] at h4; omega
      next => exact h4
  · refine sumI_lt (fun i hi => ?_) ⟨81 * q + s, by omega, ?_⟩
    · show (wr ν 124 ((81 * q + s : Nat) : Int) v).1 124 i ≤ ν.1 124 i
      rw [at9]
      split
      next e => subst e; omega
      next => exact Int.le_refl _
    · show (wr ν 124 ((81 * q + s : Nat) : Int) v).1 124 ((81 * q + s : Nat) : Int) < ν.1 124 ((81 * q + s : Nat) : Int)
      rw [wr_eq]; omega
/-- what goOn leaves behind where it found nothing better -/
def EdOk (ν : Mem) (cost : Nat → Nat → Int) (f t fr to : Nat → Nat) (nr nl p st : Nat) : Prop := (∀ x, x < nl → fig st x = 0 → fr x = p → cnt (cSet st).testBit 12 < 2 → BB ν p (st + 3 ^ x) ≤ BB ν p st) ∧
  ∀ r, r < nr → cost (cSet st) r ≠ -1 → (f r = p → BB ν (t r) (laidN (fun k => decide (to k = t r)) st nl) ≤ BB ν p st + cost (cSet st) r) ∧ (t r = p → BB ν (f r) (laidN (fun k => decide (to k = f r)) st nl) ≤ BB ν p st + cost (cSet st) r)
set_option maxHeartbeats 8000000 in
theorem m_goOn (μ σ : Mem) (P n nr nb nl mb w wt dv : Nat) (f t : Nat → Nat) (hMO : MOk μ σ P n nr nb nl mb w wt dv f t) (b live p0 st0 : Nat) (K go : Int) (hb : b < nb) (hW : WyOk2 (fun c => dst σ P n nr nl w wt f t b c 0) n) (hFt : FtOk live n (frZ σ P) (toZ σ P)) (ν : Mem) (hI : TInv μ ν (fun st p => Vf (fun c => dst σ P n nr nl w wt f t b c 0) (frZ σ P) (toZ σ P) (lSet st) (cSet st) p) live n p0 st0 K go) (p st : Nat) (hp : p < n) (hst : st < 81) (hfin : BB ν p st < 1000000) : Con yX8_goOn cX8_goOn 9 (some .boolean) 3 70 [.ref 79, .int (iI b), .int (iI p), .int (iI st)] ν (AnsQ (fun z ν9 => (z = 0 ∧ ν9 = ν ∧ EdOk ν (fun c r => minZ σ P nl w wt r b c 0) f t (frZ σ P) (toZ σ P) nr nl p st) ∨ (z = 1 ∧ TInv μ ν9 (fun st p => Vf (fun c => dst σ P n nr nl w wt f t b c 0) (frZ σ P) (toZ σ P) (lSet st) (cSet st) p) live n p0 st0 K go ∧ bsum ν9 < bsum ν))) := by
  refine con_of (by decide) rfl (Nat.le_of_ble_eq_true rfl) (ok_QZ rfl (fun z τ h => h.imp (fun y => y.1) (fun y => y.1))) ?_
  refine ev_w (fun hR => ?_)
  have hR0 := hR
  have hM := hMO.rp
  obtain ⟨hPO, hMP, hwc⟩ := id hM
  obtain ⟨hPR, ⟨hnb, hnb4⟩, ⟨hnl, hnl4⟩, hpo, hro, hbo, hlo⟩ := id hPO
  obtain ⟨hP, hn, hn8, hnr, hnr12, hft⟩ := id hPR
  obtain ⟨⟨cn, cr, cb, cl⟩, mp, mr, mbo, ml⟩ := id hMP
  have hDi : ∀ c, isDist (dst σ P n nr nl w wt f t b c 0) f t (fun r => minZ σ P nl w wt r b c 0) n nr := fun c => dst_dist hPO hb
  have hI3 := hI.2.2.1 p st hp hst hfin
  have hbb := bb_R hI hn8 hp hst
  have hcs := cSet_lt st
  have pw : ∀ i, i < 4 → 3 ^ i ≤ 27 := by decide
  have hcl := cnt_le (cSet st).testBit 12
  generalize hnow : BB ν p st = now at *
  have hI32 : K ≤ now + Vf (fun c => dst σ P n nr nl w wt f t b c 0) (frZ σ P) (toZ σ P) (lSet st) (cSet st) p := hI3.2
  have mok := fun ν1 (hS : Same s124 μ ν1) => hMO.bst hS
  have loop2 : ∀ r : Nat, r ≤ nr → ∀ z ν1, ((z = 0 ∧ ν1 = ν ∧ (∀ x9, x9 < nl → fig st x9 = 0 → frZ σ P x9 = p → cnt (cSet st).testBit 12 < 2 → BB ν p (st + 3 ^ x9) ≤ now) ∧ (∀ r9, r9 < r → minZ σ P nl w wt r9 b (cSet st) 0 ≠ -1 → (f r9 = p → BB ν (t r9) (laidN (fun k => decide (toZ σ P k = t r9)) st nl) ≤ now + minZ σ P nl w wt r9 b (cSet st) 0) ∧ (t r9 = p → BB ν (f r9) (laidN (fun k => decide (toZ σ P k = f r9)) st nl) ≤ now + minZ σ P nl w wt r9 b (cSet st) 0))) ∨ (z = 1 ∧ TInv μ ν1 (fun st p => Vf (fun c => dst σ P n nr nl w wt f t b c 0) (frZ σ P) (toZ σ P) (lSet st) (cSet st) p) live n p0 st0 K go ∧ bsum ν1 < bsum ν)) → ∀ x8, Ev RX8 cX8_goOn 9 3 70 (AnsQ (fun z ν9 => (z = 0 ∧ ν9 = ν ∧ EdOk ν (fun c r => minZ σ P nl w wt r b c 0) f t (frZ σ P) (toZ σ P) nr nl p st) ∨ (z = 1 ∧ TInv μ ν9 (fun st p => Vf (fun c => dst σ P n nr nl w wt f t b c 0) (frZ σ P) (toZ σ P) (lSet st) (cSet st) p) live n p0 st0 K go ∧ bsum ν9 < bsum ν))) 130 [some (.ref 79), some (.int (iI b)), some (.int (iI p)), some (.int (iI st)), some (.int (iI now)), some (.int (iI (cSet st : Nat))), some (.int (iI z)), some (.int (iI (r : Nat))), x8] [] ν1 := by
    refine for_up nr (fun r hr ih => ?_)
    intro z ν1 hz x8
    refine ev_w (fun hR => ?_)
    have hT1 : TInv μ ν1 (fun st p => Vf (fun c => dst σ P n nr nl w wt f t b c 0) (frZ σ P) (toZ σ P) (lSet st) (cSet st) p) live n p0 st0 K go := by
      rcases hz with q | q
      · rw [q.2.1]; exact hI
      · exact q.2.1
    have hzz : z = 0 ∨ z = 1 := by
      rcases hz with q | q
      · exact Or.inl q.1
      · exact Or.inr q.1
    have hzR : inR z := by rcases hzz with rfl | rfl <;> decide
    have hm1 := mok ν1 hT1.1
    have hcr : ν1.1 79 4 = nr := hm1.2.2.1.1.2.1
    refine ev_iload dX8_goOn_130 rfl ?_
    refine ev_aload_n dX8_goOn_132 rfl ?_
    refine ev_getI (kz := 4) dX8_goOn_133 fl_X8_184 rfl rfl rfl ?_
    rw [hcr]
    refine ev_icmp_ge (tgt := 216) dX8_goOn_136 (by decide) (by first | exact hR.1 _ _ | exact hR0.1 _ _ | assumption | exact ⟨by omega, by omega⟩ | exact ⟨by simp [wr_at]; omega, by simp [wr_at]; omega⟩ | exact b2_R _ | exact bC_R _ | exact band_R _ _ | exact bor_R _ _ | exact bshl_R _ _ | exact bshr_R _ _ | exact bxor_R _ _ | exact bs_R (by omega) | decide) (by first | exact hR.1 _ _ | exact hR0.1 _ _ | assumption | exact ⟨by omega, by omega⟩ | exact ⟨by simp [wr_at]; omega, by simp [wr_at]; omega⟩ | exact b2_R _ | exact bC_R _ | exact band_R _ _ | exact bor_R _ _ | exact bshl_R _ _ | exact bshr_R _ _ | exact bxor_R _ _ | exact bs_R (by omega) | decide) (fun h_136 => ?_) (fun h_136 => ?_)
    · refine ev_iload dX8_goOn_216 rfl ?_
      refine ev_ireturn dX8_goOn_218 ?_
      obtain rfl : r = nr := by omega
      refine ⟨z, rfl, ?_⟩
      rcases hz with q | q
      · refine Or.inl ⟨q.1, q.2.1, ?_⟩
        unfold EdOk
        rw [hnow]
        exact ⟨q.2.2.1, q.2.2.2⟩
      · exact Or.inr q
    · have hrn : r < nr := by omega
      have hfr := hft r hrn
      have e83 : ν1.1 83 (r : Int) = (f r : Int) := by rw [(hm1.2.2.1.2.2.1 r hrn).1, hfr.1]
      have e84 : ν1.1 84 (r : Int) = (t r : Int) := by rw [(hm1.2.2.1.2.2.1 r hrn).2.1, hfr.2.1]
      have hmm := hPO.min (w := w) (wt := wt) (s := cSet st) (dry := 0) hrn hb
      have hoe : othE (ν1.1 83 (r : Int)) (ν1.1 84 (r : Int)) (p : Int) = if f r = p then (t r : Int) else if t r = p then (f r : Int) else -1 := by
        rw [e83, e84]
        unfold othE
        by_cases q1 : f r = p
        · rw [if_pos (by omega), if_pos q1]
        · rw [if_neg (by omega), if_neg q1]
          by_cases q2 : t r = p
          · rw [if_pos (by omega), if_pos q2]
          · rw [if_neg (by omega), if_neg q2]
      have stay : ∀ z1 x8, (z1 = z) → ((f r = p ∨ t r = p) → minZ σ P nl w wt r b (cSet st) 0 ≠ -1 → ∀ q : Nat, (q = t r ∧ f r = p) ∨ (q = f r ∧ t r = p) → BB ν1 q (laidN (fun k => decide (toZ σ P k = q)) st nl) ≤ now + minZ σ P nl w wt r b (cSet st) 0) → Ev RX8 cX8_goOn 9 3 70 (AnsQ (fun z ν9 => (z = 0 ∧ ν9 = ν ∧ EdOk ν (fun c r => minZ σ P nl w wt r b c 0) f t (frZ σ P) (toZ σ P) nr nl p st) ∨ (z = 1 ∧ TInv μ ν9 (fun st p => Vf (fun c => dst σ P n nr nl w wt f t b c 0) (frZ σ P) (toZ σ P) (lSet st) (cSet st) p) live n p0 st0 K go ∧ bsum ν9 < bsum ν))) 130 [some (.ref 79), some (.int (iI b)), some (.int (iI p)), some (.int (iI st)), some (.int (iI now)), some (.int (iI (cSet st : Nat))), some (.int (iI z1)), some (.int (iI ((r : Nat) + 1 : Nat))), x8] [] ν1 := by
        intro z1 x8 hz1 hok
        subst hz1
        refine ih (by omega) z1 ν1 ?_ x8
        rcases hz with q | q
        · refine Or.inl ⟨q.1, q.2.1, q.2.2.1, fun r9 hr9 hc9 => ?_⟩
          by_cases e : r9 = r
          · subst e
            have k9 := q.2.1
            subst k9
            exact ⟨fun y => hok (Or.inl y) hc9 _ (Or.inl ⟨rfl, y⟩), fun y => hok (Or.inr y) hc9 _ (Or.inr ⟨rfl, y⟩)⟩
          · exact q.2.2.2 r9 (by omega) hc9
        · exact Or.inr q
      refine ev_aload_n dX8_goOn_139 rfl ?_
      refine ev_iload dX8_goOn_140 rfl ?_
      refine ev_iload_n dX8_goOn_142 rfl ?_
      refine ev_callVI dX8_goOn_143 kv_X8_349 (m_otherEnd ν1 r p (by omega) (by omega) ⟨by omega, by omega⟩) rfl rfl (ci := 8) rfl rfl ⟨by decide, by decide⟩ (Nat.le_of_ble_eq_true rfl) ?_
      refine ev_w (fun hR => ?_)
      refine ev_istore dX8_goOn_146 rfl (by decide) rfl ?_
      refine ev_iload dX8_goOn_148 rfl ?_
      refine ev_if_lt (tgt := 210) dX8_goOn_150 (by decide) (othE_R (hR.1 _ _) (hR.1 _ _)) (fun h_150 => ?_) (fun h_150 => ?_)
      · refine ev_iinc dX8_goOn_210 rfl rfl (by decide) rfl ?_
        refine ev_goto (tgt := 130) dX8_goOn_213 (by decide) ?_
        first
          | (refine stay z _ rfl (fun y1 _ q9 hq9 => ?_)
             exfalso
             rw [hoe] at h_150
             rcases hq9 with y | y
             · rw [if_pos y.2] at h_150; omega
             · rw [if_neg (fun y2 => hfr.2.2.2.2 (by rw [y2, y.2])), if_pos y.2] at h_150; omega)
          | (refine stay z _ rfl (fun _ y2 q9 hq9 => ?_)
             exfalso
             refine y2 ?_
             unfold minZ
             rw [if_neg (b2_eq h_162)])
          | (have y := b2_ne h_195
             rw [if_pos y]
             exact rise _ y)
          | (have y := b2_eq h_195
             rw [if_neg y]
             have h0 : z = 0 := by omega
             have q9 := fall (some (.int (iI (q : Nat)))) y
             rw [h0] at q9
             exact q9)
          | (have y := b2_eq h_195
             rw [if_neg y]
             have h0 : z = 1 := by omega
             have q9 := fall (some (.int (iI (q : Nat)))) y
             rw [h0] at q9
             exact q9)
      · obtain ⟨q, hq, hqe⟩ : ∃ q : Nat, othE (ν1.1 83 (r : Int)) (ν1.1 84 (r : Int)) (p : Int) = (q : Int) ∧ ((q = t r ∧ f r = p) ∨ (q = f r ∧ t r = p)) := by
          rw [hoe]
          rw [hoe] at h_150
          by_cases q1 : f r = p
          · rw [if_pos q1]; exact ⟨t r, rfl, Or.inl ⟨rfl, q1⟩⟩
          · rw [if_neg q1] at h_150 ⊢
            by_cases q2 : t r = p
            · rw [if_pos q2]; exact ⟨f r, rfl, Or.inr ⟨rfl, q2⟩⟩
            · rw [if_neg q2] at h_150; omega
        rw [hq]
        have hqn : q < n := by omega
        refine ev_aload_n dX8_goOn_153 rfl ?_
        refine ev_iload_n dX8_goOn_154 rfl ?_
        refine ev_iload dX8_goOn_155 rfl ?_
        refine ev_iload dX8_goOn_157 rfl ?_
        refine ev_callVI dX8_goOn_159 kv_X8_352 (r_mayRope ν1 σ P n nr nb nl w wt f t hm1.rp b r (cSet st) hb hrn (by omega)) rfl rfl (ci := 8) rfl rfl ⟨by decide, by decide⟩ (Nat.le_of_ble_eq_true rfl) ?_
        refine ev_w (fun hR => ?_)
        refine ev_if_eq (tgt := 210) dX8_goOn_162 (by decide) (by first | exact hR.1 _ _ | exact hR0.1 _ _ | assumption | exact ⟨by omega, by omega⟩ | exact ⟨by simp [wr_at]; omega, by simp [wr_at]; omega⟩ | exact b2_R _ | exact bC_R _ | exact band_R _ _ | exact bor_R _ _ | exact bshl_R _ _ | exact bshr_R _ _ | exact bxor_R _ _ | exact bs_R (by omega) | decide) (fun h_162 => ?_) (fun h_162 => ?_)
        · refine ev_iinc dX8_goOn_210 rfl rfl (by decide) rfl ?_
          refine ev_goto (tgt := 130) dX8_goOn_213 (by decide) ?_
          first
            | (refine stay z _ rfl (fun y1 _ q9 hq9 => ?_)
               exfalso
               rw [hoe] at h_150
               rcases hq9 with y | y
               · rw [if_pos y.2] at h_150; omega
               · rw [if_neg (fun y2 => hfr.2.2.2.2 (by rw [y2, y.2])), if_pos y.2] at h_150; omega)
            | (refine stay z _ rfl (fun _ y2 q9 hq9 => ?_)
               exfalso
               refine y2 ?_
               unfold minZ
               rw [if_neg (b2_eq h_162)])
            | (have y := b2_ne h_195
               rw [if_pos y]
               exact rise _ y)
            | (have y := b2_eq h_195
               rw [if_neg y]
               have h0 : z = 0 := by omega
               have q9 := fall (some (.int (iI (q : Nat)))) y
               rw [h0] at q9
               exact q9)
            | (have y := b2_eq h_195
               rw [if_neg y]
               have h0 : z = 1 := by omega
               have q9 := fall (some (.int (iI (q : Nat)))) y
               rw [h0] at q9
               exact q9)
        · have hmay := b2_ne h_162
          have hmz : minZ σ P nl w wt r b (cSet st) 0 = minF (σ.1 (P + 7) r) (σ.1 (P + 11) b) (anyK σ (P + 16) nl (cSet st) 2) (wt.testBit r) 0 := by
            unfold minZ
            rw [if_pos hmay]
          have hmF := minF_R (lv := anyK σ (P + 16) nl (cSet st) 2) (wt := wt.testBit r) (dry := 0) (hro r hrn).1.1 (hro r hrn).1.2 (hbo b hb).2.2.1 (hbo b hb).2.2.2
          rw [← hmz] at hmF
          have hwl : dst σ P n nr nl w wt f t b (cSet st) 0 p q ≤ minZ σ P nl w wt r b (cSet st) 0 := by
            have fe := (hDi (cSet st)).2.2.2.1 p hp r hrn (show minZ σ P nl w wt r b (cSet st) 0 ≠ -1 by omega)
            have d0 := (hDi (cSet st)).2.1 p hp
            dsimp only at fe
            rcases hqe with ⟨rfl, h9⟩ | ⟨rfl, h9⟩
            · rw [h9, d0] at fe; omega
            · rw [h9, d0] at fe; omega
          have hro9 := e_rope (fr := frZ σ P) (to := toZ σ P) (m := nl) (q := fun k => decide (toZ σ P k = q)) hW hFt hst hI3.1 hp hqn hnl4 (fun k _ hk => of_decide_eq_true hk) hwl
          have h81 := (laid_ok (q := fun k => decide (toZ σ P k = q)) hst nl hnl4).1
          refine ev_aload_n dX8_goOn_165 rfl ?_
          refine ev_bipush dX8_goOn_166 (by decide) ?_
          refine ev_iload dX8_goOn_168 rfl ?_
          refine ev_imul dX8_goOn_170 ?_
          refine ev_aload_n dX8_goOn_171 rfl ?_
          refine ev_iload_n dX8_goOn_172 rfl ?_
          refine ev_iload dX8_goOn_173 rfl ?_
          refine ev_callVI dX8_goOn_175 kv_X8_408 (m_laidAt ν1 σ P n nr nb nl mb w wt dv f t hm1 st q hst hqn) rfl rfl (ci := 8) rfl rfl ⟨by decide, by decide⟩ (Nat.le_of_ble_eq_true rfl) ?_
          refine ev_w (fun hR => ?_)
          refine ev_iadd dX8_goOn_178 ?_
          refine ev_iload dX8_goOn_179 rfl ?_
          refine ev_aload_n dX8_goOn_181 rfl ?_
          refine ev_iload_n dX8_goOn_182 rfl ?_
          refine ev_iload dX8_goOn_183 rfl ?_
          refine ev_iload dX8_goOn_185 rfl ?_
          refine ev_iconst dX8_goOn_187 ?_
          refine ev_callVI dX8_goOn_188 kv_X8_357 (r_minutesOn ν1 σ P n nr nb nl w wt f t hm1.rp b r (cSet st) hb hrn (by omega) 0 (Or.inl rfl)) rfl rfl (ci := 8) rfl rfl ⟨by decide, by decide⟩ (Nat.le_of_ble_eq_true rfl) ?_
          refine ev_w (fun hR => ?_)
          refine ev_iadd dX8_goOn_191 ?_
          rw [← hmz]
          rw [show (81 * (q : Int) + ((laidN (fun k => decide (toZ σ P k = q)) st nl : Nat) : Int)) = ((81 * q + laidN (fun k => decide (toZ σ P k = q)) st nl : Nat) : Int) by omega]
          refine ev_callVI dX8_goOn_192 kv_X8_405 (m_better ν1 (81 * q + laidN (fun k => decide (toZ σ P k = q)) st nl) (now + minZ σ P nl w wt r b (cSet st) 0) (by omega) ⟨by omega, by omega⟩) rfl rfl (ci := 8) rfl rfl ⟨by decide, by decide⟩ (Nat.le_of_ble_eq_true rfl) ?_
          refine ev_w (fun hR => ?_)
          have hbe : ν1.1 124 ((81 * q + laidN (fun k => decide (toZ σ P k = q)) st nl : Nat) : Int) = BB ν1 q (laidN (fun k => decide (toZ σ P k = q)) st nl) := by
            unfold BB
            rw [show (81 * (q : Int) + ((laidN (fun k => decide (toZ σ P k = q)) st nl : Nat) : Int)) = ((81 * q + laidN (fun k => decide (toZ σ P k = q)) st nl : Nat) : Int) by omega]
          have fall : ∀ x8, ¬ now + minZ σ P nl w wt r b (cSet st) 0 < ν1.1 124 ((81 * q + laidN (fun k => decide (toZ σ P k = q)) st nl : Nat) : Int) → Ev RX8 cX8_goOn 9 3 70 (AnsQ (fun z ν9 => (z = 0 ∧ ν9 = ν ∧ EdOk ν (fun c r => minZ σ P nl w wt r b c 0) f t (frZ σ P) (toZ σ P) nr nl p st) ∨ (z = 1 ∧ TInv μ ν9 (fun st p => Vf (fun c => dst σ P n nr nl w wt f t b c 0) (frZ σ P) (toZ σ P) (lSet st) (cSet st) p) live n p0 st0 K go ∧ bsum ν9 < bsum ν))) 130 [some (.ref 79), some (.int (iI b)), some (.int (iI p)), some (.int (iI st)), some (.int (iI now)), some (.int (iI (cSet st : Nat))), some (.int (iI z)), some (.int (iI ((r : Nat) + 1 : Nat))), x8] [] ν1 := by
            intro x8 hn9
            refine stay z x8 rfl (fun _ _ q9 hq9 => ?_)
            have : q9 = q := by omega
            subst this
            rw [← hbe]; omega
          have rise : ∀ x8, now + minZ σ P nl w wt r b (cSet st) 0 < ν1.1 124 ((81 * q + laidN (fun k => decide (toZ σ P k = q)) st nl : Nat) : Int) → Ev RX8 cX8_goOn 9 3 70 (AnsQ (fun z ν9 => (z = 0 ∧ ν9 = ν ∧ EdOk ν (fun c r => minZ σ P nl w wt r b c 0) f t (frZ σ P) (toZ σ P) nr nl p st) ∨ (z = 1 ∧ TInv μ ν9 (fun st p => Vf (fun c => dst σ P n nr nl w wt f t b c 0) (frZ σ P) (toZ σ P) (lSet st) (cSet st) p) live n p0 st0 K go ∧ bsum ν9 < bsum ν))) 130 [some (.ref 79), some (.int (iI b)), some (.int (iI p)), some (.int (iI st)), some (.int (iI now)), some (.int (iI (cSet st : Nat))), some (.int (iI 1)), some (.int (iI ((r : Nat) + 1 : Nat))), x8] [] (wr ν1 124 ((81 * q + laidN (fun k => decide (toZ σ P k = q)) st nl : Nat) : Int) (now + minZ σ P nl w wt r b (cSet st) 0)) := by
            intro x8 hn9
            obtain ⟨s1, s2⟩ := tstep hT1 hn8 hqn h81 (v := now + minZ σ P nl w wt r b (cSet st) 0) (by omega) hro9.1 (by have := hro9.2; have := hI32; omega) (by rw [← hbe]; exact hn9)
            refine ih (by omega) 1 _ (Or.inr ⟨rfl, s1, ?_⟩) x8
            rcases hz with y | y
            · rw [← y.2.1]; exact s2
            · have := y.2.2; omega
          refine ev_if_ne (tgt := 203) dX8_goOn_195 (by decide) (by first | exact hR.1 _ _ | exact hR0.1 _ _ | assumption | exact ⟨by omega, by omega⟩ | exact ⟨by simp [wr_at]; omega, by simp [wr_at]; omega⟩ | exact b2_R _ | exact bC_R _ | exact band_R _ _ | exact bor_R _ _ | exact bshl_R _ _ | exact bshr_R _ _ | exact bxor_R _ _ | exact bs_R (by omega) | decide) (fun h_195 => ?_) (fun h_195 => ?_)
          · refine ev_iconst dX8_goOn_203 ?_
            refine ev_goto (tgt := 208) dX8_goOn_204 (by decide) ?_
            refine ev_istore dX8_goOn_208 rfl (by decide) rfl ?_
            refine ev_iinc dX8_goOn_210 rfl rfl (by decide) rfl ?_
            refine ev_goto (tgt := 130) dX8_goOn_213 (by decide) ?_
            first
              | (refine stay z _ rfl (fun y1 _ q9 hq9 => ?_)
                 exfalso
                 rw [hoe] at h_150
                 rcases hq9 with y | y
                 · rw [if_pos y.2] at h_150; omega
                 · rw [if_neg (fun y2 => hfr.2.2.2.2 (by rw [y2, y.2])), if_pos y.2] at h_150; omega)
              | (refine stay z _ rfl (fun _ y2 q9 hq9 => ?_)
                 exfalso
                 refine y2 ?_
                 unfold minZ
                 rw [if_neg (b2_eq h_162)])
              | (have y := b2_ne h_195
                 rw [if_pos y]
                 exact rise _ y)
              | (have y := b2_eq h_195
                 rw [if_neg y]
                 have h0 : z = 0 := by omega
                 have q9 := fall (some (.int (iI (q : Nat)))) y
                 rw [h0] at q9
                 exact q9)
              | (have y := b2_eq h_195
                 rw [if_neg y]
                 have h0 : z = 1 := by omega
                 have q9 := fall (some (.int (iI (q : Nat)))) y
                 rw [h0] at q9
                 exact q9)
          · refine ev_iload dX8_goOn_198 rfl ?_
            refine ev_if_eq (tgt := 207) dX8_goOn_200 (by decide) (by first | exact hR.1 _ _ | exact hR0.1 _ _ | assumption | exact ⟨by omega, by omega⟩ | exact ⟨by simp [wr_at]; omega, by simp [wr_at]; omega⟩ | exact b2_R _ | exact bC_R _ | exact band_R _ _ | exact bor_R _ _ | exact bshl_R _ _ | exact bshr_R _ _ | exact bxor_R _ _ | exact bs_R (by omega) | decide) (fun h_200 => ?_) (fun h_200 => ?_)
            · refine ev_iconst dX8_goOn_207 ?_
              refine ev_istore dX8_goOn_208 rfl (by decide) rfl ?_
              refine ev_iinc dX8_goOn_210 rfl rfl (by decide) rfl ?_
              refine ev_goto (tgt := 130) dX8_goOn_213 (by decide) ?_
              first
                | (refine stay z _ rfl (fun y1 _ q9 hq9 => ?_)
                   exfalso
                   rw [hoe] at h_150
                   rcases hq9 with y | y
                   · rw [if_pos y.2] at h_150; omega
                   · rw [if_neg (fun y2 => hfr.2.2.2.2 (by rw [y2, y.2])), if_pos y.2] at h_150; omega)
                | (refine stay z _ rfl (fun _ y2 q9 hq9 => ?_)
                   exfalso
                   refine y2 ?_
                   unfold minZ
                   rw [if_neg (b2_eq h_162)])
                | (have y := b2_ne h_195
                   rw [if_pos y]
                   exact rise _ y)
                | (have y := b2_eq h_195
                   rw [if_neg y]
                   have h0 : z = 0 := by omega
                   have q9 := fall (some (.int (iI (q : Nat)))) y
                   rw [h0] at q9
                   exact q9)
                | (have y := b2_eq h_195
                   rw [if_neg y]
                   have h0 : z = 1 := by omega
                   have q9 := fall (some (.int (iI (q : Nat)))) y
                   rw [h0] at q9
                   exact q9)
            · refine ev_iconst dX8_goOn_203 ?_
              refine ev_goto (tgt := 208) dX8_goOn_204 (by decide) ?_
              refine ev_istore dX8_goOn_208 rfl (by decide) rfl ?_
              refine ev_iinc dX8_goOn_210 rfl rfl (by decide) rfl ?_
              refine ev_goto (tgt := 130) dX8_goOn_213 (by decide) ?_
              first
                | (refine stay z _ rfl (fun y1 _ q9 hq9 => ?_)
                   exfalso
                   rw [hoe] at h_150
                   rcases hq9 with y | y
                   · rw [if_pos y.2] at h_150; omega
                   · rw [if_neg (fun y2 => hfr.2.2.2.2 (by rw [y2, y.2])), if_pos y.2] at h_150; omega)
                | (refine stay z _ rfl (fun _ y2 q9 hq9 => ?_)
                   exfalso
                   refine y2 ?_
                   unfold minZ
                   rw [if_neg (b2_eq h_162)])
                | (have y := b2_ne h_195
                   rw [if_pos y]
                   exact rise _ y)
                | (have y := b2_eq h_195
                   rw [if_neg y]
                   have h0 : z = 0 := by omega
                   have q9 := fall (some (.int (iI (q : Nat)))) y
                   rw [h0] at q9
                   exact q9)
                | (have y := b2_eq h_195
                   rw [if_neg y]
                   have h0 : z = 1 := by omega
                   have q9 := fall (some (.int (iI (q : Nat)))) y
                   rw [h0] at q9
                   exact q9)
  have loop1 : ∀ x : Nat, x ≤ nl → ∀ z ν1, ((z = 0 ∧ ν1 = ν ∧ (∀ x9, x9 < x → fig st x9 = 0 → frZ σ P x9 = p → cnt (cSet st).testBit 12 < 2 → BB ν p (st + 3 ^ x9) ≤ now)) ∨ (z = 1 ∧ TInv μ ν1 (fun st p => Vf (fun c => dst σ P n nr nl w wt f t b c 0) (frZ σ P) (toZ σ P) (lSet st) (cSet st) p) live n p0 st0 K go ∧ bsum ν1 < bsum ν)) → ∀ x8, Ev RX8 cX8_goOn 9 3 70 (AnsQ (fun z ν9 => (z = 0 ∧ ν9 = ν ∧ EdOk ν (fun c r => minZ σ P nl w wt r b c 0) f t (frZ σ P) (toZ σ P) nr nl p st) ∨ (z = 1 ∧ TInv μ ν9 (fun st p => Vf (fun c => dst σ P n nr nl w wt f t b c 0) (frZ σ P) (toZ σ P) (lSet st) (cSet st) p) live n p0 st0 K go ∧ bsum ν9 < bsum ν))) 26 [some (.ref 79), some (.int (iI b)), some (.int (iI p)), some (.int (iI st)), some (.int (iI now)), some (.int (iI (cSet st : Nat))), some (.int (iI z)), some (.int (iI (x : Nat))), x8] [] ν1 := by
    refine for_up nl (fun x hx ih => ?_)
    intro z ν1 hz x8
    refine ev_w (fun hR => ?_)
    have hT1 : TInv μ ν1 (fun st p => Vf (fun c => dst σ P n nr nl w wt f t b c 0) (frZ σ P) (toZ σ P) (lSet st) (cSet st) p) live n p0 st0 K go := by
      rcases hz with q | q
      · rw [q.2.1]; exact hI
      · exact q.2.1
    have hzz : z = 0 ∨ z = 1 := by
      rcases hz with q | q
      · exact Or.inl q.1
      · exact Or.inr q.1
    have hzR : inR z := by rcases hzz with rfl | rfl <;> decide
    have hm1 := mok ν1 hT1.1
    have hcl9 : ν1.1 79 13 = nl := hm1.2.2.1.1.2.2.2
    have go2 : (z = 0 → (∀ x9, x9 < nl → fig st x9 = 0 → frZ σ P x9 = p → cnt (cSet st).testBit 12 < 2 → BB ν p (st + 3 ^ x9) ≤ now)) → ∀ x8, Ev RX8 cX8_goOn 9 3 70 (AnsQ (fun z ν9 => (z = 0 ∧ ν9 = ν ∧ EdOk ν (fun c r => minZ σ P nl w wt r b c 0) f t (frZ σ P) (toZ σ P) nr nl p st) ∨ (z = 1 ∧ TInv μ ν9 (fun st p => Vf (fun c => dst σ P n nr nl w wt f t b c 0) (frZ σ P) (toZ σ P) (lSet st) (cSet st) p) live n p0 st0 K go ∧ bsum ν9 < bsum ν))) 130 [some (.ref 79), some (.int (iI b)), some (.int (iI p)), some (.int (iI st)), some (.int (iI now)), some (.int (iI (cSet st : Nat))), some (.int (iI z)), some (.int (iI 0)), x8] [] ν1 := by
      intro hall x8
      refine loop2 0 (by omega) z ν1 ?_ x8
      rcases hz with q | q
      · exact Or.inl ⟨q.1, q.2.1, hall q.1, fun r9 hr9 => by omega⟩
      · exact Or.inr q
    refine ev_iload dX8_goOn_26 rfl ?_
    refine ev_aload_n dX8_goOn_28 rfl ?_
    refine ev_getI (kz := 13) dX8_goOn_29 fl_X8_190 rfl rfl rfl ?_
    rw [hcl9]
    refine ev_icmp_ge (tgt := 127) dX8_goOn_32 (by decide) (by first | exact hR.1 _ _ | exact hR0.1 _ _ | assumption | exact ⟨by omega, by omega⟩ | exact ⟨by simp [wr_at]; omega, by simp [wr_at]; omega⟩ | exact b2_R _ | exact bC_R _ | exact band_R _ _ | exact bor_R _ _ | exact bshl_R _ _ | exact bshr_R _ _ | exact bxor_R _ _ | exact bs_R (by omega) | decide) (by first | exact hR.1 _ _ | exact hR0.1 _ _ | assumption | exact ⟨by omega, by omega⟩ | exact ⟨by simp [wr_at]; omega, by simp [wr_at]; omega⟩ | exact b2_R _ | exact bC_R _ | exact band_R _ _ | exact bor_R _ _ | exact bshl_R _ _ | exact bshr_R _ _ | exact bxor_R _ _ | exact bs_R (by omega) | decide) (fun h_32 => ?_) (fun h_32 => ?_)
    · refine ev_iconst dX8_goOn_127 ?_
      refine ev_istore dX8_goOn_128 rfl (by decide) rfl ?_
      by_cases e9 : x = nl
      · subst e9
        exact go2 (fun h0 => by
          rcases hz with q | q
          · exact q.2.2
          · omega) _
      · first
          | (exfalso; omega)
          | (exact go2 (fun _ x9 _ _ _ h2 => by omega) _)
    · refine ev_iload dX8_goOn_35 rfl ?_
      refine ev_callSI dX8_goOn_37 ks_X8_361 (m_bits ν1 (cSet st) (by omega)) rfl rfl ⟨by decide, by decide⟩ (Nat.le_of_ble_eq_true rfl) ?_
      refine ev_w (fun hR => ?_)
      refine ev_iconst dX8_goOn_40 ?_
      refine ev_icmp_ge (tgt := 127) dX8_goOn_41 (by decide) ⟨by omega, by omega⟩ ⟨by omega, by omega⟩ (fun h_41 => ?_) (fun h_41 => ?_)
      · refine ev_iconst dX8_goOn_127 ?_
        refine ev_istore dX8_goOn_128 rfl (by decide) rfl ?_
        by_cases e9 : x = nl
        · subst e9
          exact go2 (fun h0 => by
            rcases hz with q | q
            · exact q.2.2
            · omega) _
        · first
            | (exfalso; omega)
            | (exact go2 (fun _ x9 _ _ _ h2 => by omega) _)
      · have hxn : x < nl := by omega
        have hu := pw x (by omega)
        have hfl := fig_lt st x
        have hlz := hMO.2.1.2.2.2.2.2.2.2.2.2.2 x hxn
        have e102 : ν1.1 102 (x : Int) = σ.1 42 x := (hm1.2.2.2.2.2.2.1 x hxn).1
        have e90 : ν1.1 90 (x : Int) = σ.1 (P + 12) x := (hm1.2.2.1.2.2.2.2 x hxn).1
        have hlf := (hlo x hxn).1
        have hfz : (frZ σ P x : Int) = if σ.1 42 x = -1 then σ.1 (P + 12) x else σ.1 42 x := by
          unfold frZ
          unfold LoadOk at hlz
          split
          · omega
          · omega
        have hfn : frZ σ P x < n := by
          unfold LoadOk at hlz
          split at hfz <;> omega
        have h42 : σ.1 42 x = -1 ∨ 0 ≤ σ.1 42 x := by unfold LoadOk at hlz; omega
        have stay : ∀ x8, (fig st x = 0 → frZ σ P x = p → BB ν1 p (st + 3 ^ x) ≤ now) → Ev RX8 cX8_goOn 9 3 70 (AnsQ (fun z ν9 => (z = 0 ∧ ν9 = ν ∧ EdOk ν (fun c r => minZ σ P nl w wt r b c 0) f t (frZ σ P) (toZ σ P) nr nl p st) ∨ (z = 1 ∧ TInv μ ν9 (fun st p => Vf (fun c => dst σ P n nr nl w wt f t b c 0) (frZ σ P) (toZ σ P) (lSet st) (cSet st) p) live n p0 st0 K go ∧ bsum ν9 < bsum ν))) 26 [some (.ref 79), some (.int (iI b)), some (.int (iI p)), some (.int (iI st)), some (.int (iI now)), some (.int (iI (cSet st : Nat))), some (.int (iI z)), some (.int (iI ((x : Nat) + 1 : Nat))), x8] [] ν1 := by
          intro x8 hok
          refine ih (by omega) z ν1 ?_ x8
          rcases hz with q | q
          · refine Or.inl ⟨q.1, q.2.1, fun x9 hx9 h1 h2 h3 => ?_⟩
            by_cases e : x9 = x
            · subst e
              have k9 := q.2.1
              subst k9
              exact hok h1 h2
            · exact q.2.2 x9 (by omega) h1 h2 h3
          · exact Or.inr q
        refine ev_aload_n dX8_goOn_44 rfl ?_
        refine ev_getR (r := 102) dX8_goOn_45 fl_X8_77 rfl rfl rfl ?_
        refine ev_iload dX8_goOn_48 rfl ?_
        refine ev_iaload dX8_goOn_50 rfl (by first | omega | (simp [wr_at]; omega) | (simp [wr_at, *]; omega)) (by first | omega | (simp [wr_at]; omega) | (simp [wr_at, *]; omega)) (by decide) ?_
        rw [e102]
        refine ev_if_ge (tgt := 64) dX8_goOn_51 (by decide) ⟨by unfold LoadOk at hlz; omega, by unfold LoadOk at hlz; omega⟩ (fun h_51 => ?_) (fun h_51 => ?_)
        · refine ev_aload_n dX8_goOn_64 rfl ?_
          refine ev_getR (r := 102) dX8_goOn_65 fl_X8_77 rfl rfl rfl ?_
          refine ev_iload dX8_goOn_68 rfl ?_
          refine ev_iaload dX8_goOn_70 rfl (by first | omega | (simp [wr_at]; omega) | (simp [wr_at, *]; omega)) (by first | omega | (simp [wr_at]; omega) | (simp [wr_at, *]; omega)) (by decide) ?_
          refine ev_istore dX8_goOn_71 rfl (by decide) rfl ?_
          first
            | rw [e90, show σ.1 (P + 12) x = (frZ σ P x : Int) from by rw [hfz, if_pos (by omega)]]
            | rw [e102, show σ.1 42 x = (frZ σ P x : Int) from by rw [hfz, if_neg (by omega)]]
          refine ev_iload_n dX8_goOn_73 rfl ?_
          refine ev_iload dX8_goOn_74 rfl ?_
          refine ev_callSI dX8_goOn_76 ks_X8_396 (m_figure ν1 st x (by omega) (by omega)) rfl rfl ⟨by decide, by decide⟩ (Nat.le_of_ble_eq_true rfl) ?_
          refine ev_w (fun hR => ?_)
          refine ev_if_ne (tgt := 109) dX8_goOn_79 (by decide) (by first | exact hR.1 _ _ | exact hR0.1 _ _ | assumption | exact ⟨by omega, by omega⟩ | exact ⟨by simp [wr_at]; omega, by simp [wr_at]; omega⟩ | exact b2_R _ | exact bC_R _ | exact band_R _ _ | exact bor_R _ _ | exact bshl_R _ _ | exact bshr_R _ _ | exact bxor_R _ _ | exact bs_R (by omega) | decide) (fun h_79 => ?_) (fun h_79 => ?_)
          · refine ev_iload dX8_goOn_109 rfl ?_
            refine ev_if_eq (tgt := 118) dX8_goOn_111 (by decide) (by first | exact hR.1 _ _ | exact hR0.1 _ _ | assumption | exact ⟨by omega, by omega⟩ | exact ⟨by simp [wr_at]; omega, by simp [wr_at]; omega⟩ | exact b2_R _ | exact bC_R _ | exact band_R _ _ | exact bor_R _ _ | exact bshl_R _ _ | exact bshr_R _ _ | exact bxor_R _ _ | exact bs_R (by omega) | decide) (fun h_111 => ?_) (fun h_111 => ?_)
            · refine ev_iconst dX8_goOn_118 ?_
              refine ev_istore dX8_goOn_119 rfl (by decide) rfl ?_
              refine ev_iinc dX8_goOn_121 rfl rfl (by decide) rfl ?_
              refine ev_goto (tgt := 26) dX8_goOn_124 (by decide) ?_
              first
                | (have y := b2_ne h_106
                   rw [if_pos y]
                   exact rise _ y)
                | (have h0 : z = 0 := by omega
                   have q9 := stay (some (.int (iI (frZ σ P x : Nat)))) (fun y _ => by omega)
                   rw [h0] at q9
                   exact q9)
                | (have h0 : z = 0 := by omega
                   have q9 := stay (some (.int (iI (frZ σ P x : Nat)))) (fun _ y => by omega)
                   rw [h0] at q9
                   exact q9)
                | (have y := b2_eq h_106
                   rw [if_neg y]
                   have h0 : z = 0 := by omega
                   have q9 := stay (some (.int (iI (frZ σ P x : Nat)))) (fun _ _ => by rw [← hbe]; omega)
                   rw [h0] at q9
                   exact q9)
                | (have h0 : z = 1 := by omega
                   have q9 := stay (some (.int (iI (frZ σ P x : Nat)))) (fun y _ => by omega)
                   rw [h0] at q9
                   exact q9)
                | (have h0 : z = 1 := by omega
                   have q9 := stay (some (.int (iI (frZ σ P x : Nat)))) (fun _ y => by omega)
                   rw [h0] at q9
                   exact q9)
                | (have y := b2_eq h_106
                   rw [if_neg y]
                   have h0 : z = 1 := by omega
                   have q9 := stay (some (.int (iI (frZ σ P x : Nat)))) (fun _ _ => by rw [← hbe]; omega)
                   rw [h0] at q9
                   exact q9)
            · refine ev_iconst dX8_goOn_114 ?_
              refine ev_goto (tgt := 119) dX8_goOn_115 (by decide) ?_
              refine ev_istore dX8_goOn_119 rfl (by decide) rfl ?_
              refine ev_iinc dX8_goOn_121 rfl rfl (by decide) rfl ?_
              refine ev_goto (tgt := 26) dX8_goOn_124 (by decide) ?_
              first
                | (have y := b2_ne h_106
                   rw [if_pos y]
                   exact rise _ y)
                | (have h0 : z = 0 := by omega
                   have q9 := stay (some (.int (iI (frZ σ P x : Nat)))) (fun y _ => by omega)
                   rw [h0] at q9
                   exact q9)
                | (have h0 : z = 0 := by omega
                   have q9 := stay (some (.int (iI (frZ σ P x : Nat)))) (fun _ y => by omega)
                   rw [h0] at q9
                   exact q9)
                | (have y := b2_eq h_106
                   rw [if_neg y]
                   have h0 : z = 0 := by omega
                   have q9 := stay (some (.int (iI (frZ σ P x : Nat)))) (fun _ _ => by rw [← hbe]; omega)
                   rw [h0] at q9
                   exact q9)
                | (have h0 : z = 1 := by omega
                   have q9 := stay (some (.int (iI (frZ σ P x : Nat)))) (fun y _ => by omega)
                   rw [h0] at q9
                   exact q9)
                | (have h0 : z = 1 := by omega
                   have q9 := stay (some (.int (iI (frZ σ P x : Nat)))) (fun _ y => by omega)
                   rw [h0] at q9
                   exact q9)
                | (have y := b2_eq h_106
                   rw [if_neg y]
                   have h0 : z = 1 := by omega
                   have q9 := stay (some (.int (iI (frZ σ P x : Nat)))) (fun _ _ => by rw [← hbe]; omega)
                   rw [h0] at q9
                   exact q9)
          · refine ev_iload dX8_goOn_82 rfl ?_
            refine ev_iload_n dX8_goOn_84 rfl ?_
            refine ev_icmp_ne (tgt := 109) dX8_goOn_85 (by decide) (by first | exact hR.1 _ _ | exact hR0.1 _ _ | assumption | exact ⟨by omega, by omega⟩ | exact ⟨by simp [wr_at]; omega, by simp [wr_at]; omega⟩ | exact b2_R _ | exact bC_R _ | exact band_R _ _ | exact bor_R _ _ | exact bshl_R _ _ | exact bshr_R _ _ | exact bxor_R _ _ | exact bs_R (by omega) | decide) (by first | exact hR.1 _ _ | exact hR0.1 _ _ | assumption | exact ⟨by omega, by omega⟩ | exact ⟨by simp [wr_at]; omega, by simp [wr_at]; omega⟩ | exact b2_R _ | exact bC_R _ | exact band_R _ _ | exact bor_R _ _ | exact bshl_R _ _ | exact bshr_R _ _ | exact bxor_R _ _ | exact bs_R (by omega) | decide) (fun h_85 => ?_) (fun h_85 => ?_)
            · refine ev_iload dX8_goOn_109 rfl ?_
              refine ev_if_eq (tgt := 118) dX8_goOn_111 (by decide) (by first | exact hR.1 _ _ | exact hR0.1 _ _ | assumption | exact ⟨by omega, by omega⟩ | exact ⟨by simp [wr_at]; omega, by simp [wr_at]; omega⟩ | exact b2_R _ | exact bC_R _ | exact band_R _ _ | exact bor_R _ _ | exact bshl_R _ _ | exact bshr_R _ _ | exact bxor_R _ _ | exact bs_R (by omega) | decide) (fun h_111 => ?_) (fun h_111 => ?_)
              · refine ev_iconst dX8_goOn_118 ?_
                refine ev_istore dX8_goOn_119 rfl (by decide) rfl ?_
                refine ev_iinc dX8_goOn_121 rfl rfl (by decide) rfl ?_
                refine ev_goto (tgt := 26) dX8_goOn_124 (by decide) ?_
                first
                  | (have y := b2_ne h_106
                     rw [if_pos y]
                     exact rise _ y)
                  | (have h0 : z = 0 := by omega
                     have q9 := stay (some (.int (iI (frZ σ P x : Nat)))) (fun y _ => by omega)
                     rw [h0] at q9
                     exact q9)
                  | (have h0 : z = 0 := by omega
                     have q9 := stay (some (.int (iI (frZ σ P x : Nat)))) (fun _ y => by omega)
                     rw [h0] at q9
                     exact q9)
                  | (have y := b2_eq h_106
                     rw [if_neg y]
                     have h0 : z = 0 := by omega
                     have q9 := stay (some (.int (iI (frZ σ P x : Nat)))) (fun _ _ => by rw [← hbe]; omega)
                     rw [h0] at q9
                     exact q9)
                  | (have h0 : z = 1 := by omega
                     have q9 := stay (some (.int (iI (frZ σ P x : Nat)))) (fun y _ => by omega)
                     rw [h0] at q9
                     exact q9)
                  | (have h0 : z = 1 := by omega
                     have q9 := stay (some (.int (iI (frZ σ P x : Nat)))) (fun _ y => by omega)
                     rw [h0] at q9
                     exact q9)
                  | (have y := b2_eq h_106
                     rw [if_neg y]
                     have h0 : z = 1 := by omega
                     have q9 := stay (some (.int (iI (frZ σ P x : Nat)))) (fun _ _ => by rw [← hbe]; omega)
                     rw [h0] at q9
                     exact q9)
              · refine ev_iconst dX8_goOn_114 ?_
                refine ev_goto (tgt := 119) dX8_goOn_115 (by decide) ?_
                refine ev_istore dX8_goOn_119 rfl (by decide) rfl ?_
                refine ev_iinc dX8_goOn_121 rfl rfl (by decide) rfl ?_
                refine ev_goto (tgt := 26) dX8_goOn_124 (by decide) ?_
                first
                  | (have y := b2_ne h_106
                     rw [if_pos y]
                     exact rise _ y)
                  | (have h0 : z = 0 := by omega
                     have q9 := stay (some (.int (iI (frZ σ P x : Nat)))) (fun y _ => by omega)
                     rw [h0] at q9
                     exact q9)
                  | (have h0 : z = 0 := by omega
                     have q9 := stay (some (.int (iI (frZ σ P x : Nat)))) (fun _ y => by omega)
                     rw [h0] at q9
                     exact q9)
                  | (have y := b2_eq h_106
                     rw [if_neg y]
                     have h0 : z = 0 := by omega
                     have q9 := stay (some (.int (iI (frZ σ P x : Nat)))) (fun _ _ => by rw [← hbe]; omega)
                     rw [h0] at q9
                     exact q9)
                  | (have h0 : z = 1 := by omega
                     have q9 := stay (some (.int (iI (frZ σ P x : Nat)))) (fun y _ => by omega)
                     rw [h0] at q9
                     exact q9)
                  | (have h0 : z = 1 := by omega
                     have q9 := stay (some (.int (iI (frZ σ P x : Nat)))) (fun _ y => by omega)
                     rw [h0] at q9
                     exact q9)
                  | (have y := b2_eq h_106
                     rw [if_neg y]
                     have h0 : z = 1 := by omega
                     have q9 := stay (some (.int (iI (frZ σ P x : Nat)))) (fun _ _ => by rw [← hbe]; omega)
                     rw [h0] at q9
                     exact q9)
            · have hf0 : fig st x = 0 := by omega
              have hfp : frZ σ P x = p := by omega
              obtain ⟨u1, u2, u3⟩ := st_up0 st hst x (by omega) hf0
              have hpk := e_pick (fr := frZ σ P) (to := toZ σ P) hW hst (show x < 4 by omega) hI3.1 hf0 hp hfp (by omega)
              refine ev_aload_n dX8_goOn_88 rfl ?_
              refine ev_bipush dX8_goOn_89 (by decide) ?_
              refine ev_iload_n dX8_goOn_91 rfl ?_
              refine ev_imul dX8_goOn_92 ?_
              refine ev_iload_n dX8_goOn_93 rfl ?_
              refine ev_iadd dX8_goOn_94 ?_
              refine ev_iload dX8_goOn_95 rfl ?_
              refine ev_callSI dX8_goOn_97 ks_X8_399 (m_unit ν1 x (by omega)) rfl rfl ⟨by decide, by decide⟩ (Nat.le_of_ble_eq_true rfl) ?_
              refine ev_w (fun hR => ?_)
              refine ev_iadd dX8_goOn_100 ?_
              refine ev_iload dX8_goOn_101 rfl ?_
              rw [show (81 * (p : Int) + (st : Int) + ((3 ^ x : Nat) : Int)) = ((81 * p + (st + 3 ^ x) : Nat) : Int) by omega]
              refine ev_callVI dX8_goOn_103 kv_X8_405 (m_better ν1 (81 * p + (st + 3 ^ x)) now (by omega) ⟨by omega, by omega⟩) rfl rfl (ci := 8) rfl rfl ⟨by decide, by decide⟩ (Nat.le_of_ble_eq_true rfl) ?_
              refine ev_w (fun hR => ?_)
              have hbe : ν1.1 124 ((81 * p + (st + 3 ^ x) : Nat) : Int) = BB ν1 p (st + 3 ^ x) := by
                unfold BB
                rw [show (81 * (p : Int) + ((st + 3 ^ x : Nat) : Int)) = ((81 * p + (st + 3 ^ x) : Nat) : Int) by omega]
              have rise : ∀ x8, now < ν1.1 124 ((81 * p + (st + 3 ^ x) : Nat) : Int) → Ev RX8 cX8_goOn 9 3 70 (AnsQ (fun z ν9 => (z = 0 ∧ ν9 = ν ∧ EdOk ν (fun c r => minZ σ P nl w wt r b c 0) f t (frZ σ P) (toZ σ P) nr nl p st) ∨ (z = 1 ∧ TInv μ ν9 (fun st p => Vf (fun c => dst σ P n nr nl w wt f t b c 0) (frZ σ P) (toZ σ P) (lSet st) (cSet st) p) live n p0 st0 K go ∧ bsum ν9 < bsum ν))) 26 [some (.ref 79), some (.int (iI b)), some (.int (iI p)), some (.int (iI st)), some (.int (iI now)), some (.int (iI (cSet st : Nat))), some (.int (iI 1)), some (.int (iI ((x : Nat) + 1 : Nat))), x8] [] (wr ν1 124 ((81 * p + (st + 3 ^ x) : Nat) : Int) now) := by
                intro x8 hn9
                obtain ⟨s1, s2⟩ := tstep hT1 hn8 hp u1 (v := now) (by omega) hpk.1 (by have := hpk.2; have := hI32; omega) (by rw [← hbe]; exact hn9)
                refine ih (by omega) 1 _ (Or.inr ⟨rfl, s1, ?_⟩) x8
                rcases hz with y | y
                · rw [← y.2.1]; exact s2
                · have := y.2.2; omega
              refine ev_if_ne (tgt := 114) dX8_goOn_106 (by decide) (by first | exact hR.1 _ _ | exact hR0.1 _ _ | assumption | exact ⟨by omega, by omega⟩ | exact ⟨by simp [wr_at]; omega, by simp [wr_at]; omega⟩ | exact b2_R _ | exact bC_R _ | exact band_R _ _ | exact bor_R _ _ | exact bshl_R _ _ | exact bshr_R _ _ | exact bxor_R _ _ | exact bs_R (by omega) | decide) (fun h_106 => ?_) (fun h_106 => ?_)
              · refine ev_iconst dX8_goOn_114 ?_
                refine ev_goto (tgt := 119) dX8_goOn_115 (by decide) ?_
                refine ev_istore dX8_goOn_119 rfl (by decide) rfl ?_
                refine ev_iinc dX8_goOn_121 rfl rfl (by decide) rfl ?_
                refine ev_goto (tgt := 26) dX8_goOn_124 (by decide) ?_
                first
                  | (have y := b2_ne h_106
                     rw [if_pos y]
                     exact rise _ y)
                  | (have h0 : z = 0 := by omega
                     have q9 := stay (some (.int (iI (frZ σ P x : Nat)))) (fun y _ => by omega)
                     rw [h0] at q9
                     exact q9)
                  | (have h0 : z = 0 := by omega
                     have q9 := stay (some (.int (iI (frZ σ P x : Nat)))) (fun _ y => by omega)
                     rw [h0] at q9
                     exact q9)
                  | (have y := b2_eq h_106
                     rw [if_neg y]
                     have h0 : z = 0 := by omega
                     have q9 := stay (some (.int (iI (frZ σ P x : Nat)))) (fun _ _ => by rw [← hbe]; omega)
                     rw [h0] at q9
                     exact q9)
                  | (have h0 : z = 1 := by omega
                     have q9 := stay (some (.int (iI (frZ σ P x : Nat)))) (fun y _ => by omega)
                     rw [h0] at q9
                     exact q9)
                  | (have h0 : z = 1 := by omega
                     have q9 := stay (some (.int (iI (frZ σ P x : Nat)))) (fun _ y => by omega)
                     rw [h0] at q9
                     exact q9)
                  | (have y := b2_eq h_106
                     rw [if_neg y]
                     have h0 : z = 1 := by omega
                     have q9 := stay (some (.int (iI (frZ σ P x : Nat)))) (fun _ _ => by rw [← hbe]; omega)
                     rw [h0] at q9
                     exact q9)
              · refine ev_iload dX8_goOn_109 rfl ?_
                refine ev_if_eq (tgt := 118) dX8_goOn_111 (by decide) (by first | exact hR.1 _ _ | exact hR0.1 _ _ | assumption | exact ⟨by omega, by omega⟩ | exact ⟨by simp [wr_at]; omega, by simp [wr_at]; omega⟩ | exact b2_R _ | exact bC_R _ | exact band_R _ _ | exact bor_R _ _ | exact bshl_R _ _ | exact bshr_R _ _ | exact bxor_R _ _ | exact bs_R (by omega) | decide) (fun h_111 => ?_) (fun h_111 => ?_)
                · refine ev_iconst dX8_goOn_118 ?_
                  refine ev_istore dX8_goOn_119 rfl (by decide) rfl ?_
                  refine ev_iinc dX8_goOn_121 rfl rfl (by decide) rfl ?_
                  refine ev_goto (tgt := 26) dX8_goOn_124 (by decide) ?_
                  first
                    | (have y := b2_ne h_106
                       rw [if_pos y]
                       exact rise _ y)
                    | (have h0 : z = 0 := by omega
                       have q9 := stay (some (.int (iI (frZ σ P x : Nat)))) (fun y _ => by omega)
                       rw [h0] at q9
                       exact q9)
                    | (have h0 : z = 0 := by omega
                       have q9 := stay (some (.int (iI (frZ σ P x : Nat)))) (fun _ y => by omega)
                       rw [h0] at q9
                       exact q9)
                    | (have y := b2_eq h_106
                       rw [if_neg y]
                       have h0 : z = 0 := by omega
                       have q9 := stay (some (.int (iI (frZ σ P x : Nat)))) (fun _ _ => by rw [← hbe]; omega)
                       rw [h0] at q9
                       exact q9)
                    | (have h0 : z = 1 := by omega
                       have q9 := stay (some (.int (iI (frZ σ P x : Nat)))) (fun y _ => by omega)
                       rw [h0] at q9
                       exact q9)
                    | (have h0 : z = 1 := by omega
                       have q9 := stay (some (.int (iI (frZ σ P x : Nat)))) (fun _ y => by omega)
                       rw [h0] at q9
                       exact q9)
                    | (have y := b2_eq h_106
                       rw [if_neg y]
                       have h0 : z = 1 := by omega
                       have q9 := stay (some (.int (iI (frZ σ P x : Nat)))) (fun _ _ => by rw [← hbe]; omega)
                       rw [h0] at q9
                       exact q9)
                · refine ev_iconst dX8_goOn_114 ?_
                  refine ev_goto (tgt := 119) dX8_goOn_115 (by decide) ?_
                  refine ev_istore dX8_goOn_119 rfl (by decide) rfl ?_
                  refine ev_iinc dX8_goOn_121 rfl rfl (by decide) rfl ?_
                  refine ev_goto (tgt := 26) dX8_goOn_124 (by decide) ?_
                  first
                    | (have y := b2_ne h_106
                       rw [if_pos y]
                       exact rise _ y)
                    | (have h0 : z = 0 := by omega
                       have q9 := stay (some (.int (iI (frZ σ P x : Nat)))) (fun y _ => by omega)
                       rw [h0] at q9
                       exact q9)
                    | (have h0 : z = 0 := by omega
                       have q9 := stay (some (.int (iI (frZ σ P x : Nat)))) (fun _ y => by omega)
                       rw [h0] at q9
                       exact q9)
                    | (have y := b2_eq h_106
                       rw [if_neg y]
                       have h0 : z = 0 := by omega
                       have q9 := stay (some (.int (iI (frZ σ P x : Nat)))) (fun _ _ => by rw [← hbe]; omega)
                       rw [h0] at q9
                       exact q9)
                    | (have h0 : z = 1 := by omega
                       have q9 := stay (some (.int (iI (frZ σ P x : Nat)))) (fun y _ => by omega)
                       rw [h0] at q9
                       exact q9)
                    | (have h0 : z = 1 := by omega
                       have q9 := stay (some (.int (iI (frZ σ P x : Nat)))) (fun _ y => by omega)
                       rw [h0] at q9
                       exact q9)
                    | (have y := b2_eq h_106
                       rw [if_neg y]
                       have h0 : z = 1 := by omega
                       have q9 := stay (some (.int (iI (frZ σ P x : Nat)))) (fun _ _ => by rw [← hbe]; omega)
                       rw [h0] at q9
                       exact q9)
        · refine ev_aload_n dX8_goOn_54 rfl ?_
          refine ev_getR (r := 90) dX8_goOn_55 fl_X8_40 rfl rfl rfl ?_
          refine ev_iload dX8_goOn_58 rfl ?_
          refine ev_iaload dX8_goOn_60 rfl (by first | omega | (simp [wr_at]; omega) | (simp [wr_at, *]; omega)) (by first | omega | (simp [wr_at]; omega) | (simp [wr_at, *]; omega)) (by decide) ?_
          refine ev_goto (tgt := 71) dX8_goOn_61 (by decide) ?_
          refine ev_istore dX8_goOn_71 rfl (by decide) rfl ?_
          first
            | rw [e90, show σ.1 (P + 12) x = (frZ σ P x : Int) from by rw [hfz, if_pos (by omega)]]
            | rw [e102, show σ.1 42 x = (frZ σ P x : Int) from by rw [hfz, if_neg (by omega)]]
          refine ev_iload_n dX8_goOn_73 rfl ?_
          refine ev_iload dX8_goOn_74 rfl ?_
          refine ev_callSI dX8_goOn_76 ks_X8_396 (m_figure ν1 st x (by omega) (by omega)) rfl rfl ⟨by decide, by decide⟩ (Nat.le_of_ble_eq_true rfl) ?_
          refine ev_w (fun hR => ?_)
          refine ev_if_ne (tgt := 109) dX8_goOn_79 (by decide) (by first | exact hR.1 _ _ | exact hR0.1 _ _ | assumption | exact ⟨by omega, by omega⟩ | exact ⟨by simp [wr_at]; omega, by simp [wr_at]; omega⟩ | exact b2_R _ | exact bC_R _ | exact band_R _ _ | exact bor_R _ _ | exact bshl_R _ _ | exact bshr_R _ _ | exact bxor_R _ _ | exact bs_R (by omega) | decide) (fun h_79 => ?_) (fun h_79 => ?_)
          · refine ev_iload dX8_goOn_109 rfl ?_
            refine ev_if_eq (tgt := 118) dX8_goOn_111 (by decide) (by first | exact hR.1 _ _ | exact hR0.1 _ _ | assumption | exact ⟨by omega, by omega⟩ | exact ⟨by simp [wr_at]; omega, by simp [wr_at]; omega⟩ | exact b2_R _ | exact bC_R _ | exact band_R _ _ | exact bor_R _ _ | exact bshl_R _ _ | exact bshr_R _ _ | exact bxor_R _ _ | exact bs_R (by omega) | decide) (fun h_111 => ?_) (fun h_111 => ?_)
            · refine ev_iconst dX8_goOn_118 ?_
              refine ev_istore dX8_goOn_119 rfl (by decide) rfl ?_
              refine ev_iinc dX8_goOn_121 rfl rfl (by decide) rfl ?_
              refine ev_goto (tgt := 26) dX8_goOn_124 (by decide) ?_
              first
                | (have y := b2_ne h_106
                   rw [if_pos y]
                   exact rise _ y)
                | (have h0 : z = 0 := by omega
                   have q9 := stay (some (.int (iI (frZ σ P x : Nat)))) (fun y _ => by omega)
                   rw [h0] at q9
                   exact q9)
                | (have h0 : z = 0 := by omega
                   have q9 := stay (some (.int (iI (frZ σ P x : Nat)))) (fun _ y => by omega)
                   rw [h0] at q9
                   exact q9)
                | (have y := b2_eq h_106
                   rw [if_neg y]
                   have h0 : z = 0 := by omega
                   have q9 := stay (some (.int (iI (frZ σ P x : Nat)))) (fun _ _ => by rw [← hbe]; omega)
                   rw [h0] at q9
                   exact q9)
                | (have h0 : z = 1 := by omega
                   have q9 := stay (some (.int (iI (frZ σ P x : Nat)))) (fun y _ => by omega)
                   rw [h0] at q9
                   exact q9)
                | (have h0 : z = 1 := by omega
                   have q9 := stay (some (.int (iI (frZ σ P x : Nat)))) (fun _ y => by omega)
                   rw [h0] at q9
                   exact q9)
                | (have y := b2_eq h_106
                   rw [if_neg y]
                   have h0 : z = 1 := by omega
                   have q9 := stay (some (.int (iI (frZ σ P x : Nat)))) (fun _ _ => by rw [← hbe]; omega)
                   rw [h0] at q9
                   exact q9)
            · refine ev_iconst dX8_goOn_114 ?_
              refine ev_goto (tgt := 119) dX8_goOn_115 (by decide) ?_
              refine ev_istore dX8_goOn_119 rfl (by decide) rfl ?_
              refine ev_iinc dX8_goOn_121 rfl rfl (by decide) rfl ?_
              refine ev_goto (tgt := 26) dX8_goOn_124 (by decide) ?_
              first
                | (have y := b2_ne h_106
                   rw [if_pos y]
                   exact rise _ y)
                | (have h0 : z = 0 := by omega
                   have q9 := stay (some (.int (iI (frZ σ P x : Nat)))) (fun y _ => by omega)
                   rw [h0] at q9
                   exact q9)
                | (have h0 : z = 0 := by omega
                   have q9 := stay (some (.int (iI (frZ σ P x : Nat)))) (fun _ y => by omega)
                   rw [h0] at q9
                   exact q9)
                | (have y := b2_eq h_106
                   rw [if_neg y]
                   have h0 : z = 0 := by omega
                   have q9 := stay (some (.int (iI (frZ σ P x : Nat)))) (fun _ _ => by rw [← hbe]; omega)
                   rw [h0] at q9
                   exact q9)
                | (have h0 : z = 1 := by omega
                   have q9 := stay (some (.int (iI (frZ σ P x : Nat)))) (fun y _ => by omega)
                   rw [h0] at q9
                   exact q9)
                | (have h0 : z = 1 := by omega
                   have q9 := stay (some (.int (iI (frZ σ P x : Nat)))) (fun _ y => by omega)
                   rw [h0] at q9
                   exact q9)
                | (have y := b2_eq h_106
                   rw [if_neg y]
                   have h0 : z = 1 := by omega
                   have q9 := stay (some (.int (iI (frZ σ P x : Nat)))) (fun _ _ => by rw [← hbe]; omega)
                   rw [h0] at q9
                   exact q9)
          · refine ev_iload dX8_goOn_82 rfl ?_
            refine ev_iload_n dX8_goOn_84 rfl ?_
            refine ev_icmp_ne (tgt := 109) dX8_goOn_85 (by decide) (by first | exact hR.1 _ _ | exact hR0.1 _ _ | assumption | exact ⟨by omega, by omega⟩ | exact ⟨by simp [wr_at]; omega, by simp [wr_at]; omega⟩ | exact b2_R _ | exact bC_R _ | exact band_R _ _ | exact bor_R _ _ | exact bshl_R _ _ | exact bshr_R _ _ | exact bxor_R _ _ | exact bs_R (by omega) | decide) (by first | exact hR.1 _ _ | exact hR0.1 _ _ | assumption | exact ⟨by omega, by omega⟩ | exact ⟨by simp [wr_at]; omega, by simp [wr_at]; omega⟩ | exact b2_R _ | exact bC_R _ | exact band_R _ _ | exact bor_R _ _ | exact bshl_R _ _ | exact bshr_R _ _ | exact bxor_R _ _ | exact bs_R (by omega) | decide) (fun h_85 => ?_) (fun h_85 => ?_)
            · refine ev_iload dX8_goOn_109 rfl ?_
              refine ev_if_eq (tgt := 118) dX8_goOn_111 (by decide) (by first | exact hR.1 _ _ | exact hR0.1 _ _ | assumption | exact ⟨by omega, by omega⟩ | exact ⟨by simp [wr_at]; omega, by simp [wr_at]; omega⟩ | exact b2_R _ | exact bC_R _ | exact band_R _ _ | exact bor_R _ _ | exact bshl_R _ _ | exact bshr_R _ _ | exact bxor_R _ _ | exact bs_R (by omega) | decide) (fun h_111 => ?_) (fun h_111 => ?_)
              · refine ev_iconst dX8_goOn_118 ?_
                refine ev_istore dX8_goOn_119 rfl (by decide) rfl ?_
                refine ev_iinc dX8_goOn_121 rfl rfl (by decide) rfl ?_
                refine ev_goto (tgt := 26) dX8_goOn_124 (by decide) ?_
                first
                  | (have y := b2_ne h_106
                     rw [if_pos y]
                     exact rise _ y)
                  | (have h0 : z = 0 := by omega
                     have q9 := stay (some (.int (iI (frZ σ P x : Nat)))) (fun y _ => by omega)
                     rw [h0] at q9
                     exact q9)
                  | (have h0 : z = 0 := by omega
                     have q9 := stay (some (.int (iI (frZ σ P x : Nat)))) (fun _ y => by omega)
                     rw [h0] at q9
                     exact q9)
                  | (have y := b2_eq h_106
                     rw [if_neg y]
                     have h0 : z = 0 := by omega
                     have q9 := stay (some (.int (iI (frZ σ P x : Nat)))) (fun _ _ => by rw [← hbe]; omega)
                     rw [h0] at q9
                     exact q9)
                  | (have h0 : z = 1 := by omega
                     have q9 := stay (some (.int (iI (frZ σ P x : Nat)))) (fun y _ => by omega)
                     rw [h0] at q9
                     exact q9)
                  | (have h0 : z = 1 := by omega
                     have q9 := stay (some (.int (iI (frZ σ P x : Nat)))) (fun _ y => by omega)
                     rw [h0] at q9
                     exact q9)
                  | (have y := b2_eq h_106
                     rw [if_neg y]
                     have h0 : z = 1 := by omega
                     have q9 := stay (some (.int (iI (frZ σ P x : Nat)))) (fun _ _ => by rw [← hbe]; omega)
                     rw [h0] at q9
                     exact q9)
              · refine ev_iconst dX8_goOn_114 ?_
                refine ev_goto (tgt := 119) dX8_goOn_115 (by decide) ?_
                refine ev_istore dX8_goOn_119 rfl (by decide) rfl ?_
                refine ev_iinc dX8_goOn_121 rfl rfl (by decide) rfl ?_
                refine ev_goto (tgt := 26) dX8_goOn_124 (by decide) ?_
                first
                  | (have y := b2_ne h_106
                     rw [if_pos y]
                     exact rise _ y)
                  | (have h0 : z = 0 := by omega
                     have q9 := stay (some (.int (iI (frZ σ P x : Nat)))) (fun y _ => by omega)
                     rw [h0] at q9
                     exact q9)
                  | (have h0 : z = 0 := by omega
                     have q9 := stay (some (.int (iI (frZ σ P x : Nat)))) (fun _ y => by omega)
                     rw [h0] at q9
                     exact q9)
                  | (have y := b2_eq h_106
                     rw [if_neg y]
                     have h0 : z = 0 := by omega
                     have q9 := stay (some (.int (iI (frZ σ P x : Nat)))) (fun _ _ => by rw [← hbe]; omega)
                     rw [h0] at q9
                     exact q9)
                  | (have h0 : z = 1 := by omega
                     have q9 := stay (some (.int (iI (frZ σ P x : Nat)))) (fun y _ => by omega)
                     rw [h0] at q9
                     exact q9)
                  | (have h0 : z = 1 := by omega
                     have q9 := stay (some (.int (iI (frZ σ P x : Nat)))) (fun _ y => by omega)
                     rw [h0] at q9
                     exact q9)
                  | (have y := b2_eq h_106
                     rw [if_neg y]
                     have h0 : z = 1 := by omega
                     have q9 := stay (some (.int (iI (frZ σ P x : Nat)))) (fun _ _ => by rw [← hbe]; omega)
                     rw [h0] at q9
                     exact q9)
            · have hf0 : fig st x = 0 := by omega
              have hfp : frZ σ P x = p := by omega
              obtain ⟨u1, u2, u3⟩ := st_up0 st hst x (by omega) hf0
              have hpk := e_pick (fr := frZ σ P) (to := toZ σ P) hW hst (show x < 4 by omega) hI3.1 hf0 hp hfp (by omega)
              refine ev_aload_n dX8_goOn_88 rfl ?_
              refine ev_bipush dX8_goOn_89 (by decide) ?_
              refine ev_iload_n dX8_goOn_91 rfl ?_
              refine ev_imul dX8_goOn_92 ?_
              refine ev_iload_n dX8_goOn_93 rfl ?_
              refine ev_iadd dX8_goOn_94 ?_
              refine ev_iload dX8_goOn_95 rfl ?_
              refine ev_callSI dX8_goOn_97 ks_X8_399 (m_unit ν1 x (by omega)) rfl rfl ⟨by decide, by decide⟩ (Nat.le_of_ble_eq_true rfl) ?_
              refine ev_w (fun hR => ?_)
              refine ev_iadd dX8_goOn_100 ?_
              refine ev_iload dX8_goOn_101 rfl ?_
              rw [show (81 * (p : Int) + (st : Int) + ((3 ^ x : Nat) : Int)) = ((81 * p + (st + 3 ^ x) : Nat) : Int) by omega]
              refine ev_callVI dX8_goOn_103 kv_X8_405 (m_better ν1 (81 * p + (st + 3 ^ x)) now (by omega) ⟨by omega, by omega⟩) rfl rfl (ci := 8) rfl rfl ⟨by decide, by decide⟩ (Nat.le_of_ble_eq_true rfl) ?_
              refine ev_w (fun hR => ?_)
              have hbe : ν1.1 124 ((81 * p + (st + 3 ^ x) : Nat) : Int) = BB ν1 p (st + 3 ^ x) := by
                unfold BB
                rw [show (81 * (p : Int) + ((st + 3 ^ x : Nat) : Int)) = ((81 * p + (st + 3 ^ x) : Nat) : Int) by omega]
              have rise : ∀ x8, now < ν1.1 124 ((81 * p + (st + 3 ^ x) : Nat) : Int) → Ev RX8 cX8_goOn 9 3 70 (AnsQ (fun z ν9 => (z = 0 ∧ ν9 = ν ∧ EdOk ν (fun c r => minZ σ P nl w wt r b c 0) f t (frZ σ P) (toZ σ P) nr nl p st) ∨ (z = 1 ∧ TInv μ ν9 (fun st p => Vf (fun c => dst σ P n nr nl w wt f t b c 0) (frZ σ P) (toZ σ P) (lSet st) (cSet st) p) live n p0 st0 K go ∧ bsum ν9 < bsum ν))) 26 [some (.ref 79), some (.int (iI b)), some (.int (iI p)), some (.int (iI st)), some (.int (iI now)), some (.int (iI (cSet st : Nat))), some (.int (iI 1)), some (.int (iI ((x : Nat) + 1 : Nat))), x8] [] (wr ν1 124 ((81 * p + (st + 3 ^ x) : Nat) : Int) now) := by
                intro x8 hn9
                obtain ⟨s1, s2⟩ := tstep hT1 hn8 hp u1 (v := now) (by omega) hpk.1 (by have := hpk.2; have := hI32; omega) (by rw [← hbe]; exact hn9)
                refine ih (by omega) 1 _ (Or.inr ⟨rfl, s1, ?_⟩) x8
                rcases hz with y | y
                · rw [← y.2.1]; exact s2
                · have := y.2.2; omega
              refine ev_if_ne (tgt := 114) dX8_goOn_106 (by decide) (by first | exact hR.1 _ _ | exact hR0.1 _ _ | assumption | exact ⟨by omega, by omega⟩ | exact ⟨by simp [wr_at]; omega, by simp [wr_at]; omega⟩ | exact b2_R _ | exact bC_R _ | exact band_R _ _ | exact bor_R _ _ | exact bshl_R _ _ | exact bshr_R _ _ | exact bxor_R _ _ | exact bs_R (by omega) | decide) (fun h_106 => ?_) (fun h_106 => ?_)
              · refine ev_iconst dX8_goOn_114 ?_
                refine ev_goto (tgt := 119) dX8_goOn_115 (by decide) ?_
                refine ev_istore dX8_goOn_119 rfl (by decide) rfl ?_
                refine ev_iinc dX8_goOn_121 rfl rfl (by decide) rfl ?_
                refine ev_goto (tgt := 26) dX8_goOn_124 (by decide) ?_
                first
                  | (have y := b2_ne h_106
                     rw [if_pos y]
                     exact rise _ y)
                  | (have h0 : z = 0 := by omega
                     have q9 := stay (some (.int (iI (frZ σ P x : Nat)))) (fun y _ => by omega)
                     rw [h0] at q9
                     exact q9)
                  | (have h0 : z = 0 := by omega
                     have q9 := stay (some (.int (iI (frZ σ P x : Nat)))) (fun _ y => by omega)
                     rw [h0] at q9
                     exact q9)
                  | (have y := b2_eq h_106
                     rw [if_neg y]
                     have h0 : z = 0 := by omega
                     have q9 := stay (some (.int (iI (frZ σ P x : Nat)))) (fun _ _ => by rw [← hbe]; omega)
                     rw [h0] at q9
                     exact q9)
                  | (have h0 : z = 1 := by omega
                     have q9 := stay (some (.int (iI (frZ σ P x : Nat)))) (fun y _ => by omega)
                     rw [h0] at q9
                     exact q9)
                  | (have h0 : z = 1 := by omega
                     have q9 := stay (some (.int (iI (frZ σ P x : Nat)))) (fun _ y => by omega)
                     rw [h0] at q9
                     exact q9)
                  | (have y := b2_eq h_106
                     rw [if_neg y]
                     have h0 : z = 1 := by omega
                     have q9 := stay (some (.int (iI (frZ σ P x : Nat)))) (fun _ _ => by rw [← hbe]; omega)
                     rw [h0] at q9
                     exact q9)
              · refine ev_iload dX8_goOn_109 rfl ?_
                refine ev_if_eq (tgt := 118) dX8_goOn_111 (by decide) (by first | exact hR.1 _ _ | exact hR0.1 _ _ | assumption | exact ⟨by omega, by omega⟩ | exact ⟨by simp [wr_at]; omega, by simp [wr_at]; omega⟩ | exact b2_R _ | exact bC_R _ | exact band_R _ _ | exact bor_R _ _ | exact bshl_R _ _ | exact bshr_R _ _ | exact bxor_R _ _ | exact bs_R (by omega) | decide) (fun h_111 => ?_) (fun h_111 => ?_)
                · refine ev_iconst dX8_goOn_118 ?_
                  refine ev_istore dX8_goOn_119 rfl (by decide) rfl ?_
                  refine ev_iinc dX8_goOn_121 rfl rfl (by decide) rfl ?_
                  refine ev_goto (tgt := 26) dX8_goOn_124 (by decide) ?_
                  first
                    | (have y := b2_ne h_106
                       rw [if_pos y]
                       exact rise _ y)
                    | (have h0 : z = 0 := by omega
                       have q9 := stay (some (.int (iI (frZ σ P x : Nat)))) (fun y _ => by omega)
                       rw [h0] at q9
                       exact q9)
                    | (have h0 : z = 0 := by omega
                       have q9 := stay (some (.int (iI (frZ σ P x : Nat)))) (fun _ y => by omega)
                       rw [h0] at q9
                       exact q9)
                    | (have y := b2_eq h_106
                       rw [if_neg y]
                       have h0 : z = 0 := by omega
                       have q9 := stay (some (.int (iI (frZ σ P x : Nat)))) (fun _ _ => by rw [← hbe]; omega)
                       rw [h0] at q9
                       exact q9)
                    | (have h0 : z = 1 := by omega
                       have q9 := stay (some (.int (iI (frZ σ P x : Nat)))) (fun y _ => by omega)
                       rw [h0] at q9
                       exact q9)
                    | (have h0 : z = 1 := by omega
                       have q9 := stay (some (.int (iI (frZ σ P x : Nat)))) (fun _ y => by omega)
                       rw [h0] at q9
                       exact q9)
                    | (have y := b2_eq h_106
                       rw [if_neg y]
                       have h0 : z = 1 := by omega
                       have q9 := stay (some (.int (iI (frZ σ P x : Nat)))) (fun _ _ => by rw [← hbe]; omega)
                       rw [h0] at q9
                       exact q9)
                · refine ev_iconst dX8_goOn_114 ?_
                  refine ev_goto (tgt := 119) dX8_goOn_115 (by decide) ?_
                  refine ev_istore dX8_goOn_119 rfl (by decide) rfl ?_
                  refine ev_iinc dX8_goOn_121 rfl rfl (by decide) rfl ?_
                  refine ev_goto (tgt := 26) dX8_goOn_124 (by decide) ?_
                  first
                    | (have y := b2_ne h_106
                       rw [if_pos y]
                       exact rise _ y)
                    | (have h0 : z = 0 := by omega
                       have q9 := stay (some (.int (iI (frZ σ P x : Nat)))) (fun y _ => by omega)
                       rw [h0] at q9
                       exact q9)
                    | (have h0 : z = 0 := by omega
                       have q9 := stay (some (.int (iI (frZ σ P x : Nat)))) (fun _ y => by omega)
                       rw [h0] at q9
                       exact q9)
                    | (have y := b2_eq h_106
                       rw [if_neg y]
                       have h0 : z = 0 := by omega
                       have q9 := stay (some (.int (iI (frZ σ P x : Nat)))) (fun _ _ => by rw [← hbe]; omega)
                       rw [h0] at q9
                       exact q9)
                    | (have h0 : z = 1 := by omega
                       have q9 := stay (some (.int (iI (frZ σ P x : Nat)))) (fun y _ => by omega)
                       rw [h0] at q9
                       exact q9)
                    | (have h0 : z = 1 := by omega
                       have q9 := stay (some (.int (iI (frZ σ P x : Nat)))) (fun _ y => by omega)
                       rw [h0] at q9
                       exact q9)
                    | (have y := b2_eq h_106
                       rw [if_neg y]
                       have h0 : z = 1 := by omega
                       have q9 := stay (some (.int (iI (frZ σ P x : Nat)))) (fun _ _ => by rw [← hbe]; omega)
                       rw [h0] at q9
                       exact q9)
  refine ev_aload_n dX8_goOn_0 rfl ?_
  refine ev_getR (r := 124) dX8_goOn_1 fl_X8_147 rfl rfl rfl ?_
  refine ev_bipush dX8_goOn_4 (by decide) ?_
  refine ev_iload_n dX8_goOn_6 rfl ?_
  refine ev_imul dX8_goOn_7 ?_
  refine ev_iload_n dX8_goOn_8 rfl ?_
  refine ev_iadd dX8_goOn_9 ?_
  refine ev_iaload dX8_goOn_10 rfl (by first | omega | (simp [wr_at]; omega) | (simp [wr_at, *]; omega)) (by first | omega | (simp [wr_at]; omega) | (simp [wr_at, *]; omega)) (by decide) ?_
  rw [show ν.1 124 (81 * (p : Int) + (st : Int)) = now from hnow]
  refine ev_istore dX8_goOn_11 rfl (by decide) rfl ?_
  refine ev_aload_n dX8_goOn_13 rfl ?_
  refine ev_iload_n dX8_goOn_14 rfl ?_
  refine ev_callVI dX8_goOn_15 kv_X8_402 (m_carriedIn ν st (by omega)) rfl rfl (ci := 8) rfl rfl ⟨by decide, by decide⟩ (Nat.le_of_ble_eq_true rfl) ?_
  refine ev_w (fun hR => ?_)
  refine ev_istore dX8_goOn_18 rfl (by decide) rfl ?_
  refine ev_iconst dX8_goOn_20 ?_
  refine ev_istore dX8_goOn_21 rfl (by decide) rfl ?_
  refine ev_iconst dX8_goOn_23 ?_
  refine ev_istore dX8_goOn_24 rfl (by decide) rfl ?_
  exact loop1 0 (by omega) 0 ν (Or.inl ⟨rfl, rfl, fun x9 hx9 => by omega⟩) _
