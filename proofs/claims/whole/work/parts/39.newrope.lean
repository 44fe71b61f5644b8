/-- the sums of feet by the whole ropes -/
def costF (Fe : Nat → Int) (w r : Nat) : Int := if w.testBit r then Fe r else -1
def dstF (f t : Nat → Nat) (Fe : Nat → Int) (n nr w : Nat) : Nat → Nat → Int := fwN (edg f t (costF Fe w) nr) n
def jnd (f t : Nat → Nat) (nr w p q : Nat) : Prop := ∃ r, r < nr ∧ w.testBit r = true ∧ (f r = p ∨ t r = p) ∧ (f r = q ∨ t r = q)
def okN (A : Int → Int → Int) (f t : Nat → Nat) (nr w p q : Nat) : Prop := 1 ≤ A p q ∧ A p q ≤ 99 ∧ ¬ jnd f t nr w p q
def sumN (A : Int → Int → Int) (D : Nat → Nat → Int) (n p q : Nat) : Int := sumPr (fun i j => cap9 (withR D p q (A p q) i j)) n n
def codeN (A : Int → Int → Int) (D : Nat → Nat → Int) (n p q : Nat) : Int := (sumN A D n p q * 8 + p) * 8 + q
noncomputable def stepN (A : Int → Int → Int) (D : Nat → Nat → Int) (f t : Nat → Nat) (n nr w : Nat) (acc : Int) (p q : Nat) : Int := if dC (okN A f t nr w p q) = true ∧ (acc = -1 ∨ codeN A D n p q < acc) then codeN A D n p q else acc
noncomputable def rowN (A : Int → Int → Int) (D : Nat → Nat → Int) (f t : Nat → Nat) (n nr w : Nat) (acc : Int) (p : Nat) : Nat → Int
  | 0 => acc
  | j + 1 => stepN A D f t n nr w (rowN A D f t n nr w acc p j) p (p + 1 + j)
noncomputable def bestN (A : Int → Int → Int) (D : Nat → Nat → Int) (f t : Nat → Nat) (n nr w : Nat) : Nat → Int
  | 0 => -1
  | p + 1 => rowN A D f t n nr w (bestN A D f t n nr w p) p (n - (p + 1))
theorem sumI_le {F : Nat → Int} {n : Nat} {M : Int} (h : ∀ i, i < n → 0 ≤ F i ∧ F i ≤ M) : 0 ≤ sumI F n ∧ sumI F n ≤ M * n := sumI_R h
theorem sumPr_R {F : Nat → Nat → Int} {n : Nat} {M : Int} (h : ∀ p q, p < n → q < n → 0 ≤ F p q ∧ F p q ≤ M) : ∀ p, p ≤ n → 0 ≤ sumPr F n p ∧ sumPr F n p ≤ M * sumPr (fun _ _ => 1) n p := by
  intro p
  induction p with
  | zero => intro _; rw [sumPr, sumPr]; omega
  | succ p ih =>
    intro hp
    have a := ih (by omega)
    have c := sumI_R (f := fun j => F p (p + 1 + j)) (n := n - (p + 1)) (M := M) (fun i hi => h p (p + 1 + i) (by omega) (by omega))
    have d : ∀ m, sumI (fun _ => (1 : Int)) m = m := by
      intro m
      induction m with
      | zero => rfl
      | succ m ihm => rw [sumI, ihm]; omega
    rw [sumPr, sumPr, d, Int.mul_add]
    omega
theorem sumPr_1 : ∀ n, n ≤ 8 → sumPr (fun _ _ => (1 : Int)) n n ≤ 28 := by decide
theorem sumPr_congr {F G : Nat → Nat → Int} {n : Nat} (h : ∀ p q, p < n → q < n → F p q = G p q) : ∀ p, p ≤ n → sumPr F n p = sumPr G n p := by
  intro p
  induction p with
  | zero => intro _; rfl
  | succ p ih => intro hp; rw [sumPr, sumPr, ih (by omega), sumI_congr (fun i hi => h p (p + 1 + i) (by omega) (by omega))]
theorem withR_R {n : Nat} {D : Nat → Nat → Int} (hD : okD n D) {a b : Nat} (ha : a < n) (hb : b < n) {w : Int} (hw : 0 ≤ w) {p q : Nat} (hp : p < n) (hq : q < n) : 0 ≤ cap9 (withR D a b w p q) ∧ cap9 (withR D a b w p q) ≤ 999999 := by
  have d1 := hD p q hp hq
  have d2 := hD p a hp ha
  have d3 := hD b q hb hq
  have d4 := hD p b hp hb
  have d5 := hD a q ha hq
  unfold cap9 withR
  split <;> omega
theorem codeN_R {A : Int → Int → Int} {D : Nat → Nat → Int} {n p q : Nat} (hD : okD n D) (hn : n ≤ 8) (hp : p < n) (hq : q < n) (hA : 1 ≤ A p q) : 0 ≤ codeN A D n p q ∧ codeN A D n p q ≤ 1800000000 := by
  have a := sumPr_R (M := 999999) (fun i j hi hj => withR_R hD hp hq (show 0 ≤ A p q by omega) hi hj) n (Nat.le_refl _)
  have c := sumPr_1 n hn
  unfold codeN sumN
  omega
theorem dstF_ok {σ : Mem} {P n nr nb nl : Nat} {f t : Nat → Nat} (h : PlanOk σ P n nr nb nl f t) (w : Nat) : okD n (dstF f t (fun r => σ.1 (P + 7) r) n nr w) := by
  refine fwN_ok (fun p q _ _ => ?_) n (Nat.le_refl _)
  refine edg_ok (nr := nr) (fun r hr => ?_) nr (Nat.le_refl _) p q
  have := h.2.2.2.2.1 r hr
  rw [show costF (fun r => σ.1 (P + 7) r) w r = if w.testBit r then σ.1 (P + 7) r else -1 from rfl]
  split <;> omega
theorem bestN_R {A : Int → Int → Int} {D : Nat → Nat → Int} {f t : Nat → Nat} {n nr w : Nat} (hD : okD n D) (hn : n ≤ 8) : (∀ p j acc, p < n → j ≤ n - (p + 1) → (-1 ≤ acc ∧ acc ≤ 1800000000) → (-1 ≤ rowN A D f t n nr w acc p j ∧ rowN A D f t n nr w acc p j ≤ 1800000000)) ∧ ∀ p, p ≤ n → (-1 ≤ bestN A D f t n nr w p ∧ bestN A D f t n nr w p ≤ 1800000000) := by
  have row : ∀ p j acc, p < n → j ≤ n - (p + 1) → (-1 ≤ acc ∧ acc ≤ 1800000000) → (-1 ≤ rowN A D f t n nr w acc p j ∧ rowN A D f t n nr w acc p j ≤ 1800000000) := by
    intro p j
    induction j with
    | zero => intro acc _ _ h; exact h
    | succ j ih =>
      intro acc hp hj h
      rw [rowN, stepN]
      split
      next c =>
        have hok : okN A f t nr w p (p + 1 + j) := by
          have c1 := c.1
          unfold dC at c1
          exact @of_decide_eq_true _ (Classical.propDecidable _) c1
        have := codeN_R hD hn hp (show p + 1 + j < n by omega) hok.1
        omega
      next => exact ih acc hp (by omega) h
  refine ⟨row, fun p => ?_⟩
  induction p with
  | zero => intro _; rw [bestN]; decide
  | succ p ih => intro hp; rw [bestN]; exact row p _ _ (by omega) (Nat.le_refl _) (ih (by omega))
theorem k_leastNewRope (σ : Mem) (P n nr nb nl w wt : Nat) (f t : Nat → Nat) (hPO : PlanOk σ P n nr nb nl f t) (hPI : PlIs σ P) (hBt : Bits σ w wt)  : Con yX7_leastNewRope cX7_leastNewRope 6 (some .int) 3 69 [.ref 0] σ (AnsIP (bestN (apartZ σ (P + 1) (P + 2)) (dstF f t (fun r => σ.1 (P + 7) r) n nr w) f t n nr w n) (fun τ => Same sM σ τ)) := by
  refine con_of (by decide) rfl (Nat.le_of_ble_eq_true rfl) (ok_IP rfl) ?_
  refine ev_w (fun hR => ?_)
  have hR0 := hR
  obtain ⟨hPR, ⟨hnb, hnb4⟩, ⟨hnl, hnl4⟩, hpo, hro, hbo, hlo⟩ := id hPO
  obtain ⟨hP, hn, hn8, hnr, hnr12, hft⟩ := id hPR
  obtain ⟨hw, hw2, hwt, hwt2⟩ := id hBt
  have hpl := hPI.q
  have nP : ∀ k, k ≤ 16 → ¬ sM (P + k) := fun k hk h => by unfold sM at h; omega
  have nP0 : ¬ sM P := nP 0 (by omega)
  have n0 : ¬ sM 0 := by unfold sM; omega
  have n37 : ¬ sM 37 := by unfold sM; omega
  have hDo := dstF_ok hPO w
  have hBR := bestN_R (A := apartZ σ (P + 1) (P + 2)) (f := f) (t := t) (nr := nr) (w := w) hDo hn8
  have facts : ∀ τ : Mem, Same sM σ τ → PlanOk τ P n nr nb nl f t ∧ PlIs τ P ∧ Bits τ w wt ∧ apartZ τ (P + 1) (P + 2) = apartZ σ (P + 1) (P + 2) := fun τ hS => ⟨hPO.same hS nP, by unfold PlIs; rw [hS.at n0]; exact hPI, by unfold Bits; rw [hS.at n37, hS.at n37]; exact hBt, by unfold apartZ; rw [hS.1 _ (nP 1 (by omega)), hS.1 _ (nP 2 (by omega))]⟩
  have hap : ∀ p q : Nat, p < n → q < n → 0 ≤ apartZ σ (P + 1) (P + 2) p q ∧ apartZ σ (P + 1) (P + 2) p q ≤ 198 := by
    intro p q hp hq
    have a1 := hpo p hp
    have a2 := hpo q hq
    unfold apartZ absz
    split <;> split <;> omega
  have loop : ∀ τ : Mem, Same sM σ τ → τ.1 69 2 = n → (∀ p q, p < n → q < n → mat τ p q = (dstF f t (fun r => σ.1 (P + 7) r) n nr w) p q) → ∀ i : Nat, i ≤ n → ∀ (acc : Int) (w3 w4 w5 : Option Value), acc = bestN (apartZ σ (P + 1) (P + 2)) (dstF f t (fun r => σ.1 (P + 7) r) n nr w) f t n nr w i → Ev RX7 cX7_leastNewRope 6 3 69 (AnsIP (bestN (apartZ σ (P + 1) (P + 2)) (dstF f t (fun r => σ.1 (P + 7) r) n nr w) f t n nr w n) (fun τ => Same sM σ τ)) 70 [some (.ref 0), some (.int (iI acc)), some (.int (iI (i : Nat))), w3, w4, w5] [] τ := by
    intro τ hS hn2 hm
    obtain ⟨hPO2, hPI2, hBt2, hap2⟩ := facts τ hS
    have hpl2 := hPI2.q
    have hmo : okD n (mat τ) := fun p q hp hq => by rw [hm p q hp hq]; exact hDo p q hp hq
    have hsum : ∀ a b : Nat, a < n → b < n → sumPr (fun p q => cap9 (withR (mat τ) a b (apartZ σ (P + 1) (P + 2) a b) p q)) n n = sumN (apartZ σ (P + 1) (P + 2)) (dstF f t (fun r => σ.1 (P + 7) r) n nr w) n a b := by
      intro a b ha hb
      unfold sumN
      refine sumPr_congr (fun p q hp hq => ?_) n (Nat.le_refl _)
      unfold withR
      rw [hm p q hp hq, hm p a hp ha, hm b q hb hq, hm p b hp hb, hm a q ha hq]
    refine for_up n (fun i hi ih acc w3 w4 w5 hacc => ?_)
    refine ev_w (fun hR => ?_)
    have inner : i < n → ∀ j : Nat, j ≤ n - (i + 1) → ∀ (acc : Int) (w4 w5 : Option Value), acc = rowN (apartZ σ (P + 1) (P + 2)) (dstF f t (fun r => σ.1 (P + 7) r) n nr w) f t n nr w (bestN (apartZ σ (P + 1) (P + 2)) (dstF f t (fun r => σ.1 (P + 7) r) n nr w) f t n nr w i) i j → Ev RX7 cX7_leastNewRope 6 3 69 (AnsIP (bestN (apartZ σ (P + 1) (P + 2)) (dstF f t (fun r => σ.1 (P + 7) r) n nr w) f t n nr w n) (fun τ => Same sM σ τ)) 85 [some (.ref 0), some (.int (iI acc)), some (.int (iI (i : Nat))), some (.int (iI ((i + 1 + j : Nat) : Int))), w4, w5] [] τ := by
      intro hin
      refine for_up (n - (i + 1)) (fun j hj ihj acc w4 w5 hacc => ?_)
      refine ev_w (fun hR => ?_)
      have hrr := hBR.1 i j _ hin hj (hBR.2 i (by omega))
      rw [← hacc] at hrr
      have hs : rowN (apartZ σ (P + 1) (P + 2)) (dstF f t (fun r => σ.1 (P + 7) r) n nr w) f t n nr w (bestN (apartZ σ (P + 1) (P + 2)) (dstF f t (fun r => σ.1 (P + 7) r) n nr w) f t n nr w i) i (j + 1) = stepN (apartZ σ (P + 1) (P + 2)) (dstF f t (fun r => σ.1 (P + 7) r) n nr w) f t n nr w (rowN (apartZ σ (P + 1) (P + 2)) (dstF f t (fun r => σ.1 (P + 7) r) n nr w) f t n nr w (bestN (apartZ σ (P + 1) (P + 2)) (dstF f t (fun r => σ.1 (P + 7) r) n nr w) f t n nr w i) i j) i (i + 1 + j) := rfl
      rw [← hacc] at hs
      refine ev_iload_n dX7_leastNewRope_85 rfl ?_
      refine ev_aload_n dX7_leastNewRope_86 rfl ?_
      refine ev_getQ (r := P) dX7_leastNewRope_87 fl_X7_19 rfl rfl hpl2 ?_
      refine ev_getI (kz := 0) dX7_leastNewRope_90 fl_X7_92 (plO hP) rfl rfl ?_
      rw [hPO2.1.2.1]
      refine ev_icmp_ge (tgt := 175) dX7_leastNewRope_93 (by decide) (by first | exact hR.1 _ _ | exact hR0.1 _ _ | assumption | exact ⟨by omega, by omega⟩ | exact ⟨by simp [wr_at]; omega, by simp [wr_at]; omega⟩ | exact b2_R _ | exact bC_R _ | exact band_R _ _ | exact bor_R _ _ | exact bshl_R _ _ | exact bshr_R _ _ | exact bxor_R _ _ | exact bs_R (by omega) | decide) (by first | exact hR.1 _ _ | exact hR0.1 _ _ | assumption | exact ⟨by omega, by omega⟩ | exact ⟨by simp [wr_at]; omega, by simp [wr_at]; omega⟩ | exact b2_R _ | exact bC_R _ | exact band_R _ _ | exact bor_R _ _ | exact bshl_R _ _ | exact bshr_R _ _ | exact bxor_R _ _ | exact bs_R (by omega) | decide) (fun h_93 => ?_) (fun h_93 => ?_)
      · refine ev_iinc dX7_leastNewRope_175 rfl rfl (by decide) rfl ?_
        refine ev_goto (tgt := 70) dX7_leastNewRope_178 (by decide) ?_
        obtain rfl : j = n - (i + 1) := by omega
        exact ih (by omega) _ _ _ _ hacc
      · refine ev_aload_n dX7_leastNewRope_96 rfl ?_
        refine ev_getQ (r := P) dX7_leastNewRope_97 fl_X7_19 rfl rfl hpl2 ?_
        refine ev_iload_n dX7_leastNewRope_100 rfl ?_
        refine ev_iload_n dX7_leastNewRope_101 rfl ?_
        refine ev_callVI dX7_leastNewRope_102 kv_X7_385 (k_feetApart τ P i ((i + 1 + j : Nat) : Int) (by have := hPO2.1.1; exact this) (by omega) (by omega) (by omega) (by omega) (by have a1 := hPO2.2.2.2.1 i hin; have a2 := hPO2.2.2.2.1 (i + 1 + j) (by omega); exact ⟨by omega, by omega⟩) (by have a1 := hPO2.2.2.2.1 i hin; have a2 := hPO2.2.2.2.1 (i + 1 + j) (by omega); exact ⟨by omega, by omega⟩)) rfl (plO hP) (ci := 2) rfl rfl ⟨by decide, by decide⟩ (Nat.le_of_ble_eq_true rfl) ?_
        refine ev_w (fun hR => ?_)
        rw [hap2]
        have hapb := hap i (i + 1 + j) hin (by omega)
        refine ev_istore dX7_leastNewRope_105 rfl (by decide) rfl ?_
        refine ev_iload dX7_leastNewRope_107 rfl ?_
        refine ev_iconst dX7_leastNewRope_109 ?_
        refine ev_icmp_lt (tgt := 169) dX7_leastNewRope_110 (by decide) (by first | exact hR.1 _ _ | exact hR0.1 _ _ | assumption | exact ⟨by omega, by omega⟩ | exact ⟨by simp [wr_at]; omega, by simp [wr_at]; omega⟩ | exact b2_R _ | exact bC_R _ | exact band_R _ _ | exact bor_R _ _ | exact bshl_R _ _ | exact bshr_R _ _ | exact bxor_R _ _ | exact bs_R (by omega) | decide) (by first | exact hR.1 _ _ | exact hR0.1 _ _ | assumption | exact ⟨by omega, by omega⟩ | exact ⟨by simp [wr_at]; omega, by simp [wr_at]; omega⟩ | exact b2_R _ | exact bC_R _ | exact band_R _ _ | exact bor_R _ _ | exact bshl_R _ _ | exact bshr_R _ _ | exact bxor_R _ _ | exact bs_R (by omega) | decide) (fun h_110 => ?_) (fun h_110 => ?_)
        · refine ev_iinc dX7_leastNewRope_169 rfl rfl (by decide) rfl ?_
          refine ev_goto (tgt := 85) dX7_leastNewRope_172 (by decide) ?_
          first
            | (have hnj := bC_eq h_126
               have hok : okN (apartZ σ (P + 1) (P + 2)) f t nr w i (i + 1 + j) := ⟨by omega, by omega, hnj⟩
               refine ihj (by omega) _ _ _ ?_
               rw [hs, stepN, if_pos ⟨dC_t hok, by omega⟩])
            | (refine ihj (by omega) _ _ _ ?_
               rw [hs, stepN, if_neg (fun z => ?_)]
               have hok : okN (apartZ σ (P + 1) (P + 2)) f t nr w i (i + 1 + j) := by
                 have c1 := z.1
                 unfold dC at c1
                 exact @of_decide_eq_true _ (Classical.propDecidable _) c1
               first
                 | (have e2 := hok.1; have e3 := hok.2.1; omega)
                 | exact hok.2.2 (bC_ne h_126)
                 | (have e2 := z.2; omega))
        · refine ev_iload dX7_leastNewRope_113 rfl ?_
          refine ev_bipush dX7_leastNewRope_115 (by decide) ?_
          refine ev_icmp_gt (tgt := 169) dX7_leastNewRope_117 (by decide) (by first | exact hR.1 _ _ | exact hR0.1 _ _ | assumption | exact ⟨by omega, by omega⟩ | exact ⟨by simp [wr_at]; omega, by simp [wr_at]; omega⟩ | exact b2_R _ | exact bC_R _ | exact band_R _ _ | exact bor_R _ _ | exact bshl_R _ _ | exact bshr_R _ _ | exact bxor_R _ _ | exact bs_R (by omega) | decide) (by first | exact hR.1 _ _ | exact hR0.1 _ _ | assumption | exact ⟨by omega, by omega⟩ | exact ⟨by simp [wr_at]; omega, by simp [wr_at]; omega⟩ | exact b2_R _ | exact bC_R _ | exact band_R _ _ | exact bor_R _ _ | exact bshl_R _ _ | exact bshr_R _ _ | exact bxor_R _ _ | exact bs_R (by omega) | decide) (fun h_117 => ?_) (fun h_117 => ?_)
          · refine ev_iinc dX7_leastNewRope_169 rfl rfl (by decide) rfl ?_
            refine ev_goto (tgt := 85) dX7_leastNewRope_172 (by decide) ?_
            first
              | (have hnj := bC_eq h_126
                 have hok : okN (apartZ σ (P + 1) (P + 2)) f t nr w i (i + 1 + j) := ⟨by omega, by omega, hnj⟩
                 refine ihj (by omega) _ _ _ ?_
                 rw [hs, stepN, if_pos ⟨dC_t hok, by omega⟩])
              | (refine ihj (by omega) _ _ _ ?_
                 rw [hs, stepN, if_neg (fun z => ?_)]
                 have hok : okN (apartZ σ (P + 1) (P + 2)) f t nr w i (i + 1 + j) := by
                   have c1 := z.1
                   unfold dC at c1
                   exact @of_decide_eq_true _ (Classical.propDecidable _) c1
                 first
                   | (have e2 := hok.1; have e3 := hok.2.1; omega)
                   | exact hok.2.2 (bC_ne h_126)
                   | (have e2 := z.2; omega))
          · refine ev_aload_n dX7_leastNewRope_120 rfl ?_
            refine ev_iload_n dX7_leastNewRope_121 rfl ?_
            refine ev_iload_n dX7_leastNewRope_122 rfl ?_
            refine ev_callVI dX7_leastNewRope_123 kv_X7_388 (k_isJoinedAtOnce τ P n nr nb nl w wt f t hPO2 hPI2 hBt2 i (i + 1 + j) hin (by omega)) rfl rfl (ci := 7) rfl rfl ⟨by decide, by decide⟩ (Nat.le_of_ble_eq_true rfl) ?_
            refine ev_w (fun hR => ?_)
            refine ev_st (show _ = [Value.int (iI (bC (jnd f t nr w i (i + 1 + j))))] from rfl) ?_
            refine ev_if_eq (tgt := 132) dX7_leastNewRope_126 (by decide) (by first | exact hR.1 _ _ | exact hR0.1 _ _ | assumption | exact ⟨by omega, by omega⟩ | exact ⟨by simp [wr_at]; omega, by simp [wr_at]; omega⟩ | exact b2_R _ | exact bC_R _ | exact band_R _ _ | exact bor_R _ _ | exact bshl_R _ _ | exact bshr_R _ _ | exact bxor_R _ _ | exact bs_R (by omega) | decide) (fun h_126 => ?_) (fun h_126 => ?_)
            · refine ev_aload_n dX7_leastNewRope_132 rfl ?_
              refine ev_getR (r := 69) dX7_leastNewRope_133 fl_X7_51 rfl rfl rfl ?_
              refine ev_iload_n dX7_leastNewRope_136 rfl ?_
              refine ev_iload_n dX7_leastNewRope_137 rfl ?_
              refine ev_iload dX7_leastNewRope_138 rfl ?_
              refine ev_callVI dX7_leastNewRope_140 kv_X7_391 (k_sumWith τ n i (i + 1 + j) (apartZ σ (P + 1) (P + 2) i ((i + 1 + j : Nat) : Int)) hn2 hn8 hin (by omega) (by omega) (by omega) hmo) rfl rfl (ci := 6) rfl rfl ⟨by decide, by decide⟩ (Nat.le_of_ble_eq_true rfl) ?_
              refine ev_w (fun hR => ?_)
              refine ev_bipush dX7_leastNewRope_143 (by decide) ?_
              refine ev_imul dX7_leastNewRope_145 ?_
              refine ev_iload_n dX7_leastNewRope_146 rfl ?_
              refine ev_iadd dX7_leastNewRope_147 ?_
              refine ev_bipush dX7_leastNewRope_148 (by decide) ?_
              refine ev_imul dX7_leastNewRope_150 ?_
              refine ev_iload_n dX7_leastNewRope_151 rfl ?_
              refine ev_iadd dX7_leastNewRope_152 ?_
              rw [hsum i (i + 1 + j) hin (by omega)]
              rw [show (sumN (apartZ σ (P + 1) (P + 2)) (dstF f t (fun r => σ.1 (P + 7) r) n nr w) n i (i + 1 + j) * 8 + (i : Int)) * 8 + ((i + 1 + j : Nat) : Int) = codeN (apartZ σ (P + 1) (P + 2)) (dstF f t (fun r => σ.1 (P + 7) r) n nr w) n i (i + 1 + j) from rfl]
              have hcr := codeN_R (A := apartZ σ (P + 1) (P + 2)) hDo hn8 hin (show i + 1 + j < n by omega) (by omega)
              refine ev_istore dX7_leastNewRope_153 rfl (by decide) rfl ?_
              refine ev_iload_n dX7_leastNewRope_155 rfl ?_
              refine ev_iconst dX7_leastNewRope_156 ?_
              refine ev_icmp_eq (tgt := 166) dX7_leastNewRope_157 (by decide) (by first | exact hR.1 _ _ | exact hR0.1 _ _ | assumption | exact ⟨by omega, by omega⟩ | exact ⟨by simp [wr_at]; omega, by simp [wr_at]; omega⟩ | exact b2_R _ | exact bC_R _ | exact band_R _ _ | exact bor_R _ _ | exact bshl_R _ _ | exact bshr_R _ _ | exact bxor_R _ _ | exact bs_R (by omega) | decide) (by first | exact hR.1 _ _ | exact hR0.1 _ _ | assumption | exact ⟨by omega, by omega⟩ | exact ⟨by simp [wr_at]; omega, by simp [wr_at]; omega⟩ | exact b2_R _ | exact bC_R _ | exact band_R _ _ | exact bor_R _ _ | exact bshl_R _ _ | exact bshr_R _ _ | exact bxor_R _ _ | exact bs_R (by omega) | decide) (fun h_157 => ?_) (fun h_157 => ?_)
              · refine ev_iload dX7_leastNewRope_166 rfl ?_
                refine ev_istore_n dX7_leastNewRope_168 rfl (by decide) rfl ?_
                refine ev_iinc dX7_leastNewRope_169 rfl rfl (by decide) rfl ?_
                refine ev_goto (tgt := 85) dX7_leastNewRope_172 (by decide) ?_
                first
                  | (have hnj := bC_eq h_126
                     have hok : okN (apartZ σ (P + 1) (P + 2)) f t nr w i (i + 1 + j) := ⟨by omega, by omega, hnj⟩
                     refine ihj (by omega) _ _ _ ?_
                     rw [hs, stepN, if_pos ⟨dC_t hok, by omega⟩])
                  | (refine ihj (by omega) _ _ _ ?_
                     rw [hs, stepN, if_neg (fun z => ?_)]
                     have hok : okN (apartZ σ (P + 1) (P + 2)) f t nr w i (i + 1 + j) := by
                       have c1 := z.1
                       unfold dC at c1
                       exact @of_decide_eq_true _ (Classical.propDecidable _) c1
                     first
                       | (have e2 := hok.1; have e3 := hok.2.1; omega)
                       | exact hok.2.2 (bC_ne h_126)
                       | (have e2 := z.2; omega))
              · refine ev_iload dX7_leastNewRope_160 rfl ?_
                refine ev_iload_n dX7_leastNewRope_162 rfl ?_
                refine ev_icmp_ge (tgt := 169) dX7_leastNewRope_163 (by decide) (by first | exact hR.1 _ _ | exact hR0.1 _ _ | assumption | exact ⟨by omega, by omega⟩ | exact ⟨by simp [wr_at]; omega, by simp [wr_at]; omega⟩ | exact b2_R _ | exact bC_R _ | exact band_R _ _ | exact bor_R _ _ | exact bshl_R _ _ | exact bshr_R _ _ | exact bxor_R _ _ | exact bs_R (by omega) | decide) (by first | exact hR.1 _ _ | exact hR0.1 _ _ | assumption | exact ⟨by omega, by omega⟩ | exact ⟨by simp [wr_at]; omega, by simp [wr_at]; omega⟩ | exact b2_R _ | exact bC_R _ | exact band_R _ _ | exact bor_R _ _ | exact bshl_R _ _ | exact bshr_R _ _ | exact bxor_R _ _ | exact bs_R (by omega) | decide) (fun h_163 => ?_) (fun h_163 => ?_)
                · refine ev_iinc dX7_leastNewRope_169 rfl rfl (by decide) rfl ?_
                  refine ev_goto (tgt := 85) dX7_leastNewRope_172 (by decide) ?_
                  first
                    | (have hnj := bC_eq h_126
                       have hok : okN (apartZ σ (P + 1) (P + 2)) f t nr w i (i + 1 + j) := ⟨by omega, by omega, hnj⟩
                       refine ihj (by omega) _ _ _ ?_
                       rw [hs, stepN, if_pos ⟨dC_t hok, by omega⟩])
                    | (refine ihj (by omega) _ _ _ ?_
                       rw [hs, stepN, if_neg (fun z => ?_)]
                       have hok : okN (apartZ σ (P + 1) (P + 2)) f t nr w i (i + 1 + j) := by
                         have c1 := z.1
                         unfold dC at c1
                         exact @of_decide_eq_true _ (Classical.propDecidable _) c1
                       first
                         | (have e2 := hok.1; have e3 := hok.2.1; omega)
                         | exact hok.2.2 (bC_ne h_126)
                         | (have e2 := z.2; omega))
                · refine ev_iload dX7_leastNewRope_166 rfl ?_
                  refine ev_istore_n dX7_leastNewRope_168 rfl (by decide) rfl ?_
                  refine ev_iinc dX7_leastNewRope_169 rfl rfl (by decide) rfl ?_
                  refine ev_goto (tgt := 85) dX7_leastNewRope_172 (by decide) ?_
                  first
                    | (have hnj := bC_eq h_126
                       have hok : okN (apartZ σ (P + 1) (P + 2)) f t nr w i (i + 1 + j) := ⟨by omega, by omega, hnj⟩
                       refine ihj (by omega) _ _ _ ?_
                       rw [hs, stepN, if_pos ⟨dC_t hok, by omega⟩])
                    | (refine ihj (by omega) _ _ _ ?_
                       rw [hs, stepN, if_neg (fun z => ?_)]
                       have hok : okN (apartZ σ (P + 1) (P + 2)) f t nr w i (i + 1 + j) := by
                         have c1 := z.1
                         unfold dC at c1
                         exact @of_decide_eq_true _ (Classical.propDecidable _) c1
                       first
                         | (have e2 := hok.1; have e3 := hok.2.1; omega)
                         | exact hok.2.2 (bC_ne h_126)
                         | (have e2 := z.2; omega))
            · refine ev_goto (tgt := 169) dX7_leastNewRope_129 (by decide) ?_
              refine ev_iinc dX7_leastNewRope_169 rfl rfl (by decide) rfl ?_
              refine ev_goto (tgt := 85) dX7_leastNewRope_172 (by decide) ?_
              first
                | (have hnj := bC_eq h_126
                   have hok : okN (apartZ σ (P + 1) (P + 2)) f t nr w i (i + 1 + j) := ⟨by omega, by omega, hnj⟩
                   refine ihj (by omega) _ _ _ ?_
                   rw [hs, stepN, if_pos ⟨dC_t hok, by omega⟩])
                | (refine ihj (by omega) _ _ _ ?_
                   rw [hs, stepN, if_neg (fun z => ?_)]
                   have hok : okN (apartZ σ (P + 1) (P + 2)) f t nr w i (i + 1 + j) := by
                     have c1 := z.1
                     unfold dC at c1
                     exact @of_decide_eq_true _ (Classical.propDecidable _) c1
                   first
                     | (have e2 := hok.1; have e3 := hok.2.1; omega)
                     | exact hok.2.2 (bC_ne h_126)
                     | (have e2 := z.2; omega))
    refine ev_iload_n dX7_leastNewRope_70 rfl ?_
    refine ev_aload_n dX7_leastNewRope_71 rfl ?_
    refine ev_getQ (r := P) dX7_leastNewRope_72 fl_X7_19 rfl rfl hpl2 ?_
    refine ev_getI (kz := 0) dX7_leastNewRope_75 fl_X7_92 (plO hP) rfl rfl ?_
    rw [hPO2.1.2.1]
    refine ev_icmp_ge (tgt := 181) dX7_leastNewRope_78 (by decide) (by first | exact hR.1 _ _ | exact hR0.1 _ _ | assumption | exact ⟨by omega, by omega⟩ | exact ⟨by simp [wr_at]; omega, by simp [wr_at]; omega⟩ | exact b2_R _ | exact bC_R _ | exact band_R _ _ | exact bor_R _ _ | exact bshl_R _ _ | exact bshr_R _ _ | exact bxor_R _ _ | exact bs_R (by omega) | decide) (by first | exact hR.1 _ _ | exact hR0.1 _ _ | assumption | exact ⟨by omega, by omega⟩ | exact ⟨by simp [wr_at]; omega, by simp [wr_at]; omega⟩ | exact b2_R _ | exact bC_R _ | exact band_R _ _ | exact bor_R _ _ | exact bshl_R _ _ | exact bshr_R _ _ | exact bxor_R _ _ | exact bs_R (by omega) | decide) (fun h_78 => ?_) (fun h_78 => ?_)
    · refine ev_iload_n dX7_leastNewRope_181 rfl ?_
      refine ev_ireturn dX7_leastNewRope_182 ?_
      obtain rfl : i = n := by omega
      exact ⟨by rw [hacc], hS⟩
    · refine ev_iload_n dX7_leastNewRope_81 rfl ?_
      refine ev_iconst dX7_leastNewRope_82 ?_
      refine ev_iadd dX7_leastNewRope_83 ?_
      refine ev_istore_n dX7_leastNewRope_84 rfl (by decide) rfl ?_
      exact inner (by omega) 0 (by omega) _ _ _ hacc
  have loop0 : ∀ r : Nat, r ≤ nr → ∀ (τ : Mem) (w2 w3 w4 w5 : Option Value), Same sM σ τ → (∀ i : Nat, i < r → τ.1 70 i = costF (fun r => σ.1 (P + 7) r) w i) → Ev RX7 cX7_leastNewRope 6 3 69 (AnsIP (bestN (apartZ σ (P + 1) (P + 2)) (dstF f t (fun r => σ.1 (P + 7) r) n nr w) f t n nr w n) (fun τ => Same sM σ τ)) 2 [some (.ref 0), some (.int (iI (r : Nat))), w2, w3, w4, w5] [] τ := by
    refine for_up nr (fun r hr ih τ w2 w3 w4 w5 hS hc => ?_)
    refine ev_w (fun hR => ?_)
    obtain ⟨hPO2, hPI2, hBt2, hap2⟩ := facts τ hS
    have hpl2 := hPI2.q
    refine ev_iload_n dX7_leastNewRope_2 rfl ?_
    refine ev_aload_n dX7_leastNewRope_3 rfl ?_
    refine ev_getQ (r := P) dX7_leastNewRope_4 fl_X7_19 rfl rfl hpl2 ?_
    refine ev_getI (kz := 1) dX7_leastNewRope_7 fl_X7_98 (plO hP) rfl rfl ?_
    rw [hPO2.1.2.2.2.1]
    refine ev_icmp_ge (tgt := 55) dX7_leastNewRope_10 (by decide) (by first | exact hR.1 _ _ | exact hR0.1 _ _ | assumption | exact ⟨by omega, by omega⟩ | exact ⟨by simp [wr_at]; omega, by simp [wr_at]; omega⟩ | exact b2_R _ | exact bC_R _ | exact band_R _ _ | exact bor_R _ _ | exact bshl_R _ _ | exact bshr_R _ _ | exact bxor_R _ _ | exact bs_R (by omega) | decide) (by first | exact hR.1 _ _ | exact hR0.1 _ _ | assumption | exact ⟨by omega, by omega⟩ | exact ⟨by simp [wr_at]; omega, by simp [wr_at]; omega⟩ | exact b2_R _ | exact bC_R _ | exact band_R _ _ | exact bor_R _ _ | exact bshl_R _ _ | exact bshr_R _ _ | exact bxor_R _ _ | exact bs_R (by omega) | decide) (fun h_10 => ?_) (fun h_10 => ?_)
    · refine ev_aload_n dX7_leastNewRope_55 rfl ?_
      refine ev_getR (r := 69) dX7_leastNewRope_56 fl_X7_51 rfl rfl rfl ?_
      refine ev_aload_n dX7_leastNewRope_59 rfl ?_
      refine ev_getQ (r := P) dX7_leastNewRope_60 fl_X7_19 rfl rfl hpl2 ?_
      refine ev_callVP dX7_leastNewRope_63 kv_X7_341 (k_spread τ P n nr f t hPO2.1 (fun i hi => by
          show τ.1 70 i = -1 ∨ (0 ≤ τ.1 70 i ∧ τ.1 70 i ≤ 1000000)
          rw [hc i (by omega)]
          have := hro i hi
          rw [show costF (fun r => σ.1 (P + 7) r) w i = if w.testBit i then σ.1 (P + 7) i else -1 from rfl]
          split <;> omega)) rfl rfl (ci := 6) rfl rfl ⟨by decide, by decide⟩ (Nat.le_of_ble_eq_true rfl) ?_
      rintro v_63 τ_63 ⟨rfl, hS2, hn2, hm2⟩
      refine ev_w (fun hR => ?_)
      refine ev_iconst dX7_leastNewRope_66 ?_
      refine ev_istore_n dX7_leastNewRope_67 rfl (by decide) rfl ?_
      refine ev_iconst dX7_leastNewRope_68 ?_
      refine ev_istore_n dX7_leastNewRope_69 rfl (by decide) rfl ?_
      obtain rfl : r = nr := by omega
      refine loop τ_63 (hS.tr (hS2.mono (fun c h => h.elim Or.inl (fun z => Or.inr (Or.inr z))))) hn2 (fun p q hp hq => ?_) 0 (by omega) _ _ _ _ rfl
      rw [hm2 p q hp hq, dstF, edg_congr r hc]
    · refine ev_aload_n dX7_leastNewRope_13 rfl ?_
      refine ev_getR (r := 69) dX7_leastNewRope_14 fl_X7_51 rfl rfl rfl ?_
      refine ev_getR (r := 70) dX7_leastNewRope_17 fl_X7_338 rfl rfl rfl ?_
      refine ev_iload_n dX7_leastNewRope_20 rfl ?_
      refine ev_aload_n dX7_leastNewRope_21 rfl ?_
      refine ev_getR (r := 37) dX7_leastNewRope_22 fl_X7_29 rfl rfl rfl ?_
      refine ev_getI (kz := 3) dX7_leastNewRope_25 fl_X7_119 rfl rfl rfl ?_
      rw [hBt2.1]
      refine ev_iload_n dX7_leastNewRope_28 rfl ?_
      refine ev_callSI dX7_leastNewRope_29 ks_X7_237 (k_has τ w r (by omega) (by omega)) rfl rfl ⟨by decide, by decide⟩ (Nat.le_of_ble_eq_true rfl) ?_
      refine ev_w (fun hR => ?_)
      refine ev_if_eq (tgt := 47) dX7_leastNewRope_32 (by decide) (by first | exact hR.1 _ _ | exact hR0.1 _ _ | assumption | exact ⟨by omega, by omega⟩ | exact ⟨by simp [wr_at]; omega, by simp [wr_at]; omega⟩ | exact b2_R _ | exact bC_R _ | exact band_R _ _ | exact bor_R _ _ | exact bshl_R _ _ | exact bshr_R _ _ | exact bxor_R _ _ | exact bs_R (by omega) | decide) (fun h_32 => ?_) (fun h_32 => ?_)
      · refine ev_iconst dX7_leastNewRope_47 ?_
        refine ev_iastore dX7_leastNewRope_48 rfl (by first | omega | (simp [wr_at]; omega) | (simp [wr_at, *]; omega)) (by first | omega | (simp [wr_at]; omega) | (simp [wr_at, *]; omega)) (by decide) (by first | exact hR.1 _ _ | exact hR0.1 _ _ | assumption | exact ⟨by omega, by omega⟩ | exact ⟨by simp [wr_at]; omega, by simp [wr_at]; omega⟩ | exact b2_R _ | exact bC_R _ | exact band_R _ _ | exact bor_R _ _ | exact bshl_R _ _ | exact bshr_R _ _ | exact bxor_R _ _ | exact bs_R (by omega) | decide) ?_
        refine ev_w (fun hR => ?_)
        refine ev_iinc dX7_leastNewRope_49 rfl rfl (by decide) rfl ?_
        refine ev_goto (tgt := 2) dX7_leastNewRope_52 (by decide) ?_
        refine ih (by omega) _ _ _ _ _ (hS.wr (Or.inr (Or.inl rfl))) (fun i hi => ?_)
        by_cases e : i = r
        · subst e
          rw [wr_eq, costF]
          first
            | (have z := b2_ne h_32; rw [if_pos z])
            | (have z := b2_eq h_32; rw [if_neg z])
        · rw [wr_nek _ (by omega)]; exact hc i (by omega)
      · refine ev_aload_n dX7_leastNewRope_35 rfl ?_
        refine ev_getQ (r := P) dX7_leastNewRope_36 fl_X7_19 rfl rfl hpl2 ?_
        refine ev_getR (r := P + 7) dX7_leastNewRope_39 fl_X7_153 (plO hP) rfl rfl ?_
        refine ev_iload_n dX7_leastNewRope_42 rfl ?_
        refine ev_iaload dX7_leastNewRope_43 (plA7 hP) (by first | omega | (simp [wr_at]; omega) | (simp [wr_at, *]; omega)) (by first | omega | (simp [wr_at]; omega) | (simp [wr_at, *]; omega)) (by decide) ?_
        rw [hS.at (nP 7 (by omega))]
        refine ev_goto (tgt := 48) dX7_leastNewRope_44 (by decide) ?_
        refine ev_iastore dX7_leastNewRope_48 rfl (by first | omega | (simp [wr_at]; omega) | (simp [wr_at, *]; omega)) (by first | omega | (simp [wr_at]; omega) | (simp [wr_at, *]; omega)) (by decide) (by first | exact hR.1 _ _ | exact hR0.1 _ _ | assumption | exact ⟨by omega, by omega⟩ | exact ⟨by simp [wr_at]; omega, by simp [wr_at]; omega⟩ | exact b2_R _ | exact bC_R _ | exact band_R _ _ | exact bor_R _ _ | exact bshl_R _ _ | exact bshr_R _ _ | exact bxor_R _ _ | exact bs_R (by omega) | decide) ?_
        refine ev_w (fun hR => ?_)
        refine ev_iinc dX7_leastNewRope_49 rfl rfl (by decide) rfl ?_
        refine ev_goto (tgt := 2) dX7_leastNewRope_52 (by decide) ?_
        refine ih (by omega) _ _ _ _ _ (hS.wr (Or.inr (Or.inl rfl))) (fun i hi => ?_)
        by_cases e : i = r
        · subst e
          rw [wr_eq, costF]
          first
            | (have z := b2_ne h_32; rw [if_pos z])
            | (have z := b2_eq h_32; rw [if_neg z])
        · rw [wr_nek _ (by omega)]; exact hc i (by omega)
  refine ev_iconst dX7_leastNewRope_0 ?_
  refine ev_istore_n dX7_leastNewRope_1 rfl (by decide) rfl ?_
  exact loop0 0 (by omega) σ _ _ _ _ Same.rf (fun i hi => by omega)
def newZ (best x : Int) : Int := if ¬ (0 ≤ x ∧ x ≤ 2) then -1000000002 else if best = -1 then -1 else if x = 0 then (best.tdiv 8).tmod 8 else if x = 1 then best.tmod 8 else best.tdiv 64
theorem k_newRope (σ : Mem) (P n nr nb nl w wt : Nat) (f t : Nat → Nat) (hPO : PlanOk σ P n nr nb nl f t) (hPI : PlIs σ P) (hBt : Bits σ w wt) (x : Int) (hx : inR x) : Con yX7_newRope cX7_newRope 3 (some .int) 4 94 [.ref 0, .int (iI x)] σ (AnsIP (newZ (bestN (apartZ σ (P + 1) (P + 2)) (dstF f t (fun r => σ.1 (P + 7) r) n nr w) f t n nr w n) x) (fun τ => Same sM σ τ)) := by
  refine con_of (by decide) rfl (Nat.le_of_ble_eq_true rfl) (ok_IP rfl) ?_
  refine ev_w (fun hR => ?_)
  have hR0 := hR
  have hDo := dstF_ok hPO w
  have hBR := (bestN_R (A := apartZ σ (P + 1) (P + 2)) (f := f) (t := t) (nr := nr) (w := w) hDo hPO.1.2.2.1).2 n (Nat.le_refl _)
  refine ev_iload_n dX7_newRope_0 rfl ?_
  refine ev_if_lt (tgt := 9) dX7_newRope_1 (by decide) (by first | exact hR.1 _ _ | exact hR0.1 _ _ | assumption | exact ⟨by omega, by omega⟩ | exact ⟨by simp [wr_at]; omega, by simp [wr_at]; omega⟩ | exact b2_R _ | exact bC_R _ | exact band_R _ _ | exact bor_R _ _ | exact bshl_R _ _ | exact bshr_R _ _ | exact bxor_R _ _ | exact bs_R (by omega) | decide) (fun h_1 => ?_) (fun h_1 => ?_)
  · refine ev_ldc (z := -1000000002) dX7_newRope_9 kc_X7_73 (by decide) ?_
    refine ev_ireturn dX7_newRope_11 ?_
    exact ⟨by rw [newZ, if_pos (by omega)], Same.rf⟩
  · refine ev_iload_n dX7_newRope_4 rfl ?_
    refine ev_iconst dX7_newRope_5 ?_
    refine ev_icmp_le (tgt := 12) dX7_newRope_6 (by decide) (by first | exact hR.1 _ _ | exact hR0.1 _ _ | assumption | exact ⟨by omega, by omega⟩ | exact ⟨by simp [wr_at]; omega, by simp [wr_at]; omega⟩ | exact b2_R _ | exact bC_R _ | exact band_R _ _ | exact bor_R _ _ | exact bshl_R _ _ | exact bshr_R _ _ | exact bxor_R _ _ | exact bs_R (by omega) | decide) (by first | exact hR.1 _ _ | exact hR0.1 _ _ | assumption | exact ⟨by omega, by omega⟩ | exact ⟨by simp [wr_at]; omega, by simp [wr_at]; omega⟩ | exact b2_R _ | exact bC_R _ | exact band_R _ _ | exact bor_R _ _ | exact bshl_R _ _ | exact bshr_R _ _ | exact bxor_R _ _ | exact bs_R (by omega) | decide) (fun h_6 => ?_) (fun h_6 => ?_)
    · refine ev_aload_n dX7_newRope_12 rfl ?_
      refine ev_callVP dX7_newRope_13 kv_X7_290 (k_leastNewRope σ P n nr nb nl w wt f t hPO hPI hBt) rfl rfl (ci := 7) rfl rfl ⟨by decide, by decide⟩ (Nat.le_of_ble_eq_true rfl) ?_
      rintro v_13 τ_13 ⟨rfl, hS2⟩
      refine ev_w (fun hR => ?_)
      refine ev_istore_n dX7_newRope_16 rfl (by decide) rfl ?_
      refine ev_iload_n dX7_newRope_17 rfl ?_
      refine ev_iconst dX7_newRope_18 ?_
      refine ev_icmp_ne (tgt := 24) dX7_newRope_19 (by decide) (by first | exact hR.1 _ _ | exact hR0.1 _ _ | assumption | exact ⟨by omega, by omega⟩ | exact ⟨by simp [wr_at]; omega, by simp [wr_at]; omega⟩ | exact b2_R _ | exact bC_R _ | exact band_R _ _ | exact bor_R _ _ | exact bshl_R _ _ | exact bshr_R _ _ | exact bxor_R _ _ | exact bs_R (by omega) | decide) (by first | exact hR.1 _ _ | exact hR0.1 _ _ | assumption | exact ⟨by omega, by omega⟩ | exact ⟨by simp [wr_at]; omega, by simp [wr_at]; omega⟩ | exact b2_R _ | exact bC_R _ | exact band_R _ _ | exact bor_R _ _ | exact bshl_R _ _ | exact bshr_R _ _ | exact bxor_R _ _ | exact bs_R (by omega) | decide) (fun h_19 => ?_) (fun h_19 => ?_)
      · refine ev_iload_n dX7_newRope_24 rfl ?_
        by_cases z : x = 0
        · refine ev_lookup2 (off := 27) (tgt := 52) dX7_newRope_25 hx (by decide) (by rw [if_pos z]) (by decide) ?_
          refine ev_iload_n dX7_newRope_52 rfl ?_
          refine ev_bipush dX7_newRope_53 (by decide) ?_
          refine ev_idiv dX7_newRope_55 (by first | exact hR.1 _ _ | exact hR0.1 _ _ | assumption | exact ⟨by omega, by omega⟩ | exact ⟨by simp [wr_at]; omega, by simp [wr_at]; omega⟩ | exact b2_R _ | exact bC_R _ | exact band_R _ _ | exact bor_R _ _ | exact bshl_R _ _ | exact bshr_R _ _ | exact bxor_R _ _ | exact bs_R (by omega) | decide) (by first | exact hR.1 _ _ | exact hR0.1 _ _ | assumption | exact ⟨by omega, by omega⟩ | exact ⟨by simp [wr_at]; omega, by simp [wr_at]; omega⟩ | exact b2_R _ | exact bC_R _ | exact band_R _ _ | exact bor_R _ _ | exact bshl_R _ _ | exact bshr_R _ _ | exact bxor_R _ _ | exact bs_R (by omega) | decide) (by omega) (by omega) ?_
          refine ev_bipush dX7_newRope_56 (by decide) ?_
          refine ev_irem dX7_newRope_58 (by rw [Int.tdiv_eq_ediv_of_nonneg (by omega)]; exact ⟨by omega, by omega⟩) (by decide) (by omega) (by omega) ?_
          refine ev_ireturn dX7_newRope_59 ?_
          exact ⟨by rw [newZ, if_neg (by omega), if_neg (by omega), if_pos z], hS2⟩
        by_cases z1 : x = 1
        · refine ev_lookup2 (off := 35) (tgt := 60) dX7_newRope_25 hx (by decide) (by rw [if_neg z, if_pos z1]) (by decide) ?_
          refine ev_iload_n dX7_newRope_60 rfl ?_
          refine ev_bipush dX7_newRope_61 (by decide) ?_
          refine ev_irem dX7_newRope_63 (by first | exact hR.1 _ _ | exact hR0.1 _ _ | assumption | exact ⟨by omega, by omega⟩ | exact ⟨by simp [wr_at]; omega, by simp [wr_at]; omega⟩ | exact b2_R _ | exact bC_R _ | exact band_R _ _ | exact bor_R _ _ | exact bshl_R _ _ | exact bshr_R _ _ | exact bxor_R _ _ | exact bs_R (by omega) | decide) (by first | exact hR.1 _ _ | exact hR0.1 _ _ | assumption | exact ⟨by omega, by omega⟩ | exact ⟨by simp [wr_at]; omega, by simp [wr_at]; omega⟩ | exact b2_R _ | exact bC_R _ | exact band_R _ _ | exact bor_R _ _ | exact bshl_R _ _ | exact bshr_R _ _ | exact bxor_R _ _ | exact bs_R (by omega) | decide) (by omega) (by omega) ?_
          refine ev_ireturn dX7_newRope_64 ?_
          exact ⟨by rw [newZ, if_neg (by omega), if_neg (by omega), if_neg (by omega), if_pos z1], hS2⟩
        refine ev_lookup2 (off := 40) (tgt := 65) dX7_newRope_25 hx (by decide) (by rw [if_neg z, if_neg z1]) (by decide) ?_
        refine ev_iload_n dX7_newRope_65 rfl ?_
        refine ev_bipush dX7_newRope_66 (by decide) ?_
        refine ev_idiv dX7_newRope_68 (by first | exact hR.1 _ _ | exact hR0.1 _ _ | assumption | exact ⟨by omega, by omega⟩ | exact ⟨by simp [wr_at]; omega, by simp [wr_at]; omega⟩ | exact b2_R _ | exact bC_R _ | exact band_R _ _ | exact bor_R _ _ | exact bshl_R _ _ | exact bshr_R _ _ | exact bxor_R _ _ | exact bs_R (by omega) | decide) (by first | exact hR.1 _ _ | exact hR0.1 _ _ | assumption | exact ⟨by omega, by omega⟩ | exact ⟨by simp [wr_at]; omega, by simp [wr_at]; omega⟩ | exact b2_R _ | exact bC_R _ | exact band_R _ _ | exact bor_R _ _ | exact bshl_R _ _ | exact bshr_R _ _ | exact bxor_R _ _ | exact bs_R (by omega) | decide) (by omega) (by omega) ?_
        refine ev_ireturn dX7_newRope_69 ?_
        exact ⟨by rw [newZ, if_neg (by omega), if_neg (by omega), if_neg (by omega), if_neg (by omega)], hS2⟩
      · refine ev_iconst dX7_newRope_22 ?_
        refine ev_ireturn dX7_newRope_23 ?_
        exact ⟨by rw [newZ, if_neg (by omega), if_pos (by assumption)], hS2⟩
    · refine ev_ldc (z := -1000000002) dX7_newRope_9 kc_X7_73 (by decide) ?_
      refine ev_ireturn dX7_newRope_11 ?_
      exact ⟨by rw [newZ, if_pos (by omega)], Same.rf⟩
