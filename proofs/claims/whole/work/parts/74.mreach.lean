theorem sumI_mono {f g : Nat → Int} {n : Nat} (h : ∀ i, i < n → f i ≤ g i) : sumI f n ≤ sumI g n := by
  induction n with
  | zero => exact Int.le_refl _
  | succ n ih =>
    have a := ih (fun i hi => h i (by omega))
    have b := h n (by omega)
    rw [show sumI f (n + 1) = sumI f n + f n from rfl, show sumI g (n + 1) = sumI g n + g n from rfl]
    omega
theorem sumI_lt {f g : Nat → Int} {n : Nat} (h : ∀ i, i < n → f i ≤ g i) (hx : ∃ i, i < n ∧ f i < g i) : sumI f n < sumI g n := by
  induction n with
  | zero => obtain ⟨i, hi, -⟩ := hx; omega
  | succ n ih =>
    obtain ⟨i, hi, hlt⟩ := hx
    have a := sumI_mono (f := f) (g := g) (n := n) (fun i hi => h i (by omega))
    have b := h n (by omega)
    rw [show sumI f (n + 1) = sumI f n + f n from rfl, show sumI g (n + 1) = sumI g n + g n from rfl]
    by_cases e : i = n
    · subst e; omega
    · have c := ih (fun i hi => h i (by omega)) ⟨i, by omega, hlt⟩
      omega
/-- the reference's search under way -/
def RInv (μ ν : Mem) (D : Nat → Int) (n a : Nat) : Prop := Same (fun c => c = 123) μ ν ∧ (∀ x : Nat, x < 8 → 0 ≤ ν.1 123 x ∧ ν.1 123 x ≤ 1000000) ∧ ν.1 123 a = 0 ∧ ∀ x : Nat, x < n → D x ≤ ν.1 123 x
def rsum (ν : Mem) : Int := sumI (fun x => ν.1 123 x) 8
theorem rsum_0 {μ ν : Mem} {D : Nat → Int} {n a : Nat} (h : RInv μ ν D n a) : 0 ≤ rsum ν := (sumI_R (M := 1000000) (fun i hi => h.2.1 i hi)).1
/-- one rope relaxed -/
theorem rstep {μ ν : Mem} {D : Nat → Int} {n a x y : Nat} (h : RInv μ ν D n a) (hn : n ≤ 8) (hx : x < n) (hy : y < n) (hne : x ≠ y) {m A B : Int} (hm : 1 ≤ m) (hD1 : D x ≤ D y + m) (hD2 : D y ≤ D x + m) (hA : A = min (ν.1 123 x) (ν.1 123 y + m)) (hB : B = min (ν.1 123 y) (ν.1 123 x + m)) (hDn : ∀ i, i < n → 0 ≤ D i) :
    RInv μ (wr (wr ν 123 x A) 123 y B) D n a ∧ rsum (wr (wr ν 123 x A) 123 y B) ≤ rsum ν ∧ ((ν.1 123 y + m < ν.1 123 x ∨ ν.1 123 x + m < ν.1 123 y) → rsum (wr (wr ν 123 x A) 123 y B) < rsum ν) ∧
    (¬ (ν.1 123 y + m < ν.1 123 x ∨ ν.1 123 x + m < ν.1 123 y) → wr (wr ν 123 x A) 123 y B = ν ∧ ν.1 123 x ≤ ν.1 123 y + m ∧ ν.1 123 y ≤ ν.1 123 x + m) := by
  have at9 : ∀ i : Nat, (wr (wr ν 123 x A) 123 y B).1 123 i = if i = y then B else if i = x then A else ν.1 123 i := by
    intro i
    rw [wr_at, wr_at]
    by_cases e1 : i = y
    · rw [if_pos ⟨rfl, by omega⟩, if_pos e1]
    · rw [if_neg (by omega), if_neg e1]
      by_cases e2 : i = x
      · rw [if_pos ⟨rfl, by omega⟩, if_pos e2]
      · rw [if_neg (by omega), if_neg e2]
  obtain ⟨h1, h2, h3, h4⟩ := h
  have bx := h2 x (by omega)
  have bY := h2 y (by omega)
  have dx := h4 x hx
  have dy := h4 y hy
  have le : ∀ i : Nat, i < 8 → (wr (wr ν 123 x A) 123 y B).1 123 i ≤ ν.1 123 i := by
    intro i hi
    rw [at9]
    split
    next e => subst e; omega
    next => split
            next e => subst e; omega
            next => exact Int.le_refl _
  have hDx := hDn x hx
  have hDy := hDn y hy
  refine ⟨⟨(h1.wr rfl).wr rfl, fun i hi => ?_, ?_, fun i hi => ?_⟩, sumI_mono le, fun hs => sumI_lt le ?_, fun hs => ?_⟩
  · have := h2 i hi
    have l := le i hi
    rw [at9] at l ⊢
    split
    next e => subst e; omega
    next => split
            next e => subst e; omega
            next => exact this
  · rw [at9]
    split
    next e => subst e; omega
    next => split
            next e => subst e; omega
            next => exact h3
  · have := h4 i hi
    rw [at9]
    split
    next e => subst e; omega
    next => split
            next e => subst e; omega
            next => exact this
  · rcases hs with hs | hs
    · refine ⟨x, by omega, ?_⟩
      rw [at9, if_neg hne, if_pos rfl]; omega
    · refine ⟨y, by omega, ?_⟩
      rw [at9, if_pos rfl]; omega
  · refine ⟨mem_ext (fun c k => ?_) rfl, by omega, by omega⟩
    rw [wr_at, wr_at]
    split
    next e => obtain ⟨rfl, rfl⟩ := e; omega
    next => split
            next e => obtain ⟨rfl, rfl⟩ := e; omega
            next => rfl
set_option maxHeartbeats 4000000 in
theorem m_findReach (μ σ : Mem) (P n nr nb nl w wt : Nat) (f t : Nat → Nat) (hM : MRp μ σ P n nr nb nl w wt f t) (b a : Nat) (hb : b < nb) (ha : a < n) (dry : Int) (hdr : dry = 0 ∨ dry = 1) : Con yX8_findReach cX8_findReach 9 none 3 70 [.ref 79, .int (iI b), .int (iI a), .int (iI dry)] μ (AnsVP (fun ν => Same (fun c => c = 123) μ ν ∧ ∀ x : Nat, x < n → ν.1 123 x = (dst σ P n nr nl w wt f t b 0 dry) a x)) := by
  refine con_of (by decide) rfl (Nat.le_of_ble_eq_true rfl) (ok_VP rfl) ?_
  refine ev_w (fun hR => ?_)
  have hR0 := hR
  obtain ⟨hPO, hMP, hwc⟩ := id hM
  obtain ⟨hPR, ⟨hnb, hnb4⟩, ⟨hnl, hnl4⟩, hpo, hro, hbo, hlo⟩ := id hPO
  obtain ⟨hP, hn, hn8, hnr, hnr12, hft⟩ := id hPR
  obtain ⟨⟨cn, cr, cb, cl⟩, mp, mr, mbo, ml⟩ := id hMP
  have hdR : inR dry := by rcases hdr with rfl | rfl <;> decide
  have hDi := dst_dist (w := w) (wt := wt) (s := 0) (dry := dry) hPO hb
  generalize hDD : (dst σ P n nr nl w wt f t b 0 dry) = D at *
  have hD0 : ∀ i, i < n → 0 ≤ D a i := fun i hi => (hDi.1 a i ha hi).1
  have mrp : ∀ ν, Same (fun c => c = 123) μ ν → MRp ν σ P n nr nb nl w wt f t := fun ν hs => hM.to (fun k _ => hs.at (by decide) k) (fun c h1 h2 _ => hs.1 c (by omega))
  have done : ∀ ν, RInv μ ν (D a) n a → (∀ i, i < nr → minZ σ P nl w wt i b 0 dry ≠ -1 → ν.1 123 (f i) ≤ ν.1 123 (t i) + minZ σ P nl w wt i b 0 dry ∧ ν.1 123 (t i) ≤ ν.1 123 (f i) + minZ σ P nl w wt i b 0 dry) → ∀ x5 x6 x7 x8, Ev RX8 cX8_findReach 9 3 70 (AnsVP (fun ν => Same (fun c => c = 123) μ ν ∧ ∀ x : Nat, x < n → ν.1 123 x = D a x)) 39 [some (.ref 79), some (.int (iI b)), some (.int (iI a)), some (.int (iI dry)), some (.int (iI 0)), x5, x6, x7, x8] [] ν := by
    intro ν hI hF x5 x6 x7 x8
    refine ev_w (fun hR => ?_)
    refine ev_iload dX8_findReach_39 rfl ?_
    refine ev_if_eq (tgt := 262) dX8_findReach_41 (by decide) (by first | exact hR.1 _ _ | exact hR0.1 _ _ | assumption | exact ⟨by omega, by omega⟩ | exact ⟨by simp [wr_at]; omega, by simp [wr_at]; omega⟩ | exact b2_R _ | exact bC_R _ | exact band_R _ _ | exact bor_R _ _ | exact bshl_R _ _ | exact bshr_R _ _ | exact bxor_R _ _ | exact bs_R (by omega) | decide) (fun h_41 => ?_) (fun h_41 => ?_)
    · refine ev_return dX8_findReach_262 ?_
      exact ⟨rfl, hI.1, dist_eq (R := fun x => ν.1 123 x) hDi ha hI.2.2.1 hI.2.2.2 (fun x hx => (hI.2.1 x (by omega)).2) hF⟩
    · exact absurd rfl h_41
  have inner : ∀ m0 : Int, (∀ ν, RInv μ ν (D a) n a → rsum ν < m0 → ∀ x5 x6 x7 x8, Ev RX8 cX8_findReach 9 3 70 (AnsVP (fun ν => Same (fun c => c = 123) μ ν ∧ ∀ x : Nat, x < n → ν.1 123 x = D a x)) 39 [some (.ref 79), some (.int (iI b)), some (.int (iI a)), some (.int (iI dry)), some (.int (iI 1)), x5, x6, x7, x8] [] ν) → ∀ r : Nat, r ≤ nr → ∀ ν z, RInv μ ν (D a) n a → ((z = 0 ∧ (∀ i, i < r → minZ σ P nl w wt i b 0 dry ≠ -1 → ν.1 123 (f i) ≤ ν.1 123 (t i) + minZ σ P nl w wt i b 0 dry ∧ ν.1 123 (t i) ≤ ν.1 123 (f i) + minZ σ P nl w wt i b 0 dry) ∧ rsum ν ≤ m0) ∨ (z = 1 ∧ rsum ν < m0)) → ∀ x6 x7 x8, Ev RX8 cX8_findReach 9 3 70 (AnsVP (fun ν => Same (fun c => c = 123) μ ν ∧ ∀ x : Nat, x < n → ν.1 123 x = D a x)) 50 [some (.ref 79), some (.int (iI b)), some (.int (iI a)), some (.int (iI dry)), some (.int (iI z)), some (.int (iI (r : Nat))), x6, x7, x8] [] ν := by
    intro m0 hout
    refine for_up nr (fun r hr ih => ?_)
    intro ν z hI hz x6 x7 x8
    refine ev_w (fun hR => ?_)
    have hrp := mrp ν hI.1
    have hzR : inR z := by rcases hz with q | q <;> rw [q.1] <;> decide
    have hcr : ν.1 79 4 = nr := hrp.2.1.1.2.1
    refine ev_iload dX8_findReach_50 rfl ?_
    refine ev_aload_n dX8_findReach_52 rfl ?_
    refine ev_getI (kz := 4) dX8_findReach_53 fl_X8_184 rfl rfl rfl ?_
    rw [hcr]
    refine ev_icmp_ge (tgt := 259) dX8_findReach_56 (by decide) (by first | exact hR.1 _ _ | exact hR0.1 _ _ | assumption | exact ⟨by omega, by omega⟩ | exact ⟨by simp [wr_at]; omega, by simp [wr_at]; omega⟩ | exact b2_R _ | exact bC_R _ | exact band_R _ _ | exact bor_R _ _ | exact bshl_R _ _ | exact bshr_R _ _ | exact bxor_R _ _ | exact bs_R (by omega) | decide) (by first | exact hR.1 _ _ | exact hR0.1 _ _ | assumption | exact ⟨by omega, by omega⟩ | exact ⟨by simp [wr_at]; omega, by simp [wr_at]; omega⟩ | exact b2_R _ | exact bC_R _ | exact band_R _ _ | exact bor_R _ _ | exact bshl_R _ _ | exact bshr_R _ _ | exact bxor_R _ _ | exact bs_R (by omega) | decide) (fun h_56 => ?_) (fun h_56 => ?_)
    · refine ev_goto (tgt := 39) dX8_findReach_259 (by decide) ?_
      obtain rfl : r = nr := by omega
      rcases hz with q | q
      · rw [q.1]; exact done ν hI q.2.1 _ _ _ _
      · rw [q.1]; exact hout ν hI q.2 _ _ _ _
    · have hrn : r < nr := by omega
      have hfr := hft r hrn
      have e83 : ν.1 83 (r : Int) = (f r : Int) := by rw [(hrp.2.1.2.2.1 r hrn).1, hfr.1]
      have e84 : ν.1 84 (r : Int) = (t r : Int) := by rw [(hrp.2.1.2.2.1 r hrn).2.1, hfr.2.1]
      have hmm := hPO.min (w := w) (wt := wt) (s := 0) (dry := dry) hrn hb
      have hbf := hI.2.1 (f r) (by omega)
      have hbt := hI.2.1 (t r) (by omega)
      have hFe := hDi.2.2.2.1 a ha r hrn
      refine ev_aload_n dX8_findReach_59 rfl ?_
      refine ev_iload_n dX8_findReach_60 rfl ?_
      refine ev_iload dX8_findReach_61 rfl ?_
      refine ev_iconst dX8_findReach_63 ?_
      refine ev_callVI dX8_findReach_64 kv_X8_352 (r_mayRope ν σ P n nr nb nl w wt f t hrp b r 0 hb (by omega) (by decide)) rfl rfl (ci := 8) rfl rfl ⟨by decide, by decide⟩ (Nat.le_of_ble_eq_true rfl) ?_
      refine ev_w (fun hR => ?_)
      refine ev_if_eq (tgt := 253) dX8_findReach_67 (by decide) (by first | exact hR.1 _ _ | exact hR0.1 _ _ | assumption | exact ⟨by omega, by omega⟩ | exact ⟨by simp [wr_at]; omega, by simp [wr_at]; omega⟩ | exact b2_R _ | exact bC_R _ | exact band_R _ _ | exact bor_R _ _ | exact bshl_R _ _ | exact bshr_R _ _ | exact bxor_R _ _ | exact bs_R (by omega) | decide) (fun h_67 => ?_) (fun h_67 => ?_)
      · refine ev_iinc dX8_findReach_253 rfl rfl (by decide) rfl ?_
        refine ev_goto (tgt := 50) dX8_findReach_256 (by decide) ?_
        refine ih (by omega) ν z hI ?_ _ _ _
        rcases hz with q | q
        · refine Or.inl ⟨q.1, fun i hi hci => ?_, q.2.2⟩
          by_cases e : i = r
          · subst e
            exfalso
            refine hci ?_
            unfold minZ
            rw [if_neg (b2_eq h_67)]
          · exact q.2.1 i (by omega) hci
        · exact Or.inr q
      · refine ev_aload_n dX8_findReach_70 rfl ?_
        refine ev_iload_n dX8_findReach_71 rfl ?_
        refine ev_iload dX8_findReach_72 rfl ?_
        refine ev_iconst dX8_findReach_74 ?_
        refine ev_iload_n dX8_findReach_75 rfl ?_
        refine ev_callVI dX8_findReach_76 kv_X8_357 (r_minutesOn ν σ P n nr nb nl w wt f t hrp b r 0 hb hrn (by decide) dry hdr) rfl rfl (ci := 8) rfl rfl ⟨by decide, by decide⟩ (Nat.le_of_ble_eq_true rfl) ?_
        refine ev_w (fun hR => ?_)
        have hmz : minZ σ P nl w wt r b 0 dry = minF (σ.1 (P + 7) r) (σ.1 (P + 11) b) (anyK σ (P + 16) nl 0 2) (wt.testBit r) dry := by
          unfold minZ
          rw [if_pos (b2_ne h_67)]
        have hmF := minF_R (lv := anyK σ (P + 16) nl 0 2) (wt := wt.testBit r) (dry := dry) (hro r hrn).1.1 (hro r hrn).1.2 (hbo b hb).2.2.1 (hbo b hb).2.2.2
        rw [← hmz] at hmF
        rw [← hmz]
        generalize hm9 : minZ σ P nl w wt r b 0 dry = m at *
        have hFe2 := hFe (show minZ σ P nl w wt r b 0 dry ≠ -1 by omega)
        rw [show (fun r => minZ σ P nl w wt r b 0 dry) r = m from hm9] at hFe2
        have stp := fun (A B : Int) => rstep (A := A) (B := B) (m := m) hI hn8 hfr.2.2.1 hfr.2.2.2.1 hfr.2.2.2.2 (by omega) hFe2.1 hFe2.2
        have upd : ∀ z1 : Int, ((z1 = 0 ∧ z = 0 ∧ ¬ (ν.1 123 (t r) + m < ν.1 123 (f r)) ∧ ¬ (ν.1 123 (f r) + m < ν.1 123 (t r))) ∨ (z1 = 1 ∧ (z = 1 ∨ ν.1 123 (t r) + m < ν.1 123 (f r) ∨ ν.1 123 (f r) + m < ν.1 123 (t r)))) → Ev RX8 cX8_findReach 9 3 70 (AnsVP (fun ν => Same (fun c => c = 123) μ ν ∧ ∀ x : Nat, x < n → ν.1 123 x = D a x)) 161 [some (.ref 79), some (.int (iI b)), some (.int (iI a)), some (.int (iI dry)), some (.int (iI z1)), some (.int (iI (r : Nat))), some (.int (iI m)), some (.int (iI (ν.1 123 (t r) + m))), some (.int (iI (ν.1 123 (f r) + m)))] [] ν := by
          intro z1 hz1
          refine ev_w (fun hR => ?_)
          have fin : ∀ A B : Int, A = min (ν.1 123 (f r)) (ν.1 123 (t r) + m) → B = min (ν.1 123 (t r)) (ν.1 123 (f r) + m) → Ev RX8 cX8_findReach 9 3 70 (AnsVP (fun ν => Same (fun c => c = 123) μ ν ∧ ∀ x : Nat, x < n → ν.1 123 x = D a x)) 50 [some (.ref 79), some (.int (iI b)), some (.int (iI a)), some (.int (iI dry)), some (.int (iI z1)), some (.int (iI ((r : Nat) + 1 : Nat))), some (.int (iI m)), some (.int (iI (ν.1 123 (t r) + m))), some (.int (iI (ν.1 123 (f r) + m)))] [] (wr (wr ν 123 (f r) A) 123 (t r) B) := by
            intro A B hA hB
            obtain ⟨s1, s2, s3, s4⟩ := stp A B hA hB hD0
            refine ih (by omega) _ z1 s1 ?_ _ _ _
            rcases hz1 with ⟨q1, q2, q3, q4⟩ | ⟨q1, q2⟩
            · left
              have s5 := s4 (by omega)
              rw [s5.1]
              rcases hz with q | q
              · refine ⟨q1, fun i hi hci => ?_, q.2.2⟩
                by_cases e : i = r
                · subst e; rw [hm9]; exact s5.2
                · exact q.2.1 i (by omega) hci
              · omega
            · right
              refine ⟨q1, ?_⟩
              rcases hz with q | q
              · have q5 := s3 (by omega)
                have := q.2.2
                omega
              · have := q.2
                omega
          refine ev_aload_n dX8_findReach_161 rfl ?_
          refine ev_getR (r := 123) dX8_findReach_162 fl_X8_144 rfl rfl rfl ?_
          refine ev_aload_n dX8_findReach_165 rfl ?_
          refine ev_getR (r := 83) dX8_findReach_166 fl_X8_19 rfl rfl rfl ?_
          refine ev_iload dX8_findReach_169 rfl ?_
          refine ev_iaload dX8_findReach_171 rfl (by first | omega | (simp [wr_at]; omega) | (simp [wr_at, *]; omega)) (by first | omega | (simp [wr_at]; omega) | (simp [wr_at, *]; omega)) (by decide) ?_
          rw [e83]
          refine ev_iload dX8_findReach_172 rfl ?_
          refine ev_aload_n dX8_findReach_174 rfl ?_
          refine ev_getR (r := 123) dX8_findReach_175 fl_X8_144 rfl rfl rfl ?_
          refine ev_aload_n dX8_findReach_178 rfl ?_
          refine ev_getR (r := 83) dX8_findReach_179 fl_X8_19 rfl rfl rfl ?_
          refine ev_iload dX8_findReach_182 rfl ?_
          refine ev_iaload dX8_findReach_184 rfl (by first | omega | (simp [wr_at]; omega) | (simp [wr_at, *]; omega)) (by first | omega | (simp [wr_at]; omega) | (simp [wr_at, *]; omega)) (by decide) ?_
          rw [e83]
          refine ev_iaload dX8_findReach_185 rfl (by first | omega | (simp [wr_at]; omega) | (simp [wr_at, *]; omega)) (by first | omega | (simp [wr_at]; omega) | (simp [wr_at, *]; omega)) (by decide) ?_
          refine ev_icmp_ge (tgt := 194) dX8_findReach_186 (by decide) (by first | exact hR.1 _ _ | exact hR0.1 _ _ | assumption | exact ⟨by omega, by omega⟩ | exact ⟨by simp [wr_at]; omega, by simp [wr_at]; omega⟩ | exact b2_R _ | exact bC_R _ | exact band_R _ _ | exact bor_R _ _ | exact bshl_R _ _ | exact bshr_R _ _ | exact bxor_R _ _ | exact bs_R (by omega) | decide) (by first | exact hR.1 _ _ | exact hR0.1 _ _ | assumption | exact ⟨by omega, by omega⟩ | exact ⟨by simp [wr_at]; omega, by simp [wr_at]; omega⟩ | exact b2_R _ | exact bC_R _ | exact band_R _ _ | exact bor_R _ _ | exact bshl_R _ _ | exact bshr_R _ _ | exact bxor_R _ _ | exact bs_R (by omega) | decide) (fun h_186 => ?_) (fun h_186 => ?_)
          · refine ev_aload_n dX8_findReach_194 rfl ?_
            refine ev_getR (r := 123) dX8_findReach_195 fl_X8_144 rfl rfl rfl ?_
            refine ev_aload_n dX8_findReach_198 rfl ?_
            refine ev_getR (r := 83) dX8_findReach_199 fl_X8_19 rfl rfl rfl ?_
            refine ev_iload dX8_findReach_202 rfl ?_
            refine ev_iaload dX8_findReach_204 rfl (by first | omega | (simp [wr_at]; omega) | (simp [wr_at, *]; omega)) (by first | omega | (simp [wr_at]; omega) | (simp [wr_at, *]; omega)) (by decide) ?_
            rw [e83]
            refine ev_iaload dX8_findReach_205 rfl (by first | omega | (simp [wr_at]; omega) | (simp [wr_at, *]; omega)) (by first | omega | (simp [wr_at]; omega) | (simp [wr_at, *]; omega)) (by decide) ?_
            refine ev_iastore dX8_findReach_206 rfl (by first | omega | (simp [wr_at]; omega) | (simp [wr_at, *]; omega)) (by first | omega | (simp [wr_at]; omega) | (simp [wr_at, *]; omega)) (by decide) (by first | exact hR.1 _ _ | exact hR0.1 _ _ | assumption | exact ⟨by omega, by omega⟩ | exact ⟨by simp [wr_at]; omega, by simp [wr_at]; omega⟩ | exact b2_R _ | exact bC_R _ | exact band_R _ _ | exact bor_R _ _ | exact bshl_R _ _ | exact bshr_R _ _ | exact bxor_R _ _ | exact bs_R (by omega) | decide) ?_
            refine ev_w (fun hR => ?_)
            refine ev_aload_n dX8_findReach_207 rfl ?_
            refine ev_getR (r := 123) dX8_findReach_208 fl_X8_144 rfl rfl rfl ?_
            refine ev_aload_n dX8_findReach_211 rfl ?_
            refine ev_getR (r := 84) dX8_findReach_212 fl_X8_22 rfl rfl rfl ?_
            refine ev_iload dX8_findReach_215 rfl ?_
            refine ev_iaload dX8_findReach_217 rfl (by first | omega | (simp [wr_at]; omega) | (simp [wr_at, *]; omega)) (by first | omega | (simp [wr_at]; omega) | (simp [wr_at, *]; omega)) (by decide) ?_
            rw [wr_nec _ (by decide), e84]
            refine ev_iload dX8_findReach_218 rfl ?_
            refine ev_aload_n dX8_findReach_220 rfl ?_
            refine ev_getR (r := 123) dX8_findReach_221 fl_X8_144 rfl rfl rfl ?_
            refine ev_aload_n dX8_findReach_224 rfl ?_
            refine ev_getR (r := 84) dX8_findReach_225 fl_X8_22 rfl rfl rfl ?_
            refine ev_iload dX8_findReach_228 rfl ?_
            refine ev_iaload dX8_findReach_230 rfl (by first | omega | (simp [wr_at]; omega) | (simp [wr_at, *]; omega)) (by first | omega | (simp [wr_at]; omega) | (simp [wr_at, *]; omega)) (by decide) ?_
            rw [wr_nec _ (by decide), e84]
            refine ev_iaload dX8_findReach_231 rfl (by first | omega | (simp [wr_at]; omega) | (simp [wr_at, *]; omega)) (by first | omega | (simp [wr_at]; omega) | (simp [wr_at, *]; omega)) (by decide) ?_
            rw [wr_nek _ (show (t r : Int) ≠ f r by omega)]
            refine ev_icmp_ge (tgt := 240) dX8_findReach_232 (by decide) (by first | exact hR.1 _ _ | exact hR0.1 _ _ | assumption | exact ⟨by omega, by omega⟩ | exact ⟨by simp [wr_at]; omega, by simp [wr_at]; omega⟩ | exact b2_R _ | exact bC_R _ | exact band_R _ _ | exact bor_R _ _ | exact bshl_R _ _ | exact bshr_R _ _ | exact bxor_R _ _ | exact bs_R (by omega) | decide) (by first | exact hR.1 _ _ | exact hR0.1 _ _ | assumption | exact ⟨by omega, by omega⟩ | exact ⟨by simp [wr_at]; omega, by simp [wr_at]; omega⟩ | exact b2_R _ | exact bC_R _ | exact band_R _ _ | exact bor_R _ _ | exact bshl_R _ _ | exact bshr_R _ _ | exact bxor_R _ _ | exact bs_R (by omega) | decide) (fun h_232 => ?_) (fun h_232 => ?_)
            · refine ev_aload_n dX8_findReach_240 rfl ?_
              refine ev_getR (r := 123) dX8_findReach_241 fl_X8_144 rfl rfl rfl ?_
              refine ev_aload_n dX8_findReach_244 rfl ?_
              refine ev_getR (r := 84) dX8_findReach_245 fl_X8_22 rfl rfl rfl ?_
              refine ev_iload dX8_findReach_248 rfl ?_
              refine ev_iaload dX8_findReach_250 rfl (by first | omega | (simp [wr_at]; omega) | (simp [wr_at, *]; omega)) (by first | omega | (simp [wr_at]; omega) | (simp [wr_at, *]; omega)) (by decide) ?_
              rw [wr_nec _ (by decide), e84]
              refine ev_iaload dX8_findReach_251 rfl (by first | omega | (simp [wr_at]; omega) | (simp [wr_at, *]; omega)) (by first | omega | (simp [wr_at]; omega) | (simp [wr_at, *]; omega)) (by decide) ?_
              try rw [wr_nek _ (show (t r : Int) ≠ f r by omega)]
              refine ev_iastore dX8_findReach_252 rfl (by first | omega | (simp [wr_at]; omega) | (simp [wr_at, *]; omega)) (by first | omega | (simp [wr_at]; omega) | (simp [wr_at, *]; omega)) (by decide) (by first | exact hR.1 _ _ | exact hR0.1 _ _ | assumption | exact ⟨by omega, by omega⟩ | exact ⟨by simp [wr_at]; omega, by simp [wr_at]; omega⟩ | exact b2_R _ | exact bC_R _ | exact band_R _ _ | exact bor_R _ _ | exact bshl_R _ _ | exact bshr_R _ _ | exact bxor_R _ _ | exact bs_R (by omega) | decide) ?_
              refine ev_w (fun hR => ?_)
              refine ev_iinc dX8_findReach_253 rfl rfl (by decide) rfl ?_
              refine ev_goto (tgt := 50) dX8_findReach_256 (by decide) ?_
              refine fin _ _ ?_ ?_ <;> omega
            · refine ev_iload dX8_findReach_235 rfl ?_
              refine ev_goto (tgt := 252) dX8_findReach_237 (by decide) ?_
              try rw [wr_nek _ (show (t r : Int) ≠ f r by omega)]
              refine ev_iastore dX8_findReach_252 rfl (by first | omega | (simp [wr_at]; omega) | (simp [wr_at, *]; omega)) (by first | omega | (simp [wr_at]; omega) | (simp [wr_at, *]; omega)) (by decide) (by first | exact hR.1 _ _ | exact hR0.1 _ _ | assumption | exact ⟨by omega, by omega⟩ | exact ⟨by simp [wr_at]; omega, by simp [wr_at]; omega⟩ | exact b2_R _ | exact bC_R _ | exact band_R _ _ | exact bor_R _ _ | exact bshl_R _ _ | exact bshr_R _ _ | exact bxor_R _ _ | exact bs_R (by omega) | decide) ?_
              refine ev_w (fun hR => ?_)
              refine ev_iinc dX8_findReach_253 rfl rfl (by decide) rfl ?_
              refine ev_goto (tgt := 50) dX8_findReach_256 (by decide) ?_
              refine fin _ _ ?_ ?_ <;> omega
          · refine ev_iload dX8_findReach_189 rfl ?_
            refine ev_goto (tgt := 206) dX8_findReach_191 (by decide) ?_
            refine ev_iastore dX8_findReach_206 rfl (by first | omega | (simp [wr_at]; omega) | (simp [wr_at, *]; omega)) (by first | omega | (simp [wr_at]; omega) | (simp [wr_at, *]; omega)) (by decide) (by first | exact hR.1 _ _ | exact hR0.1 _ _ | assumption | exact ⟨by omega, by omega⟩ | exact ⟨by simp [wr_at]; omega, by simp [wr_at]; omega⟩ | exact b2_R _ | exact bC_R _ | exact band_R _ _ | exact bor_R _ _ | exact bshl_R _ _ | exact bshr_R _ _ | exact bxor_R _ _ | exact bs_R (by omega) | decide) ?_
            refine ev_w (fun hR => ?_)
            refine ev_aload_n dX8_findReach_207 rfl ?_
            refine ev_getR (r := 123) dX8_findReach_208 fl_X8_144 rfl rfl rfl ?_
            refine ev_aload_n dX8_findReach_211 rfl ?_
            refine ev_getR (r := 84) dX8_findReach_212 fl_X8_22 rfl rfl rfl ?_
            refine ev_iload dX8_findReach_215 rfl ?_
            refine ev_iaload dX8_findReach_217 rfl (by first | omega | (simp [wr_at]; omega) | (simp [wr_at, *]; omega)) (by first | omega | (simp [wr_at]; omega) | (simp [wr_at, *]; omega)) (by decide) ?_
            rw [wr_nec _ (by decide), e84]
            refine ev_iload dX8_findReach_218 rfl ?_
            refine ev_aload_n dX8_findReach_220 rfl ?_
            refine ev_getR (r := 123) dX8_findReach_221 fl_X8_144 rfl rfl rfl ?_
            refine ev_aload_n dX8_findReach_224 rfl ?_
            refine ev_getR (r := 84) dX8_findReach_225 fl_X8_22 rfl rfl rfl ?_
            refine ev_iload dX8_findReach_228 rfl ?_
            refine ev_iaload dX8_findReach_230 rfl (by first | omega | (simp [wr_at]; omega) | (simp [wr_at, *]; omega)) (by first | omega | (simp [wr_at]; omega) | (simp [wr_at, *]; omega)) (by decide) ?_
            rw [wr_nec _ (by decide), e84]
            refine ev_iaload dX8_findReach_231 rfl (by first | omega | (simp [wr_at]; omega) | (simp [wr_at, *]; omega)) (by first | omega | (simp [wr_at]; omega) | (simp [wr_at, *]; omega)) (by decide) ?_
            rw [wr_nek _ (show (t r : Int) ≠ f r by omega)]
            refine ev_icmp_ge (tgt := 240) dX8_findReach_232 (by decide) (by first | exact hR.1 _ _ | exact hR0.1 _ _ | assumption | exact ⟨by omega, by omega⟩ | exact ⟨by simp [wr_at]; omega, by simp [wr_at]; omega⟩ | exact b2_R _ | exact bC_R _ | exact band_R _ _ | exact bor_R _ _ | exact bshl_R _ _ | exact bshr_R _ _ | exact bxor_R _ _ | exact bs_R (by omega) | decide) (by first | exact hR.1 _ _ | exact hR0.1 _ _ | assumption | exact ⟨by omega, by omega⟩ | exact ⟨by simp [wr_at]; omega, by simp [wr_at]; omega⟩ | exact b2_R _ | exact bC_R _ | exact band_R _ _ | exact bor_R _ _ | exact bshl_R _ _ | exact bshr_R _ _ | exact bxor_R _ _ | exact bs_R (by omega) | decide) (fun h_232 => ?_) (fun h_232 => ?_)
            · refine ev_aload_n dX8_findReach_240 rfl ?_
              refine ev_getR (r := 123) dX8_findReach_241 fl_X8_144 rfl rfl rfl ?_
              refine ev_aload_n dX8_findReach_244 rfl ?_
              refine ev_getR (r := 84) dX8_findReach_245 fl_X8_22 rfl rfl rfl ?_
              refine ev_iload dX8_findReach_248 rfl ?_
              refine ev_iaload dX8_findReach_250 rfl (by first | omega | (simp [wr_at]; omega) | (simp [wr_at, *]; omega)) (by first | omega | (simp [wr_at]; omega) | (simp [wr_at, *]; omega)) (by decide) ?_
              rw [wr_nec _ (by decide), e84]
              refine ev_iaload dX8_findReach_251 rfl (by first | omega | (simp [wr_at]; omega) | (simp [wr_at, *]; omega)) (by first | omega | (simp [wr_at]; omega) | (simp [wr_at, *]; omega)) (by decide) ?_
              try rw [wr_nek _ (show (t r : Int) ≠ f r by omega)]
              refine ev_iastore dX8_findReach_252 rfl (by first | omega | (simp [wr_at]; omega) | (simp [wr_at, *]; omega)) (by first | omega | (simp [wr_at]; omega) | (simp [wr_at, *]; omega)) (by decide) (by first | exact hR.1 _ _ | exact hR0.1 _ _ | assumption | exact ⟨by omega, by omega⟩ | exact ⟨by simp [wr_at]; omega, by simp [wr_at]; omega⟩ | exact b2_R _ | exact bC_R _ | exact band_R _ _ | exact bor_R _ _ | exact bshl_R _ _ | exact bshr_R _ _ | exact bxor_R _ _ | exact bs_R (by omega) | decide) ?_
              refine ev_w (fun hR => ?_)
              refine ev_iinc dX8_findReach_253 rfl rfl (by decide) rfl ?_
              refine ev_goto (tgt := 50) dX8_findReach_256 (by decide) ?_
              refine fin _ _ ?_ ?_ <;> omega
            · refine ev_iload dX8_findReach_235 rfl ?_
              refine ev_goto (tgt := 252) dX8_findReach_237 (by decide) ?_
              try rw [wr_nek _ (show (t r : Int) ≠ f r by omega)]
              refine ev_iastore dX8_findReach_252 rfl (by first | omega | (simp [wr_at]; omega) | (simp [wr_at, *]; omega)) (by first | omega | (simp [wr_at]; omega) | (simp [wr_at, *]; omega)) (by decide) (by first | exact hR.1 _ _ | exact hR0.1 _ _ | assumption | exact ⟨by omega, by omega⟩ | exact ⟨by simp [wr_at]; omega, by simp [wr_at]; omega⟩ | exact b2_R _ | exact bC_R _ | exact band_R _ _ | exact bor_R _ _ | exact bshl_R _ _ | exact bshr_R _ _ | exact bxor_R _ _ | exact bs_R (by omega) | decide) ?_
              refine ev_w (fun hR => ?_)
              refine ev_iinc dX8_findReach_253 rfl rfl (by decide) rfl ?_
              refine ev_goto (tgt := 50) dX8_findReach_256 (by decide) ?_
              refine fin _ _ ?_ ?_ <;> omega
        refine ev_istore dX8_findReach_79 rfl (by decide) rfl ?_
        refine ev_aload_n dX8_findReach_81 rfl ?_
        refine ev_getR (r := 123) dX8_findReach_82 fl_X8_144 rfl rfl rfl ?_
        refine ev_aload_n dX8_findReach_85 rfl ?_
        refine ev_getR (r := 84) dX8_findReach_86 fl_X8_22 rfl rfl rfl ?_
        refine ev_iload dX8_findReach_89 rfl ?_
        refine ev_iaload dX8_findReach_91 rfl (by first | omega | (simp [wr_at]; omega) | (simp [wr_at, *]; omega)) (by first | omega | (simp [wr_at]; omega) | (simp [wr_at, *]; omega)) (by decide) ?_
        rw [e84]
        refine ev_iaload dX8_findReach_92 rfl (by first | omega | (simp [wr_at]; omega) | (simp [wr_at, *]; omega)) (by first | omega | (simp [wr_at]; omega) | (simp [wr_at, *]; omega)) (by decide) ?_
        refine ev_iload dX8_findReach_93 rfl ?_
        refine ev_iadd dX8_findReach_95 ?_
        refine ev_istore dX8_findReach_96 rfl (by decide) rfl ?_
        refine ev_aload_n dX8_findReach_98 rfl ?_
        refine ev_getR (r := 123) dX8_findReach_99 fl_X8_144 rfl rfl rfl ?_
        refine ev_aload_n dX8_findReach_102 rfl ?_
        refine ev_getR (r := 83) dX8_findReach_103 fl_X8_19 rfl rfl rfl ?_
        refine ev_iload dX8_findReach_106 rfl ?_
        refine ev_iaload dX8_findReach_108 rfl (by first | omega | (simp [wr_at]; omega) | (simp [wr_at, *]; omega)) (by first | omega | (simp [wr_at]; omega) | (simp [wr_at, *]; omega)) (by decide) ?_
        rw [e83]
        refine ev_iaload dX8_findReach_109 rfl (by first | omega | (simp [wr_at]; omega) | (simp [wr_at, *]; omega)) (by first | omega | (simp [wr_at]; omega) | (simp [wr_at, *]; omega)) (by decide) ?_
        refine ev_iload dX8_findReach_110 rfl ?_
        refine ev_iadd dX8_findReach_112 ?_
        refine ev_istore dX8_findReach_113 rfl (by decide) rfl ?_
        refine ev_iload dX8_findReach_115 rfl ?_
        refine ev_if_ne (tgt := 154) dX8_findReach_117 (by decide) (by first | exact hR.1 _ _ | exact hR0.1 _ _ | assumption | exact ⟨by omega, by omega⟩ | exact ⟨by simp [wr_at]; omega, by simp [wr_at]; omega⟩ | exact b2_R _ | exact bC_R _ | exact band_R _ _ | exact bor_R _ _ | exact bshl_R _ _ | exact bshr_R _ _ | exact bxor_R _ _ | exact bs_R (by omega) | decide) (fun h_117 => ?_) (fun h_117 => ?_)
        · refine ev_iconst dX8_findReach_154 ?_
          refine ev_goto (tgt := 159) dX8_findReach_155 (by decide) ?_
          refine ev_istore dX8_findReach_159 rfl (by decide) rfl ?_
          exact upd _ (by first
            | exact Or.inl ⟨rfl, by omega, by omega, by omega⟩
            | exact Or.inr ⟨rfl, by omega⟩)
        · refine ev_iload dX8_findReach_120 rfl ?_
          refine ev_aload_n dX8_findReach_122 rfl ?_
          refine ev_getR (r := 123) dX8_findReach_123 fl_X8_144 rfl rfl rfl ?_
          refine ev_aload_n dX8_findReach_126 rfl ?_
          refine ev_getR (r := 83) dX8_findReach_127 fl_X8_19 rfl rfl rfl ?_
          refine ev_iload dX8_findReach_130 rfl ?_
          refine ev_iaload dX8_findReach_132 rfl (by first | omega | (simp [wr_at]; omega) | (simp [wr_at, *]; omega)) (by first | omega | (simp [wr_at]; omega) | (simp [wr_at, *]; omega)) (by decide) ?_
          rw [e83]
          refine ev_iaload dX8_findReach_133 rfl (by first | omega | (simp [wr_at]; omega) | (simp [wr_at, *]; omega)) (by first | omega | (simp [wr_at]; omega) | (simp [wr_at, *]; omega)) (by decide) ?_
          refine ev_icmp_lt (tgt := 154) dX8_findReach_134 (by decide) (by first | exact hR.1 _ _ | exact hR0.1 _ _ | assumption | exact ⟨by omega, by omega⟩ | exact ⟨by simp [wr_at]; omega, by simp [wr_at]; omega⟩ | exact b2_R _ | exact bC_R _ | exact band_R _ _ | exact bor_R _ _ | exact bshl_R _ _ | exact bshr_R _ _ | exact bxor_R _ _ | exact bs_R (by omega) | decide) (by first | exact hR.1 _ _ | exact hR0.1 _ _ | assumption | exact ⟨by omega, by omega⟩ | exact ⟨by simp [wr_at]; omega, by simp [wr_at]; omega⟩ | exact b2_R _ | exact bC_R _ | exact band_R _ _ | exact bor_R _ _ | exact bshl_R _ _ | exact bshr_R _ _ | exact bxor_R _ _ | exact bs_R (by omega) | decide) (fun h_134 => ?_) (fun h_134 => ?_)
          · refine ev_iconst dX8_findReach_154 ?_
            refine ev_goto (tgt := 159) dX8_findReach_155 (by decide) ?_
            refine ev_istore dX8_findReach_159 rfl (by decide) rfl ?_
            exact upd _ (by first
              | exact Or.inl ⟨rfl, by omega, by omega, by omega⟩
              | exact Or.inr ⟨rfl, by omega⟩)
          · refine ev_iload dX8_findReach_137 rfl ?_
            refine ev_aload_n dX8_findReach_139 rfl ?_
            refine ev_getR (r := 123) dX8_findReach_140 fl_X8_144 rfl rfl rfl ?_
            refine ev_aload_n dX8_findReach_143 rfl ?_
            refine ev_getR (r := 84) dX8_findReach_144 fl_X8_22 rfl rfl rfl ?_
            refine ev_iload dX8_findReach_147 rfl ?_
            refine ev_iaload dX8_findReach_149 rfl (by first | omega | (simp [wr_at]; omega) | (simp [wr_at, *]; omega)) (by first | omega | (simp [wr_at]; omega) | (simp [wr_at, *]; omega)) (by decide) ?_
            rw [e84]
            refine ev_iaload dX8_findReach_150 rfl (by first | omega | (simp [wr_at]; omega) | (simp [wr_at, *]; omega)) (by first | omega | (simp [wr_at]; omega) | (simp [wr_at, *]; omega)) (by decide) ?_
            refine ev_icmp_ge (tgt := 158) dX8_findReach_151 (by decide) (by first | exact hR.1 _ _ | exact hR0.1 _ _ | assumption | exact ⟨by omega, by omega⟩ | exact ⟨by simp [wr_at]; omega, by simp [wr_at]; omega⟩ | exact b2_R _ | exact bC_R _ | exact band_R _ _ | exact bor_R _ _ | exact bshl_R _ _ | exact bshr_R _ _ | exact bxor_R _ _ | exact bs_R (by omega) | decide) (by first | exact hR.1 _ _ | exact hR0.1 _ _ | assumption | exact ⟨by omega, by omega⟩ | exact ⟨by simp [wr_at]; omega, by simp [wr_at]; omega⟩ | exact b2_R _ | exact bC_R _ | exact band_R _ _ | exact bor_R _ _ | exact bshl_R _ _ | exact bshr_R _ _ | exact bxor_R _ _ | exact bs_R (by omega) | decide) (fun h_151 => ?_) (fun h_151 => ?_)
            · refine ev_iconst dX8_findReach_158 ?_
              refine ev_istore dX8_findReach_159 rfl (by decide) rfl ?_
              exact upd _ (by first
                | exact Or.inl ⟨rfl, by omega, by omega, by omega⟩
                | exact Or.inr ⟨rfl, by omega⟩)
            · refine ev_iconst dX8_findReach_154 ?_
              refine ev_goto (tgt := 159) dX8_findReach_155 (by decide) ?_
              refine ev_istore dX8_findReach_159 rfl (by decide) rfl ?_
              exact upd _ (by first
                | exact Or.inl ⟨rfl, by omega, by omega, by omega⟩
                | exact Or.inr ⟨rfl, by omega⟩)
  have outer : ∀ m0 : Nat, (∀ ν, RInv μ ν (D a) n a → rsum ν < m0 → ∀ x5 x6 x7 x8, Ev RX8 cX8_findReach 9 3 70 (AnsVP (fun ν => Same (fun c => c = 123) μ ν ∧ ∀ x : Nat, x < n → ν.1 123 x = D a x)) 39 [some (.ref 79), some (.int (iI b)), some (.int (iI a)), some (.int (iI dry)), some (.int (iI 1)), x5, x6, x7, x8] [] ν) := by
    intro m0
    induction m0 with
    | zero =>
      intro ν hI hlt
      have := rsum_0 hI
      omega
    | succ m0 iho =>
      intro ν hI hlt x5 x6 x7 x8
      refine ev_w (fun hR => ?_)
      refine ev_iload dX8_findReach_39 rfl ?_
      refine ev_if_eq (tgt := 262) dX8_findReach_41 (by decide) (by first | exact hR.1 _ _ | exact hR0.1 _ _ | assumption | exact ⟨by omega, by omega⟩ | exact ⟨by simp [wr_at]; omega, by simp [wr_at]; omega⟩ | exact b2_R _ | exact bC_R _ | exact band_R _ _ | exact bor_R _ _ | exact bshl_R _ _ | exact bshr_R _ _ | exact bxor_R _ _ | exact bs_R (by omega) | decide) (fun h_41 => ?_) (fun h_41 => ?_)
      · exact absurd h_41 (by decide)
      · refine ev_iconst dX8_findReach_44 ?_
        refine ev_istore dX8_findReach_45 rfl (by decide) rfl ?_
        refine ev_iconst dX8_findReach_47 ?_
        refine ev_istore dX8_findReach_48 rfl (by decide) rfl ?_
        exact inner m0 iho 0 (by omega) ν 0 hI (Or.inl ⟨rfl, fun i hi => by omega, by omega⟩) _ _ _
  have start : ∀ k : Nat, k ≤ 8 → ∀ ν, (Same (fun c => c = 123) μ ν ∧ ∀ x : Nat, x < k → ν.1 123 x = if x = a then 0 else 1000000) → Ev RX8 cX8_findReach 9 3 70 (AnsVP (fun ν => Same (fun c => c = 123) μ ν ∧ ∀ x : Nat, x < n → ν.1 123 x = D a x)) 3 [some (.ref 79), some (.int (iI b)), some (.int (iI a)), some (.int (iI dry)), some (.int (iI (k : Nat))), none, none, none, none] [] ν := by
    refine for_up 8 (fun k hk ih => ?_)
    intro ν hν
    refine ev_w (fun hR => ?_)
    refine ev_iload dX8_findReach_3 rfl ?_
    refine ev_bipush dX8_findReach_5 (by decide) ?_
    refine ev_icmp_ge (tgt := 36) dX8_findReach_7 (by decide) (by first | exact hR.1 _ _ | exact hR0.1 _ _ | assumption | exact ⟨by omega, by omega⟩ | exact ⟨by simp [wr_at]; omega, by simp [wr_at]; omega⟩ | exact b2_R _ | exact bC_R _ | exact band_R _ _ | exact bor_R _ _ | exact bshl_R _ _ | exact bshr_R _ _ | exact bxor_R _ _ | exact bs_R (by omega) | decide) (by first | exact hR.1 _ _ | exact hR0.1 _ _ | assumption | exact ⟨by omega, by omega⟩ | exact ⟨by simp [wr_at]; omega, by simp [wr_at]; omega⟩ | exact b2_R _ | exact bC_R _ | exact band_R _ _ | exact bor_R _ _ | exact bshl_R _ _ | exact bshr_R _ _ | exact bxor_R _ _ | exact bs_R (by omega) | decide) (fun h_7 => ?_) (fun h_7 => ?_)
    · refine ev_iconst dX8_findReach_36 ?_
      refine ev_istore dX8_findReach_37 rfl (by decide) rfl ?_
      obtain rfl : k = 8 := by omega
      have hI : RInv μ ν (D a) n a := ⟨hν.1, fun x hx => by rw [hν.2 x hx]; split <;> omega, by rw [hν.2 a (by omega), if_pos rfl], fun x hx => by
        rw [hν.2 x (by omega)]
        split
        next e => subst e; rw [hDi.2.1 x hx]; exact Int.le_refl _
        next => exact (hDi.1 a x ha hx).2⟩
      have h0 := rsum_0 hI
      exact outer ((rsum ν).toNat + 1) ν hI (by omega) _ _ _ _
    · refine ev_aload_n dX8_findReach_10 rfl ?_
      refine ev_getR (r := 123) dX8_findReach_11 fl_X8_144 rfl rfl rfl ?_
      refine ev_iload dX8_findReach_14 rfl ?_
      refine ev_iload dX8_findReach_16 rfl ?_
      refine ev_iload_n dX8_findReach_18 rfl ?_
      refine ev_icmp_ne (tgt := 26) dX8_findReach_19 (by decide) (by first | exact hR.1 _ _ | exact hR0.1 _ _ | assumption | exact ⟨by omega, by omega⟩ | exact ⟨by simp [wr_at]; omega, by simp [wr_at]; omega⟩ | exact b2_R _ | exact bC_R _ | exact band_R _ _ | exact bor_R _ _ | exact bshl_R _ _ | exact bshr_R _ _ | exact bxor_R _ _ | exact bs_R (by omega) | decide) (by first | exact hR.1 _ _ | exact hR0.1 _ _ | assumption | exact ⟨by omega, by omega⟩ | exact ⟨by simp [wr_at]; omega, by simp [wr_at]; omega⟩ | exact b2_R _ | exact bC_R _ | exact band_R _ _ | exact bor_R _ _ | exact bshl_R _ _ | exact bshr_R _ _ | exact bxor_R _ _ | exact bs_R (by omega) | decide) (fun h_19 => ?_) (fun h_19 => ?_)
      · refine ev_ldcw (z := 1000000) dX8_findReach_26 kc_X8_388 (by decide) ?_
        refine ev_iastore dX8_findReach_29 rfl (by first | omega | (simp [wr_at]; omega) | (simp [wr_at, *]; omega)) (by first | omega | (simp [wr_at]; omega) | (simp [wr_at, *]; omega)) (by decide) (by first | exact hR.1 _ _ | exact hR0.1 _ _ | assumption | exact ⟨by omega, by omega⟩ | exact ⟨by simp [wr_at]; omega, by simp [wr_at]; omega⟩ | exact b2_R _ | exact bC_R _ | exact band_R _ _ | exact bor_R _ _ | exact bshl_R _ _ | exact bshr_R _ _ | exact bxor_R _ _ | exact bs_R (by omega) | decide) ?_
        refine ev_w (fun hR => ?_)
        refine ev_iinc dX8_findReach_30 rfl rfl (by decide) rfl ?_
        refine ev_goto (tgt := 3) dX8_findReach_33 (by decide) ?_
        refine ih (by omega) _ ⟨hν.1.wr rfl, fun x hx => ?_⟩
        rw [wr_at]
        by_cases e : x = k
        · subst e
          first
            | rw [if_pos ⟨rfl, rfl⟩, if_pos (by omega)]
            | rw [if_pos ⟨rfl, rfl⟩, if_neg (by omega)]
        · rw [if_neg (by omega)]
          exact hν.2 x (by omega)
      · refine ev_iconst dX8_findReach_22 ?_
        refine ev_goto (tgt := 29) dX8_findReach_23 (by decide) ?_
        refine ev_iastore dX8_findReach_29 rfl (by first | omega | (simp [wr_at]; omega) | (simp [wr_at, *]; omega)) (by first | omega | (simp [wr_at]; omega) | (simp [wr_at, *]; omega)) (by decide) (by first | exact hR.1 _ _ | exact hR0.1 _ _ | assumption | exact ⟨by omega, by omega⟩ | exact ⟨by simp [wr_at]; omega, by simp [wr_at]; omega⟩ | exact b2_R _ | exact bC_R _ | exact band_R _ _ | exact bor_R _ _ | exact bshl_R _ _ | exact bshr_R _ _ | exact bxor_R _ _ | exact bs_R (by omega) | decide) ?_
        refine ev_w (fun hR => ?_)
        refine ev_iinc dX8_findReach_30 rfl rfl (by decide) rfl ?_
        refine ev_goto (tgt := 3) dX8_findReach_33 (by decide) ?_
        refine ih (by omega) _ ⟨hν.1.wr rfl, fun x hx => ?_⟩
        rw [wr_at]
        by_cases e : x = k
        · subst e
          first
            | rw [if_pos ⟨rfl, rfl⟩, if_pos (by omega)]
            | rw [if_pos ⟨rfl, rfl⟩, if_neg (by omega)]
        · rw [if_neg (by omega)]
          exact hν.2 x (by omega)
  refine ev_iconst dX8_findReach_0 ?_
  refine ev_istore dX8_findReach_1 rfl (by decide) rfl ?_
  exact start 0 (by omega) μ ⟨Same.rf, fun x hx => by omega⟩
