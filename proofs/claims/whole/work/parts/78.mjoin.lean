def Jn (f t : Nat → Nat) (nr S T a : Nat) : Prop := ∀ p, T.testBit p = true → Rch f t nr S a p
def Safe (f t : Nat → Nat) (nr S T a : Nat) : Prop := Jn f t nr S T a ∧ ∀ r, r < nr → S.testBit r = true → Jn f t nr (andn S (2 ^ r)) T a
/-- the poles got so far -/
def GInv (f t : Nat → Nat) (nr S a G : Nat) : Prop := G < 512 ∧ G.testBit a = true ∧ ∀ x, G.testBit x = true → Rch f t nr S a x
def gup (b : Bool) (G x : Nat) : Nat := if b then G ||| 2 ^ x else G
theorem gup_bit (b : Bool) (G x i : Nat) : (gup b G x).testBit i = (G.testBit i || (b && decide (x = i))) := by
  unfold gup
  cases b
  · simp
  · rw [if_pos rfl, or_bit]; simp
theorem gup_lt {b : Bool} {G x : Nat} (hG : G < 512) (hx : x < 9) : gup b G x < 512 := by
  unfold gup
  split
  · exact Nat.or_lt_two_pow (n := 9) hG (Nat.pow_lt_pow_right (by decide) hx)
  · exact hG
theorem Rch.step {f t : Nat → Nat} {nr S a r : Nat} (hr : r < nr) (hs : S.testBit r = true) : (Rch f t nr S a (f r) → Rch f t nr S a (t r)) ∧ (Rch f t nr S a (t r) → Rch f t nr S a (f r)) := ⟨fun h X hX hc => (hc r hr hs).mp (h X hX hc), fun h X hX hc => (hc r hr hs).mpr (h X hX hc)⟩
theorem ginv_step {f t : Nat → Nat} {nr S a G r n : Nat} (h : GInv f t nr S a G) (hr : r < nr) (hn : n ≤ 8) (hf : f r < n) (ht : t r < n) : GInv f t nr S a (gup (S.testBit r && G.testBit (t r)) (gup (S.testBit r && G.testBit (f r)) G (t r)) (f r)) := by
  obtain ⟨h1, h2, h3⟩ := h
  refine ⟨gup_lt (gup_lt h1 (by omega)) (by omega), ?_, fun x hx => ?_⟩
  · rw [gup_bit, gup_bit, h2]; rfl
  · rw [gup_bit, gup_bit] at hx
    simp only [Bool.or_eq_true, Bool.and_eq_true, decide_eq_true_eq] at hx
    rcases hx with (hx | ⟨⟨hs, hx⟩, rfl⟩) | ⟨⟨hs, hx⟩, rfl⟩
    · exact h3 x hx
    · exact (Rch.step hr hs).1 (h3 _ hx)
    · exact (Rch.step hr hs).2 (h3 _ hx)
theorem gup_sub {b : Bool} {G x i : Nat} (h : G.testBit i = true) : (gup b G x).testBit i = true := by rw [gup_bit, h]; rfl
theorem gup_same {b c : Bool} {G x y : Nat} (h : gup c (gup b G x) y = G) : (b = true → G.testBit x = true) ∧ (c = true → G.testBit y = true) := by
  constructor
  · intro hb
    rw [← h, gup_bit, gup_bit, hb]; simp
  · intro hc
    rw [← h, gup_bit, hc]; simp
theorem cnt_grow {A B : Nat} (hs : ∀ i, A.testBit i = true → B.testBit i = true) (hne : A ≠ B) (hB : B < 512) : cnt A.testBit 9 < cnt B.testBit 9 := by
  have : ∃ i, A.testBit i = false ∧ B.testBit i = true := by
    refine Classical.byContradiction (fun hn => hne (Nat.eq_of_testBit_eq (fun i => ?_)))
    cases ha : A.testBit i with
    | true => exact (hs i ha).symm
    | false =>
      cases hb : B.testBit i with
      | false => rfl
      | true => exact absurd ⟨i, ha, hb⟩ hn
  obtain ⟨i, h1, h2⟩ := this
  have hi : i < 9 := by
    refine Classical.byContradiction (fun hn => ?_)
    have : B.testBit i = false := Nat.testBit_lt_two_pow (Nat.lt_of_lt_of_le hB (show 2 ^ 9 ≤ 2 ^ i from Nat.pow_le_pow_right (by decide) (by omega)))
    rw [this] at h2
    exact absurd h2 (by decide)
  have := cnt_more hi h1 h2 (fun j _ hj => hs j hj)
  omega
set_option maxHeartbeats 4000000 in
theorem m_areJoined (μ σ : Mem) (P n nr nb nl w wt : Nat) (f t : Nat → Nat) (hM : MRp μ σ P n nr nb nl w wt f t) (S T a : Nat) (hS : S < 4096) (hT : T < 2 ^ n) (ha : a ≤ n) (ha0 : ∀ i, i < a → T.testBit i = false) (ha1 : a < n → T.testBit a = true)  : Con yX8_areJoined cX8_areJoined 9 (some .boolean) 1 21 [.ref 79, .int (iI S), .int (iI T)] μ (AnsI (bC (Jn f t nr S T a)) μ) := by
  refine con_of (by decide) rfl (Nat.le_of_ble_eq_true rfl) (ok_Z rfl (bC_01 _)) ?_
  refine ev_w (fun hR => ?_)
  have hR0 := hR
  obtain ⟨hPO, hMP, hwc⟩ := id hM
  obtain ⟨hPR, ⟨hnb, hnb4⟩, ⟨hnl, hnl4⟩, hpo, hro, hbo, hlo⟩ := id hPO
  obtain ⟨hP, hn, hn8, hnr, hnr12, hft⟩ := id hPR
  obtain ⟨⟨cn, cr, cb, cl⟩, mp, mr, mbo, ml⟩ := id hMP
  have hT256 : T < 256 := Nat.lt_of_lt_of_le hT (Nat.pow_le_pow_right (by decide) hn8)
  have fin : ∀ G was : Nat, GInv f t nr S a G → (∀ i, i < nr → S.testBit i = true → (G.testBit (f i) = true ↔ G.testBit (t i) = true)) → ∀ x6 x7 x8, Ev RX8 cX8_areJoined 9 1 21 (AnsI (bC (Jn f t nr S T a)) μ) 169 [some (.ref 79), some (.int (iI S)), some (.int (iI T)), some (.int (iI (G : Nat))), some (.int (iI (a : Nat))), some (.int (iI (was : Nat))), x6, x7, x8] [] μ := by
    intro G was hG hC x6 x7 x8
    refine ev_w (fun hR => ?_)
    refine ev_iload_n dX8_areJoined_169 rfl ?_
    refine ev_iload_n dX8_areJoined_170 rfl ?_
    refine ev_iconst dX8_areJoined_171 ?_
    refine ev_ixor dX8_areJoined_172 ?_
    refine ev_iand dX8_areJoined_173 ?_
    rw [band_not T _ (by omega)]
    have hal := andn_le T G
    refine ev_if_ne (tgt := 181) dX8_areJoined_174 (by decide) ⟨by omega, by omega⟩ (fun h_174 => ?_) (fun h_174 => ?_)
    · refine ev_iconst dX8_areJoined_181 ?_
      refine ev_ireturn dX8_areJoined_182 ?_
      refine ⟨?_, rfl⟩
      have hj : Jn f t nr S T a ↔ ∀ i, T.testBit i = true → G.testBit i = true :=
        ⟨fun h i hi => h i hi (fun x => G.testBit x = true) hG.2.1 hC, fun h p hp => hG.2.2 p (h p hp)⟩
      first
        | (rw [bC_t (hj.mpr (andn_zero.mp (by omega)))])
        | (rw [bC_f (fun z => by have := andn_zero.mpr (hj.mp z); omega)])
    · refine ev_iconst dX8_areJoined_177 ?_
      refine ev_goto (tgt := 182) dX8_areJoined_178 (by decide) ?_
      refine ev_ireturn dX8_areJoined_182 ?_
      refine ⟨?_, rfl⟩
      have hj : Jn f t nr S T a ↔ ∀ i, T.testBit i = true → G.testBit i = true :=
        ⟨fun h i hi => h i hi (fun x => G.testBit x = true) hG.2.1 hC, fun h p hp => hG.2.2 p (h p hp)⟩
      first
        | (rw [bC_t (hj.mpr (andn_zero.mp (by omega)))])
        | (rw [bC_f (fun z => by have := andn_zero.mpr (hj.mp z); omega)])
  have leave : ∀ G : Nat, GInv f t nr S a G → (∀ i, i < nr → S.testBit i = true → (G.testBit (f i) = true ↔ G.testBit (t i) = true)) → ∀ x6 x7 x8, Ev RX8 cX8_areJoined 9 1 21 (AnsI (bC (Jn f t nr S T a)) μ) 37 [some (.ref 79), some (.int (iI S)), some (.int (iI T)), some (.int (iI (G : Nat))), some (.int (iI (a : Nat))), some (.int (iI (G : Nat))), x6, x7, x8] [] μ := by
    intro G hG hC x6 x7 x8
    refine ev_w (fun hR => ?_)
    have hGl := hG.1
    refine ev_iload dX8_areJoined_37 rfl ?_
    refine ev_iload_n dX8_areJoined_39 rfl ?_
    refine ev_icmp_eq (tgt := 169) dX8_areJoined_40 (by decide) (by first | exact hR.1 _ _ | exact hR0.1 _ _ | assumption | exact ⟨by omega, by omega⟩ | exact ⟨by simp [wr_at]; omega, by simp [wr_at]; omega⟩ | exact b2_R _ | exact bC_R _ | exact band_R _ _ | exact bor_R _ _ | exact bshl_R _ _ | exact bshr_R _ _ | exact bxor_R _ _ | exact bs_R (by omega) | decide) (by first | exact hR.1 _ _ | exact hR0.1 _ _ | assumption | exact ⟨by omega, by omega⟩ | exact ⟨by simp [wr_at]; omega, by simp [wr_at]; omega⟩ | exact b2_R _ | exact bC_R _ | exact band_R _ _ | exact bor_R _ _ | exact bshl_R _ _ | exact bshr_R _ _ | exact bxor_R _ _ | exact bs_R (by omega) | decide) (fun h_40 => ?_) (fun h_40 => ?_)
    · exact fin G G hG hC _ _ _
    · exact absurd rfl h_40
  have inner : ∀ m : Nat, (∀ G was : Nat, GInv f t nr S a G → was ≠ G → was < 512 → 9 - cnt G.testBit 9 < m → ∀ x6 x7 x8, Ev RX8 cX8_areJoined 9 1 21 (AnsI (bC (Jn f t nr S T a)) μ) 37 [some (.ref 79), some (.int (iI S)), some (.int (iI T)), some (.int (iI (G : Nat))), some (.int (iI (a : Nat))), some (.int (iI (was : Nat))), x6, x7, x8] [] μ) → ∀ G0 : Nat, GInv f t nr S a G0 → 9 - cnt G0.testBit 9 < m + 1 → ∀ r : Nat, r ≤ nr → ∀ G : Nat, GInv f t nr S a G → (∀ i, G0.testBit i = true → G.testBit i = true) → (G0 = G → (∀ i, i < r → S.testBit i = true → (G.testBit (f i) = true ↔ G.testBit (t i) = true))) → ∀ x7 x8, Ev RX8 cX8_areJoined 9 1 21 (AnsI (bC (Jn f t nr S T a)) μ) 49 [some (.ref 79), some (.int (iI S)), some (.int (iI T)), some (.int (iI (G : Nat))), some (.int (iI (a : Nat))), some (.int (iI (G0 : Nat))), some (.int (iI (r : Nat))), x7, x8] [] μ := by
    intro m hout G0 hG0 hm
    refine for_up nr (fun r hr ih => ?_)
    intro G hG hsub hC x7 x8
    refine ev_w (fun hR => ?_)
    have hGl := hG.1
    refine ev_iload dX8_areJoined_49 rfl ?_
    refine ev_aload_n dX8_areJoined_51 rfl ?_
    refine ev_getI (kz := 4) dX8_areJoined_52 fl_X8_184 rfl rfl rfl ?_
    rw [cr]
    refine ev_icmp_ge (tgt := 166) dX8_areJoined_55 (by decide) (by first | exact hR.1 _ _ | exact hR0.1 _ _ | assumption | exact ⟨by omega, by omega⟩ | exact ⟨by simp [wr_at]; omega, by simp [wr_at]; omega⟩ | exact b2_R _ | exact bC_R _ | exact band_R _ _ | exact bor_R _ _ | exact bshl_R _ _ | exact bshr_R _ _ | exact bxor_R _ _ | exact bs_R (by omega) | decide) (by first | exact hR.1 _ _ | exact hR0.1 _ _ | assumption | exact ⟨by omega, by omega⟩ | exact ⟨by simp [wr_at]; omega, by simp [wr_at]; omega⟩ | exact b2_R _ | exact bC_R _ | exact band_R _ _ | exact bor_R _ _ | exact bshl_R _ _ | exact bshr_R _ _ | exact bxor_R _ _ | exact bs_R (by omega) | decide) (fun h_55 => ?_) (fun h_55 => ?_)
    · refine ev_goto (tgt := 37) dX8_areJoined_166 (by decide) ?_
      obtain rfl : r = nr := by omega
      by_cases e : G0 = G
      · subst e
        exact leave G0 hG (hC rfl) _ _ _
      · have h1 := cnt_grow hsub e hG.1
        have h2 := cnt_le G.testBit 9
        exact hout G G0 hG e hG0.1 (by omega) _ _ _
    · have hrn : r < nr := by omega
      have hfr := hft r hrn
      have e83 : μ.1 83 (r : Int) = (f r : Int) := by rw [(mr r hrn).1, hfr.1]
      have e84 : μ.1 84 (r : Int) = (t r : Int) := by rw [(mr r hrn).2.1, hfr.2.1]
      have hnx := ginv_step hG hrn hn8 hfr.2.2.1 hfr.2.2.2.1
      have hpt : 2 ^ t r < 2 ^ 8 := Nat.pow_lt_pow_right (by decide) (by omega)
      have hpf : 2 ^ f r < 2 ^ 8 := Nat.pow_lt_pow_right (by decide) (by omega)
      have hg1 := gup_lt (b := S.testBit r && G.testBit (f r)) hGl (show t r < 9 by omega)
      have hstep : ∀ x7 x8, Ev RX8 cX8_areJoined 9 1 21 (AnsI (bC (Jn f t nr S T a)) μ) 49 [some (.ref 79), some (.int (iI S)), some (.int (iI T)), some (.int (iI (gup (S.testBit r && G.testBit (t r)) (gup (S.testBit r && G.testBit (f r)) G (t r)) (f r) : Nat))), some (.int (iI (a : Nat))), some (.int (iI (G0 : Nat))), some (.int (iI ((r : Nat) + 1 : Nat))), x7, x8] [] μ := by
        intro x7 x8
        refine ih (by omega) _ hnx (fun i hi => gup_sub (gup_sub (hsub i hi))) (fun he => ?_) _ _
        have hGG : G = gup (S.testBit r && G.testBit (t r)) (gup (S.testBit r && G.testBit (f r)) G (t r)) (f r) := by
          apply Nat.eq_of_testBit_eq
          intro i
          cases hi : G.testBit i with
          | true => exact (gup_sub (gup_sub hi)).symm
          | false =>
            rw [← he]
            cases h0 : G0.testBit i with
            | false => rfl
            | true => rw [hsub i h0] at hi; exact absurd hi (by decide)
        have hs9 := gup_same hGG.symm
        rw [← hGG]
        have he2 : G0 = G := by rw [he, ← hGG]
        intro i hi hsi
        by_cases e : i = r
        · subst e
          rw [hsi] at hs9
          exact ⟨fun z => hs9.1 (by rw [z]; rfl), fun z => hs9.2 (by rw [z]; rfl)⟩
        · exact hC he2 i (by omega) hsi
      have upd : ∀ z7 z8 : Int, z7 = (if (S.testBit r && G.testBit (f r)) = true then 1 else 0) → z8 = (if (S.testBit r && G.testBit (t r)) = true then 1 else 0) → Ev RX8 cX8_areJoined 9 1 21 (AnsI (bC (Jn f t nr S T a)) μ) 118 [some (.ref 79), some (.int (iI S)), some (.int (iI T)), some (.int (iI (G : Nat))), some (.int (iI (a : Nat))), some (.int (iI (G0 : Nat))), some (.int (iI (r : Nat))), some (.int (iI z7)), some (.int (iI z8))] [] μ := by
        intro z7 z8 h7 h8
        refine ev_w (fun hR => ?_)
        refine ev_iload_n dX8_areJoined_118 rfl ?_
        refine ev_iload dX8_areJoined_119 rfl ?_
        refine ev_if_eq (tgt := 136) dX8_areJoined_121 (by decide) (by rw [h7]; split <;> decide) (fun h_121 => ?_) (fun h_121 => ?_)
        · refine ev_iconst dX8_areJoined_136 ?_
          refine ev_ior dX8_areJoined_137 ?_
          have hc1 : bor (G : Int) (if z7 = 0 then 0 else bshl 1 (t r : Nat)) = ((gup (S.testBit r && G.testBit (f r)) G (t r) : Nat) : Int) := by
            unfold gup
            by_cases q : (S.testBit r && G.testBit (f r)) = true
            · rw [if_pos q] at h7
              rw [if_pos q, if_neg (by omega), bshl1 (t r) (by omega), bor_nat G (2 ^ t r) (by omega) (by omega)]
            · rw [if_neg q] at h7
              have hb0 := bor_nat G 0 (by omega) (by decide)
              rw [Nat.or_zero] at hb0
              rw [if_neg q, if_pos h7]
              exact hb0
          first
            | (rw [if_pos h_121] at hc1; rw [hc1])
            | (rw [if_neg h_121] at hc1; rw [hc1])
          generalize hg9 : gup (S.testBit r && G.testBit (f r)) G (t r) = G1 at *
          refine ev_istore_n dX8_areJoined_138 rfl (by decide) rfl ?_
          refine ev_iload_n dX8_areJoined_139 rfl ?_
          refine ev_iload dX8_areJoined_140 rfl ?_
          refine ev_if_eq (tgt := 157) dX8_areJoined_142 (by decide) (by rw [h8]; split <;> decide) (fun h_142 => ?_) (fun h_142 => ?_)
          · refine ev_iconst dX8_areJoined_157 ?_
            refine ev_ior dX8_areJoined_158 ?_
            have hc2 : bor (G1 : Int) (if z8 = 0 then 0 else bshl 1 (f r : Nat)) = ((gup (S.testBit r && G.testBit (t r)) G1 (f r) : Nat) : Int) := by
              unfold gup
              by_cases q : (S.testBit r && G.testBit (t r)) = true
              · rw [if_pos q] at h8
                rw [if_pos q, if_neg (by omega), bshl1 (f r) (by omega), bor_nat G1 (2 ^ f r) (by omega) (by omega)]
              · rw [if_neg q] at h8
                have hb0 := bor_nat G1 0 (by omega) (by decide)
                rw [Nat.or_zero] at hb0
                rw [if_neg q, if_pos h8]
                exact hb0
            first
              | (rw [if_pos h_142] at hc2; rw [hc2])
              | (rw [if_neg h_142] at hc2; rw [hc2])
            refine ev_istore_n dX8_areJoined_159 rfl (by decide) rfl ?_
            refine ev_iinc dX8_areJoined_160 rfl rfl (by decide) rfl ?_
            refine ev_goto (tgt := 49) dX8_areJoined_163 (by decide) ?_
            exact hstep _ _
          · refine ev_iconst dX8_areJoined_145 ?_
            refine ev_aload_n dX8_areJoined_146 rfl ?_
            refine ev_getR (r := 83) dX8_areJoined_147 fl_X8_19 rfl rfl rfl ?_
            refine ev_iload dX8_areJoined_150 rfl ?_
            refine ev_iaload dX8_areJoined_152 rfl (by first | omega | (simp [wr_at]; omega) | (simp [wr_at, *]; omega)) (by first | omega | (simp [wr_at]; omega) | (simp [wr_at, *]; omega)) (by decide) ?_
            rw [e83]
            refine ev_ishl dX8_areJoined_153 ?_
            refine ev_goto (tgt := 158) dX8_areJoined_154 (by decide) ?_
            refine ev_ior dX8_areJoined_158 ?_
            have hc2 : bor (G1 : Int) (if z8 = 0 then 0 else bshl 1 (f r : Nat)) = ((gup (S.testBit r && G.testBit (t r)) G1 (f r) : Nat) : Int) := by
              unfold gup
              by_cases q : (S.testBit r && G.testBit (t r)) = true
              · rw [if_pos q] at h8
                rw [if_pos q, if_neg (by omega), bshl1 (f r) (by omega), bor_nat G1 (2 ^ f r) (by omega) (by omega)]
              · rw [if_neg q] at h8
                have hb0 := bor_nat G1 0 (by omega) (by decide)
                rw [Nat.or_zero] at hb0
                rw [if_neg q, if_pos h8]
                exact hb0
            first
              | (rw [if_pos h_142] at hc2; rw [hc2])
              | (rw [if_neg h_142] at hc2; rw [hc2])
            refine ev_istore_n dX8_areJoined_159 rfl (by decide) rfl ?_
            refine ev_iinc dX8_areJoined_160 rfl rfl (by decide) rfl ?_
            refine ev_goto (tgt := 49) dX8_areJoined_163 (by decide) ?_
            exact hstep _ _
        · refine ev_iconst dX8_areJoined_124 ?_
          refine ev_aload_n dX8_areJoined_125 rfl ?_
          refine ev_getR (r := 84) dX8_areJoined_126 fl_X8_22 rfl rfl rfl ?_
          refine ev_iload dX8_areJoined_129 rfl ?_
          refine ev_iaload dX8_areJoined_131 rfl (by first | omega | (simp [wr_at]; omega) | (simp [wr_at, *]; omega)) (by first | omega | (simp [wr_at]; omega) | (simp [wr_at, *]; omega)) (by decide) ?_
          rw [e84]
          refine ev_ishl dX8_areJoined_132 ?_
          refine ev_goto (tgt := 137) dX8_areJoined_133 (by decide) ?_
          refine ev_ior dX8_areJoined_137 ?_
          have hc1 : bor (G : Int) (if z7 = 0 then 0 else bshl 1 (t r : Nat)) = ((gup (S.testBit r && G.testBit (f r)) G (t r) : Nat) : Int) := by
            unfold gup
            by_cases q : (S.testBit r && G.testBit (f r)) = true
            · rw [if_pos q] at h7
              rw [if_pos q, if_neg (by omega), bshl1 (t r) (by omega), bor_nat G (2 ^ t r) (by omega) (by omega)]
            · rw [if_neg q] at h7
              have hb0 := bor_nat G 0 (by omega) (by decide)
              rw [Nat.or_zero] at hb0
              rw [if_neg q, if_pos h7]
              exact hb0
          first
            | (rw [if_pos h_121] at hc1; rw [hc1])
            | (rw [if_neg h_121] at hc1; rw [hc1])
          generalize hg9 : gup (S.testBit r && G.testBit (f r)) G (t r) = G1 at *
          refine ev_istore_n dX8_areJoined_138 rfl (by decide) rfl ?_
          refine ev_iload_n dX8_areJoined_139 rfl ?_
          refine ev_iload dX8_areJoined_140 rfl ?_
          refine ev_if_eq (tgt := 157) dX8_areJoined_142 (by decide) (by rw [h8]; split <;> decide) (fun h_142 => ?_) (fun h_142 => ?_)
          · refine ev_iconst dX8_areJoined_157 ?_
            refine ev_ior dX8_areJoined_158 ?_
            have hc2 : bor (G1 : Int) (if z8 = 0 then 0 else bshl 1 (f r : Nat)) = ((gup (S.testBit r && G.testBit (t r)) G1 (f r) : Nat) : Int) := by
              unfold gup
              by_cases q : (S.testBit r && G.testBit (t r)) = true
              · rw [if_pos q] at h8
                rw [if_pos q, if_neg (by omega), bshl1 (f r) (by omega), bor_nat G1 (2 ^ f r) (by omega) (by omega)]
              · rw [if_neg q] at h8
                have hb0 := bor_nat G1 0 (by omega) (by decide)
                rw [Nat.or_zero] at hb0
                rw [if_neg q, if_pos h8]
                exact hb0
            first
              | (rw [if_pos h_142] at hc2; rw [hc2])
              | (rw [if_neg h_142] at hc2; rw [hc2])
            refine ev_istore_n dX8_areJoined_159 rfl (by decide) rfl ?_
            refine ev_iinc dX8_areJoined_160 rfl rfl (by decide) rfl ?_
            refine ev_goto (tgt := 49) dX8_areJoined_163 (by decide) ?_
            exact hstep _ _
          · refine ev_iconst dX8_areJoined_145 ?_
            refine ev_aload_n dX8_areJoined_146 rfl ?_
            refine ev_getR (r := 83) dX8_areJoined_147 fl_X8_19 rfl rfl rfl ?_
            refine ev_iload dX8_areJoined_150 rfl ?_
            refine ev_iaload dX8_areJoined_152 rfl (by first | omega | (simp [wr_at]; omega) | (simp [wr_at, *]; omega)) (by first | omega | (simp [wr_at]; omega) | (simp [wr_at, *]; omega)) (by decide) ?_
            rw [e83]
            refine ev_ishl dX8_areJoined_153 ?_
            refine ev_goto (tgt := 158) dX8_areJoined_154 (by decide) ?_
            refine ev_ior dX8_areJoined_158 ?_
            have hc2 : bor (G1 : Int) (if z8 = 0 then 0 else bshl 1 (f r : Nat)) = ((gup (S.testBit r && G.testBit (t r)) G1 (f r) : Nat) : Int) := by
              unfold gup
              by_cases q : (S.testBit r && G.testBit (t r)) = true
              · rw [if_pos q] at h8
                rw [if_pos q, if_neg (by omega), bshl1 (f r) (by omega), bor_nat G1 (2 ^ f r) (by omega) (by omega)]
              · rw [if_neg q] at h8
                have hb0 := bor_nat G1 0 (by omega) (by decide)
                rw [Nat.or_zero] at hb0
                rw [if_neg q, if_pos h8]
                exact hb0
            first
              | (rw [if_pos h_142] at hc2; rw [hc2])
              | (rw [if_neg h_142] at hc2; rw [hc2])
            refine ev_istore_n dX8_areJoined_159 rfl (by decide) rfl ?_
            refine ev_iinc dX8_areJoined_160 rfl rfl (by decide) rfl ?_
            refine ev_goto (tgt := 49) dX8_areJoined_163 (by decide) ?_
            exact hstep _ _
      refine ev_iload_n dX8_areJoined_58 rfl ?_
      refine ev_iload dX8_areJoined_59 rfl ?_
      refine ev_callSI dX8_areJoined_61 ks_X8_339 (m_has μ S r (by omega) (by omega)) rfl rfl ⟨by decide, by decide⟩ (Nat.le_of_ble_eq_true rfl) ?_
      refine ev_w (fun hR => ?_)
      refine ev_if_eq (tgt := 85) dX8_areJoined_64 (by decide) (by first | exact hR.1 _ _ | exact hR0.1 _ _ | assumption | exact ⟨by omega, by omega⟩ | exact ⟨by simp [wr_at]; omega, by simp [wr_at]; omega⟩ | exact b2_R _ | exact bC_R _ | exact band_R _ _ | exact bor_R _ _ | exact bshl_R _ _ | exact bshr_R _ _ | exact bxor_R _ _ | exact bs_R (by omega) | decide) (fun h_64 => ?_) (fun h_64 => ?_)
      · refine ev_iconst dX8_areJoined_85 ?_
        refine ev_istore dX8_areJoined_86 rfl (by decide) rfl ?_
        refine ev_iload_n dX8_areJoined_88 rfl ?_
        refine ev_iload dX8_areJoined_89 rfl ?_
        refine ev_callSI dX8_areJoined_91 ks_X8_339 (m_has μ S r (by omega) (by omega)) rfl rfl ⟨by decide, by decide⟩ (Nat.le_of_ble_eq_true rfl) ?_
        refine ev_w (fun hR => ?_)
        refine ev_if_eq (tgt := 115) dX8_areJoined_94 (by decide) (by first | exact hR.1 _ _ | exact hR0.1 _ _ | assumption | exact ⟨by omega, by omega⟩ | exact ⟨by simp [wr_at]; omega, by simp [wr_at]; omega⟩ | exact b2_R _ | exact bC_R _ | exact band_R _ _ | exact bor_R _ _ | exact bshl_R _ _ | exact bshr_R _ _ | exact bxor_R _ _ | exact bs_R (by omega) | decide) (fun h_94 => ?_) (fun h_94 => ?_)
        · refine ev_iconst dX8_areJoined_115 ?_
          refine ev_istore dX8_areJoined_116 rfl (by decide) rfl ?_
          refine upd _ _ ?_ ?_
          · first
              | (rw [if_pos (by rw [b2_ne h_64, b2_ne h_78]; rfl)])
              | (rw [if_neg (by have q := b2_eq h_64; simp [q])])
              | (rw [if_neg (by have q := b2_eq h_78; simp [q])])
          · first
              | (rw [if_pos (by rw [b2_ne h_94, b2_ne h_108]; rfl)])
              | (rw [if_neg (by have q := b2_eq h_94; simp [q])])
              | (rw [if_neg (by have q := b2_eq h_108; simp [q])])
        · refine ev_iload_n dX8_areJoined_97 rfl ?_
          refine ev_aload_n dX8_areJoined_98 rfl ?_
          refine ev_getR (r := 84) dX8_areJoined_99 fl_X8_22 rfl rfl rfl ?_
          refine ev_iload dX8_areJoined_102 rfl ?_
          refine ev_iaload dX8_areJoined_104 rfl (by first | omega | (simp [wr_at]; omega) | (simp [wr_at, *]; omega)) (by first | omega | (simp [wr_at]; omega) | (simp [wr_at, *]; omega)) (by decide) ?_
          rw [e84]
          refine ev_callSI dX8_areJoined_105 ks_X8_339 (m_has μ G (t r) (by omega) (by omega)) rfl rfl ⟨by decide, by decide⟩ (Nat.le_of_ble_eq_true rfl) ?_
          refine ev_w (fun hR => ?_)
          refine ev_if_eq (tgt := 115) dX8_areJoined_108 (by decide) (by first | exact hR.1 _ _ | exact hR0.1 _ _ | assumption | exact ⟨by omega, by omega⟩ | exact ⟨by simp [wr_at]; omega, by simp [wr_at]; omega⟩ | exact b2_R _ | exact bC_R _ | exact band_R _ _ | exact bor_R _ _ | exact bshl_R _ _ | exact bshr_R _ _ | exact bxor_R _ _ | exact bs_R (by omega) | decide) (fun h_108 => ?_) (fun h_108 => ?_)
          · refine ev_iconst dX8_areJoined_115 ?_
            refine ev_istore dX8_areJoined_116 rfl (by decide) rfl ?_
            refine upd _ _ ?_ ?_
            · first
                | (rw [if_pos (by rw [b2_ne h_64, b2_ne h_78]; rfl)])
                | (rw [if_neg (by have q := b2_eq h_64; simp [q])])
                | (rw [if_neg (by have q := b2_eq h_78; simp [q])])
            · first
                | (rw [if_pos (by rw [b2_ne h_94, b2_ne h_108]; rfl)])
                | (rw [if_neg (by have q := b2_eq h_94; simp [q])])
                | (rw [if_neg (by have q := b2_eq h_108; simp [q])])
          · refine ev_iconst dX8_areJoined_111 ?_
            refine ev_goto (tgt := 116) dX8_areJoined_112 (by decide) ?_
            refine ev_istore dX8_areJoined_116 rfl (by decide) rfl ?_
            refine upd _ _ ?_ ?_
            · first
                | (rw [if_pos (by rw [b2_ne h_64, b2_ne h_78]; rfl)])
                | (rw [if_neg (by have q := b2_eq h_64; simp [q])])
                | (rw [if_neg (by have q := b2_eq h_78; simp [q])])
            · first
                | (rw [if_pos (by rw [b2_ne h_94, b2_ne h_108]; rfl)])
                | (rw [if_neg (by have q := b2_eq h_94; simp [q])])
                | (rw [if_neg (by have q := b2_eq h_108; simp [q])])
      · refine ev_iload_n dX8_areJoined_67 rfl ?_
        refine ev_aload_n dX8_areJoined_68 rfl ?_
        refine ev_getR (r := 83) dX8_areJoined_69 fl_X8_19 rfl rfl rfl ?_
        refine ev_iload dX8_areJoined_72 rfl ?_
        refine ev_iaload dX8_areJoined_74 rfl (by first | omega | (simp [wr_at]; omega) | (simp [wr_at, *]; omega)) (by first | omega | (simp [wr_at]; omega) | (simp [wr_at, *]; omega)) (by decide) ?_
        rw [e83]
        refine ev_callSI dX8_areJoined_75 ks_X8_339 (m_has μ G (f r) (by omega) (by omega)) rfl rfl ⟨by decide, by decide⟩ (Nat.le_of_ble_eq_true rfl) ?_
        refine ev_w (fun hR => ?_)
        refine ev_if_eq (tgt := 85) dX8_areJoined_78 (by decide) (by first | exact hR.1 _ _ | exact hR0.1 _ _ | assumption | exact ⟨by omega, by omega⟩ | exact ⟨by simp [wr_at]; omega, by simp [wr_at]; omega⟩ | exact b2_R _ | exact bC_R _ | exact band_R _ _ | exact bor_R _ _ | exact bshl_R _ _ | exact bshr_R _ _ | exact bxor_R _ _ | exact bs_R (by omega) | decide) (fun h_78 => ?_) (fun h_78 => ?_)
        · refine ev_iconst dX8_areJoined_85 ?_
          refine ev_istore dX8_areJoined_86 rfl (by decide) rfl ?_
          refine ev_iload_n dX8_areJoined_88 rfl ?_
          refine ev_iload dX8_areJoined_89 rfl ?_
          refine ev_callSI dX8_areJoined_91 ks_X8_339 (m_has μ S r (by omega) (by omega)) rfl rfl ⟨by decide, by decide⟩ (Nat.le_of_ble_eq_true rfl) ?_
          refine ev_w (fun hR => ?_)
          refine ev_if_eq (tgt := 115) dX8_areJoined_94 (by decide) (by first | exact hR.1 _ _ | exact hR0.1 _ _ | assumption | exact ⟨by omega, by omega⟩ | exact ⟨by simp [wr_at]; omega, by simp [wr_at]; omega⟩ | exact b2_R _ | exact bC_R _ | exact band_R _ _ | exact bor_R _ _ | exact bshl_R _ _ | exact bshr_R _ _ | exact bxor_R _ _ | exact bs_R (by omega) | decide) (fun h_94 => ?_) (fun h_94 => ?_)
          · refine ev_iconst dX8_areJoined_115 ?_
            refine ev_istore dX8_areJoined_116 rfl (by decide) rfl ?_
            refine upd _ _ ?_ ?_
            · first
                | (rw [if_pos (by rw [b2_ne h_64, b2_ne h_78]; rfl)])
                | (rw [if_neg (by have q := b2_eq h_64; simp [q])])
                | (rw [if_neg (by have q := b2_eq h_78; simp [q])])
            · first
                | (rw [if_pos (by rw [b2_ne h_94, b2_ne h_108]; rfl)])
                | (rw [if_neg (by have q := b2_eq h_94; simp [q])])
                | (rw [if_neg (by have q := b2_eq h_108; simp [q])])
          · refine ev_iload_n dX8_areJoined_97 rfl ?_
            refine ev_aload_n dX8_areJoined_98 rfl ?_
            refine ev_getR (r := 84) dX8_areJoined_99 fl_X8_22 rfl rfl rfl ?_
            refine ev_iload dX8_areJoined_102 rfl ?_
            refine ev_iaload dX8_areJoined_104 rfl (by first | omega | (simp [wr_at]; omega) | (simp [wr_at, *]; omega)) (by first | omega | (simp [wr_at]; omega) | (simp [wr_at, *]; omega)) (by decide) ?_
            rw [e84]
            refine ev_callSI dX8_areJoined_105 ks_X8_339 (m_has μ G (t r) (by omega) (by omega)) rfl rfl ⟨by decide, by decide⟩ (Nat.le_of_ble_eq_true rfl) ?_
            refine ev_w (fun hR => ?_)
            refine ev_if_eq (tgt := 115) dX8_areJoined_108 (by decide) (by first | exact hR.1 _ _ | exact hR0.1 _ _ | assumption | exact ⟨by omega, by omega⟩ | exact ⟨by simp [wr_at]; omega, by simp [wr_at]; omega⟩ | exact b2_R _ | exact bC_R _ | exact band_R _ _ | exact bor_R _ _ | exact bshl_R _ _ | exact bshr_R _ _ | exact bxor_R _ _ | exact bs_R (by omega) | decide) (fun h_108 => ?_) (fun h_108 => ?_)
            · refine ev_iconst dX8_areJoined_115 ?_
              refine ev_istore dX8_areJoined_116 rfl (by decide) rfl ?_
              refine upd _ _ ?_ ?_
              · first
                  | (rw [if_pos (by rw [b2_ne h_64, b2_ne h_78]; rfl)])
                  | (rw [if_neg (by have q := b2_eq h_64; simp [q])])
                  | (rw [if_neg (by have q := b2_eq h_78; simp [q])])
              · first
                  | (rw [if_pos (by rw [b2_ne h_94, b2_ne h_108]; rfl)])
                  | (rw [if_neg (by have q := b2_eq h_94; simp [q])])
                  | (rw [if_neg (by have q := b2_eq h_108; simp [q])])
            · refine ev_iconst dX8_areJoined_111 ?_
              refine ev_goto (tgt := 116) dX8_areJoined_112 (by decide) ?_
              refine ev_istore dX8_areJoined_116 rfl (by decide) rfl ?_
              refine upd _ _ ?_ ?_
              · first
                  | (rw [if_pos (by rw [b2_ne h_64, b2_ne h_78]; rfl)])
                  | (rw [if_neg (by have q := b2_eq h_64; simp [q])])
                  | (rw [if_neg (by have q := b2_eq h_78; simp [q])])
              · first
                  | (rw [if_pos (by rw [b2_ne h_94, b2_ne h_108]; rfl)])
                  | (rw [if_neg (by have q := b2_eq h_94; simp [q])])
                  | (rw [if_neg (by have q := b2_eq h_108; simp [q])])
        · refine ev_iconst dX8_areJoined_81 ?_
          refine ev_goto (tgt := 86) dX8_areJoined_82 (by decide) ?_
          refine ev_istore dX8_areJoined_86 rfl (by decide) rfl ?_
          refine ev_iload_n dX8_areJoined_88 rfl ?_
          refine ev_iload dX8_areJoined_89 rfl ?_
          refine ev_callSI dX8_areJoined_91 ks_X8_339 (m_has μ S r (by omega) (by omega)) rfl rfl ⟨by decide, by decide⟩ (Nat.le_of_ble_eq_true rfl) ?_
          refine ev_w (fun hR => ?_)
          refine ev_if_eq (tgt := 115) dX8_areJoined_94 (by decide) (by first | exact hR.1 _ _ | exact hR0.1 _ _ | assumption | exact ⟨by omega, by omega⟩ | exact ⟨by simp [wr_at]; omega, by simp [wr_at]; omega⟩ | exact b2_R _ | exact bC_R _ | exact band_R _ _ | exact bor_R _ _ | exact bshl_R _ _ | exact bshr_R _ _ | exact bxor_R _ _ | exact bs_R (by omega) | decide) (fun h_94 => ?_) (fun h_94 => ?_)
          · refine ev_iconst dX8_areJoined_115 ?_
            refine ev_istore dX8_areJoined_116 rfl (by decide) rfl ?_
            refine upd _ _ ?_ ?_
            · first
                | (rw [if_pos (by rw [b2_ne h_64, b2_ne h_78]; rfl)])
                | (rw [if_neg (by have q := b2_eq h_64; simp [q])])
                | (rw [if_neg (by have q := b2_eq h_78; simp [q])])
            · first
                | (rw [if_pos (by rw [b2_ne h_94, b2_ne h_108]; rfl)])
                | (rw [if_neg (by have q := b2_eq h_94; simp [q])])
                | (rw [if_neg (by have q := b2_eq h_108; simp [q])])
          · refine ev_iload_n dX8_areJoined_97 rfl ?_
            refine ev_aload_n dX8_areJoined_98 rfl ?_
            refine ev_getR (r := 84) dX8_areJoined_99 fl_X8_22 rfl rfl rfl ?_
            refine ev_iload dX8_areJoined_102 rfl ?_
            refine ev_iaload dX8_areJoined_104 rfl (by first | omega | (simp [wr_at]; omega) | (simp [wr_at, *]; omega)) (by first | omega | (simp [wr_at]; omega) | (simp [wr_at, *]; omega)) (by decide) ?_
            rw [e84]
            refine ev_callSI dX8_areJoined_105 ks_X8_339 (m_has μ G (t r) (by omega) (by omega)) rfl rfl ⟨by decide, by decide⟩ (Nat.le_of_ble_eq_true rfl) ?_
            refine ev_w (fun hR => ?_)
            refine ev_if_eq (tgt := 115) dX8_areJoined_108 (by decide) (by first | exact hR.1 _ _ | exact hR0.1 _ _ | assumption | exact ⟨by omega, by omega⟩ | exact ⟨by simp [wr_at]; omega, by simp [wr_at]; omega⟩ | exact b2_R _ | exact bC_R _ | exact band_R _ _ | exact bor_R _ _ | exact bshl_R _ _ | exact bshr_R _ _ | exact bxor_R _ _ | exact bs_R (by omega) | decide) (fun h_108 => ?_) (fun h_108 => ?_)
            · refine ev_iconst dX8_areJoined_115 ?_
              refine ev_istore dX8_areJoined_116 rfl (by decide) rfl ?_
              refine upd _ _ ?_ ?_
              · first
                  | (rw [if_pos (by rw [b2_ne h_64, b2_ne h_78]; rfl)])
                  | (rw [if_neg (by have q := b2_eq h_64; simp [q])])
                  | (rw [if_neg (by have q := b2_eq h_78; simp [q])])
              · first
                  | (rw [if_pos (by rw [b2_ne h_94, b2_ne h_108]; rfl)])
                  | (rw [if_neg (by have q := b2_eq h_94; simp [q])])
                  | (rw [if_neg (by have q := b2_eq h_108; simp [q])])
            · refine ev_iconst dX8_areJoined_111 ?_
              refine ev_goto (tgt := 116) dX8_areJoined_112 (by decide) ?_
              refine ev_istore dX8_areJoined_116 rfl (by decide) rfl ?_
              refine upd _ _ ?_ ?_
              · first
                  | (rw [if_pos (by rw [b2_ne h_64, b2_ne h_78]; rfl)])
                  | (rw [if_neg (by have q := b2_eq h_64; simp [q])])
                  | (rw [if_neg (by have q := b2_eq h_78; simp [q])])
              · first
                  | (rw [if_pos (by rw [b2_ne h_94, b2_ne h_108]; rfl)])
                  | (rw [if_neg (by have q := b2_eq h_94; simp [q])])
                  | (rw [if_neg (by have q := b2_eq h_108; simp [q])])
  have outer : ∀ m : Nat, (∀ G was : Nat, GInv f t nr S a G → was ≠ G → was < 512 → 9 - cnt G.testBit 9 < m → ∀ x6 x7 x8, Ev RX8 cX8_areJoined 9 1 21 (AnsI (bC (Jn f t nr S T a)) μ) 37 [some (.ref 79), some (.int (iI S)), some (.int (iI T)), some (.int (iI (G : Nat))), some (.int (iI (a : Nat))), some (.int (iI (was : Nat))), x6, x7, x8] [] μ) := by
    intro m
    induction m with
    | zero => intro G was hG hne hw hm; omega
    | succ m ihm =>
      intro G was hG hne hw hm x6 x7 x8
      refine ev_w (fun hR => ?_)
      have hGl := hG.1
      refine ev_iload dX8_areJoined_37 rfl ?_
      refine ev_iload_n dX8_areJoined_39 rfl ?_
      refine ev_icmp_eq (tgt := 169) dX8_areJoined_40 (by decide) (by first | exact hR.1 _ _ | exact hR0.1 _ _ | assumption | exact ⟨by omega, by omega⟩ | exact ⟨by simp [wr_at]; omega, by simp [wr_at]; omega⟩ | exact b2_R _ | exact bC_R _ | exact band_R _ _ | exact bor_R _ _ | exact bshl_R _ _ | exact bshr_R _ _ | exact bxor_R _ _ | exact bs_R (by omega) | decide) (by first | exact hR.1 _ _ | exact hR0.1 _ _ | assumption | exact ⟨by omega, by omega⟩ | exact ⟨by simp [wr_at]; omega, by simp [wr_at]; omega⟩ | exact b2_R _ | exact bC_R _ | exact band_R _ _ | exact bor_R _ _ | exact bshl_R _ _ | exact bshr_R _ _ | exact bxor_R _ _ | exact bs_R (by omega) | decide) (fun h_40 => ?_) (fun h_40 => ?_)
      · exact absurd h_40 (by omega)
      · refine ev_iload_n dX8_areJoined_43 rfl ?_
        refine ev_istore dX8_areJoined_44 rfl (by decide) rfl ?_
        refine ev_iconst dX8_areJoined_46 ?_
        refine ev_istore dX8_areJoined_47 rfl (by decide) rfl ?_
        exact inner m ihm G hG hm 0 (by omega) G hG (fun i hi => hi) (fun _ r hr => by omega) _ _
  have first : ∀ i : Nat, i ≤ a → ∀ x5 x6 x7 x8, Ev RX8 cX8_areJoined 9 1 21 (AnsI (bC (Jn f t nr S T a)) μ) 5 [some (.ref 79), some (.int (iI S)), some (.int (iI T)), some (.int (iI 0)), some (.int (iI (i : Nat))), x5, x6, x7, x8] [] μ := by
    refine for_up a (fun i hi ih => ?_)
    intro x5 x6 x7 x8
    refine ev_w (fun hR => ?_)
    refine ev_iload dX8_areJoined_5 rfl ?_
    refine ev_aload_n dX8_areJoined_7 rfl ?_
    refine ev_getI (kz := 0) dX8_areJoined_8 fl_X8_177 rfl rfl rfl ?_
    rw [cn]
    refine ev_icmp_ge (tgt := 29) dX8_areJoined_11 (by decide) (by first | exact hR.1 _ _ | exact hR0.1 _ _ | assumption | exact ⟨by omega, by omega⟩ | exact ⟨by simp [wr_at]; omega, by simp [wr_at]; omega⟩ | exact b2_R _ | exact bC_R _ | exact band_R _ _ | exact bor_R _ _ | exact bshl_R _ _ | exact bshr_R _ _ | exact bxor_R _ _ | exact bs_R (by omega) | decide) (by first | exact hR.1 _ _ | exact hR0.1 _ _ | assumption | exact ⟨by omega, by omega⟩ | exact ⟨by simp [wr_at]; omega, by simp [wr_at]; omega⟩ | exact b2_R _ | exact bC_R _ | exact band_R _ _ | exact bor_R _ _ | exact bshl_R _ _ | exact bshr_R _ _ | exact bxor_R _ _ | exact bs_R (by omega) | decide) (fun h_11 => ?_) (fun h_11 => ?_)
    · refine ev_iconst dX8_areJoined_29 ?_
      refine ev_iload dX8_areJoined_30 rfl ?_
      refine ev_ishl dX8_areJoined_32 ?_
      have hia : i = a := by
        refine Classical.byContradiction (fun hne => ?_)
        first
          | omega
          | (have q := b2_ne h_20; rw [ha0 i (by omega)] at q; exact absurd q (by decide))
      subst hia
      rw [bshl1 i (by omega)]
      refine ev_istore_n dX8_areJoined_33 rfl (by decide) rfl ?_
      refine ev_iconst dX8_areJoined_34 ?_
      refine ev_istore dX8_areJoined_35 rfl (by decide) rfl ?_
      have hp9 : 2 ^ i < 2 ^ 9 := Nat.pow_lt_pow_right (by decide) (by omega)
      refine outer 10 (2 ^ i) 0 ⟨hp9, by rw [test_pow]; simp, fun x hx => ?_⟩ (by have := Nat.two_pow_pos i; omega) (by decide) (by omega) _ _ _
      rw [test_pow] at hx
      have : i = x := by simpa using hx
      subst this
      exact fun X hX _ => hX
    · refine ev_iload_n dX8_areJoined_14 rfl ?_
      refine ev_iload dX8_areJoined_15 rfl ?_
      refine ev_callSI dX8_areJoined_17 ks_X8_339 (m_has μ T i (by omega) (by omega)) rfl rfl ⟨by decide, by decide⟩ (Nat.le_of_ble_eq_true rfl) ?_
      refine ev_w (fun hR => ?_)
      refine ev_if_ne (tgt := 29) dX8_areJoined_20 (by decide) (by first | exact hR.1 _ _ | exact hR0.1 _ _ | assumption | exact ⟨by omega, by omega⟩ | exact ⟨by simp [wr_at]; omega, by simp [wr_at]; omega⟩ | exact b2_R _ | exact bC_R _ | exact band_R _ _ | exact bor_R _ _ | exact bshl_R _ _ | exact bshr_R _ _ | exact bxor_R _ _ | exact bs_R (by omega) | decide) (fun h_20 => ?_) (fun h_20 => ?_)
      · refine ev_iconst dX8_areJoined_29 ?_
        refine ev_iload dX8_areJoined_30 rfl ?_
        refine ev_ishl dX8_areJoined_32 ?_
        have hia : i = a := by
          refine Classical.byContradiction (fun hne => ?_)
          first
            | omega
            | (have q := b2_ne h_20; rw [ha0 i (by omega)] at q; exact absurd q (by decide))
        subst hia
        rw [bshl1 i (by omega)]
        refine ev_istore_n dX8_areJoined_33 rfl (by decide) rfl ?_
        refine ev_iconst dX8_areJoined_34 ?_
        refine ev_istore dX8_areJoined_35 rfl (by decide) rfl ?_
        have hp9 : 2 ^ i < 2 ^ 9 := Nat.pow_lt_pow_right (by decide) (by omega)
        refine outer 10 (2 ^ i) 0 ⟨hp9, by rw [test_pow]; simp, fun x hx => ?_⟩ (by have := Nat.two_pow_pos i; omega) (by decide) (by omega) _ _ _
        rw [test_pow] at hx
        have : i = x := by simpa using hx
        subst this
        exact fun X hX _ => hX
      · refine ev_iinc dX8_areJoined_23 rfl rfl (by decide) rfl ?_
        refine ev_goto (tgt := 5) dX8_areJoined_26 (by decide) ?_
        refine ih ?_ _ _ _ _
        refine Classical.byContradiction (fun hne => ?_)
        obtain rfl : i = a := by omega
        have q := b2_eq (by omega : b2 (T.testBit i = true) = 0)
        exact q (ha1 (by omega))
  refine ev_iconst dX8_areJoined_0 ?_
  refine ev_istore_n dX8_areJoined_1 rfl (by decide) rfl ?_
  refine ev_iconst dX8_areJoined_2 ?_
  refine ev_istore dX8_areJoined_3 rfl (by decide) rfl ?_
  exact first 0 (by omega) _ _ _ _
theorem m_isSafe (μ σ : Mem) (P n nr nb nl w wt : Nat) (f t : Nat → Nat) (hM : MRp μ σ P n nr nb nl w wt f t) (S T a : Nat) (hS : S < 4096) (hT : T < 2 ^ n) (ha : a ≤ n) (ha0 : ∀ i, i < a → T.testBit i = false) (ha1 : a < n → T.testBit a = true)  : Con yX8_isSafe cX8_isSafe 5 (some .boolean) 2 49 [.ref 79, .int (iI S), .int (iI T)] μ (AnsI (bC (Safe f t nr S T a)) μ) := by
  refine con_of (by decide) rfl (Nat.le_of_ble_eq_true rfl) (ok_Z rfl (bC_01 _)) ?_
  refine ev_w (fun hR => ?_)
  have hR0 := hR
  obtain ⟨hPO, hMP, hwc⟩ := id hM
  obtain ⟨hPR, ⟨hnb, hnb4⟩, ⟨hnl, hnl4⟩, hpo, hro, hbo, hlo⟩ := id hPO
  obtain ⟨hP, hn, hn8, hnr, hnr12, hft⟩ := id hPR
  obtain ⟨⟨cn, cr, cb, cl⟩, mp, mr, mbo, ml⟩ := id hMP
  have loop : ∀ r : Nat, r ≤ nr → Ev RX8 cX8_isSafe 5 2 49 (AnsI (bC (Safe f t nr S T a)) μ) 10 [some (.ref 79), some (.int (iI S)), some (.int (iI T)), some (.int (iI (bC (Jn f t nr S T a ∧ ∀ i, i < r → S.testBit i = true → Jn f t nr (andn S (2 ^ i)) T a)))), some (.int (iI (r : Nat)))] [] μ := by
    refine for_up nr (fun r hr ih => ?_)
    refine ev_w (fun hR => ?_)
    refine ev_iload dX8_isSafe_10 rfl ?_
    refine ev_aload_n dX8_isSafe_12 rfl ?_
    refine ev_getI (kz := 4) dX8_isSafe_13 fl_X8_184 rfl rfl rfl ?_
    rw [cr]
    refine ev_icmp_ge (tgt := 60) dX8_isSafe_16 (by decide) (by first | exact hR.1 _ _ | exact hR0.1 _ _ | assumption | exact ⟨by omega, by omega⟩ | exact ⟨by simp [wr_at]; omega, by simp [wr_at]; omega⟩ | exact b2_R _ | exact bC_R _ | exact band_R _ _ | exact bor_R _ _ | exact bshl_R _ _ | exact bshr_R _ _ | exact bxor_R _ _ | exact bs_R (by omega) | decide) (by first | exact hR.1 _ _ | exact hR0.1 _ _ | assumption | exact ⟨by omega, by omega⟩ | exact ⟨by simp [wr_at]; omega, by simp [wr_at]; omega⟩ | exact b2_R _ | exact bC_R _ | exact band_R _ _ | exact bor_R _ _ | exact bshl_R _ _ | exact bshr_R _ _ | exact bxor_R _ _ | exact bs_R (by omega) | decide) (fun h_16 => ?_) (fun h_16 => ?_)
    · refine ev_iload_n dX8_isSafe_60 rfl ?_
      refine ev_ireturn dX8_isSafe_61 ?_
      by_cases e9 : r = nr
      · subst e9
        exact ⟨rfl, rfl⟩
      · first
          | (exfalso; omega)
          | (have q := bC_eq h_20
             have e2 : bC (Safe f t nr S T a) = 0 := bC_f (fun z => q ⟨z.1, fun i hi hs => z.2 i (by omega) hs⟩)
             rw [bC_f q, e2]
             exact ⟨rfl, rfl⟩)
    · refine ev_iload_n dX8_isSafe_19 rfl ?_
      refine ev_if_eq (tgt := 60) dX8_isSafe_20 (by decide) (by first | exact hR.1 _ _ | exact hR0.1 _ _ | assumption | exact ⟨by omega, by omega⟩ | exact ⟨by simp [wr_at]; omega, by simp [wr_at]; omega⟩ | exact b2_R _ | exact bC_R _ | exact band_R _ _ | exact bor_R _ _ | exact bshl_R _ _ | exact bshr_R _ _ | exact bxor_R _ _ | exact bs_R (by omega) | decide) (fun h_20 => ?_) (fun h_20 => ?_)
      · refine ev_iload_n dX8_isSafe_60 rfl ?_
        refine ev_ireturn dX8_isSafe_61 ?_
        by_cases e9 : r = nr
        · subst e9
          exact ⟨rfl, rfl⟩
        · first
            | (exfalso; omega)
            | (have q := bC_eq h_20
               have e2 : bC (Safe f t nr S T a) = 0 := bC_f (fun z => q ⟨z.1, fun i hi hs => z.2 i (by omega) hs⟩)
               rw [bC_f q, e2]
               exact ⟨rfl, rfl⟩)
      · have hz := bC_ne h_20
        refine ev_iload_n dX8_isSafe_23 rfl ?_
        refine ev_iload dX8_isSafe_24 rfl ?_
        refine ev_callSI dX8_isSafe_26 ks_X8_339 (m_has μ S r (by omega) (by omega)) rfl rfl ⟨by decide, by decide⟩ (Nat.le_of_ble_eq_true rfl) ?_
        refine ev_w (fun hR => ?_)
        refine ev_if_eq (tgt := 48) dX8_isSafe_29 (by decide) (by first | exact hR.1 _ _ | exact hR0.1 _ _ | assumption | exact ⟨by omega, by omega⟩ | exact ⟨by simp [wr_at]; omega, by simp [wr_at]; omega⟩ | exact b2_R _ | exact bC_R _ | exact band_R _ _ | exact bor_R _ _ | exact bshl_R _ _ | exact bshr_R _ _ | exact bxor_R _ _ | exact bs_R (by omega) | decide) (fun h_29 => ?_) (fun h_29 => ?_)
        · refine ev_iconst dX8_isSafe_48 ?_
          refine ev_goto (tgt := 53) dX8_isSafe_49 (by decide) ?_
          refine ev_istore_n dX8_isSafe_53 rfl (by decide) rfl ?_
          refine ev_iinc dX8_isSafe_54 rfl rfl (by decide) rfl ?_
          refine ev_goto (tgt := 10) dX8_isSafe_57 (by decide) ?_
          first
            | (have q := ih (by omega)
               have e1 : bC (Jn f t nr S T a ∧ ∀ i, i < r + 1 → S.testBit i = true → Jn f t nr (andn S (2 ^ i)) T a) = 1 := bC_t ⟨hz.1, fun i hi hs => by
                 by_cases e : i = r
                 · subst e
                   first
                     | exact absurd hs (b2_eq h_29)
                     | exact bC_ne h_45
                 · exact hz.2 i (by omega) hs⟩
               rw [e1] at q
               exact q)
            | (have q := ih (by omega)
               have e1 : bC (Jn f t nr S T a ∧ ∀ i, i < r + 1 → S.testBit i = true → Jn f t nr (andn S (2 ^ i)) T a) = 0 := bC_f (fun z => bC_eq h_45 (z.2 r (by omega) (b2_ne h_29)))
               rw [e1] at q
               exact q)
        · refine ev_aload_n dX8_isSafe_32 rfl ?_
          refine ev_iload_n dX8_isSafe_33 rfl ?_
          refine ev_iconst dX8_isSafe_34 ?_
          refine ev_iload dX8_isSafe_35 rfl ?_
          refine ev_ishl dX8_isSafe_37 ?_
          rw [bshl1 r (by omega)]
          refine ev_iconst dX8_isSafe_38 ?_
          refine ev_ixor dX8_isSafe_39 ?_
          refine ev_iand dX8_isSafe_40 ?_
          rw [band_not S _ (by omega)]
          have hal := andn_lt (n := 12) (2 ^ r) hS
          refine ev_iload_n dX8_isSafe_41 rfl ?_
          refine ev_callVI dX8_isSafe_42 kv_X8_423 (m_areJoined μ σ P n nr nb nl w wt f t hM (andn S (2 ^ r)) T a hal hT ha ha0 ha1) rfl rfl (ci := 8) rfl rfl ⟨by decide, by decide⟩ (Nat.le_of_ble_eq_true rfl) ?_
          refine ev_w (fun hR => ?_)
          refine ev_if_eq (tgt := 52) dX8_isSafe_45 (by decide) (by first | exact hR.1 _ _ | exact hR0.1 _ _ | assumption | exact ⟨by omega, by omega⟩ | exact ⟨by simp [wr_at]; omega, by simp [wr_at]; omega⟩ | exact b2_R _ | exact bC_R _ | exact band_R _ _ | exact bor_R _ _ | exact bshl_R _ _ | exact bshr_R _ _ | exact bxor_R _ _ | exact bs_R (by omega) | decide) (fun h_45 => ?_) (fun h_45 => ?_)
          · refine ev_iconst dX8_isSafe_52 ?_
            refine ev_istore_n dX8_isSafe_53 rfl (by decide) rfl ?_
            refine ev_iinc dX8_isSafe_54 rfl rfl (by decide) rfl ?_
            refine ev_goto (tgt := 10) dX8_isSafe_57 (by decide) ?_
            first
              | (have q := ih (by omega)
                 have e1 : bC (Jn f t nr S T a ∧ ∀ i, i < r + 1 → S.testBit i = true → Jn f t nr (andn S (2 ^ i)) T a) = 1 := bC_t ⟨hz.1, fun i hi hs => by
                   by_cases e : i = r
                   · subst e
                     first
                       | exact absurd hs (b2_eq h_29)
                       | exact bC_ne h_45
                   · exact hz.2 i (by omega) hs⟩
                 rw [e1] at q
                 exact q)
              | (have q := ih (by omega)
                 have e1 : bC (Jn f t nr S T a ∧ ∀ i, i < r + 1 → S.testBit i = true → Jn f t nr (andn S (2 ^ i)) T a) = 0 := bC_f (fun z => bC_eq h_45 (z.2 r (by omega) (b2_ne h_29)))
                 rw [e1] at q
                 exact q)
          · refine ev_iconst dX8_isSafe_48 ?_
            refine ev_goto (tgt := 53) dX8_isSafe_49 (by decide) ?_
            refine ev_istore_n dX8_isSafe_53 rfl (by decide) rfl ?_
            refine ev_iinc dX8_isSafe_54 rfl rfl (by decide) rfl ?_
            refine ev_goto (tgt := 10) dX8_isSafe_57 (by decide) ?_
            first
              | (have q := ih (by omega)
                 have e1 : bC (Jn f t nr S T a ∧ ∀ i, i < r + 1 → S.testBit i = true → Jn f t nr (andn S (2 ^ i)) T a) = 1 := bC_t ⟨hz.1, fun i hi hs => by
                   by_cases e : i = r
                   · subst e
                     first
                       | exact absurd hs (b2_eq h_29)
                       | exact bC_ne h_45
                   · exact hz.2 i (by omega) hs⟩
                 rw [e1] at q
                 exact q)
              | (have q := ih (by omega)
                 have e1 : bC (Jn f t nr S T a ∧ ∀ i, i < r + 1 → S.testBit i = true → Jn f t nr (andn S (2 ^ i)) T a) = 0 := bC_f (fun z => bC_eq h_45 (z.2 r (by omega) (b2_ne h_29)))
                 rw [e1] at q
                 exact q)
  refine ev_aload_n dX8_isSafe_0 rfl ?_
  refine ev_iload_n dX8_isSafe_1 rfl ?_
  refine ev_iload_n dX8_isSafe_2 rfl ?_
  refine ev_callVI dX8_isSafe_3 kv_X8_423 (m_areJoined μ σ P n nr nb nl w wt f t hM S T a hS hT ha ha0 ha1) rfl rfl (ci := 8) rfl rfl ⟨by decide, by decide⟩ (Nat.le_of_ble_eq_true rfl) ?_
  refine ev_w (fun hR => ?_)
  refine ev_istore_n dX8_isSafe_6 rfl (by decide) rfl ?_
  refine ev_iconst dX8_isSafe_7 ?_
  refine ev_istore dX8_isSafe_8 rfl (by decide) rfl ?_
  have q := loop 0 (by omega)
  rw [bC_congr (show (Jn f t nr S T a ∧ ∀ i, i < 0 → S.testBit i = true → Jn f t nr (andn S (2 ^ i)) T a) ↔ Jn f t nr S T a from ⟨fun z => z.1, fun z => ⟨z, fun r hr => by omega⟩⟩)] at q
  exact q
