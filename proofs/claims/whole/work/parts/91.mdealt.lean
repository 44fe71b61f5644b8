/-- a deal's longest round, by the reference's number of it -/
def gG (Rn : Nat → Nat → Int) (nb v nl dv code : Nat) : Int := if nb = 0 then 0 else mxG (fun b s => min (Rn b (andn s dv)) 1000000) nb v code nl nb
def dT (nb v c l : Nat) : Int := if nb = 0 then -1 else if v.testBit l then (dgt nb v c l : Int) else -1
theorem sG_sub {nb v code nl b dv : Nat} (hv : v = lvS nl dv) : andn (sG nb v code nl b) dv = sG nb v code nl b := by
  apply Nat.eq_of_testBit_eq
  intro i
  rw [andn_test]
  unfold sG
  rw [bs_test]
  by_cases hi : i < nl
  · have := lvS_bit (dv := dv) hi
    rw [← hv] at this
    rw [this]
    cases dv.testBit i <;> simp
  · simp [hi]
theorem sG_hand {nb v code nl b : Nat} (hv : v < 2 ^ nl) (hnl : nl ≤ 4) (hb : ∀ l, l < 4 → bin4 (hnd nb v code) l = if v.testBit l then dgt nb v code l else 0) : handS (hnd nb v code) v b = sG nb v code nl b := by
  apply Nat.eq_of_testBit_eq
  intro i
  unfold handS sG
  rw [bs_test, bs_test]
  by_cases h4 : i < 4
  · by_cases hi : i < nl
    · rw [hb i h4]
      cases q : v.testBit i <;> simp [h4, hi]
    · have : v.testBit i = false := Nat.testBit_lt_two_pow (Nat.lt_of_lt_of_le hv (Nat.pow_le_pow_right (by decide) (by omega)))
      simp [this]
  · have : ¬ i < nl := by omega
    simp [h4, this]
theorem mxG_min {Rn : Nat → Nat → Int} {nb v nl dv code : Nat} (hvl : v = lvS nl dv) (hnl : nl ≤ 4) (hb : ∀ l, l < 4 → bin4 (hnd nb v code) l = if v.testBit l then dgt nb v code l else 0) : ∀ b, mxG (fun b s => min (Rn b (andn s dv)) 1000000) nb v code nl b = min (mxZ Rn (hnd nb v code) v b) 1000000 := by
  intro b
  induction b with
  | zero => rw [mxG, mxZ]; decide
  | succ b ih =>
    rw [mxG, mxZ, ih, sG_sub hvl, sG_hand (by rw [hvl]; exact lvS_lt) hnl hb]
    omega
/-- the two ways to deal come to the same -/
theorem dealt_eq {Rn : Nat → Nat → Int} {nb nl dv : Nat} (hnb : nb ≤ 4) (hnl : nl ≤ 4) (hRn : ∀ b s, b < nb → s < 2 ^ nl → 0 ≤ Rn b s) :
    (dlR (gG Rn nb (lvS nl dv) nl dv) (cds nb (lvS nl dv) 4)).1 = (dlR (handZ Rn nb (lvS nl dv)) 256).1 ∧
    ((dlR (gG Rn nb (lvS nl dv) nl dv) (cds nb (lvS nl dv) 4)).1 < 1000000 → ∀ l, l < nl → dT nb (lvS nl dv) (dlR (gG Rn nb (lvS nl dv) nl dv) (cds nb (lvS nl dv) 4)).2.toNat l = (if (dlR (handZ Rn nb (lvS nl dv)) 256).2 = -1 ∨ ¬ (lvS nl dv).testBit l = true then (-1 : Int) else ((bin4 (dlR (handZ Rn nb (lvS nl dv)) 256).2.toNat l : Nat) : Int))) ∧
    (¬ (dlR (handZ Rn nb (lvS nl dv)) 256).1 < 1000000 → (dlR (handZ Rn nb (lvS nl dv)) 256).2 = -1) := by
  have hv16 : lvS nl dv < 16 := Nat.lt_of_lt_of_le lvS_lt (Nat.pow_le_pow_right (by decide) hnl)
  have third : ¬ (dlR (handZ Rn nb (lvS nl dv)) 256).1 < 1000000 → (dlR (handZ Rn nb (lvS nl dv)) 256).2 = -1 := by
    intro h
    rcases dlR_char (handZ Rn nb (lvS nl dv)) 256 with ⟨-, f2, -⟩ | ⟨h9, -, h2, -, h4, -⟩
    · exact f2
    · rw [h2] at h; exact absurd h4 h
  by_cases n0 : nb = 0
  · subst n0
    by_cases v0 : lvS nl dv = 0
    · rw [v0] at *
      have c1 : cds 0 0 4 = 1 := by decide
      have e1 : dlR (gG Rn 0 0 nl dv) 1 = (0, 0) := by
        have : gG Rn 0 0 nl dv 0 = 0 := by unfold gG; rw [if_pos rfl]
        rw [dlR, dlR, this]
        rfl
      have e2 : dlR (handZ Rn 0 0) 256 = (0, 0) := by
        have g : ∀ h, 0 ≤ handZ Rn 0 0 h := by
          intro h
          unfold handZ
          split
          · exact Int.le_refl _
          · decide
        have b0 : ∀ m, dlR (handZ Rn 0 0) (m + 1) = (0, 0) := by
          intro m
          induction m with
          | zero =>
            have : handZ Rn 0 0 0 = 0 := by
              unfold handZ
              rw [if_pos (by decide)]
              rfl
            rw [dlR, dlR, this]
            rfl
          | succ m ih =>
            have gm := g (m + 1)
            rw [dlR, ih, if_neg (by show ¬ handZ Rn 0 0 (m + 1) < 0; omega)]
        exact b0 255
      rw [c1, e1, e2]
      refine ⟨rfl, fun _ l hl => ?_, fun h => absurd h (by decide)⟩
      unfold dT
      rw [if_pos rfl, if_pos (Or.inr (by simp))]
    · have c0 : ∀ v, v < 16 → v ≠ 0 → cds 0 v 4 = 0 := by decide
      rw [c0 _ hv16 v0]
      have bad : ∀ v, v < 16 → v ≠ 0 → ∀ h, h < 256 → isBad h 0 v = 1 := by
        have : ∀ v, v < 16 → 1 ≤ v → ∀ h, h < 256 → isBad h 0 v = 1 := by decide +kernel
        intro v hv hne
        exact this v hv (by omega)
      have e2 : (dlR (handZ Rn 0 (lvS nl dv)) 256).1 = 1000000 := by
        rcases dlR_char (handZ Rn 0 (lvS nl dv)) 256 with ⟨f1, -, -⟩ | ⟨h9, h1, h2, -, h4, -⟩
        · exact f1
        · have b9 := bad _ hv16 v0 h9 h1
          unfold handZ at h4
          rw [if_neg (fun q => by rw [bad_0.mpr q] at b9; omega)] at h4
          omega
      refine ⟨by rw [e2]; rfl, fun h => ?_, third⟩
      exact absurd h (by show ¬ (1000000 : Int) < 1000000; decide)
  · have n1 : 1 ≤ nb := by omega
    have hk := dl_eq (F := handZ Rn nb (lvS nl dv)) (G := gG Rn nb (lvS nl dv) nl dv) (φ := hnd nb (lvS nl dv)) (M := cds nb (lvS nl dv) 4) (N := 256)
      (fun c hc => (hnd_ok (by omega) n1 hv16 hc).1) (hnd_mono (by omega) n1 hv16) (fun c hc => by
        obtain ⟨o1, o2, o3⟩ := hnd_ok (by omega) n1 hv16 hc
        unfold gG handZ
        rw [if_neg n0, if_pos o2]
        exact mxG_min rfl hnl o3 nb) (fun h hh hf => by
        have nb9 : anyB (badL h nb (lvS nl dv)) 4 = false := by
          cases q : anyB (badL h nb (lvS nl dv)) 4 with
          | false => rfl
          | true =>
            unfold handZ at hf
            rw [if_neg (by rw [q]; decide)] at hf
            omega
        obtain ⟨k1, k2⟩ := cod_ok (by omega) n1 hv16 hh (bad_0.mpr nb9)
        exact ⟨_, k1, k2⟩)
    refine ⟨hk.1, fun hfin l hl => ?_, third⟩
    rcases hk.2 with ⟨q1, q2⟩ | ⟨c, c1, c2, c3⟩
    · rcases dlR_char (gG Rn nb (lvS nl dv) nl dv) (cds nb (lvS nl dv) 4) with ⟨g1, -, -⟩ | ⟨h9, -, -, h3, -⟩
      · rw [g1] at hfin; omega
      · rw [q1] at h3; omega
    · obtain ⟨o1, o2, o3⟩ := hnd_ok (by omega) n1 hv16 c1
      rw [c2, c3, show ((c : Int)).toNat = c from rfl, show ((hnd nb (lvS nl dv) c : Int)).toNat = hnd nb (lvS nl dv) c from rfl, o3 l (by omega)]
      unfold dT
      rw [if_neg n0]
      by_cases q : (lvS nl dv).testBit l = true
      · rw [if_pos q, if_neg (fun y => by rcases y with y | y; omega; exact y q), if_pos q]
      · rw [if_neg q, if_pos (Or.inr q)]
set_option maxHeartbeats 4000000 in
theorem m_findDealt (μ σ : Mem) (P n nr nb nl mb w wt dv : Nat) (f t : Nat → Nat) (hMO : MOk μ σ P n nr nb nl mb w wt dv f t) (hRo : RoundOk σ n nb nl) : Con yX8_findDealt cX8_findDealt 6 (some .int) 5 124 [.ref 79] μ (AnsIP (dlR (gG (rndC σ P n nr nl w wt f t) nb (lvS nl dv) nl dv) (cds nb (lvS nl dv) 4)).1 (fun ν => Same sDl μ ν ∧ ((dlR (gG (rndC σ P n nr nl w wt f t) nb (lvS nl dv) nl dv) (cds nb (lvS nl dv) 4)).2 ≠ -1 → ∀ l : Nat, l < nl → ν.1 126 l = dT nb (lvS nl dv) (dlR (gG (rndC σ P n nr nl w wt f t) nb (lvS nl dv) nl dv) (cds nb (lvS nl dv) 4)).2.toNat l))) := by
  refine con_of (by decide) rfl (Nat.le_of_ble_eq_true rfl) (ok_IP rfl) ?_
  refine ev_w (fun hR => ?_)
  have hR0 := hR
  have hM := hMO.rp
  obtain ⟨hPO, hMP, hwc⟩ := id hM
  obtain ⟨hPR, ⟨hnb, hnb4⟩, ⟨hnl, hnl4⟩, hpo, hro, hbo, hlo⟩ := id hPO
  obtain ⟨hP, hn, hn8, hnr, hnr12, hft⟩ := id hPR
  obtain ⟨⟨cn, cr, cb, cl⟩, mp, mr, mbo, ml⟩ := id hMP
  have h2l : 2 ^ nl ≤ 2 ^ 4 := Nat.pow_le_pow_right (by decide) hnl4
  have hlv := lvS_lt (nl := nl) (dv := dv)
  have hcdl := cds_le nb (by omega) (lvS nl dv) (Nat.lt_of_lt_of_le hlv h2l)
  have hcdn := cds_nl nl (by omega) nb (by omega) (lvS nl dv) hlv
  have hrR := fun b s (hb : b < nb) (hs : s < 2 ^ nl) => rndC_R (w := w) (wt := wt) hPO hRo hb (Nat.lt_of_le_of_lt (andn_le s dv) hs)

  have hvb : ∀ l, l < nl → (lvS nl dv).testBit l = !dv.testBit l := fun l hl => lvS_bit hl
  generalize hv9 : lvS nl dv = v at *
  generalize hRN : rndC σ P n nr nl w wt f t = Rn at *
  generalize hGG : gG Rn nb v nl dv = G at *
  have hG : ∀ code, G code = if nb = 0 then 0 else mxG (fun b s => min (Rn b (andn s dv)) 1000000) nb v code nl nb := fun code => by rw [← hGG]; rfl
  have codes : ∀ c : Nat, c ≤ cds nb v 4 → ∀ ν, Same sDl μ ν → (∀ b s : Nat, b < nb → s < 2 ^ nl → ν.1 125 (16 * (b : Int) + s) = min (Rn b (andn s dv)) 1000000) → ((dlR G c).2 ≠ -1 → ∀ l : Nat, l < nl → ν.1 126 l = dT nb v (dlR G c).2.toNat l) → ∀ x4 x5, Ev RX8 cX8_findDealt 6 5 124 (AnsIP (dlR G (cds nb v 4)).1 (fun ν => Same sDl μ ν ∧ ((dlR G (cds nb v 4)).2 ≠ -1 → ∀ l : Nat, l < nl → ν.1 126 l = dT nb v (dlR G (cds nb v 4)).2.toNat l))) 95 [some (.ref 79), some (.int (iI (cds nb v 4 : Nat))), some (.int (iI (dlR G c).1)), some (.int (iI (c : Nat))), x4, x5] [] ν := by
    refine for_up (cds nb v 4) (fun c hc ih => ?_)
    intro ν hS hT hD x4 x5
    refine ev_w (fun hR => ?_)
    have hc4 := hcdl 4 (by decide)
    have hm1 := hMO.dl hS
    have hcb : ν.1 79 9 = nb := hm1.2.2.1.1.2.2.1
    have hdR := dlR_R (F := G) (fun i => by
      rw [hG]
      split
      · exact Int.le_refl _
      · have : ∀ b, b ≤ nb → 0 ≤ mxG (fun b s => min (Rn b (andn s dv)) 1000000) nb v i nl b := by
          intro b
          induction b with
          | zero => intro _; rw [mxG]; exact Int.le_refl _
          | succ b ihb => intro hb; have := ihb (by omega); rw [mxG]; omega
        exact this nb (Nat.le_refl _)) c
    have hGR : 0 ≤ G c ∧ G c ≤ 1000000 := by
      rw [hG]
      split
      · exact ⟨Int.le_refl _, by decide⟩
      · have : ∀ b, b ≤ nb → 0 ≤ mxG (fun b s => min (Rn b (andn s dv)) 1000000) nb v c nl b ∧ mxG (fun b s => min (Rn b (andn s dv)) 1000000) nb v c nl b ≤ 1000000 := by
          intro b
          induction b with
          | zero => intro _; rw [mxG]; exact ⟨Int.le_refl _, by decide⟩
          | succ b ihb =>
            intro hb
            have i := ihb (by omega)
            have r := hrR b (sG nb v c nl b) (by omega) (bs_lt _ _)
            rw [mxG]
            omega
        exact this nb (Nat.le_refl _)
    have hsu : dlR G (c + 1) = if G c < (dlR G c).1 then (G c, (c : Int)) else dlR G c := rfl
    refine ev_iload_n dX8_findDealt_95 rfl ?_
    refine ev_iload_n dX8_findDealt_96 rfl ?_
    refine ev_icmp_ge (tgt := 173) dX8_findDealt_97 (by decide) (by first | exact hR.1 _ _ | exact hR0.1 _ _ | assumption | exact ⟨by omega, by omega⟩ | exact ⟨by simp [wr_at]; omega, by simp [wr_at]; omega⟩ | exact b2_R _ | exact bC_R _ | exact band_R _ _ | exact bor_R _ _ | exact bshl_R _ _ | exact bshr_R _ _ | exact bxor_R _ _ | exact bs_R (by omega) | decide) (by first | exact hR.1 _ _ | exact hR0.1 _ _ | assumption | exact ⟨by omega, by omega⟩ | exact ⟨by simp [wr_at]; omega, by simp [wr_at]; omega⟩ | exact b2_R _ | exact bC_R _ | exact band_R _ _ | exact bor_R _ _ | exact bshl_R _ _ | exact bshr_R _ _ | exact bxor_R _ _ | exact bs_R (by omega) | decide) (fun h_97 => ?_) (fun h_97 => ?_)
    · refine ev_iload_n dX8_findDealt_173 rfl ?_
      refine ev_ireturn dX8_findDealt_174 ?_
      obtain rfl : c = cds nb v 4 := by omega
      exact ⟨rfl, hS, hD⟩
    · have aft : ∀ ν1, Same sDl μ ν1 → (∀ b s : Nat, b < nb → s < 2 ^ nl → ν1.1 125 (16 * (b : Int) + s) = min (Rn b (andn s dv)) 1000000) → ((dlR G c).2 ≠ -1 → ∀ l : Nat, l < nl → ν1.1 126 l = dT nb v (dlR G c).2.toNat l) → (nb ≠ 0 → ∀ l : Nat, l < nl → ν1.1 127 l = (if v.testBit l then (dgt nb v c l : Int) else -1)) → ∀ x5, Ev RX8 cX8_findDealt 6 5 124 (AnsIP (dlR G (cds nb v 4)).1 (fun ν => Same sDl μ ν ∧ ((dlR G (cds nb v 4)).2 ≠ -1 → ∀ l : Nat, l < nl → ν.1 126 l = dT nb v (dlR G (cds nb v 4)).2.toNat l))) 118 [some (.ref 79), some (.int (iI (cds nb v 4 : Nat))), some (.int (iI (dlR G c).1)), some (.int (iI (c : Nat))), some (.int (iI (G c))), x5] [] ν1 := by
        intro ν1 hS1 hT1 hD1 hd1 x5
        refine ev_w (fun hR => ?_)
        have hcb1 : ν1.1 79 9 = nb := (hMO.dl hS1).2.2.1.1.2.2.1
        refine ev_iload dX8_findDealt_118 rfl ?_
        refine ev_iload_n dX8_findDealt_120 rfl ?_
        refine ev_icmp_ge (tgt := 167) dX8_findDealt_121 (by decide) (by first | exact hR.1 _ _ | exact hR0.1 _ _ | assumption | exact ⟨by omega, by omega⟩ | exact ⟨by simp [wr_at]; omega, by simp [wr_at]; omega⟩ | exact b2_R _ | exact bC_R _ | exact band_R _ _ | exact bor_R _ _ | exact bshl_R _ _ | exact bshr_R _ _ | exact bxor_R _ _ | exact bs_R (by omega) | decide) (by first | exact hR.1 _ _ | exact hR0.1 _ _ | assumption | exact ⟨by omega, by omega⟩ | exact ⟨by simp [wr_at]; omega, by simp [wr_at]; omega⟩ | exact b2_R _ | exact bC_R _ | exact band_R _ _ | exact bor_R _ _ | exact bshl_R _ _ | exact bshr_R _ _ | exact bxor_R _ _ | exact bs_R (by omega) | decide) (fun h_121 => ?_) (fun h_121 => ?_)
        · refine ev_iinc dX8_findDealt_167 rfl rfl (by decide) rfl ?_
          refine ev_goto (tgt := 95) dX8_findDealt_170 (by decide) ?_
          have hn9 : ¬ G c < (dlR G c).1 := by omega
          have q := ih (by omega) ν1 hS1 hT1 (by rw [hsu, if_neg hn9]; exact hD1) (some (.int (iI (G c)))) x5
          rw [hsu, if_neg hn9] at q
          exact q
        · have h_121' : G c < (dlR G c).1 := by omega
          have row : ∀ l : Nat, l ≤ 4 → ∀ ν2, Same (fun c => c = 126) ν1 ν2 → (∀ k : Nat, k < l → k < nl → ν2.1 126 k = dT nb v c k) → Ev RX8 cX8_findDealt 6 5 124 (AnsIP (dlR G (cds nb v 4)).1 (fun ν => Same sDl μ ν ∧ ((dlR G (cds nb v 4)).2 ≠ -1 → ∀ l : Nat, l < nl → ν.1 126 l = dT nb v (dlR G (cds nb v 4)).2.toNat l))) 130 [some (.ref 79), some (.int (iI (cds nb v 4 : Nat))), some (.int (iI (G c))), some (.int (iI (c : Nat))), some (.int (iI (G c))), some (.int (iI (l : Nat)))] [] ν2 := by
            refine for_up 4 (fun l hl ihl => ?_)
            intro ν2 hS2 hd2
            refine ev_w (fun hR => ?_)
            have hcb2 : ν2.1 79 9 = nb := by rw [hS2.at (by decide)]; exact hcb1
            refine ev_iload dX8_findDealt_130 rfl ?_
            refine ev_iconst dX8_findDealt_132 ?_
            refine ev_icmp_ge (tgt := 167) dX8_findDealt_133 (by decide) (by first | exact hR.1 _ _ | exact hR0.1 _ _ | assumption | exact ⟨by omega, by omega⟩ | exact ⟨by simp [wr_at]; omega, by simp [wr_at]; omega⟩ | exact b2_R _ | exact bC_R _ | exact band_R _ _ | exact bor_R _ _ | exact bshl_R _ _ | exact bshr_R _ _ | exact bxor_R _ _ | exact bs_R (by omega) | decide) (by first | exact hR.1 _ _ | exact hR0.1 _ _ | assumption | exact ⟨by omega, by omega⟩ | exact ⟨by simp [wr_at]; omega, by simp [wr_at]; omega⟩ | exact b2_R _ | exact bC_R _ | exact band_R _ _ | exact bor_R _ _ | exact bshl_R _ _ | exact bshr_R _ _ | exact bxor_R _ _ | exact bs_R (by omega) | decide) (fun h_133 => ?_) (fun h_133 => ?_)
            · refine ev_iinc dX8_findDealt_167 rfl rfl (by decide) rfl ?_
              refine ev_goto (tgt := 95) dX8_findDealt_170 (by decide) ?_
              obtain rfl : l = 4 := by omega
              have q := ih (by omega) ν2 (hS1.tr (hS2.mono (fun c9 h9 => by unfold sDl; omega))) (fun b s hb hs => by rw [hS2.at (by decide)]; exact hT1 b s hb hs) (by
                rw [hsu, if_pos h_121']
                intro _ k hk
                exact hd2 k (by omega) hk) (some (.int (iI (G c)))) (some (.int (iI 4)))
              rw [hsu, if_pos h_121'] at q
              exact q
            · refine ev_aload_n dX8_findDealt_136 rfl ?_
              refine ev_getR (r := 126) dX8_findDealt_137 fl_X8_153 rfl rfl rfl ?_
              refine ev_iload dX8_findDealt_140 rfl ?_
              refine ev_aload_n dX8_findDealt_142 rfl ?_
              refine ev_getI (kz := 9) dX8_findDealt_143 fl_X8_187 rfl rfl rfl ?_
              rw [hcb2]
              refine ev_if_ne (tgt := 153) dX8_findDealt_146 (by decide) (by first | exact hR.1 _ _ | exact hR0.1 _ _ | assumption | exact ⟨by omega, by omega⟩ | exact ⟨by simp [wr_at]; omega, by simp [wr_at]; omega⟩ | exact b2_R _ | exact bC_R _ | exact band_R _ _ | exact bor_R _ _ | exact bshl_R _ _ | exact bshr_R _ _ | exact bxor_R _ _ | exact bs_R (by omega) | decide) (fun h_146 => ?_) (fun h_146 => ?_)
              · refine ev_aload_n dX8_findDealt_153 rfl ?_
                refine ev_getR (r := 127) dX8_findDealt_154 fl_X8_156 rfl rfl rfl ?_
                refine ev_iload dX8_findDealt_157 rfl ?_
                refine ev_iaload dX8_findDealt_159 rfl (by first | omega | (simp [wr_at]; omega) | (simp [wr_at, *]; omega)) (by first | omega | (simp [wr_at]; omega) | (simp [wr_at, *]; omega)) (by decide) ?_
                refine ev_iastore dX8_findDealt_160 rfl (by first | omega | (simp [wr_at]; omega) | (simp [wr_at, *]; omega)) (by first | omega | (simp [wr_at]; omega) | (simp [wr_at, *]; omega)) (by decide) (by first | exact hR.1 _ _ | exact hR0.1 _ _ | assumption | exact ⟨by omega, by omega⟩ | exact ⟨by simp [wr_at]; omega, by simp [wr_at]; omega⟩ | exact b2_R _ | exact bC_R _ | exact band_R _ _ | exact bor_R _ _ | exact bshl_R _ _ | exact bshr_R _ _ | exact bxor_R _ _ | exact bs_R (by omega) | decide) ?_
                refine ev_w (fun hR => ?_)
                refine ev_iinc dX8_findDealt_161 rfl rfl (by decide) rfl ?_
                refine ev_goto (tgt := 130) dX8_findDealt_164 (by decide) ?_
                refine ihl (by omega) _ (hS2.wr rfl) (fun k h1 h2 => ?_)
                rw [wr_at]
                by_cases e : k = l
                · subst e
                  rw [if_pos ⟨rfl, rfl⟩]
                  unfold dT
                  first
                    | (rw [if_pos (by omega)])
                    | (rw [if_neg (by omega), hS2.at (by decide), hd1 (by omega) k h2])
                · rw [if_neg (by omega)]; exact hd2 k (by omega) h2
              · refine ev_iconst dX8_findDealt_149 ?_
                refine ev_goto (tgt := 160) dX8_findDealt_150 (by decide) ?_
                refine ev_iastore dX8_findDealt_160 rfl (by first | omega | (simp [wr_at]; omega) | (simp [wr_at, *]; omega)) (by first | omega | (simp [wr_at]; omega) | (simp [wr_at, *]; omega)) (by decide) (by first | exact hR.1 _ _ | exact hR0.1 _ _ | assumption | exact ⟨by omega, by omega⟩ | exact ⟨by simp [wr_at]; omega, by simp [wr_at]; omega⟩ | exact b2_R _ | exact bC_R _ | exact band_R _ _ | exact bor_R _ _ | exact bshl_R _ _ | exact bshr_R _ _ | exact bxor_R _ _ | exact bs_R (by omega) | decide) ?_
                refine ev_w (fun hR => ?_)
                refine ev_iinc dX8_findDealt_161 rfl rfl (by decide) rfl ?_
                refine ev_goto (tgt := 130) dX8_findDealt_164 (by decide) ?_
                refine ihl (by omega) _ (hS2.wr rfl) (fun k h1 h2 => ?_)
                rw [wr_at]
                by_cases e : k = l
                · subst e
                  rw [if_pos ⟨rfl, rfl⟩]
                  unfold dT
                  first
                    | (rw [if_pos (by omega)])
                    | (rw [if_neg (by omega), hS2.at (by decide), hd1 (by omega) k h2])
                · rw [if_neg (by omega)]; exact hd2 k (by omega) h2
          refine ev_iload dX8_findDealt_124 rfl ?_
          refine ev_istore_n dX8_findDealt_126 rfl (by decide) rfl ?_
          refine ev_iconst dX8_findDealt_127 ?_
          refine ev_istore dX8_findDealt_128 rfl (by decide) rfl ?_
          exact row 0 (by omega) ν1 Same.rf (fun k h1 => by omega)
      refine ev_aload_n dX8_findDealt_100 rfl ?_
      refine ev_getI (kz := 9) dX8_findDealt_101 fl_X8_187 rfl rfl rfl ?_
      rw [hcb]
      refine ev_if_ne (tgt := 111) dX8_findDealt_104 (by decide) (by first | exact hR.1 _ _ | exact hR0.1 _ _ | assumption | exact ⟨by omega, by omega⟩ | exact ⟨by simp [wr_at]; omega, by simp [wr_at]; omega⟩ | exact b2_R _ | exact bC_R _ | exact band_R _ _ | exact bor_R _ _ | exact bshl_R _ _ | exact bshr_R _ _ | exact bxor_R _ _ | exact bs_R (by omega) | decide) (fun h_104 => ?_) (fun h_104 => ?_)
      · have hnb1 : 1 ≤ nb := by omega
        refine ev_aload_n dX8_findDealt_111 rfl ?_
        refine ev_iload_n dX8_findDealt_112 rfl ?_
        refine ev_callVP dX8_findDealt_113 kv_X8_417 (m_longestBy ν σ P n nr nb nl mb w wt dv f t hm1 (fun b s => min (Rn b (andn s dv)) 1000000) (fun b s hb hs => ⟨hT b s hb hs, by have := hrR b s hb hs; omega, by omega⟩) hnb1 c (by omega)) rfl rfl (ci := 8) rfl rfl ⟨by decide, by decide⟩ (Nat.le_of_ble_eq_true rfl) ?_
        rintro v_113 τ_113 ⟨rfl, hq_113⟩
        refine ev_w (fun hR => ?_)
        refine ev_istore dX8_findDealt_116 rfl (by decide) rfl ?_
        first
          | (rw [show (0 : Int) = G c from by rw [hG, if_pos (by omega)]]
             exact aft ν hS hT hD (fun y => absurd (by omega) y) x5)
          | (rw [hv9] at hq_113 ⊢
             rw [show mxG (fun b s => min (Rn b (andn s dv)) 1000000) nb v c nl nb = G c from by rw [hG, if_neg (by omega)]]
             exact aft _ (hS.tr (hq_113.1.mono (fun c9 h9 => by unfold sDl; omega))) (fun b s hb hs => by rw [hq_113.1.at (by decide)]; exact hT b s hb hs) (fun y l hl => by rw [hq_113.1.at (by decide)]; exact hD y l hl) (fun _ => hq_113.2) x5)
      · refine ev_iconst dX8_findDealt_107 ?_
        refine ev_goto (tgt := 116) dX8_findDealt_108 (by decide) ?_
        refine ev_istore dX8_findDealt_116 rfl (by decide) rfl ?_
        first
          | (rw [show (0 : Int) = G c from by rw [hG, if_pos (by omega)]]
             exact aft ν hS hT hD (fun y => absurd (by omega) y) x5)
          | (rw [hv9] at hq_113 ⊢
             rw [show mxG (fun b s => min (Rn b (andn s dv)) 1000000) nb v c nl nb = G c from by rw [hG, if_neg (by omega)]]
             exact aft _ (hS.tr (hq_113.1.mono (fun c9 h9 => by unfold sDl; omega))) (fun b s hb hs => by rw [hq_113.1.at (by decide)]; exact hT b s hb hs) (fun y l hl => by rw [hq_113.1.at (by decide)]; exact hD y l hl) (fun _ => hq_113.2) x5)
  have tab : ∀ b : Nat, b ≤ nb → ∀ ν, Same sDl μ ν → (∀ b9 s : Nat, b9 < b → s < 2 ^ nl → ν.1 125 (16 * (b9 : Int) + s) = min (Rn b9 (andn s dv)) 1000000) → ∀ x3 x4 x5, Ev RX8 cX8_findDealt 6 5 124 (AnsIP (dlR G (cds nb v 4)).1 (fun ν => Same sDl μ ν ∧ ((dlR G (cds nb v 4)).2 ≠ -1 → ∀ l : Nat, l < nl → ν.1 126 l = dT nb v (dlR G (cds nb v 4)).2.toNat l))) 40 [some (.ref 79), some (.int (iI (cds nb v 4 : Nat))), some (.int (iI (b : Nat))), x3, x4, x5] [] ν := by
    refine for_up nb (fun b hb ih => ?_)
    intro ν hS hT x3 x4 x5
    refine ev_w (fun hR => ?_)
    have hcb : ν.1 79 9 = nb := (hMO.dl hS).2.2.1.1.2.2.1
    refine ev_iload_n dX8_findDealt_40 rfl ?_
    refine ev_aload_n dX8_findDealt_41 rfl ?_
    refine ev_getI (kz := 9) dX8_findDealt_42 fl_X8_187 rfl rfl rfl ?_
    rw [hcb]
    refine ev_icmp_ge (tgt := 89) dX8_findDealt_45 (by decide) (by first | exact hR.1 _ _ | exact hR0.1 _ _ | assumption | exact ⟨by omega, by omega⟩ | exact ⟨by simp [wr_at]; omega, by simp [wr_at]; omega⟩ | exact b2_R _ | exact bC_R _ | exact band_R _ _ | exact bor_R _ _ | exact bshl_R _ _ | exact bshr_R _ _ | exact bxor_R _ _ | exact bs_R (by omega) | decide) (by first | exact hR.1 _ _ | exact hR0.1 _ _ | assumption | exact ⟨by omega, by omega⟩ | exact ⟨by simp [wr_at]; omega, by simp [wr_at]; omega⟩ | exact b2_R _ | exact bC_R _ | exact band_R _ _ | exact bor_R _ _ | exact bshl_R _ _ | exact bshr_R _ _ | exact bxor_R _ _ | exact bs_R (by omega) | decide) (fun h_45 => ?_) (fun h_45 => ?_)
    · refine ev_ldcw (z := 1000000) dX8_findDealt_89 kc_X8_388 (by decide) ?_
      refine ev_istore_n dX8_findDealt_92 rfl (by decide) rfl ?_
      refine ev_iconst dX8_findDealt_93 ?_
      refine ev_istore_n dX8_findDealt_94 rfl (by decide) rfl ?_
      obtain rfl : b = nb := by omega
      exact codes 0 (by omega) ν hS hT (fun y => absurd rfl y) _ _
    · have hbn : b < nb := by omega
      have sets : ∀ s : Nat, s ≤ 2 ^ nl → ∀ ν1, Same sDl μ ν1 → (∀ b9 s9 : Nat, (b9 < b ∧ s9 < 2 ^ nl) ∨ (b9 = b ∧ s9 < s) → ν1.1 125 (16 * (b9 : Int) + s9) = min (Rn b9 (andn s9 dv)) 1000000) → Ev RX8 cX8_findDealt 6 5 124 (AnsIP (dlR G (cds nb v 4)).1 (fun ν => Same sDl μ ν ∧ ((dlR G (cds nb v 4)).2 ≠ -1 → ∀ l : Nat, l < nl → ν.1 126 l = dT nb v (dlR G (cds nb v 4)).2.toNat l))) 50 [some (.ref 79), some (.int (iI (cds nb v 4 : Nat))), some (.int (iI (b : Nat))), some (.int (iI (s : Nat))), x4, x5] [] ν1 := by
        refine for_up (2 ^ nl) (fun s hs ihs => ?_)
        intro ν1 hS1 hT1
        refine ev_w (fun hR => ?_)
        have hm2 := hMO.dl hS1
        have hcl1 : ν1.1 79 13 = nl := hm2.2.2.1.1.2.2.2
        refine ev_iload_n dX8_findDealt_50 rfl ?_
        refine ev_iconst dX8_findDealt_51 ?_
        refine ev_aload_n dX8_findDealt_52 rfl ?_
        refine ev_getI (kz := 13) dX8_findDealt_53 fl_X8_190 rfl rfl rfl ?_
        rw [hcl1]
        refine ev_ishl dX8_findDealt_56 ?_
        rw [bshl1 nl (by omega)]
        refine ev_icmp_ge (tgt := 83) dX8_findDealt_57 (by decide) ⟨by omega, by omega⟩ ⟨by omega, by omega⟩ (fun h_57 => ?_) (fun h_57 => ?_)
        · refine ev_iinc dX8_findDealt_83 rfl rfl (by decide) rfl ?_
          refine ev_goto (tgt := 40) dX8_findDealt_86 (by decide) ?_
          obtain rfl : s = 2 ^ nl := by omega
          exact ih (by omega) ν1 hS1 (fun b9 s9 h1 h2 => hT1 b9 s9 (by omega)) _ _ _
        · refine ev_aload_n dX8_findDealt_60 rfl ?_
          refine ev_getR (r := 125) dX8_findDealt_61 fl_X8_150 rfl rfl rfl ?_
          refine ev_bipush dX8_findDealt_64 (by decide) ?_
          refine ev_iload_n dX8_findDealt_66 rfl ?_
          refine ev_imul dX8_findDealt_67 ?_
          refine ev_iload_n dX8_findDealt_68 rfl ?_
          refine ev_iadd dX8_findDealt_69 ?_
          refine ev_aload_n dX8_findDealt_70 rfl ?_
          refine ev_iload_n dX8_findDealt_71 rfl ?_
          refine ev_iload_n dX8_findDealt_72 rfl ?_
          refine ev_callVP dX8_findDealt_73 kv_X8_414 (m_roundOf ν1 σ P n nr nb nl mb w wt dv f t hm2 b s hbn (by omega)) rfl rfl (ci := 8) rfl rfl ⟨by decide, by decide⟩ (Nat.le_of_ble_eq_true rfl) ?_
          rintro v_73 τ_73 ⟨rfl, hq_73⟩
          refine ev_w (fun hR => ?_)
          rw [hRN]
          have hrb := hrR b s hbn (by omega)
          refine ev_iastore dX8_findDealt_76 rfl (by first | omega | (simp [wr_at]; omega) | (simp [wr_at, *]; omega)) (by first | omega | (simp [wr_at]; omega) | (simp [wr_at, *]; omega)) (by decide) (by first | exact hR.1 _ _ | exact hR0.1 _ _ | assumption | exact ⟨by omega, by omega⟩ | exact ⟨by simp [wr_at]; omega, by simp [wr_at]; omega⟩ | exact b2_R _ | exact bC_R _ | exact band_R _ _ | exact bor_R _ _ | exact bshl_R _ _ | exact bshr_R _ _ | exact bxor_R _ _ | exact bs_R (by omega) | decide) ?_
          refine ev_w (fun hR => ?_)
          refine ev_iinc dX8_findDealt_77 rfl rfl (by decide) rfl ?_
          refine ev_goto (tgt := 50) dX8_findDealt_80 (by decide) ?_
          refine ihs (by omega) _ ((hS1.tr (hq_73.mono (fun c9 h9 => by unfold s124 at h9; unfold sDl; omega))).wr (by unfold sDl; decide)) (fun b9 s9 h9 => ?_)
          rw [wr_at]
          by_cases e : b9 = b ∧ s9 = s
          · obtain ⟨rfl, rfl⟩ := e
            rw [if_pos ⟨rfl, rfl⟩]
          · rw [if_neg (by omega), hq_73.at (by unfold s124; decide)]
            exact hT1 b9 s9 (by omega)
      refine ev_iconst dX8_findDealt_48 ?_
      refine ev_istore_n dX8_findDealt_49 rfl (by decide) rfl ?_
      exact sets 0 (by omega) ν hS (fun b9 s9 h9 => hT b9 s9 (by omega) (by omega))
  have cnt9 : ∀ l : Nat, l ≤ nl → ∀ x3 x4 x5, Ev RX8 cX8_findDealt 6 5 124 (AnsIP (dlR G (cds nb v 4)).1 (fun ν => Same sDl μ ν ∧ ((dlR G (cds nb v 4)).2 ≠ -1 → ∀ l : Nat, l < nl → ν.1 126 l = dT nb v (dlR G (cds nb v 4)).2.toNat l))) 4 [some (.ref 79), some (.int (iI (cds nb v l : Nat))), some (.int (iI (l : Nat))), x3, x4, x5] [] μ := by
    refine for_up nl (fun l hl ih => ?_)
    intro x3 x4 x5
    refine ev_w (fun hR => ?_)
    have hcR := hcdl l (by omega)
    have hsu : cds nb v (l + 1) = cds nb v l * (if v.testBit l then nb else 1) := rfl
    refine ev_iload_n dX8_findDealt_4 rfl ?_
    refine ev_aload_n dX8_findDealt_5 rfl ?_
    refine ev_getI (kz := 13) dX8_findDealt_6 fl_X8_190 rfl rfl rfl ?_
    rw [cl]
    refine ev_icmp_ge (tgt := 38) dX8_findDealt_9 (by decide) (by first | exact hR.1 _ _ | exact hR0.1 _ _ | assumption | exact ⟨by omega, by omega⟩ | exact ⟨by simp [wr_at]; omega, by simp [wr_at]; omega⟩ | exact b2_R _ | exact bC_R _ | exact band_R _ _ | exact bor_R _ _ | exact bshl_R _ _ | exact bshr_R _ _ | exact bxor_R _ _ | exact bs_R (by omega) | decide) (by first | exact hR.1 _ _ | exact hR0.1 _ _ | assumption | exact ⟨by omega, by omega⟩ | exact ⟨by simp [wr_at]; omega, by simp [wr_at]; omega⟩ | exact b2_R _ | exact bC_R _ | exact band_R _ _ | exact bor_R _ _ | exact bshl_R _ _ | exact bshr_R _ _ | exact bxor_R _ _ | exact bs_R (by omega) | decide) (fun h_9 => ?_) (fun h_9 => ?_)
    · refine ev_iconst dX8_findDealt_38 ?_
      refine ev_istore_n dX8_findDealt_39 rfl (by decide) rfl ?_
      obtain rfl : l = nl := by omega
      rw [hcdn]
      exact tab 0 (by omega) μ Same.rf (fun b9 s h1 => by omega) _ _ _
    · have hln : l < nl := by omega
      have edn : μ.1 104 (l : Int) = b2 (dv.testBit l = true) := hMO.dn hln
      have hvl := hvb l hln
      refine ev_iload_n dX8_findDealt_12 rfl ?_
      refine ev_aload_n dX8_findDealt_13 rfl ?_
      refine ev_getR (r := 104) dX8_findDealt_14 fl_X8_83 rfl rfl rfl ?_
      refine ev_iload_n dX8_findDealt_17 rfl ?_
      refine ev_zaload dX8_findDealt_18 rfl (by first | omega | (simp [wr_at]; omega) | (simp [wr_at, *]; omega)) (by first | omega | (simp [wr_at]; omega) | (simp [wr_at, *]; omega)) (by decide) ?_
      rw [edn]
      refine ev_if_eq (tgt := 26) dX8_findDealt_19 (by decide) (by first | exact hR.1 _ _ | exact hR0.1 _ _ | assumption | exact ⟨by omega, by omega⟩ | exact ⟨by simp [wr_at]; omega, by simp [wr_at]; omega⟩ | exact b2_R _ | exact bC_R _ | exact band_R _ _ | exact bor_R _ _ | exact bshl_R _ _ | exact bshr_R _ _ | exact bxor_R _ _ | exact bs_R (by omega) | decide) (fun h_19 => ?_) (fun h_19 => ?_)
      · refine ev_aload_n dX8_findDealt_26 rfl ?_
        refine ev_getI (kz := 9) dX8_findDealt_27 fl_X8_187 rfl rfl rfl ?_
        try rw [cb]
        refine ev_imul dX8_findDealt_30 ?_
        refine ev_istore_n dX8_findDealt_31 rfl (by decide) rfl ?_
        refine ev_iinc dX8_findDealt_32 rfl rfl (by decide) rfl ?_
        refine ev_goto (tgt := 4) dX8_findDealt_35 (by decide) ?_
        have q := ih (by omega) x3 x4 x5
        rw [hsu] at q
        first
          | (have y := b2_ne h_19
             rw [if_neg (by rw [hvl, y]; decide)] at q
             rw [show ((cds nb v l : Nat) : Int) * 1 = ((cds nb v l * 1 : Nat) : Int) by omega]
             exact q)
          | (have y := b2_eq h_19
             rw [if_pos (by rw [hvl]; simp [y])] at q
             rw [show ((cds nb v l : Nat) : Int) * (nb : Int) = ((cds nb v l * nb : Nat) : Int) from (Int.natCast_mul _ _).symm]
             exact q)
      · refine ev_iconst dX8_findDealt_22 ?_
        refine ev_goto (tgt := 30) dX8_findDealt_23 (by decide) ?_
        try rw [cb]
        refine ev_imul dX8_findDealt_30 ?_
        refine ev_istore_n dX8_findDealt_31 rfl (by decide) rfl ?_
        refine ev_iinc dX8_findDealt_32 rfl rfl (by decide) rfl ?_
        refine ev_goto (tgt := 4) dX8_findDealt_35 (by decide) ?_
        have q := ih (by omega) x3 x4 x5
        rw [hsu] at q
        first
          | (have y := b2_ne h_19
             rw [if_neg (by rw [hvl, y]; decide)] at q
             rw [show ((cds nb v l : Nat) : Int) * 1 = ((cds nb v l * 1 : Nat) : Int) by omega]
             exact q)
          | (have y := b2_eq h_19
             rw [if_pos (by rw [hvl]; simp [y])] at q
             rw [show ((cds nb v l : Nat) : Int) * (nb : Int) = ((cds nb v l * nb : Nat) : Int) from (Int.natCast_mul _ _).symm]
             exact q)
  refine ev_iconst dX8_findDealt_0 ?_
  refine ev_istore_n dX8_findDealt_1 rfl (by decide) rfl ?_
  refine ev_iconst dX8_findDealt_2 ?_
  refine ev_istore_n dX8_findDealt_3 rfl (by decide) rfl ?_
  exact cnt9 0 (by omega) _ _ _
theorem m_dealt (μ σ : Mem) (P n nr nb nl mb w wt dv : Nat) (f t : Nat → Nat) (hMO : MOk μ σ P n nr nb nl mb w wt dv f t) (hRo : RoundOk σ n nb nl) (x : Int) (hx : inR x) : Con yX8_dealt cX8_dealt 3 (some .int) 6 149 [.ref 79, .int (iI x)] μ (AnsIP (dealtZ nl (lvS nl dv) (dlR (handZ (rndC σ P n nr nl w wt f t) nb (lvS nl dv)) 256) x) (fun ν => Same sDl μ ν)) := by
  refine con_of (by decide) rfl (Nat.le_of_ble_eq_true rfl) (ok_IP rfl) ?_
  refine ev_w (fun hR => ?_)
  have hR0 := hR
  have hM := hMO.rp
  obtain ⟨hPO, hMP, hwc⟩ := id hM
  obtain ⟨hPR, ⟨hnb, hnb4⟩, ⟨hnl, hnl4⟩, hpo, hro, hbo, hlo⟩ := id hPO
  obtain ⟨hP, hn, hn8, hnr, hnr12, hft⟩ := id hPR
  obtain ⟨⟨cn, cr, cb, cl⟩, mp, mr, mbo, ml⟩ := id hMP
  obtain ⟨hd1, hd2, hd3⟩ := dealt_eq (Rn := rndC σ P n nr nl w wt f t) (dv := dv) hnb4 hnl4 (fun b s hb hs => (rndC_R (w := w) (wt := wt) hPO hRo hb hs).1)
  have hgN : (dlR (gG (rndC σ P n nr nl w wt f t) nb (lvS nl dv) nl dv) (cds nb (lvS nl dv) 4)).1 < 1000000 → (dlR (gG (rndC σ P n nr nl w wt f t) nb (lvS nl dv) nl dv) (cds nb (lvS nl dv) 4)).2 ≠ -1 := by
    intro h
    rcases dlR_char (gG (rndC σ P n nr nl w wt f t) nb (lvS nl dv) nl dv) (cds nb (lvS nl dv) 4) with g | ⟨h9, -, -, g3, -⟩
    · rw [g.1] at h; exact absurd h (by decide)
    · rw [g3]; omega
  have hfd := m_findDealt μ σ P n nr nb nl mb w wt dv f t hMO hRo
  have hR1 : 0 ≤ (dlR (handZ (rndC σ P n nr nl w wt f t) nb (lvS nl dv)) 256).1 ∧ (dlR (handZ (rndC σ P n nr nl w wt f t) nb (lvS nl dv)) 256).1 ≤ 1000000 := by
    refine (dlR_R (F := handZ (rndC σ P n nr nl w wt f t) nb (lvS nl dv)) (fun i => ?_) 256).1
    unfold handZ
    split
    · have : ∀ b, b ≤ nb → 0 ≤ mxZ (rndC σ P n nr nl w wt f t) i (lvS nl dv) b := by
        intro b
        induction b with
        | zero => intro _; rw [mxZ]; exact Int.le_refl _
        | succ b ihb => intro hb; have := ihb (by omega); rw [mxZ]; omega
      exact this nb (Nat.le_refl _)
    · decide
  rw [hd1] at hd2
  generalize hF : dlR (handZ (rndC σ P n nr nl w wt f t) nb (lvS nl dv)) 256 = F at *
  generalize hGd : dlR (gG (rndC σ P n nr nl w wt f t) nb (lvS nl dv) nl dv) (cds nb (lvS nl dv) 4) = Gd at *
  refine ev_iload_n dX8_dealt_0 rfl ?_
  refine ev_iconst dX8_dealt_1 ?_
  refine ev_icmp_eq (tgt := 17) dX8_dealt_2 (by decide) hx (by decide) (fun h_2 => ?_) (fun h_2 => ?_)
  · refine ev_aload_n dX8_dealt_17 rfl ?_
    refine ev_callVP dX8_dealt_18 kv_X8_420 (hfd) rfl rfl (ci := 8) rfl rfl ⟨by decide, by decide⟩ (Nat.le_of_ble_eq_true rfl) ?_
    rintro v_18 τ_18 ⟨rfl, hq_18⟩
    refine ev_w (fun hR => ?_)
    refine ev_istore_n dX8_dealt_21 rfl (by decide) rfl ?_
    rw [hd1]
    refine ev_iload_n dX8_dealt_22 rfl ?_
    refine ev_ldcw (z := 1000000) dX8_dealt_23 kc_X8_388 (by decide) ?_
    refine ev_icmp_lt (tgt := 33) dX8_dealt_26 (by decide) (by first | exact hR.1 _ _ | exact hR0.1 _ _ | assumption | exact ⟨by omega, by omega⟩ | exact ⟨by simp [wr_at]; omega, by simp [wr_at]; omega⟩ | exact b2_R _ | exact bC_R _ | exact band_R _ _ | exact bor_R _ _ | exact bshl_R _ _ | exact bshr_R _ _ | exact bxor_R _ _ | exact bs_R (by omega) | decide) (by first | exact hR.1 _ _ | exact hR0.1 _ _ | assumption | exact ⟨by omega, by omega⟩ | exact ⟨by simp [wr_at]; omega, by simp [wr_at]; omega⟩ | exact b2_R _ | exact bC_R _ | exact band_R _ _ | exact bor_R _ _ | exact bshl_R _ _ | exact bshr_R _ _ | exact bxor_R _ _ | exact bs_R (by omega) | decide) (fun h_26 => ?_) (fun h_26 => ?_)
    · refine ev_iload_n dX8_dealt_33 rfl ?_
      refine ev_iconst dX8_dealt_34 ?_
      refine ev_icmp_ne (tgt := 42) dX8_dealt_35 (by decide) (by first | exact hR.1 _ _ | exact hR0.1 _ _ | assumption | exact ⟨by omega, by omega⟩ | exact ⟨by simp [wr_at]; omega, by simp [wr_at]; omega⟩ | exact b2_R _ | exact bC_R _ | exact band_R _ _ | exact bor_R _ _ | exact bshl_R _ _ | exact bshr_R _ _ | exact bxor_R _ _ | exact bs_R (by omega) | decide) (by first | exact hR.1 _ _ | exact hR0.1 _ _ | assumption | exact ⟨by omega, by omega⟩ | exact ⟨by simp [wr_at]; omega, by simp [wr_at]; omega⟩ | exact b2_R _ | exact bC_R _ | exact band_R _ _ | exact bor_R _ _ | exact bshl_R _ _ | exact bshr_R _ _ | exact bxor_R _ _ | exact bs_R (by omega) | decide) (fun h_35 => ?_) (fun h_35 => ?_)
      · exfalso; omega
      · refine ev_iload_n dX8_dealt_38 rfl ?_
        refine ev_goto (tgt := 48) dX8_dealt_39 (by decide) ?_
        refine ev_ireturn dX8_dealt_48 ?_
        refine ⟨?_, hq_18.1⟩
        unfold dealtZ
        rw [if_neg (fun y => y (Or.inl h_2)), if_pos h_2]
        unfold orN
        first
          | (rw [if_pos (by omega)])
          | (rw [if_neg (by omega)])
    · refine ev_iconst dX8_dealt_29 ?_
      refine ev_goto (tgt := 48) dX8_dealt_30 (by decide) ?_
      refine ev_ireturn dX8_dealt_48 ?_
      refine ⟨?_, hq_18.1⟩
      unfold dealtZ
      rw [if_neg (fun y => y (Or.inl h_2)), if_pos h_2]
      unfold orN
      first
        | (rw [if_pos (by omega)])
        | (rw [if_neg (by omega)])
  · refine ev_aload_n dX8_dealt_5 rfl ?_
    refine ev_iload_n dX8_dealt_6 rfl ?_
    refine ev_callVI dX8_dealt_7 kv_X8_336 (m_isLoad μ x nl (by assumption) cl (by omega)) rfl rfl (ci := 8) rfl rfl ⟨by decide, by decide⟩ (Nat.le_of_ble_eq_true rfl) ?_
    refine ev_w (fun hR => ?_)
    refine ev_if_ne (tgt := 17) dX8_dealt_10 (by decide) (by first | exact hR.1 _ _ | exact hR0.1 _ _ | assumption | exact ⟨by omega, by omega⟩ | exact ⟨by simp [wr_at]; omega, by simp [wr_at]; omega⟩ | exact b2_R _ | exact bC_R _ | exact band_R _ _ | exact bor_R _ _ | exact bshl_R _ _ | exact bshr_R _ _ | exact bxor_R _ _ | exact bs_R (by omega) | decide) (fun h_10 => ?_) (fun h_10 => ?_)
    · have y := b2_ne h_10
      obtain ⟨l, rfl⟩ := Int.eq_ofNat_of_zero_le y.1
      refine ev_aload_n dX8_dealt_17 rfl ?_
      refine ev_callVP dX8_dealt_18 kv_X8_420 (hfd) rfl rfl (ci := 8) rfl rfl ⟨by decide, by decide⟩ (Nat.le_of_ble_eq_true rfl) ?_
      rintro v_18 τ_18 ⟨rfl, hq_18⟩
      refine ev_w (fun hR => ?_)
      refine ev_istore_n dX8_dealt_21 rfl (by decide) rfl ?_
      rw [hd1]
      refine ev_iload_n dX8_dealt_22 rfl ?_
      refine ev_ldcw (z := 1000000) dX8_dealt_23 kc_X8_388 (by decide) ?_
      refine ev_icmp_lt (tgt := 33) dX8_dealt_26 (by decide) (by first | exact hR.1 _ _ | exact hR0.1 _ _ | assumption | exact ⟨by omega, by omega⟩ | exact ⟨by simp [wr_at]; omega, by simp [wr_at]; omega⟩ | exact b2_R _ | exact bC_R _ | exact band_R _ _ | exact bor_R _ _ | exact bshl_R _ _ | exact bshr_R _ _ | exact bxor_R _ _ | exact bs_R (by omega) | decide) (by first | exact hR.1 _ _ | exact hR0.1 _ _ | assumption | exact ⟨by omega, by omega⟩ | exact ⟨by simp [wr_at]; omega, by simp [wr_at]; omega⟩ | exact b2_R _ | exact bC_R _ | exact band_R _ _ | exact bor_R _ _ | exact bshl_R _ _ | exact bshr_R _ _ | exact bxor_R _ _ | exact bs_R (by omega) | decide) (fun h_26 => ?_) (fun h_26 => ?_)
      · refine ev_iload_n dX8_dealt_33 rfl ?_
        refine ev_iconst dX8_dealt_34 ?_
        refine ev_icmp_ne (tgt := 42) dX8_dealt_35 (by decide) (by first | exact hR.1 _ _ | exact hR0.1 _ _ | assumption | exact ⟨by omega, by omega⟩ | exact ⟨by simp [wr_at]; omega, by simp [wr_at]; omega⟩ | exact b2_R _ | exact bC_R _ | exact band_R _ _ | exact bor_R _ _ | exact bshl_R _ _ | exact bshr_R _ _ | exact bxor_R _ _ | exact bs_R (by omega) | decide) (by first | exact hR.1 _ _ | exact hR0.1 _ _ | assumption | exact ⟨by omega, by omega⟩ | exact ⟨by simp [wr_at]; omega, by simp [wr_at]; omega⟩ | exact b2_R _ | exact bC_R _ | exact band_R _ _ | exact bor_R _ _ | exact bshl_R _ _ | exact bshr_R _ _ | exact bxor_R _ _ | exact bs_R (by omega) | decide) (fun h_35 => ?_) (fun h_35 => ?_)
        · refine ev_aload_n dX8_dealt_42 rfl ?_
          refine ev_getR (r := 126) dX8_dealt_43 fl_X8_153 rfl rfl rfl ?_
          refine ev_iload_n dX8_dealt_46 rfl ?_
          refine ev_iaload dX8_dealt_47 rfl (by first | omega | (simp [wr_at]; omega) | (simp [wr_at, *]; omega)) (by first | omega | (simp [wr_at]; omega) | (simp [wr_at, *]; omega)) (by decide) ?_
          refine ev_ireturn dX8_dealt_48 ?_
          refine ⟨?_, hq_18.1⟩
          unfold dealtZ
          rw [if_neg (fun z => z (Or.inr y)), if_neg h_2]
          rw [show ((l : Int)).toNat = l from rfl]
          first
            | (rw [if_pos (Or.inl (hd3 (by omega)))])
            | (rw [← hd2 (by omega) l (by omega), hq_18.2 (hgN (by omega)) l (by omega)])
        · exfalso; omega
      · refine ev_iconst dX8_dealt_29 ?_
        refine ev_goto (tgt := 48) dX8_dealt_30 (by decide) ?_
        refine ev_ireturn dX8_dealt_48 ?_
        refine ⟨?_, hq_18.1⟩
        unfold dealtZ
        rw [if_neg (fun z => z (Or.inr y)), if_neg h_2]
        rw [show ((l : Int)).toNat = l from rfl]
        first
          | (rw [if_pos (Or.inl (hd3 (by omega)))])
          | (rw [← hd2 (by omega) l (by omega), hq_18.2 (hgN (by omega)) l (by omega)])
    · refine ev_ldcw (z := -1000000001) dX8_dealt_13 kc_X8_316 (by decide) ?_
      refine ev_ireturn dX8_dealt_16 ?_
      unfold dealtZ
      have z := b2_eq (by omega : b2 (0 ≤ x ∧ x < (nl : Int)) = 0)
      rw [if_pos (fun y => by rcases y with y | y; exact h_2 y; exact z y)]
      exact ⟨rfl, Same.rf⟩
