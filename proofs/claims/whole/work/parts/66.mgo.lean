theorem m_go (μ σ : Mem) (P n nr nb nl mb w wt dv : Nat) (f t : Nat → Nat) (hM : MOk μ σ P n nr nb nl mb w wt dv f t) (b r : Int) (hb : inR b) (hr : inR r) : Con yX8_go cX8_go 5 (some .int) 3 70 [.ref 79, .int (iI b), .int (iI r)] μ (fun v ν => if ¬ ((0 ≤ b ∧ b < nb) ∧ (0 ≤ r ∧ r < nr)) then AnsI (-1000000001) μ v ν else if σ.1 40 b ≠ -1 ∨ fstI (fun i => σ.1 40 i) r nb ≠ -1 ∨ (othE (σ.1 (P + 5) r) (σ.1 (P + 6) r) (σ.1 39 b)) = -1 ∨ minB σ P nl w wt b r = -1 then AnsI (-1000000003) μ v ν else AnsIP (minB σ P nl w wt b r) (fun ν => MSame μ ν ∧ MDy ν (goM σ b r (othE (σ.1 (P + 5) r) (σ.1 (P + 6) r) (σ.1 39 b)) (minB σ P nl w wt b r)) nr nb nl) v ν) := by
  refine con_of (by decide) rfl (Nat.le_of_ble_eq_true rfl) ((fun v τ h => by repeat (first | exact ok_I rfl v τ h | exact ok_IP rfl v τ h | split at h))) ?_
  refine ev_w (fun hR => ?_)
  have hR0 := hR
  obtain ⟨hPO, hDy, hMP, hMD⟩ := id hM
  obtain ⟨hPR, ⟨hnb, hnb4⟩, ⟨hnl, hnl4⟩, hpo, hro, hbo, hlo⟩ := id hPO
  obtain ⟨hP, hn, hn8, hnr, hnr12, hft⟩ := id hPR
  obtain ⟨⟨cn, cr, cb, cl⟩, mp, mr, mbo, ml⟩ := id hMP
  obtain ⟨⟨dmi, dha, dri, dse⟩, dr, db, dl, dri2⟩ := id hMD
  obtain ⟨k1, k2, k3, k4, k5, k6, k7, k8, k9, k10, k11⟩ := id hDy
  have hww := hDy.w
  refine ev_aload_n dX8_go_0 rfl ?_
  refine ev_iload_n dX8_go_1 rfl ?_
  refine ev_callVI dX8_go_2 kv_X8_330 (m_isBoy μ b nb (by assumption) cb (by omega)) rfl rfl (ci := 8) rfl rfl ⟨by decide, by decide⟩ (Nat.le_of_ble_eq_true rfl) ?_
  refine ev_w (fun hR => ?_)
  refine ev_if_eq (tgt := 16) dX8_go_5 (by decide) (by first | exact hR.1 _ _ | exact hR0.1 _ _ | assumption | exact ⟨by omega, by omega⟩ | exact ⟨by simp [wr_at]; omega, by simp [wr_at]; omega⟩ | exact b2_R _ | exact bC_R _ | exact band_R _ _ | exact bor_R _ _ | exact bshl_R _ _ | exact bshr_R _ _ | exact bxor_R _ _ | exact bs_R (by omega) | decide) (fun h_5 => ?_) (fun h_5 => ?_)
  · refine ev_ldcw (z := -1000000001) dX8_go_16 kc_X8_316 (by decide) ?_
    refine ev_ireturn dX8_go_19 ?_
    first
      | (have z := b2_eq h_5; rw [if_pos (fun y => z y.1)]; exact ⟨rfl, rfl⟩)
      | (have z := b2_eq h_13; rw [if_pos (fun y => z y.2)]; exact ⟨rfl, rfl⟩)
      | (have z := b2_eq (Decidable.not_not.mp h_13); rw [if_pos (fun y => z y.2)]; exact ⟨rfl, rfl⟩)
  · refine ev_aload_n dX8_go_8 rfl ?_
    refine ev_iload_n dX8_go_9 rfl ?_
    refine ev_callVI dX8_go_10 kv_X8_324 (m_isRope μ r nr (by assumption) cr (by omega)) rfl rfl (ci := 8) rfl rfl ⟨by decide, by decide⟩ (Nat.le_of_ble_eq_true rfl) ?_
    refine ev_w (fun hR => ?_)
    refine ev_if_ne (tgt := 20) dX8_go_13 (by decide) (by first | exact hR.1 _ _ | exact hR0.1 _ _ | assumption | exact ⟨by omega, by omega⟩ | exact ⟨by simp [wr_at]; omega, by simp [wr_at]; omega⟩ | exact b2_R _ | exact bC_R _ | exact band_R _ _ | exact bor_R _ _ | exact bshl_R _ _ | exact bshr_R _ _ | exact bxor_R _ _ | exact bs_R (by omega) | decide) (fun h_13 => ?_) (fun h_13 => ?_)
    · refine ev_aload_n dX8_go_20 rfl ?_
      refine ev_iload_n dX8_go_21 rfl ?_
      refine ev_callVI dX8_go_22 kv_X8_333 (m_carriedBy μ nl cl hnl4 b hb) rfl rfl (ci := 8) rfl rfl ⟨by decide, by decide⟩ (Nat.le_of_ble_eq_true rfl) ?_
      refine ev_w (fun hR => ?_)
      rw [hM.car b]
      refine ev_istore_n dX8_go_25 rfl (by decide) rfl ?_
      have q0 := b2_ne h_5
      have q1 := b2_ne h_13
      obtain ⟨b, rfl⟩ := Int.eq_ofNat_of_zero_le q0.1
      obtain ⟨r, rfl⟩ := Int.eq_ofNat_of_zero_le q1.1
      have hbn : b < nb := by omega
      have hrn : r < nr := by omega
      have hif : ¬ ¬ ((0 ≤ (b : Int) ∧ (b : Int) < nb) ∧ (0 ≤ (r : Int) ∧ (r : Int) < nr)) := fun y => y ⟨q0, q1⟩
      have hcs := carS_lt σ hnl4 (b : Int)
      have hfr := hft r hrn
      have hbb := k9 b hbn
      have hdb := db b hbn
      have hmr := mr r hrn
      have hmm := hPO.min (w := w) (wt := wt) (s := carS σ nl (b : Int)) (dry := 0) hrn hbn
      have hmb : minB σ P nl w wt (b : Int) (r : Int) = minZ σ P nl w wt r b (carS σ nl (b : Int)) 0 := rfl
      have hrp := hM.rp
      have hoth : (othE (σ.1 (P + 5) r) (σ.1 (P + 6) r) (σ.1 39 b)) = -1 ∨ (0 ≤ (othE (σ.1 (P + 5) r) (σ.1 (P + 6) r) (σ.1 39 b)) ∧ (othE (σ.1 (P + 5) r) (σ.1 (P + 6) r) (σ.1 39 b)) < n) := by
        by_cases q : (othE (σ.1 (P + 5) r) (σ.1 (P + 6) r) (σ.1 39 b)) = -1
        · exact Or.inl q
        · rcases othE_P q with e | e <;> exact Or.inr ⟨by omega, by omega⟩
      have rest : Ev RX8 cX8_go 5 3 70 (fun v ν => if ¬ ((0 ≤ (b : Int) ∧ (b : Int) < nb) ∧ (0 ≤ (r : Int) ∧ (r : Int) < nr)) then AnsI (-1000000001) μ v ν else if σ.1 40 (b : Int) ≠ -1 ∨ fstI (fun i => σ.1 40 i) (r : Int) nb ≠ -1 ∨ (othE (σ.1 (P + 5) (r : Int)) (σ.1 (P + 6) (r : Int)) (σ.1 39 (b : Int))) = -1 ∨ minB σ P nl w wt (b : Int) (r : Int) = -1 then AnsI (-1000000003) μ v ν else AnsIP (minB σ P nl w wt (b : Int) (r : Int)) (fun ν => MSame μ ν ∧ MDy ν (goM σ (b : Int) (r : Int) (othE (σ.1 (P + 5) (r : Int)) (σ.1 (P + 6) (r : Int)) (σ.1 39 (b : Int))) (minB σ P nl w wt (b : Int) (r : Int))) nr nb nl) v ν) 52 [some (.ref 79), some (.int (iI b)), some (.int (iI r)), some (.int (iI (carS σ nl (b : Int) : Nat))), some (.int (iI (if σ.1 40 b = -1 then (othE (σ.1 (P + 5) r) (σ.1 (P + 6) r) (σ.1 39 b)) else -1)))] [] μ := by
        refine ev_w (fun hR => ?_)
        generalize hTO : (if σ.1 40 b = -1 then (othE (σ.1 (P + 5) r) (σ.1 (P + 6) r) (σ.1 39 b)) else -1) = to9
        have hto9 : inR to9 := by
          rw [← hTO]
          split
          · exact ⟨by omega, by omega⟩
          · decide
        refine ev_iload dX8_go_52 rfl ?_
        refine ev_if_lt (tgt := 75) dX8_go_54 (by decide) (by first | exact hR.1 _ _ | exact hR0.1 _ _ | assumption | exact ⟨by omega, by omega⟩ | exact ⟨by simp [wr_at]; omega, by simp [wr_at]; omega⟩ | exact b2_R _ | exact bC_R _ | exact band_R _ _ | exact bor_R _ _ | exact bshl_R _ _ | exact bshr_R _ _ | exact bxor_R _ _ | exact bs_R (by omega) | decide) (fun h_54 => ?_) (fun h_54 => ?_)
        · refine ev_ldcw (z := -1000000003) dX8_go_75 kc_X8_356 (by decide) ?_
          refine ev_ireturn dX8_go_78 ?_
          rw [if_neg hif, if_pos ?_]
          · exact ⟨rfl, rfl⟩
          · first
              | (by_cases e : σ.1 40 (b : Int) = -1
                 · rw [if_pos e] at hTO
                   exact Or.inr (Or.inr (Or.inl (by omega)))
                 · exact Or.inl e)
              | (exact Or.inr (Or.inl (by show fstI (fun b => σ.1 40 b) (r : Int) nb ≠ -1; omega)))
              | (refine Or.inr (Or.inr (Or.inr ?_))
                 rw [hmb]
                 unfold minZ
                 rw [if_neg (b2_eq (by omega : b2 (w.testBit r = true ∧ σ.1 (P + 10) b + lbs σ (P + 14) nl (carS σ nl (b : Int)) ≤ σ.1 (P + 8) r ∧ (20 ≤ σ.1 (P + 7) r ∨ ¬ anyK σ (P + 16) nl (carS σ nl (b : Int)) 3 = true)) = 0))])
        · refine ev_aload_n dX8_go_57 rfl ?_
          refine ev_iload_n dX8_go_58 rfl ?_
          refine ev_callVI dX8_go_59 kv_X8_327 (m_onRope μ nb cb hnb4 r hr) rfl rfl (ci := 8) rfl rfl ⟨by decide, by decide⟩ (Nat.le_of_ble_eq_true rfl) ?_
          refine ev_w (fun hR => ?_)
          rw [hM.onR (by omega)]
          have hfR := fstI_R (fun b => σ.1 40 b) (r : Int) nb
          refine ev_if_ge (tgt := 75) dX8_go_62 (by decide) ⟨by omega, by omega⟩ (fun h_62 => ?_) (fun h_62 => ?_)
          · refine ev_ldcw (z := -1000000003) dX8_go_75 kc_X8_356 (by decide) ?_
            refine ev_ireturn dX8_go_78 ?_
            rw [if_neg hif, if_pos ?_]
            · exact ⟨rfl, rfl⟩
            · first
                | (by_cases e : σ.1 40 (b : Int) = -1
                   · rw [if_pos e] at hTO
                     exact Or.inr (Or.inr (Or.inl (by omega)))
                   · exact Or.inl e)
                | (exact Or.inr (Or.inl (by show fstI (fun b => σ.1 40 b) (r : Int) nb ≠ -1; omega)))
                | (refine Or.inr (Or.inr (Or.inr ?_))
                   rw [hmb]
                   unfold minZ
                   rw [if_neg (b2_eq (by omega : b2 (w.testBit r = true ∧ σ.1 (P + 10) b + lbs σ (P + 14) nl (carS σ nl (b : Int)) ≤ σ.1 (P + 8) r ∧ (20 ≤ σ.1 (P + 7) r ∨ ¬ anyK σ (P + 16) nl (carS σ nl (b : Int)) 3 = true)) = 0))])
          · refine ev_aload_n dX8_go_65 rfl ?_
            refine ev_iload_n dX8_go_66 rfl ?_
            refine ev_iload_n dX8_go_67 rfl ?_
            refine ev_iload_n dX8_go_68 rfl ?_
            refine ev_callVI dX8_go_69 kv_X8_352 (r_mayRope μ σ P n nr nb nl w wt f t hrp b r (carS σ nl (b : Int)) hbn hrn (by omega)) rfl rfl (ci := 8) rfl rfl ⟨by decide, by decide⟩ (Nat.le_of_ble_eq_true rfl) ?_
            refine ev_w (fun hR => ?_)
            refine ev_if_ne (tgt := 79) dX8_go_72 (by decide) (by first | exact hR.1 _ _ | exact hR0.1 _ _ | assumption | exact ⟨by omega, by omega⟩ | exact ⟨by simp [wr_at]; omega, by simp [wr_at]; omega⟩ | exact b2_R _ | exact bC_R _ | exact band_R _ _ | exact bor_R _ _ | exact bshl_R _ _ | exact bshr_R _ _ | exact bxor_R _ _ | exact bs_R (by omega) | decide) (fun h_72 => ?_) (fun h_72 => ?_)
            · refine ev_aload_n dX8_go_79 rfl ?_
              refine ev_getR (r := 98) dX8_go_80 fl_X8_65 rfl rfl rfl ?_
              refine ev_iload_n dX8_go_83 rfl ?_
              refine ev_iconst dX8_go_84 ?_
              refine ev_iastore dX8_go_85 rfl (by first | omega | (simp [wr_at]; omega) | (simp [wr_at, *]; omega)) (by first | omega | (simp [wr_at]; omega) | (simp [wr_at, *]; omega)) (by decide) (by first | exact hR.1 _ _ | exact hR0.1 _ _ | assumption | exact ⟨by omega, by omega⟩ | exact ⟨by simp [wr_at]; omega, by simp [wr_at]; omega⟩ | exact b2_R _ | exact bC_R _ | exact band_R _ _ | exact bor_R _ _ | exact bshl_R _ _ | exact bshr_R _ _ | exact bxor_R _ _ | exact bs_R (by omega) | decide) ?_
              refine ev_w (fun hR => ?_)
              refine ev_aload_n dX8_go_86 rfl ?_
              refine ev_getR (r := 99) dX8_go_87 fl_X8_68 rfl rfl rfl ?_
              refine ev_iload_n dX8_go_90 rfl ?_
              refine ev_iload_n dX8_go_91 rfl ?_
              refine ev_iastore dX8_go_92 rfl (by first | omega | (simp [wr_at]; omega) | (simp [wr_at, *]; omega)) (by first | omega | (simp [wr_at]; omega) | (simp [wr_at, *]; omega)) (by decide) (by first | exact hR.1 _ _ | exact hR0.1 _ _ | assumption | exact ⟨by omega, by omega⟩ | exact ⟨by simp [wr_at]; omega, by simp [wr_at]; omega⟩ | exact b2_R _ | exact bC_R _ | exact band_R _ _ | exact bor_R _ _ | exact bshl_R _ _ | exact bshr_R _ _ | exact bxor_R _ _ | exact bs_R (by omega) | decide) ?_
              refine ev_w (fun hR => ?_)
              refine ev_aload_n dX8_go_93 rfl ?_
              refine ev_getR (r := 100) dX8_go_94 fl_X8_71 rfl rfl rfl ?_
              refine ev_iload_n dX8_go_97 rfl ?_
              refine ev_iload dX8_go_98 rfl ?_
              refine ev_iastore dX8_go_100 rfl (by first | omega | (simp [wr_at]; omega) | (simp [wr_at, *]; omega)) (by first | omega | (simp [wr_at]; omega) | (simp [wr_at, *]; omega)) (by decide) (by first | exact hR.1 _ _ | exact hR0.1 _ _ | assumption | exact ⟨by omega, by omega⟩ | exact ⟨by simp [wr_at]; omega, by simp [wr_at]; omega⟩ | exact b2_R _ | exact bC_R _ | exact band_R _ _ | exact bor_R _ _ | exact bshl_R _ _ | exact bshr_R _ _ | exact bxor_R _ _ | exact bs_R (by omega) | decide) ?_
              refine ev_w (fun hR => ?_)
              refine ev_aload_n dX8_go_101 rfl ?_
              refine ev_getR (r := 101) dX8_go_102 fl_X8_74 rfl rfl rfl ?_
              refine ev_iload_n dX8_go_105 rfl ?_
              have hrp2 : MRp (wr (wr (wr μ 98 (b : Int) (-1)) 99 (b : Int) (r : Int)) 100 (b : Int) to9) σ P n nr nb nl w wt f t := hrp.to (fun k hk => by rw [wr_nec _ (by decide), wr_nec _ (by decide), wr_nec _ (by decide)]) (fun c h1 h2 h3 => by funext k; rw [wr_nec _ (by omega), wr_nec _ (by omega), wr_nec _ (by omega)])
              have hmF9 := minF_R (lv := anyK σ (P + 16) nl (carS σ nl (b : Int)) 2) (wt := wt.testBit r) (dry := 0) (hro r hrn).1.1 (hro r hrn).1.2 (hbo b hbn).2.2.1 (hbo b hbn).2.2.2
              generalize hg9 : minF (σ.1 (P + 7) r) (σ.1 (P + 11) b) (anyK σ (P + 16) nl (carS σ nl (b : Int)) 2) (wt.testBit r) 0 = m9 at *
              refine ev_aload_n dX8_go_106 rfl ?_
              refine ev_iload_n dX8_go_107 rfl ?_
              refine ev_iload_n dX8_go_108 rfl ?_
              refine ev_iload_n dX8_go_109 rfl ?_
              refine ev_iconst dX8_go_110 ?_
              refine ev_callVI dX8_go_111 kv_X8_357 ((by have := r_minutesOn _ σ P n nr nb nl w wt f t hrp2 b r (carS σ nl (b : Int)) hbn hrn (by omega) 0 (Or.inl rfl); rw [hg9] at this; exact this)) rfl rfl (ci := 8) rfl rfl ⟨by decide, by decide⟩ (Nat.le_of_ble_eq_true rfl) ?_
              refine ev_w (fun hR => ?_)
              refine ev_iastore dX8_go_114 rfl (by first | omega | (simp [wr_at]; omega) | (simp [wr_at, *]; omega)) (by first | omega | (simp [wr_at]; omega) | (simp [wr_at, *]; omega)) (by decide) (by first | exact hR.1 _ _ | exact hR0.1 _ _ | assumption | exact ⟨by omega, by omega⟩ | exact ⟨by simp [wr_at]; omega, by simp [wr_at]; omega⟩ | exact b2_R _ | exact bC_R _ | exact band_R _ _ | exact bor_R _ _ | exact bshl_R _ _ | exact bshr_R _ _ | exact bxor_R _ _ | exact bs_R (by omega) | decide) ?_
              refine ev_w (fun hR => ?_)
              have hri : (wr (wr (wr (wr μ 98 (b : Int) (-1)) 99 (b : Int) (r : Int)) 100 (b : Int) to9) 101 (b : Int) m9).1 79 31 = σ.1 37 6 := by
                rw [wr_nec _ (by decide), wr_nec _ (by decide), wr_nec _ (by decide), wr_nec _ (by decide)]
                exact dri
              refine ev_aload_n dX8_go_115 rfl ?_
              refine ev_getI (kz := 31) dX8_go_116 fl_X8_199 rfl rfl rfl ?_
              rw [hri]
              refine ev_sipush dX8_go_119 (by decide) ?_
              refine ev_icmp_ge (tgt := 158) dX8_go_122 (by decide) (by first | exact hR.1 _ _ | exact hR0.1 _ _ | assumption | exact ⟨by omega, by omega⟩ | exact ⟨by simp [wr_at]; omega, by simp [wr_at]; omega⟩ | exact b2_R _ | exact bC_R _ | exact band_R _ _ | exact bor_R _ _ | exact bshl_R _ _ | exact bshr_R _ _ | exact bxor_R _ _ | exact bs_R (by omega) | decide) (by first | exact hR.1 _ _ | exact hR0.1 _ _ | assumption | exact ⟨by omega, by omega⟩ | exact ⟨by simp [wr_at]; omega, by simp [wr_at]; omega⟩ | exact b2_R _ | exact bC_R _ | exact band_R _ _ | exact bor_R _ _ | exact bshl_R _ _ | exact bshr_R _ _ | exact bxor_R _ _ | exact bs_R (by omega) | decide) (fun h_122 => ?_) (fun h_122 => ?_)
              · refine ev_aload_n dX8_go_158 rfl ?_
                refine ev_getR (r := 101) dX8_go_159 fl_X8_74 rfl rfl rfl ?_
                refine ev_iload_n dX8_go_162 rfl ?_
                refine ev_iaload dX8_go_163 rfl (by first | omega | (simp [wr_at]; omega) | (simp [wr_at, *]; omega)) (by first | omega | (simp [wr_at]; omega) | (simp [wr_at, *]; omega)) (by decide) ?_
                refine ev_ireturn dX8_go_164 ?_
                have hmay := b2_ne h_72
                have e40 : σ.1 40 (b : Int) = -1 := by
                  by_cases e : σ.1 40 (b : Int) = -1
                  · exact e
                  · rw [if_neg e] at hTO; omega
                rw [if_pos e40] at hTO
                have hmF : minB σ P nl w wt (b : Int) (r : Int) = minF (σ.1 (P + 7) r) (σ.1 (P + 11) b) (anyK σ (P + 16) nl (carS σ nl (b : Int)) 2) (wt.testBit r) 0 := by
                  rw [hmb]
                  unfold minZ
                  rw [if_pos hmay]
                rw [if_neg hif, if_neg (fun y => by
                  rcases y with y | y | y | y
                  · exact y e40
                  · have y2 : fstI (fun b => σ.1 40 b) (r : Int) nb ≠ -1 := y
                    have := fstI_R (fun b => σ.1 40 b) (r : Int) nb
                    omega
                  · rw [hTO] at y; omega
                  · rw [hmb] at y; unfold minZ at y; rw [if_pos hmay] at y
                    have := minF_R (lv := anyK σ (P + 16) nl (carS σ nl (b : Int)) 2) (wt := wt.testBit r) (dry := 0) (hro r hrn).1.1 (hro r hrn).1.2 (hbo b hbn).2.2.1 (hbo b hbn).2.2.2
                    omega)]
                rw [hTO, hmF, hg9]
                have hS : MSame μ (wr (wr (wr (wr μ 98 (b : Int) (-1)) 99 (b : Int) (r : Int)) 100 (b : Int) to9) 101 (b : Int) m9) := (((MSame.rf.wrc _ _ (by decide) (by decide)).wrc _ _ (by decide) (by decide)).wrc _ _ (by decide) (by decide)).wrc _ _ (by decide) (by decide)
                have hD := MDy.go hM.2.2.2 hbn (r := (r : Int)) (to := to9) (m := m9) (by omega)
                by_cases h200 : σ.1 37 6 < 200
                · first
                    | (exfalso; omega)
                    | (have e6 : (wr (wr (wr σ 39 (b : Int) to9) 40 (b : Int) (r : Int)) 41 (b : Int) m9).1 37 6 = σ.1 37 6 := by rw [wr_nec _ (by decide), wr_nec _ (by decide), wr_nec _ (by decide)]
                       have hD2 := MDy.ring hD (by rw [e6]; omega) (by rw [e6]; omega) (r : Int)
                       refine ⟨?_, ((hS.wrc _ _ (by decide) (by decide)).wrc _ _ (by decide) (by decide)).wf _ (by decide), ?_⟩
                       · rw [wr_nec _ (by decide), wr_nec _ (by decide), wr_nec _ (by decide), wr_eq]
                       · exact hD2)
                · first
                    | (exfalso; omega)
                    | (refine ⟨?_, hS, ?_⟩
                       · rw [wr_eq]
                       · unfold goM ringM
                         rw [if_neg (by rw [wr_nec _ (by decide), wr_nec _ (by decide), wr_nec _ (by decide)]; omega)]
                         exact hD)
              · skip
                refine ev_aload_n dX8_go_125 rfl ?_
                refine ev_getR (r := 105) dX8_go_126 fl_X8_86 rfl rfl rfl ?_
                refine ev_aload_n dX8_go_129 rfl ?_
                refine ev_getI (kz := 31) dX8_go_130 fl_X8_199 rfl rfl rfl ?_
                refine ev_aload_n dX8_go_133 rfl ?_
                refine ev_getI (kz := 29) dX8_go_134 fl_X8_193 rfl rfl rfl ?_
                refine ev_iastore dX8_go_137 rfl (by rw [hri]; omega) (by rw [hri]; omega) (by decide) (by first | exact hR.1 _ _ | exact hR0.1 _ _ | assumption | exact ⟨by omega, by omega⟩ | exact ⟨by simp [wr_at]; omega, by simp [wr_at]; omega⟩ | exact b2_R _ | exact bC_R _ | exact band_R _ _ | exact bor_R _ _ | exact bshl_R _ _ | exact bshr_R _ _ | exact bxor_R _ _ | exact bs_R (by omega) | decide) ?_
                refine ev_w (fun hR => ?_)
                refine ev_aload_n dX8_go_138 rfl ?_
                refine ev_getR (r := 106) dX8_go_139 fl_X8_89 rfl rfl rfl ?_
                refine ev_aload_n dX8_go_142 rfl ?_
                refine ev_getI (kz := 31) dX8_go_143 fl_X8_199 rfl rfl rfl ?_
                refine ev_iload_n dX8_go_146 rfl ?_
                refine ev_iastore dX8_go_147 rfl (by rw [wr_nec _ (by decide), hri]; omega) (by rw [wr_nec _ (by decide), hri]; omega) (by decide) (by first | exact hR.1 _ _ | exact hR0.1 _ _ | assumption | exact ⟨by omega, by omega⟩ | exact ⟨by simp [wr_at]; omega, by simp [wr_at]; omega⟩ | exact b2_R _ | exact bC_R _ | exact band_R _ _ | exact bor_R _ _ | exact bshl_R _ _ | exact bshr_R _ _ | exact bxor_R _ _ | exact bs_R (by omega) | decide) ?_
                refine ev_w (fun hR => ?_)
                refine ev_aload_n dX8_go_148 rfl ?_
                refine ev_dup dX8_go_149 rfl ?_
                refine ev_getI (kz := 31) dX8_go_150 fl_X8_199 rfl rfl rfl ?_
                refine ev_iconst dX8_go_153 ?_
                refine ev_iadd dX8_go_154 ?_
                refine ev_putI (kz := 31) dX8_go_155 fp_X8_199 rfl rfl rfl (by first | exact hR.1 _ _ | exact hR0.1 _ _ | assumption | exact ⟨by omega, by omega⟩ | exact ⟨by simp [wr_at]; omega, by simp [wr_at]; omega⟩ | exact b2_R _ | exact bC_R _ | exact band_R _ _ | exact bor_R _ _ | exact bshl_R _ _ | exact bshr_R _ _ | exact bxor_R _ _ | exact bs_R (by omega) | decide) ?_
                refine ev_w (fun hR => ?_)
                refine ev_aload_n dX8_go_158 rfl ?_
                refine ev_getR (r := 101) dX8_go_159 fl_X8_74 rfl rfl rfl ?_
                refine ev_iload_n dX8_go_162 rfl ?_
                refine ev_iaload dX8_go_163 rfl (by first | omega | (simp [wr_at]; omega) | (simp [wr_at, *]; omega)) (by first | omega | (simp [wr_at]; omega) | (simp [wr_at, *]; omega)) (by decide) ?_
                refine ev_ireturn dX8_go_164 ?_
                have hmay := b2_ne h_72
                have e40 : σ.1 40 (b : Int) = -1 := by
                  by_cases e : σ.1 40 (b : Int) = -1
                  · exact e
                  · rw [if_neg e] at hTO; omega
                rw [if_pos e40] at hTO
                have hmF : minB σ P nl w wt (b : Int) (r : Int) = minF (σ.1 (P + 7) r) (σ.1 (P + 11) b) (anyK σ (P + 16) nl (carS σ nl (b : Int)) 2) (wt.testBit r) 0 := by
                  rw [hmb]
                  unfold minZ
                  rw [if_pos hmay]
                rw [if_neg hif, if_neg (fun y => by
                  rcases y with y | y | y | y
                  · exact y e40
                  · have y2 : fstI (fun b => σ.1 40 b) (r : Int) nb ≠ -1 := y
                    have := fstI_R (fun b => σ.1 40 b) (r : Int) nb
                    omega
                  · rw [hTO] at y; omega
                  · rw [hmb] at y; unfold minZ at y; rw [if_pos hmay] at y
                    have := minF_R (lv := anyK σ (P + 16) nl (carS σ nl (b : Int)) 2) (wt := wt.testBit r) (dry := 0) (hro r hrn).1.1 (hro r hrn).1.2 (hbo b hbn).2.2.1 (hbo b hbn).2.2.2
                    omega)]
                rw [hTO, hmF, hg9]
                have hS : MSame μ (wr (wr (wr (wr μ 98 (b : Int) (-1)) 99 (b : Int) (r : Int)) 100 (b : Int) to9) 101 (b : Int) m9) := (((MSame.rf.wrc _ _ (by decide) (by decide)).wrc _ _ (by decide) (by decide)).wrc _ _ (by decide) (by decide)).wrc _ _ (by decide) (by decide)
                have hD := MDy.go hM.2.2.2 hbn (r := (r : Int)) (to := to9) (m := m9) (by omega)
                by_cases h200 : σ.1 37 6 < 200
                · first
                    | (exfalso; omega)
                    | (have e6 : (wr (wr (wr σ 39 (b : Int) to9) 40 (b : Int) (r : Int)) 41 (b : Int) m9).1 37 6 = σ.1 37 6 := by rw [wr_nec _ (by decide), wr_nec _ (by decide), wr_nec _ (by decide)]
                       have hD2 := MDy.ring hD (by rw [e6]; omega) (by rw [e6]; omega) (r : Int)
                       refine ⟨?_, ((hS.wrc _ _ (by decide) (by decide)).wrc _ _ (by decide) (by decide)).wf _ (by decide), ?_⟩
                       · rw [wr_nec _ (by decide), wr_nec _ (by decide), wr_nec _ (by decide), wr_eq]
                       · exact hD2)
                · first
                    | (exfalso; omega)
                    | (refine ⟨?_, hS, ?_⟩
                       · rw [wr_eq]
                       · unfold goM ringM
                         rw [if_neg (by rw [wr_nec _ (by decide), wr_nec _ (by decide), wr_nec _ (by decide)]; omega)]
                         exact hD)
            · refine ev_ldcw (z := -1000000003) dX8_go_75 kc_X8_356 (by decide) ?_
              refine ev_ireturn dX8_go_78 ?_
              rw [if_neg hif, if_pos ?_]
              · exact ⟨rfl, rfl⟩
              · first
                  | (by_cases e : σ.1 40 (b : Int) = -1
                     · rw [if_pos e] at hTO
                       exact Or.inr (Or.inr (Or.inl (by omega)))
                     · exact Or.inl e)
                  | (exact Or.inr (Or.inl (by show fstI (fun b => σ.1 40 b) (r : Int) nb ≠ -1; omega)))
                  | (refine Or.inr (Or.inr (Or.inr ?_))
                     rw [hmb]
                     unfold minZ
                     rw [if_neg (b2_eq (by omega : b2 (w.testBit r = true ∧ σ.1 (P + 10) b + lbs σ (P + 14) nl (carS σ nl (b : Int)) ≤ σ.1 (P + 8) r ∧ (20 ≤ σ.1 (P + 7) r ∨ ¬ anyK σ (P + 16) nl (carS σ nl (b : Int)) 3 = true)) = 0))])
      refine ev_aload_n dX8_go_26 rfl ?_
      refine ev_getR (r := 98) dX8_go_27 fl_X8_65 rfl rfl rfl ?_
      refine ev_iload_n dX8_go_30 rfl ?_
      refine ev_iaload dX8_go_31 rfl (by first | omega | (simp [wr_at]; omega) | (simp [wr_at, *]; omega)) (by first | omega | (simp [wr_at]; omega) | (simp [wr_at, *]; omega)) (by decide) ?_
      refine ev_if_ge (tgt := 39) dX8_go_32 (by decide) (by first | exact hR.1 _ _ | exact hR0.1 _ _ | assumption | exact ⟨by omega, by omega⟩ | exact ⟨by simp [wr_at]; omega, by simp [wr_at]; omega⟩ | exact b2_R _ | exact bC_R _ | exact band_R _ _ | exact bor_R _ _ | exact bshl_R _ _ | exact bshr_R _ _ | exact bxor_R _ _ | exact bs_R (by omega) | decide) (fun h_32 => ?_) (fun h_32 => ?_)
      · refine ev_aload_n dX8_go_39 rfl ?_
        refine ev_iload_n dX8_go_40 rfl ?_
        refine ev_aload_n dX8_go_41 rfl ?_
        refine ev_getR (r := 98) dX8_go_42 fl_X8_65 rfl rfl rfl ?_
        refine ev_iload_n dX8_go_45 rfl ?_
        refine ev_iaload dX8_go_46 rfl (by first | omega | (simp [wr_at]; omega) | (simp [wr_at, *]; omega)) (by first | omega | (simp [wr_at]; omega) | (simp [wr_at, *]; omega)) (by decide) ?_
        refine ev_callVI dX8_go_47 kv_X8_349 (m_otherEnd μ r (μ.1 98 b) (by omega) (by omega) (hR.1 _ _)) rfl rfl (ci := 8) rfl rfl ⟨by decide, by decide⟩ (Nat.le_of_ble_eq_true rfl) ?_
        refine ev_w (fun hR => ?_)
        refine ev_istore dX8_go_50 rfl (by decide) rfl ?_
        by_cases e : σ.1 40 (b : Int) = -1
        · rw [if_pos e] at rest
          have : μ.1 98 (b : Int) = σ.1 39 (b : Int) := hdb.2.2.1 e
          first
            | (exfalso; omega)
            | (rw [hmr.1, hmr.2.1, this]; exact rest)
        · rw [if_neg e] at rest
          have : μ.1 98 (b : Int) = -1 := (hdb.2.2.2 e).1
          first
            | (exfalso; omega)
            | (exact rest)
      · refine ev_iconst dX8_go_35 ?_
        refine ev_goto (tgt := 50) dX8_go_36 (by decide) ?_
        refine ev_istore dX8_go_50 rfl (by decide) rfl ?_
        by_cases e : σ.1 40 (b : Int) = -1
        · rw [if_pos e] at rest
          have : μ.1 98 (b : Int) = σ.1 39 (b : Int) := hdb.2.2.1 e
          first
            | (exfalso; omega)
            | (rw [hmr.1, hmr.2.1, this]; exact rest)
        · rw [if_neg e] at rest
          have : μ.1 98 (b : Int) = -1 := (hdb.2.2.2 e).1
          first
            | (exfalso; omega)
            | (exact rest)
    · refine ev_ldcw (z := -1000000001) dX8_go_16 kc_X8_316 (by decide) ?_
      refine ev_ireturn dX8_go_19 ?_
      first
        | (have z := b2_eq h_5; rw [if_pos (fun y => z y.1)]; exact ⟨rfl, rfl⟩)
        | (have z := b2_eq h_13; rw [if_pos (fun y => z y.2)]; exact ⟨rfl, rfl⟩)
        | (have z := b2_eq (Decidable.not_not.mp h_13); rw [if_pos (fun y => z y.2)]; exact ⟨rfl, rfl⟩)
