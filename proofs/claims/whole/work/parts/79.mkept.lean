theorem MRp.whl {μ σ : Mem} {P n nr nb nl w wt : Nat} {f t : Nat → Nat} (hM : MRp μ σ P n nr nb nl w wt f t) (hw : w < 2 ^ nr) : bs (fun r => decide (μ.1 97 r = 0)) nr = w := by
  rw [← bs_self hw]
  refine bs_congr (fun r hr => ?_)
  show decide (μ.1 97 r = 0) = w.testBit r
  rw [(hM.2.2 r hr).2]
  cases w.testBit r
  · rw [b2_t rfl]; rfl
  · rw [b2_f (by decide)]; rfl
/-- the best of the sets below s, as the reference finds it -/
noncomputable def kfR (f t : Nat → Nat) (nr w T a : Nat) : Nat → Int
  | 0 => -1
  | s + 1 => if dC ((kfR f t nr w T a s < 0 ∨ cnt s.testBit 12 < cnt (kfR f t nr w T a s).toNat.testBit 12) ∧ andn s w = 0 ∧ Safe f t nr s T a) = true then (s : Int) else kfR f t nr w T a s
theorem kfR_R (f t : Nat → Nat) (nr w T a s : Nat) : -1 ≤ kfR f t nr w T a s ∧ kfR f t nr w T a s < s := by
  induction s with
  | zero => rw [kfR]; omega
  | succ s ih => rw [kfR]; split <;> omega
theorem kfR_t {f t : Nat → Nat} {nr w T a s : Nat} (h : (kfR f t nr w T a s < 0 ∨ cnt s.testBit 12 < cnt (kfR f t nr w T a s).toNat.testBit 12) ∧ andn s w = 0 ∧ Safe f t nr s T a) : kfR f t nr w T a (s + 1) = s := by rw [kfR, if_pos (dC_t h)]
theorem kfR_f {f t : Nat → Nat} {nr w T a s : Nat} (h : ¬ ((kfR f t nr w T a s < 0 ∨ cnt s.testBit 12 < cnt (kfR f t nr w T a s).toNat.testBit 12) ∧ andn s w = 0 ∧ Safe f t nr s T a)) : kfR f t nr w T a (s + 1) = kfR f t nr w T a s := by rw [kfR, if_neg (by rw [dC_f h]; decide)]
set_option maxHeartbeats 4000000 in
theorem m_kept (μ σ : Mem) (P n nr nb nl w wt : Nat) (f t : Nat → Nat) (hM : MRp μ σ P n nr nb nl w wt f t) (hw : w < 2 ^ nr) (N : Nat) (hN : N = 2 ^ n) (x : Int) (hx : inR x) (a : Nat) (ha : 0 ≤ x → x < N → a ≤ n ∧ (∀ i, i < a → x.toNat.testBit i = false) ∧ (a < n → x.toNat.testBit a = true)) : Con yX8_kept cX8_kept 6 (some .int) 3 73 [.ref 79, .int (iI x)] μ (AnsI (if ¬ (0 ≤ x ∧ x < N) then -1000000001 else kfR f t nr w x.toNat a (2 ^ nr)) μ) := by
  refine con_of (by decide) rfl (Nat.le_of_ble_eq_true rfl) (ok_I rfl) ?_
  refine ev_w (fun hR => ?_)
  have hR0 := hR
  obtain ⟨hPO, hMP, hwc⟩ := id hM
  obtain ⟨hPR, ⟨hnb, hnb4⟩, ⟨hnl, hnl4⟩, hpo, hro, hbo, hlo⟩ := id hPO
  obtain ⟨hP, hn, hn8, hnr, hnr12, hft⟩ := id hPR
  obtain ⟨⟨cn, cr, cb, cl⟩, mp, mr, mbo, ml⟩ := id hMP
  have h2n : 2 ^ n ≤ 2 ^ 8 := Nat.pow_le_pow_right (by decide) hn8
  have h2r : 2 ^ nr ≤ 2 ^ 12 := Nat.pow_le_pow_right (by decide) hnr12
  have loop : ∀ T : Nat, x = T → T < N → ∀ s : Nat, s ≤ 2 ^ nr → ∀ x5, Ev RX8 cX8_kept 6 3 73 (AnsI (if ¬ (0 ≤ x ∧ x < N) then -1000000001 else kfR f t nr w x.toNat a (2 ^ nr)) μ) 32 [some (.ref 79), some (.int (iI x)), some (.int (iI (w : Nat))), some (.int (iI (kfR f t nr w x.toNat a s))), some (.int (iI (s : Nat))), x5] [] μ := by
    intro T hTx hTN
    subst hTx
    have ha9 := ha (by omega) (by omega)
    rw [show ((T : Int)).toNat = T from rfl] at *
    refine for_up (2 ^ nr) (fun s hs ih => ?_)
    intro x5
    refine ev_w (fun hR => ?_)
    have hkR := kfR_R f t nr w T a s
    generalize hk9 : kfR f t nr w T a s = k9 at *
    refine ev_iload dX8_kept_32 rfl ?_
    refine ev_iconst dX8_kept_34 ?_
    refine ev_aload_n dX8_kept_35 rfl ?_
    refine ev_getI (kz := 4) dX8_kept_36 fl_X8_184 rfl rfl rfl ?_
    rw [cr]
    refine ev_ishl dX8_kept_39 ?_
    rw [bshl1 nr (by omega)]
    refine ev_icmp_ge (tgt := 103) dX8_kept_40 (by decide) ⟨by omega, by omega⟩ ⟨by omega, by omega⟩ (fun h_40 => ?_) (fun h_40 => ?_)
    · refine ev_iload_n dX8_kept_103 rfl ?_
      refine ev_ireturn dX8_kept_104 ?_
      obtain rfl : s = 2 ^ nr := by omega
      rw [if_neg (fun z => z ⟨by omega, by omega⟩)]
      rw [hk9]
      exact ⟨rfl, rfl⟩
    · have hs4 : s < 4096 := by omega
      have hfw : ((k9 < 0 ∨ cnt s.testBit 12 < cnt k9.toNat.testBit 12) ∧ andn s w = 0 ∧ Safe f t nr s T a) → kfR f t nr w T a (s + 1) = s := fun h => kfR_t (by rw [hk9]; exact h)
      have hbw : ¬ ((k9 < 0 ∨ cnt s.testBit 12 < cnt k9.toNat.testBit 12) ∧ andn s w = 0 ∧ Safe f t nr s T a) → kfR f t nr w T a (s + 1) = k9 := fun h => by rw [← hk9]; exact kfR_f (by rw [hk9]; exact h)
      have hc1 := cnt_le s.testBit 12
      have hc2 := cnt_le k9.toNat.testBit 12
      refine ev_iload_n dX8_kept_43 rfl ?_
      refine ev_if_lt (tgt := 59) dX8_kept_44 (by decide) ⟨by omega, by omega⟩ (fun h_44 => ?_) (fun h_44 => ?_)
      · refine ev_iconst dX8_kept_59 ?_
        refine ev_goto (tgt := 64) dX8_kept_60 (by decide) ?_
        refine ev_istore dX8_kept_64 rfl (by decide) rfl ?_
        refine ev_iload dX8_kept_66 rfl ?_
        refine ev_if_eq (tgt := 95) dX8_kept_68 (by decide) (by first | exact hR.1 _ _ | exact hR0.1 _ _ | assumption | exact ⟨by omega, by omega⟩ | exact ⟨by simp [wr_at]; omega, by simp [wr_at]; omega⟩ | exact b2_R _ | exact bC_R _ | exact band_R _ _ | exact bor_R _ _ | exact bshl_R _ _ | exact bshr_R _ _ | exact bxor_R _ _ | exact bs_R (by omega) | decide) (fun h_68 => ?_) (fun h_68 => ?_)
        · refine ev_iload_n dX8_kept_95 rfl ?_
          refine ev_istore_n dX8_kept_96 rfl (by decide) rfl ?_
          refine ev_iinc dX8_kept_97 rfl rfl (by decide) rfl ?_
          refine ev_goto (tgt := 32) dX8_kept_100 (by decide) ?_
          first
            | (exfalso; omega)
            | (have q := ih (by omega) (some (.int (iI 1)))
               rw [hfw ⟨by omega, by omega, bC_ne h_87⟩] at q
               exact q)
            | (have q := ih (by omega) (some (.int (iI 1)))
               rw [hbw (fun z => by
                 first
                   | omega
                   | exact bC_eq h_87 z.2.2)] at q
               exact q)
            | (have q := ih (by omega) (some (.int (iI 0)))
               rw [hbw (fun z => by omega)] at q
               exact q)
        · refine ev_iload dX8_kept_71 rfl ?_
          refine ev_iload_n dX8_kept_73 rfl ?_
          refine ev_iconst dX8_kept_74 ?_
          refine ev_ixor dX8_kept_75 ?_
          refine ev_iand dX8_kept_76 ?_
          rw [band_not s _ (by omega)]
          have hal := andn_le s w
          refine ev_if_ne (tgt := 95) dX8_kept_77 (by decide) ⟨by omega, by omega⟩ (fun h_77 => ?_) (fun h_77 => ?_)
          · refine ev_iload_n dX8_kept_95 rfl ?_
            refine ev_istore_n dX8_kept_96 rfl (by decide) rfl ?_
            refine ev_iinc dX8_kept_97 rfl rfl (by decide) rfl ?_
            refine ev_goto (tgt := 32) dX8_kept_100 (by decide) ?_
            first
              | (exfalso; omega)
              | (have q := ih (by omega) (some (.int (iI 1)))
                 rw [hfw ⟨by omega, by omega, bC_ne h_87⟩] at q
                 exact q)
              | (have q := ih (by omega) (some (.int (iI 1)))
                 rw [hbw (fun z => by
                   first
                     | omega
                     | exact bC_eq h_87 z.2.2)] at q
                 exact q)
              | (have q := ih (by omega) (some (.int (iI 0)))
                 rw [hbw (fun z => by omega)] at q
                 exact q)
          · refine ev_aload_n dX8_kept_80 rfl ?_
            refine ev_iload dX8_kept_81 rfl ?_
            refine ev_iload_n dX8_kept_83 rfl ?_
            refine ev_callVI dX8_kept_84 kv_X8_426 (m_isSafe μ σ P n nr nb nl w wt f t hM s T a hs4 (by omega) ha9.1 ha9.2.1 ha9.2.2) rfl rfl (ci := 8) rfl rfl ⟨by decide, by decide⟩ (Nat.le_of_ble_eq_true rfl) ?_
            refine ev_w (fun hR => ?_)
            refine ev_if_eq (tgt := 95) dX8_kept_87 (by decide) (by first | exact hR.1 _ _ | exact hR0.1 _ _ | assumption | exact ⟨by omega, by omega⟩ | exact ⟨by simp [wr_at]; omega, by simp [wr_at]; omega⟩ | exact b2_R _ | exact bC_R _ | exact band_R _ _ | exact bor_R _ _ | exact bshl_R _ _ | exact bshr_R _ _ | exact bxor_R _ _ | exact bs_R (by omega) | decide) (fun h_87 => ?_) (fun h_87 => ?_)
            · refine ev_iload_n dX8_kept_95 rfl ?_
              refine ev_istore_n dX8_kept_96 rfl (by decide) rfl ?_
              refine ev_iinc dX8_kept_97 rfl rfl (by decide) rfl ?_
              refine ev_goto (tgt := 32) dX8_kept_100 (by decide) ?_
              first
                | (exfalso; omega)
                | (have q := ih (by omega) (some (.int (iI 1)))
                   rw [hfw ⟨by omega, by omega, bC_ne h_87⟩] at q
                   exact q)
                | (have q := ih (by omega) (some (.int (iI 1)))
                   rw [hbw (fun z => by
                     first
                       | omega
                       | exact bC_eq h_87 z.2.2)] at q
                   exact q)
                | (have q := ih (by omega) (some (.int (iI 0)))
                   rw [hbw (fun z => by omega)] at q
                   exact q)
            · refine ev_iload dX8_kept_90 rfl ?_
              refine ev_goto (tgt := 96) dX8_kept_92 (by decide) ?_
              refine ev_istore_n dX8_kept_96 rfl (by decide) rfl ?_
              refine ev_iinc dX8_kept_97 rfl rfl (by decide) rfl ?_
              refine ev_goto (tgt := 32) dX8_kept_100 (by decide) ?_
              first
                | (exfalso; omega)
                | (have q := ih (by omega) (some (.int (iI 1)))
                   rw [hfw ⟨by omega, by omega, bC_ne h_87⟩] at q
                   exact q)
                | (have q := ih (by omega) (some (.int (iI 1)))
                   rw [hbw (fun z => by
                     first
                       | omega
                       | exact bC_eq h_87 z.2.2)] at q
                   exact q)
                | (have q := ih (by omega) (some (.int (iI 0)))
                   rw [hbw (fun z => by omega)] at q
                   exact q)
      · refine ev_iload dX8_kept_47 rfl ?_
        refine ev_callSI dX8_kept_49 ks_X8_361 (m_bits μ s (by omega)) rfl rfl ⟨by decide, by decide⟩ (Nat.le_of_ble_eq_true rfl) ?_
        refine ev_w (fun hR => ?_)
        skip
        refine ev_iload_n dX8_kept_52 rfl ?_
        obtain ⟨j9, hj9⟩ := Int.eq_ofNat_of_zero_le (show 0 ≤ k9 by omega)
        subst hj9
        rw [show ((j9 : Int)).toNat = j9 from rfl] at *
        refine ev_callSI dX8_kept_53 ks_X8_361 (m_bits μ j9 (by omega)) rfl rfl ⟨by decide, by decide⟩ (Nat.le_of_ble_eq_true rfl) ?_
        refine ev_w (fun hR => ?_)
        refine ev_icmp_ge (tgt := 63) dX8_kept_56 (by decide) ⟨by omega, by omega⟩ ⟨by omega, by omega⟩ (fun h_56 => ?_) (fun h_56 => ?_)
        · refine ev_iconst dX8_kept_63 ?_
          refine ev_istore dX8_kept_64 rfl (by decide) rfl ?_
          refine ev_iload dX8_kept_66 rfl ?_
          refine ev_if_eq (tgt := 95) dX8_kept_68 (by decide) (by first | exact hR.1 _ _ | exact hR0.1 _ _ | assumption | exact ⟨by omega, by omega⟩ | exact ⟨by simp [wr_at]; omega, by simp [wr_at]; omega⟩ | exact b2_R _ | exact bC_R _ | exact band_R _ _ | exact bor_R _ _ | exact bshl_R _ _ | exact bshr_R _ _ | exact bxor_R _ _ | exact bs_R (by omega) | decide) (fun h_68 => ?_) (fun h_68 => ?_)
          · refine ev_iload_n dX8_kept_95 rfl ?_
            refine ev_istore_n dX8_kept_96 rfl (by decide) rfl ?_
            refine ev_iinc dX8_kept_97 rfl rfl (by decide) rfl ?_
            refine ev_goto (tgt := 32) dX8_kept_100 (by decide) ?_
            first
              | (exfalso; omega)
              | (have q := ih (by omega) (some (.int (iI 1)))
                 rw [hfw ⟨by omega, by omega, bC_ne h_87⟩] at q
                 exact q)
              | (have q := ih (by omega) (some (.int (iI 1)))
                 rw [hbw (fun z => by
                   first
                     | omega
                     | exact bC_eq h_87 z.2.2)] at q
                 exact q)
              | (have q := ih (by omega) (some (.int (iI 0)))
                 rw [hbw (fun z => by omega)] at q
                 exact q)
          · refine ev_iload dX8_kept_71 rfl ?_
            refine ev_iload_n dX8_kept_73 rfl ?_
            refine ev_iconst dX8_kept_74 ?_
            refine ev_ixor dX8_kept_75 ?_
            refine ev_iand dX8_kept_76 ?_
            rw [band_not s _ (by omega)]
            have hal := andn_le s w
            refine ev_if_ne (tgt := 95) dX8_kept_77 (by decide) ⟨by omega, by omega⟩ (fun h_77 => ?_) (fun h_77 => ?_)
            · refine ev_iload_n dX8_kept_95 rfl ?_
              refine ev_istore_n dX8_kept_96 rfl (by decide) rfl ?_
              refine ev_iinc dX8_kept_97 rfl rfl (by decide) rfl ?_
              refine ev_goto (tgt := 32) dX8_kept_100 (by decide) ?_
              first
                | (exfalso; omega)
                | (have q := ih (by omega) (some (.int (iI 1)))
                   rw [hfw ⟨by omega, by omega, bC_ne h_87⟩] at q
                   exact q)
                | (have q := ih (by omega) (some (.int (iI 1)))
                   rw [hbw (fun z => by
                     first
                       | omega
                       | exact bC_eq h_87 z.2.2)] at q
                   exact q)
                | (have q := ih (by omega) (some (.int (iI 0)))
                   rw [hbw (fun z => by omega)] at q
                   exact q)
            · refine ev_aload_n dX8_kept_80 rfl ?_
              refine ev_iload dX8_kept_81 rfl ?_
              refine ev_iload_n dX8_kept_83 rfl ?_
              refine ev_callVI dX8_kept_84 kv_X8_426 (m_isSafe μ σ P n nr nb nl w wt f t hM s T a hs4 (by omega) ha9.1 ha9.2.1 ha9.2.2) rfl rfl (ci := 8) rfl rfl ⟨by decide, by decide⟩ (Nat.le_of_ble_eq_true rfl) ?_
              refine ev_w (fun hR => ?_)
              refine ev_if_eq (tgt := 95) dX8_kept_87 (by decide) (by first | exact hR.1 _ _ | exact hR0.1 _ _ | assumption | exact ⟨by omega, by omega⟩ | exact ⟨by simp [wr_at]; omega, by simp [wr_at]; omega⟩ | exact b2_R _ | exact bC_R _ | exact band_R _ _ | exact bor_R _ _ | exact bshl_R _ _ | exact bshr_R _ _ | exact bxor_R _ _ | exact bs_R (by omega) | decide) (fun h_87 => ?_) (fun h_87 => ?_)
              · refine ev_iload_n dX8_kept_95 rfl ?_
                refine ev_istore_n dX8_kept_96 rfl (by decide) rfl ?_
                refine ev_iinc dX8_kept_97 rfl rfl (by decide) rfl ?_
                refine ev_goto (tgt := 32) dX8_kept_100 (by decide) ?_
                first
                  | (exfalso; omega)
                  | (have q := ih (by omega) (some (.int (iI 1)))
                     rw [hfw ⟨by omega, by omega, bC_ne h_87⟩] at q
                     exact q)
                  | (have q := ih (by omega) (some (.int (iI 1)))
                     rw [hbw (fun z => by
                       first
                         | omega
                         | exact bC_eq h_87 z.2.2)] at q
                     exact q)
                  | (have q := ih (by omega) (some (.int (iI 0)))
                     rw [hbw (fun z => by omega)] at q
                     exact q)
              · refine ev_iload dX8_kept_90 rfl ?_
                refine ev_goto (tgt := 96) dX8_kept_92 (by decide) ?_
                refine ev_istore_n dX8_kept_96 rfl (by decide) rfl ?_
                refine ev_iinc dX8_kept_97 rfl rfl (by decide) rfl ?_
                refine ev_goto (tgt := 32) dX8_kept_100 (by decide) ?_
                first
                  | (exfalso; omega)
                  | (have q := ih (by omega) (some (.int (iI 1)))
                     rw [hfw ⟨by omega, by omega, bC_ne h_87⟩] at q
                     exact q)
                  | (have q := ih (by omega) (some (.int (iI 1)))
                     rw [hbw (fun z => by
                       first
                         | omega
                         | exact bC_eq h_87 z.2.2)] at q
                     exact q)
                  | (have q := ih (by omega) (some (.int (iI 0)))
                     rw [hbw (fun z => by omega)] at q
                     exact q)
        · refine ev_iconst dX8_kept_59 ?_
          refine ev_goto (tgt := 64) dX8_kept_60 (by decide) ?_
          refine ev_istore dX8_kept_64 rfl (by decide) rfl ?_
          refine ev_iload dX8_kept_66 rfl ?_
          refine ev_if_eq (tgt := 95) dX8_kept_68 (by decide) (by first | exact hR.1 _ _ | exact hR0.1 _ _ | assumption | exact ⟨by omega, by omega⟩ | exact ⟨by simp [wr_at]; omega, by simp [wr_at]; omega⟩ | exact b2_R _ | exact bC_R _ | exact band_R _ _ | exact bor_R _ _ | exact bshl_R _ _ | exact bshr_R _ _ | exact bxor_R _ _ | exact bs_R (by omega) | decide) (fun h_68 => ?_) (fun h_68 => ?_)
          · refine ev_iload_n dX8_kept_95 rfl ?_
            refine ev_istore_n dX8_kept_96 rfl (by decide) rfl ?_
            refine ev_iinc dX8_kept_97 rfl rfl (by decide) rfl ?_
            refine ev_goto (tgt := 32) dX8_kept_100 (by decide) ?_
            first
              | (exfalso; omega)
              | (have q := ih (by omega) (some (.int (iI 1)))
                 rw [hfw ⟨by omega, by omega, bC_ne h_87⟩] at q
                 exact q)
              | (have q := ih (by omega) (some (.int (iI 1)))
                 rw [hbw (fun z => by
                   first
                     | omega
                     | exact bC_eq h_87 z.2.2)] at q
                 exact q)
              | (have q := ih (by omega) (some (.int (iI 0)))
                 rw [hbw (fun z => by omega)] at q
                 exact q)
          · refine ev_iload dX8_kept_71 rfl ?_
            refine ev_iload_n dX8_kept_73 rfl ?_
            refine ev_iconst dX8_kept_74 ?_
            refine ev_ixor dX8_kept_75 ?_
            refine ev_iand dX8_kept_76 ?_
            rw [band_not s _ (by omega)]
            have hal := andn_le s w
            refine ev_if_ne (tgt := 95) dX8_kept_77 (by decide) ⟨by omega, by omega⟩ (fun h_77 => ?_) (fun h_77 => ?_)
            · refine ev_iload_n dX8_kept_95 rfl ?_
              refine ev_istore_n dX8_kept_96 rfl (by decide) rfl ?_
              refine ev_iinc dX8_kept_97 rfl rfl (by decide) rfl ?_
              refine ev_goto (tgt := 32) dX8_kept_100 (by decide) ?_
              first
                | (exfalso; omega)
                | (have q := ih (by omega) (some (.int (iI 1)))
                   rw [hfw ⟨by omega, by omega, bC_ne h_87⟩] at q
                   exact q)
                | (have q := ih (by omega) (some (.int (iI 1)))
                   rw [hbw (fun z => by
                     first
                       | omega
                       | exact bC_eq h_87 z.2.2)] at q
                   exact q)
                | (have q := ih (by omega) (some (.int (iI 0)))
                   rw [hbw (fun z => by omega)] at q
                   exact q)
            · refine ev_aload_n dX8_kept_80 rfl ?_
              refine ev_iload dX8_kept_81 rfl ?_
              refine ev_iload_n dX8_kept_83 rfl ?_
              refine ev_callVI dX8_kept_84 kv_X8_426 (m_isSafe μ σ P n nr nb nl w wt f t hM s T a hs4 (by omega) ha9.1 ha9.2.1 ha9.2.2) rfl rfl (ci := 8) rfl rfl ⟨by decide, by decide⟩ (Nat.le_of_ble_eq_true rfl) ?_
              refine ev_w (fun hR => ?_)
              refine ev_if_eq (tgt := 95) dX8_kept_87 (by decide) (by first | exact hR.1 _ _ | exact hR0.1 _ _ | assumption | exact ⟨by omega, by omega⟩ | exact ⟨by simp [wr_at]; omega, by simp [wr_at]; omega⟩ | exact b2_R _ | exact bC_R _ | exact band_R _ _ | exact bor_R _ _ | exact bshl_R _ _ | exact bshr_R _ _ | exact bxor_R _ _ | exact bs_R (by omega) | decide) (fun h_87 => ?_) (fun h_87 => ?_)
              · refine ev_iload_n dX8_kept_95 rfl ?_
                refine ev_istore_n dX8_kept_96 rfl (by decide) rfl ?_
                refine ev_iinc dX8_kept_97 rfl rfl (by decide) rfl ?_
                refine ev_goto (tgt := 32) dX8_kept_100 (by decide) ?_
                first
                  | (exfalso; omega)
                  | (have q := ih (by omega) (some (.int (iI 1)))
                     rw [hfw ⟨by omega, by omega, bC_ne h_87⟩] at q
                     exact q)
                  | (have q := ih (by omega) (some (.int (iI 1)))
                     rw [hbw (fun z => by
                       first
                         | omega
                         | exact bC_eq h_87 z.2.2)] at q
                     exact q)
                  | (have q := ih (by omega) (some (.int (iI 0)))
                     rw [hbw (fun z => by omega)] at q
                     exact q)
              · refine ev_iload dX8_kept_90 rfl ?_
                refine ev_goto (tgt := 96) dX8_kept_92 (by decide) ?_
                refine ev_istore_n dX8_kept_96 rfl (by decide) rfl ?_
                refine ev_iinc dX8_kept_97 rfl rfl (by decide) rfl ?_
                refine ev_goto (tgt := 32) dX8_kept_100 (by decide) ?_
                first
                  | (exfalso; omega)
                  | (have q := ih (by omega) (some (.int (iI 1)))
                     rw [hfw ⟨by omega, by omega, bC_ne h_87⟩] at q
                     exact q)
                  | (have q := ih (by omega) (some (.int (iI 1)))
                     rw [hbw (fun z => by
                       first
                         | omega
                         | exact bC_eq h_87 z.2.2)] at q
                     exact q)
                  | (have q := ih (by omega) (some (.int (iI 0)))
                     rw [hbw (fun z => by omega)] at q
                     exact q)
  refine ev_iload_n dX8_kept_0 rfl ?_
  refine ev_i2l dX8_kept_1 hx ?_
  refine ev_lconst (z := 0) dX8_kept_2 (by decide) ?_
  refine ev_iconst dX8_kept_3 ?_
  refine ev_aload_n dX8_kept_4 rfl ?_
  refine ev_getI (kz := 0) dX8_kept_5 fl_X8_177 rfl rfl rfl ?_
  rw [cn]
  refine ev_ishl dX8_kept_8 ?_
  rw [bshl1 n (by omega)]
  refine ev_iconst dX8_kept_9 ?_
  refine ev_isub dX8_kept_10 ?_
  refine ev_i2l dX8_kept_11 ⟨by omega, by omega⟩ ?_
  refine ev_callSI dX8_kept_12 ks_X8_180 (m_in μ x 0 ((2 ^ n : Nat) - 1) ⟨by omega, by omega⟩ (by decide) ⟨by omega, by omega⟩) rfl rfl ⟨by decide, by decide⟩ (Nat.le_of_ble_eq_true rfl) ?_
  refine ev_w (fun hR => ?_)
  refine ev_if_ne (tgt := 22) dX8_kept_15 (by decide) (by first | exact hR.1 _ _ | exact hR0.1 _ _ | assumption | exact ⟨by omega, by omega⟩ | exact ⟨by simp [wr_at]; omega, by simp [wr_at]; omega⟩ | exact b2_R _ | exact bC_R _ | exact band_R _ _ | exact bor_R _ _ | exact bshl_R _ _ | exact bshr_R _ _ | exact bxor_R _ _ | exact bs_R (by omega) | decide) (fun h_15 => ?_) (fun h_15 => ?_)
  · have q0 := b2_ne h_15
    obtain ⟨T, rfl⟩ := Int.eq_ofNat_of_zero_le q0.1
    refine ev_aload_n dX8_kept_22 rfl ?_
    refine ev_callVI dX8_kept_23 kv_X8_309 (m_wholeSet μ nr cr hnr12) rfl rfl (ci := 8) rfl rfl ⟨by decide, by decide⟩ (Nat.le_of_ble_eq_true rfl) ?_
    refine ev_w (fun hR => ?_)
    rw [hM.whl hw]
    refine ev_istore_n dX8_kept_26 rfl (by decide) rfl ?_
    refine ev_iconst dX8_kept_27 ?_
    refine ev_istore_n dX8_kept_28 rfl (by decide) rfl ?_
    refine ev_iconst dX8_kept_29 ?_
    refine ev_istore dX8_kept_30 rfl (by decide) rfl ?_
    exact loop T rfl (by omega) 0 (by omega) _
  · refine ev_ldcw (z := -1000000001) dX8_kept_18 kc_X8_316 (by decide) ?_
    refine ev_ireturn dX8_kept_21 ?_
    rw [if_pos (fun z => b2_eq (by omega : b2 (0 ≤ x ∧ x ≤ ((2 ^ n : Nat) : Int) - 1) = 0) ⟨z.1, by omega⟩)]
    exact ⟨rfl, rfl⟩
theorem Rch.mono {f t : Nat → Nat} {nr S S' a p : Nat} (hs : ∀ r, S.testBit r = true → S'.testBit r = true) (h : Rch f t nr S a p) : Rch f t nr S' a p := fun X hX hc => h X hX (fun r hr h1 => hc r hr (hs r h1))
theorem andn_sub {S S' r : Nat} (hs : ∀ i, S.testBit i = true → S'.testBit i = true) : ∀ i, (andn S (2 ^ r)).testBit i = true → (andn S' (2 ^ r)).testBit i = true := by
  intro i hi
  rw [andn_bit] at *
  simp only [Bool.and_eq_true] at *
  exact ⟨hs i hi.1, hi.2⟩
theorem Safe.mono {f t : Nat → Nat} {nr S S' T a : Nat} (hs : ∀ r, S.testBit r = true → S'.testBit r = true) (h : Safe f t nr S T a) : Safe f t nr S' T a := by
  refine ⟨fun p hp => (h.1 p hp).mono hs, fun r hr h2 p hp => ?_⟩
  by_cases q : S.testBit r = true
  · exact (h.2 r hr q p hp).mono (andn_sub hs)
  · refine (h.1 p hp).mono (fun i hi => ?_)
    rw [andn_bit, hs i hi]
    by_cases e : r = i
    · subst e; exact absurd hi q
    · simp [e]
theorem cnt_pos {p : Nat → Bool} {n i : Nat} (hi : i < n) (h : p i = true) : 1 ≤ cnt p n := by
  have h0 : cnt (fun _ => false) n = 0 := by
    induction n with
    | zero => rfl
    | succ n ih =>
      rw [cnt]
      by_cases e : i < n
      · simp [ih e]
      · have : ∀ m, cnt (fun _ => false) m = 0 := by
          intro m
          induction m with
          | zero => rfl
          | succ m ihm => rw [cnt]; simp [ihm]
        simp [this]
  have := cnt_more (p := fun _ => false) (q := p) hi rfl h (fun _ _ hj => absurd hj (by decide))
  omega
theorem cnt_one {p : Nat → Bool} {n : Nat} (h : cnt p n < 2) : (∀ i, i < n → p i = false) ∨ ∃ i, i < n ∧ p i = true ∧ ∀ j, j < n → p j = true → j = i := by
  induction n with
  | zero => exact Or.inl (fun i hi => by omega)
  | succ n ih =>
    rw [cnt] at h
    by_cases q : p n = true
    · rw [if_pos q] at h
      refine Or.inr ⟨n, by omega, q, fun j hj hp => ?_⟩
      refine Classical.byContradiction (fun e => ?_)
      have := cnt_pos (show j < n by omega) hp
      omega
    · rw [if_neg q] at h
      have q2 : p n = false := by simpa using q
      rcases ih h with h1 | ⟨i, hi, hp, hu⟩
      · refine Or.inl (fun i hi => ?_)
        by_cases e : i = n
        · subst e; exact q2
        · exact h1 i (by omega)
      · refine Or.inr ⟨i, by omega, hp, fun j hj hpj => ?_⟩
        by_cases e : j = n
        · subst e; rw [q2] at hpj; exact absurd hpj (by decide)
        · exact hu j (by omega) hpj
theorem cnt_two {p : Nat → Bool} {n a : Nat} (h : 2 ≤ cnt p n) : ∃ i, i < n ∧ p i = true ∧ i ≠ a := by
  refine Classical.byContradiction (fun hn => ?_)
  have h1 : cnt p n ≤ 1 := by
    have : ∀ m, m ≤ n → cnt p m ≤ 1 ∧ (a < m ∨ cnt p m = 0) := by
      intro m
      induction m with
      | zero => intro _; exact ⟨Nat.zero_le _, Or.inr rfl⟩
      | succ m ih =>
        intro hm
        have i := ih (by omega)
        rw [cnt]
        by_cases q : p m = true
        · have e : m = a := Classical.byContradiction (fun e => hn ⟨m, by omega, q, e⟩)
          rw [if_pos q]
          omega
        · rw [if_neg q]
          omega
    exact (this n (Nat.le_refl _)).1
  omega
/-- no rope of S at p: then p is not joined to another told pole -/
theorem Jn.lone {f t : Nat → Nat} {nr S T a p p' : Nat} (h : Jn f t nr S T a) (hp : T.testBit p = true) (hp' : T.testBit p' = true) (hne : p' ≠ p) (hno : ∀ r, r < nr → S.testBit r = true → f r ≠ p ∧ t r ≠ p) : False := by
  by_cases e : a = p
  · have := h p' hp' (fun x => x = p) e (fun r hr hs => by
      have := hno r hr hs
      exact ⟨fun z => absurd z this.1, fun z => absurd z this.2⟩)
    exact hne this
  · have := h p hp (fun x => x ≠ p) e (fun r hr hs => by
      have := hno r hr hs
      exact ⟨fun _ => this.2, fun _ => this.1⟩)
    exact this rfl
theorem inc_bit {f t : Nat → Nat} {nr S p i : Nat} : (S &&& bs (fun r => decide (f r = p ∨ t r = p)) nr).testBit i = true ↔ S.testBit i = true ∧ i < nr ∧ (f i = p ∨ t i = p) := by
  rw [Nat.testBit_and, bs_test]
  simp [and_assoc]
theorem Out_Safe {f t : Nat → Nat} {n nr S T a : Nat} (hnr : nr ≤ 12) (hT : T < 2 ^ n) (hn8 : n ≤ 8) (hT2 : 2 ≤ cnt T.testBit 12) (ha : T.testBit a = true) : OutC f t n nr S T a ↔ Safe f t nr S T a := by
  have hlt : ∀ p, T.testBit p = true → p < n := fun p hp => by
    refine Classical.byContradiction (fun hnp => ?_)
    have : T.testBit p = false := Nat.testBit_lt_two_pow (Nat.lt_of_lt_of_le hT (Nat.pow_le_pow_right (by decide) (by omega)))
    rw [this] at hp
    exact absurd hp (by decide)
  constructor
  · rintro ⟨h1, h2⟩
    refine ⟨?_, h2⟩
    have d := h1 a (hlt a ha) ha
    obtain ⟨r, hr, hb, -⟩ := cnt_two (a := 99) d
    obtain ⟨b1, b2, -⟩ := inc_bit.mp hb
    intro p hp
    refine (h2 r b2 b1 p hp).mono (fun i hi => ?_)
    rw [andn_bit] at hi
    simp only [Bool.and_eq_true] at hi
    exact hi.1
  · rintro ⟨h1, h2⟩
    refine ⟨fun p hp hpT => ?_, h2⟩
    refine Classical.byContradiction (fun hd => ?_)
    obtain ⟨p', -, hp', hne⟩ := cnt_two (a := p) hT2
    rcases cnt_one (show cnt (S &&& bs (fun r => decide (f r = p ∨ t r = p)) nr).testBit 12 < 2 by omega) with c | ⟨r0, hr0, hb0, hu⟩
    · refine Jn.lone h1 hpT hp' hne (fun r hr hs => ?_)
      have c1 := c r (by omega)
      refine Classical.byContradiction (fun hx => ?_)
      have : (S &&& bs (fun r => decide (f r = p ∨ t r = p)) nr).testBit r = true := inc_bit.mpr ⟨hs, hr, by omega⟩
      rw [c1] at this
      exact absurd this (by decide)
    · obtain ⟨b1, b2, b3⟩ := inc_bit.mp hb0
      refine Jn.lone (h2 r0 b2 b1) hpT hp' hne (fun r hr hs => ?_)
      rw [andn_bit] at hs
      simp only [Bool.and_eq_true, Bool.not_eq_true', decide_eq_false_iff_not] at hs
      refine Classical.byContradiction (fun hx => ?_)
      exact hs.2 (hu r (by omega) (inc_bit.mpr ⟨hs.1, hr, by omega⟩)).symm
/-- sums of counts -/
def sumC (g : Nat → Nat) : Nat → Nat
  | 0 => 0
  | n + 1 => sumC g n + g n
theorem sumC_mono {g h : Nat → Nat} {n : Nat} (hg : ∀ i, i < n → g i ≤ h i) : sumC g n ≤ sumC h n := by
  induction n with
  | zero => exact Nat.le_refl _
  | succ n ih =>
    have a := ih (fun i hi => hg i (by omega))
    have b := hg n (by omega)
    rw [sumC, sumC]
    omega
theorem sumC_add {g h : Nat → Nat} : ∀ n, sumC (fun i => g i + h i) n = sumC g n + sumC h n := by
  intro n
  induction n with
  | zero => rfl
  | succ n ih => rw [sumC, sumC, sumC, ih]; omega
theorem sumC_ind {p : Nat → Bool} : ∀ n, sumC (fun i => if p i then 2 else 0) n = 2 * cnt p n := by
  intro n
  induction n with
  | zero => rfl
  | succ n ih =>
    rw [sumC, cnt, ih]
    cases p n
    · simp
    · simp; omega
theorem sumC_le2 {x y : Nat} : ∀ n, sumC (fun p => if decide (x = p ∨ y = p) then 1 else 0) n ≤ (if x < n then 1 else 0) + (if y < n then 1 else 0) := by
  intro n
  induction n with
  | zero => exact Nat.zero_le _
  | succ n ih =>
    have cut : ∀ z : Nat, (if z < n + 1 then 1 else 0) = (if z < n then 1 else 0) + (if z = n then 1 else 0) := by
      intro z
      rcases Nat.lt_trichotomy z n with h | h | h
      · rw [if_pos (by omega), if_pos h, if_neg (by omega)]
      · rw [if_pos (by omega), if_neg (by omega), if_pos h]
      · rw [if_neg (by omega), if_neg (by omega), if_neg (by omega)]
    have st : (if decide (x = n ∨ y = n) then 1 else 0) ≤ (if x = n then 1 else 0) + (if y = n then 1 else 0) := by
      by_cases h1 : x = n <;> by_cases h2 : y = n <;> simp [h1, h2]
    rw [sumC, cut x, cut y]
    omega
theorem ropes_ge {f t : Nat → Nat} {n nr S T a : Nat} (hT : T < 2 ^ n) (h : OutC f t n nr S T a) : cnt T.testBit 12 ≤ cnt S.testBit 12 := by
  have hlt : ∀ p, T.testBit p = true → p < n := fun p hp => by
    refine Classical.byContradiction (fun hnp => ?_)
    have : T.testBit p = false := Nat.testBit_lt_two_pow (Nat.lt_of_lt_of_le hT (Nat.pow_le_pow_right (by decide) (by omega)))
    rw [this] at hp
    exact absurd hp (by decide)
  have up : ∀ m, sumC (fun p => cnt (S &&& bs (fun r => decide (f r = p ∨ t r = p)) nr).testBit m) 12 ≤ 2 * cnt S.testBit m := by
    intro m
    induction m with
    | zero => exact Nat.le_refl 0
    | succ m ih =>
      have e : (fun p => cnt (S &&& bs (fun r => decide (f r = p ∨ t r = p)) nr).testBit (m + 1)) = fun p => cnt (S &&& bs (fun r => decide (f r = p ∨ t r = p)) nr).testBit m + (if (S &&& bs (fun r => decide (f r = p ∨ t r = p)) nr).testBit m then 1 else 0) := by
        funext p
        rw [cnt]
      rw [e, sumC_add]
      have l := sumC_le2 (x := f m) (y := t m) 12
      have g : sumC (fun p => if (S &&& bs (fun r => decide (f r = p ∨ t r = p)) nr).testBit m then 1 else 0) 12 ≤ (if S.testBit m then 2 else 0) := by
        by_cases q : S.testBit m = true
        · rw [if_pos q]
          refine Nat.le_trans (sumC_mono (h := fun p => if decide (f m = p ∨ t m = p) then 1 else 0) (fun i _ => ?_)) ?_
          · by_cases z : (S &&& bs (fun r => decide (f r = i ∨ t r = i)) nr).testBit m = true
            · have := inc_bit.mp z
              rw [if_pos z, if_pos (by simpa using this.2.2)]
              exact Nat.le_refl _
            · rw [if_neg z]; exact Nat.zero_le _
          · refine Nat.le_trans l ?_
            split <;> split <;> omega
        · rw [if_neg q]
          refine Nat.le_trans (sumC_mono (h := fun _ => 0) (fun i _ => ?_)) (by decide)
          rw [if_neg (fun z => q (inc_bit.mp z).1)]
          exact Nat.le_refl _
      rw [show cnt S.testBit (m + 1) = cnt S.testBit m + (if S.testBit m then 1 else 0) from rfl]
      by_cases q : S.testBit m = true
      · rw [if_pos q] at g ⊢; omega
      · rw [if_neg q] at g ⊢; omega
  have lo : sumC (fun i => if T.testBit i then 2 else 0) 12 ≤ sumC (fun p => cnt (S &&& bs (fun r => decide (f r = p ∨ t r = p)) nr).testBit 12) 12 := by
    refine sumC_mono (fun p _ => ?_)
    split
    next q => exact h.1 p (hlt p q) q
    next => exact Nat.zero_le _
  have := up 12
  rw [sumC_ind] at lo
  omega
/-- the best, once found -/
theorem kfR_best {f t : Nat → Nat} {nr w T a : Nat} : ∀ N, (kfR f t nr w T a N = -1 ∧ ∀ S, S < N → ¬ (andn S w = 0 ∧ Safe f t nr S T a)) ∨ ∃ S : Nat, S < N ∧ kfR f t nr w T a N = S ∧ andn S w = 0 ∧ Safe f t nr S T a ∧ ∀ S', S' < N → andn S' w = 0 → Safe f t nr S' T a → (cnt S.testBit 12 < cnt S'.testBit 12 ∨ (cnt S.testBit 12 = cnt S'.testBit 12 ∧ S ≤ S')) := by
  intro N
  induction N with
  | zero => exact Or.inl ⟨rfl, fun S hS => by omega⟩
  | succ N ih =>
    by_cases g : andn N w = 0 ∧ Safe f t nr N T a
    · rcases ih with ⟨i1, i2⟩ | ⟨S, s1, s2, s3, s4, s5⟩
      · refine Or.inr ⟨N, by omega, kfR_t ⟨Or.inl (by omega), g⟩, g.1, g.2, fun S' h1 h2 h3 => ?_⟩
        by_cases e : S' = N
        · subst e; exact Or.inr ⟨rfl, Nat.le_refl _⟩
        · exact absurd ⟨h2, h3⟩ (i2 S' (by omega))
      · by_cases c : cnt N.testBit 12 < cnt S.testBit 12
        · refine Or.inr ⟨N, by omega, kfR_t ⟨Or.inr (by rw [s2]; exact c), g⟩, g.1, g.2, fun S' h1 h2 h3 => ?_⟩
          by_cases e : S' = N
          · subst e; exact Or.inr ⟨rfl, Nat.le_refl _⟩
          · have := s5 S' (by omega) h2 h3
            omega
        · refine Or.inr ⟨S, by omega, ?_, s3, s4, fun S' h1 h2 h3 => ?_⟩
          · rw [kfR_f (fun z => ?_), s2]
            rcases z.1 with z | z
            · omega
            · rw [s2] at z; exact c z
          · by_cases e : S' = N
            · subst e; omega
            · exact s5 S' (by omega) h2 h3
    · have e := kfR_f (f := f) (t := t) (nr := nr) (w := w) (T := T) (a := a) (s := N) (fun z => g z.2)
      rcases ih with ⟨i1, i2⟩ | ⟨S, s1, s2, s3, s4, s5⟩
      · refine Or.inl ⟨by rw [e, i1], fun S hS => ?_⟩
        by_cases q : S = N
        · subst q; exact g
        · exact i2 S (by omega)
      · refine Or.inr ⟨S, by omega, by rw [e, s2], s3, s4, fun S' h1 h2 h3 => ?_⟩
        by_cases q : S' = N
        · subst q; exact absurd ⟨h2, h3⟩ g
        · exact s5 S' (by omega) h2 h3
theorem kept_eq {f t : Nat → Nat} {n nr w T a : Nat} {z : Int} (hnr : nr ≤ 12) (hn8 : n ≤ 8) (hw : w < 2 ^ nr) (hT : T < 2 ^ n) (ha : a ≤ n) (ha0 : ∀ i, i < a → T.testBit i = false) (ha1 : a < n → T.testBit a = true) (h : KeptC f t n nr w T z) : z = kfR f t nr w T a (2 ^ nr) := by
  have hlt : ∀ p, T.testBit p = true → p < n := fun p hp => by
    refine Classical.byContradiction (fun hnp => ?_)
    have : T.testBit p = false := Nat.testBit_lt_two_pow (Nat.lt_of_lt_of_le hT (Nat.pow_le_pow_right (by decide) (by omega)))
    rw [this] at hp
    exact absurd hp (by decide)
  have hb := kfR_best (f := f) (t := t) (nr := nr) (w := w) (T := T) (a := a) (2 ^ nr)
  rcases h with ⟨hc, rfl⟩ | ⟨hc, b, hb1, hb0, h⟩
  · -- at most one told pole: no rope is needed
    have s0 : Safe f t nr 0 T a := by
      refine ⟨fun p hp => ?_, fun r hr hs => absurd hs (by simp)⟩
      have hpa : p = a := by
        rcases cnt_one hc with c | ⟨i, hi, hpi, hu⟩
        · have := hlt p hp
          rw [c p (by omega)] at hp
          exact absurd hp (by decide)
        · have hp9 := hlt p hp
          have e1 := hu p (by omega) hp
          have ha9 : a < n := by
            refine Classical.byContradiction (fun q => ?_)
            rw [ha0 p (by omega)] at hp
            exact absurd hp (by decide)
          have e2 := hu a (by omega) (ha1 ha9)
          omega
      subst hpa
      exact fun X hX _ => hX
    have a0 : andn 0 w = 0 := andn_zero.mpr (fun i hi => absurd hi (by simp))
    have h2p := Nat.two_pow_pos nr
    rcases hb with ⟨-, b2⟩ | ⟨S, s1, s2, s3, s4, s5⟩
    · exact absurd ⟨a0, s0⟩ (b2 0 h2p)
    · have := s5 0 h2p a0 s0
      have c0 : cnt (0 : Nat).testBit 12 = 0 := by decide
      rw [c0] at this
      rw [s2]
      omega
  · have hba : b = a := by
      have h1 := hlt b hb1
      rcases Nat.lt_trichotomy a b with q | q | q
      · have := hb0 a q
        rw [ha1 (by omega)] at this
        exact absurd this (by decide)
      · exact q.symm
      · rw [ha0 b q] at hb1
        exact absurd hb1 (by decide)
    subst hba
    have iff := fun S => Out_Safe (f := f) (t := t) (n := n) (nr := nr) (S := S) (T := T) (a := b) hnr hT hn8 hc hb1
    have hsub : ∀ S, andn S w = 0 → S < 2 ^ nr := fun S hS => Nat.lt_of_le_of_lt (le_of_andn hS) hw
    have hcw : cnt w.testBit 12 ≤ nr := by
      have e : ∀ m, nr ≤ m → cnt w.testBit m = cnt w.testBit nr := by
        intro m hm
        induction m with
        | zero => obtain rfl : nr = 0 := by omega
                  rfl
        | succ m ih =>
          by_cases q : nr = m + 1
          · rw [q]
          · rw [cnt, ih (by omega), Nat.testBit_lt_two_pow (Nat.lt_of_lt_of_le hw (Nat.pow_le_pow_right (by decide) (by omega)))]
            simp
      rw [e 12 hnr]
      exact cnt_le _ _
    rcases h with ⟨h1, rfl⟩ | ⟨h1, ⟨rfl, h2⟩ | ⟨S, rfl, g1, g2, g3, g4⟩⟩
    · rcases hb with ⟨b1, -⟩ | ⟨S, s1, s2, s3, s4, s5⟩
      · exact b1.symm
      · refine absurd ((iff w).mpr (s4.mono (fun i hi => ?_))) h1
        exact andn_zero.mp s3 i hi
    · have := h2 w (andn_zero.mpr (fun i hi => hi)) h1 (ropes_ge hT h1)
      omega
    · rcases hb with ⟨b1, b2⟩ | ⟨S9, s1, s2, s3, s4, s5⟩
      · exact absurd ⟨g1, (iff S).mp g2⟩ (b2 S (hsub S g1))
      · have q1 := s5 S (hsub S g1) g1 ((iff S).mp g2)
        have o9 := (iff S9).mpr s4
        have q2 := g4 S9 s3 o9 (ropes_ge hT o9)
        rw [s2]
        omega
