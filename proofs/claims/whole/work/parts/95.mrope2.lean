theorem m_code2 (μ : Mem) (a b c V : Int) (ha : inR a) (hb : inR b) (hc : inR c) (hV : 27 * (27 * (a - 96) + b - 96) + c - 96 = V) : Con yX8_code cX8_code 3 (some .long) 0 0 [.int (iI a), .int (iI b), .int (iI c)] μ (AnsL V μ) := by
  have q := m_code μ a b c ha hb hc
  rw [hV] at q
  exact q
theorem m_longer2 (μ : Mem) (v a b V : Int) (ha : inR a) (hb : inR b) (hV : (if b = 0 then 27 * v + a - 96 else 27 * (27 * v + a - 96) + b - 96) = V) : Con yX8_longer cX8_longer 4 (some .long) 0 0 [.long (lI v), .int (iI a), .int (iI b)] μ (AnsL V μ) := by
  have q := m_longer μ v a b ha hb
  rw [hV] at q
  exact q
theorem cmpz_eq {a b : Int} : cmpz a b = 0 ↔ a = b := by unfold cmpz; split <;> (try split) <;> omega
/-- two poles read into rows j1, j2 -/
def TwoS (μ ν : Mem) (c : Nat → Int) (L : Nat) (d : PD) (i j1 j2 : Nat) (z : Int) (ν9 : Mem) : Prop := (∃ (f : Int) (w : Nat), (numR c L 0 ((d.1 0 : Int) - 1) i = .inl (f, w) ∨ ∃ (x1 : Int) (a1 e1 : Nat), numR c L 0 ((d.1 0 : Int) - 1) i = .inr (x1, a1, e1) ∧ othR c L (d.1 0) x1 e1 = .inl (f, w)) ∧ z = f ∧ 0 < f ∧ f ≤ 4 ∧ RS μ ν9 ∧ FA ν9 w ∧ ∀ k, k < 4 → ν9.1 79 (fM k) = d.1 k) ∨ ∃ (x1 : Int) (a1 e1 : Nat) (x2 : Int) (a2 e2 : Nat), numR c L 0 ((d.1 0 : Int) - 1) i = .inr (x1, a1, e1) ∧ othR c L (d.1 0) x1 e1 = .inr (x2, a2, e2) ∧ z = 0 ∧ SoFr μ ν9 d e2 ∧ ν9.1 (mM j1) (d.1 (grp j1)) = x1 ∧ ν9.1 (mM j2) (d.1 (grp j2)) = x2 ∧ ∀ q, 108 ≤ q → q ≤ 122 → q ≠ mM j1 → q ≠ mM j2 → ν9.1 q = ν.1 q
theorem TwoS.zR {μ ν ν9 : Mem} {c : Nat → Int} {L : Nat} {d : PD} {i j1 j2 : Nat} {z : Int} (h : TwoS μ ν c L d i j1 j2 z ν9) : 0 ≤ z ∧ z ≤ 4 := by
  rcases h with ⟨f, w, -, h, h2, h3, -⟩ | ⟨_, _, _, _, _, _, _, _, h, -⟩ <;> omega
theorem ropeR_two {c : Nat → Int} {L i w : Nat} {d : PD} {f : Int} (h : numR c L 0 ((d.1 0 : Int) - 1) i = .inl (f, w) ∨ ∃ (x1 : Int) (a1 e1 : Nat), numR c L 0 ((d.1 0 : Int) - 1) i = .inr (x1, a1, e1) ∧ othR c L (d.1 0) x1 e1 = .inl (f, w)) : ropeR c L d i = .inl (f, w) := by
  unfold ropeR
  rcases h with r | ⟨x1, a1, e1, r, r2⟩
  · rw [r]
  · rw [r]
    dsimp only
    rw [r2]
theorem loadR_two {c : Nat → Int} {L i w : Nat} {d : PD} {f : Int} (h : numR c L 0 ((d.1 0 : Int) - 1) i = .inl (f, w) ∨ ∃ (x1 : Int) (a1 e1 : Nat), numR c L 0 ((d.1 0 : Int) - 1) i = .inr (x1, a1, e1) ∧ othR c L (d.1 0) x1 e1 = .inl (f, w)) : loadR c L d i = .inl (f, w) := by
  unfold loadR
  rcases h with r | ⟨x1, a1, e1, r, r2⟩
  · rw [r]
  · rw [r]
    dsimp only
    rw [r2]
set_option maxHeartbeats 2000000 in
theorem m_twoR (μ : Mem) (c : Nat → Int) (L i : Nat) (d : PD) (hT : TX μ c L) (hiL : i ≤ L) (hS : SoFr μ μ d i) (hK : PDok d) (hf : d.1 1 < 12) : Con yX8_takeTwo cX8_takeTwo 5 (some .int) 3 73 [.ref 79, .ref 111, .ref 112, .int (iI (d.1 1 : Nat))] μ (AnsQ (TwoS μ μ c L d i 5 6)) := by
  refine con_of (by decide) rfl (Nat.le_of_ble_eq_true rfl) (ok_Q rfl) ?_
  refine ev_w (fun hR => ?_)
  have hR0 := hR
  have hL5 := hT.2.1
  obtain ⟨k0, k1, k2, k3, kp, kr, kb, kl⟩ := id hK
  have hc0 : ∀ {ν e}, SoFr μ ν d e → ν.1 79 43 = d.1 0 ∧ ν.1 79 47 = d.1 1 ∧ ν.1 79 52 = d.1 2 ∧ ν.1 79 56 = d.1 3 := fun {ν e} h => ⟨h.2.2.2.1 0 (by decide), h.2.2.2.1 1 (by decide), h.2.2.2.1 2 (by decide), h.2.2.2.1 3 (by decide)⟩
  have htx : ∀ {ν e}, SoFr μ ν d e → TX ν c L := fun {ν e} h => hT.rs h.1
  refine ev_aload_n dX8_takeTwo_0 rfl ?_
  refine ev_aload_n dX8_takeTwo_1 rfl ?_
  refine ev_iload_n dX8_takeTwo_2 rfl ?_
  refine ev_iconst dX8_takeTwo_3 ?_
  refine ev_aload_n dX8_takeTwo_4 rfl ?_
  refine ev_getI (kz := 43) dX8_takeTwo_5 fl_X8_254 rfl rfl rfl ?_
  rw [(hc0 hS).1]
  refine ev_iconst dX8_takeTwo_8 ?_
  refine ev_isub dX8_takeTwo_9 ?_
  refine ev_callVP dX8_takeTwo_10 kv_X8_257 (m_into μ c L i hT hS.2.2.1 hiL 0 ((d.1 0 : Int) - 1) (by first | decide | exact ⟨by omega, by omega⟩) (by first | decide | exact ⟨by omega, by omega⟩) 111 12 rfl (by decide) (d.1 1) (by omega)) rfl rfl (ci := 8) rfl rfl ⟨by decide, by decide⟩ (Nat.le_of_ble_eq_true rfl) ?_
  rintro v_10 τ_10 ⟨z_10, rfl, hq_10⟩
  refine ev_w (fun hR => ?_)
  refine ev_istore dX8_takeTwo_13 rfl (by decide) rfl ?_
  rcases into_S hS (show row 5 from ⟨by decide, by decide, by decide⟩) hq_10 with ⟨f1, w1, r1, rfl, f0, f4, hrs, hw, hcn⟩ | ⟨x1, a1, e1, r1, rfl, S1, vv1, ot1, nu1, na1⟩
  · refine ev_iload dX8_takeTwo_15 rfl ?_
    refine ev_if_le (tgt := 25) dX8_takeTwo_17 (by decide) (by first | exact hR.1 _ _ | exact hR0.1 _ _ | assumption | exact ⟨by omega, by omega⟩ | exact ⟨by simp [wr_at]; omega, by simp [wr_at]; omega⟩ | exact b2_R _ | exact bC_R _ | exact band_R _ _ | exact bor_R _ _ | exact bshl_R _ _ | exact bshr_R _ _ | exact bxor_R _ _ | exact bs_R (by omega) | decide) (fun h_17 => ?_) (fun h_17 => ?_)
    · exfalso; omega
    · refine ev_iload dX8_takeTwo_20 rfl ?_
      refine ev_goto (tgt := 38) dX8_takeTwo_22 (by decide) ?_
      refine ev_istore dX8_takeTwo_38 rfl (by decide) rfl ?_
      refine ev_iload dX8_takeTwo_40 rfl ?_
      refine ev_if_le (tgt := 50) dX8_takeTwo_42 (by decide) (by first | exact hR.1 _ _ | exact hR0.1 _ _ | assumption | exact ⟨by omega, by omega⟩ | exact ⟨by simp [wr_at]; omega, by simp [wr_at]; omega⟩ | exact b2_R _ | exact bC_R _ | exact band_R _ _ | exact bor_R _ _ | exact bshl_R _ _ | exact bshr_R _ _ | exact bxor_R _ _ | exact bs_R (by omega) | decide) (fun h_42 => ?_) (fun h_42 => ?_)
      · exfalso; omega
      · refine ev_iload dX8_takeTwo_45 rfl ?_
        refine ev_goto (tgt := 72) dX8_takeTwo_47 (by decide) ?_
        refine ev_ireturn dX8_takeTwo_72 ?_
        refine ⟨_, rfl, Or.inl ⟨_, _, Or.inl r1, rfl, f0, f4, hrs, hw, hcn⟩⟩
  · have n1 := numR_ok r1 hiL
    refine ev_iload dX8_takeTwo_15 rfl ?_
    refine ev_if_le (tgt := 25) dX8_takeTwo_17 (by decide) (by first | exact hR.1 _ _ | exact hR0.1 _ _ | assumption | exact ⟨by omega, by omega⟩ | exact ⟨by simp [wr_at]; omega, by simp [wr_at]; omega⟩ | exact b2_R _ | exact bC_R _ | exact band_R _ _ | exact bor_R _ _ | exact bshl_R _ _ | exact bshr_R _ _ | exact bxor_R _ _ | exact bs_R (by omega) | decide) (fun h_17 => ?_) (fun h_17 => ?_)
    · refine ev_aload_n dX8_takeTwo_25 rfl ?_
      refine ev_aload_n dX8_takeTwo_26 rfl ?_
      refine ev_iload_n dX8_takeTwo_27 rfl ?_
      refine ev_iconst dX8_takeTwo_28 ?_
      refine ev_aload_n dX8_takeTwo_29 rfl ?_
      refine ev_getI (kz := 43) dX8_takeTwo_30 fl_X8_254 rfl rfl rfl ?_
      rw [(hc0 S1).1]
      refine ev_iconst dX8_takeTwo_33 ?_
      refine ev_isub dX8_takeTwo_34 ?_
      refine ev_callVP dX8_takeTwo_35 kv_X8_257 (m_into _ c L e1 (htx S1) S1.2.2.1 n1.2.2.2.2 0 ((d.1 0 : Int) - 1) (by first | decide | exact ⟨by omega, by omega⟩) (by first | decide | exact ⟨by omega, by omega⟩) 112 12 rfl (by decide) (d.1 1) (by omega)) rfl rfl (ci := 8) rfl rfl ⟨by decide, by decide⟩ (Nat.le_of_ble_eq_true rfl) ?_
      rintro v_35 τ_35 ⟨z_35, rfl, hq_35⟩
      refine ev_w (fun hR => ?_)
      refine ev_istore dX8_takeTwo_38 rfl (by decide) rfl ?_
      rcases into_S S1 (show row 6 from ⟨by decide, by decide, by decide⟩) hq_35 with ⟨f2, w2, r2, rfl, f0, f4, hrs, hw, hcn⟩ | ⟨x2, a2, e2, r2, rfl, S2, vv2, ot2, nu2, na2⟩
      · refine ev_iload dX8_takeTwo_40 rfl ?_
        refine ev_if_le (tgt := 50) dX8_takeTwo_42 (by decide) (by first | exact hR.1 _ _ | exact hR0.1 _ _ | assumption | exact ⟨by omega, by omega⟩ | exact ⟨by simp [wr_at]; omega, by simp [wr_at]; omega⟩ | exact b2_R _ | exact bC_R _ | exact band_R _ _ | exact bor_R _ _ | exact bshl_R _ _ | exact bshr_R _ _ | exact bxor_R _ _ | exact bs_R (by omega) | decide) (fun h_42 => ?_) (fun h_42 => ?_)
        · exfalso; omega
        · refine ev_iload dX8_takeTwo_45 rfl ?_
          refine ev_goto (tgt := 72) dX8_takeTwo_47 (by decide) ?_
          refine ev_ireturn dX8_takeTwo_72 ?_
          refine ⟨_, rfl, Or.inl ⟨_, _, Or.inr ⟨x1, a1, e1, r1, by unfold othR; rw [r2]⟩, rfl, f0, f4, hrs, hw, hcn⟩⟩
      · have n2 := numR_ok r2 n1.2.2.2.2
        have hv1 : τ_35.1 111 ((d.1 1 : Nat) : Int) = x1 := by rw [ot2 111 (by decide) (by decide) (by decide)]; exact vv1
        have hv2 : τ_35.1 112 ((d.1 1 : Nat) : Int) = x2 := vv2
        refine ev_iload dX8_takeTwo_40 rfl ?_
        refine ev_if_le (tgt := 50) dX8_takeTwo_42 (by decide) (by first | exact hR.1 _ _ | exact hR0.1 _ _ | assumption | exact ⟨by omega, by omega⟩ | exact ⟨by simp [wr_at]; omega, by simp [wr_at]; omega⟩ | exact b2_R _ | exact bC_R _ | exact band_R _ _ | exact bor_R _ _ | exact bshl_R _ _ | exact bshr_R _ _ | exact bxor_R _ _ | exact bs_R (by omega) | decide) (fun h_42 => ?_) (fun h_42 => ?_)
        · refine ev_aload_n dX8_takeTwo_50 rfl ?_
          refine ev_iload_n dX8_takeTwo_51 rfl ?_
          refine ev_iaload dX8_takeTwo_52 rfl (by first | omega | (simp [wr_at]; omega) | (simp [wr_at, *]; omega)) (by first | omega | (simp [wr_at]; omega) | (simp [wr_at, *]; omega)) (by decide) ?_
          rw [hv1]
          refine ev_aload_n dX8_takeTwo_53 rfl ?_
          refine ev_iload_n dX8_takeTwo_54 rfl ?_
          refine ev_iaload dX8_takeTwo_55 rfl (by first | omega | (simp [wr_at]; omega) | (simp [wr_at, *]; omega)) (by first | omega | (simp [wr_at]; omega) | (simp [wr_at, *]; omega)) (by decide) ?_
          rw [hv2]
          refine ev_icmp_ne (tgt := 71) dX8_takeTwo_56 (by decide) ⟨by omega, by omega⟩ ⟨by omega, by omega⟩ (fun h_56 => ?_) (fun h_56 => ?_)
          · refine ev_iconst dX8_takeTwo_71 ?_
            refine ev_ireturn dX8_takeTwo_72 ?_
            first
              | (refine ⟨4, rfl, Or.inl ⟨4, a2, Or.inr ⟨x1, a1, e1, r1, by unfold othR; rw [r2]; dsimp only; rw [if_pos h_56.symm]⟩, rfl, by decide, by decide, S2.1.wf _ (by unfold PF; omega), FA.mk S2.2.2.1 (by omega), fun k hk => ?_⟩⟩
                 have := fM_R k
                 rw [wr_nek _ (by omega)]
                 exact S2.2.2.2.1 k hk)
              | (refine ⟨0, rfl, Or.inr ⟨x1, a1, e1, x2, a2, e2, r1, by unfold othR; rw [r2]; dsimp only; rw [if_neg (fun y => h_56 y.symm)], rfl, S2, hv1, hv2, fun q h1 h2 h3 h4 => ?_⟩⟩
                 rw [ot2 q h1 h2 h4, ot1 q h1 h2 h3])
          · refine ev_aload_n dX8_takeTwo_59 rfl ?_
            refine ev_iconst dX8_takeTwo_60 ?_
            refine ev_aload_n dX8_takeTwo_61 rfl ?_
            refine ev_getI (kz := 42) dX8_takeTwo_62 fl_X8_245 rfl rfl rfl ?_
            rw [na2]
            refine ev_callVI dX8_takeTwo_65 kv_X8_241 (m_fails _ 4 (a2 : Int) (by decide) ⟨by omega, by omega⟩) rfl rfl (ci := 8) rfl rfl ⟨by decide, by decide⟩ (Nat.le_of_ble_eq_true rfl) ?_
            refine ev_w (fun hR => ?_)
            refine ev_goto (tgt := 72) dX8_takeTwo_68 (by decide) ?_
            refine ev_ireturn dX8_takeTwo_72 ?_
            first
              | (refine ⟨4, rfl, Or.inl ⟨4, a2, Or.inr ⟨x1, a1, e1, r1, by unfold othR; rw [r2]; dsimp only; rw [if_pos h_56.symm]⟩, rfl, by decide, by decide, S2.1.wf _ (by unfold PF; omega), FA.mk S2.2.2.1 (by omega), fun k hk => ?_⟩⟩
                 have := fM_R k
                 rw [wr_nek _ (by omega)]
                 exact S2.2.2.2.1 k hk)
              | (refine ⟨0, rfl, Or.inr ⟨x1, a1, e1, x2, a2, e2, r1, by unfold othR; rw [r2]; dsimp only; rw [if_neg (fun y => h_56 y.symm)], rfl, S2, hv1, hv2, fun q h1 h2 h3 h4 => ?_⟩⟩
                 rw [ot2 q h1 h2 h4, ot1 q h1 h2 h3])
        · exfalso; omega
    · exfalso; omega
set_option maxHeartbeats 2000000 in
theorem m_twoL (μ : Mem) (c : Nat → Int) (L i : Nat) (d : PD) (hT : TX μ c L) (hiL : i ≤ L) (hS : SoFr μ μ d i) (hK : PDok d) (hf : d.1 3 < 4) : Con yX8_takeTwo cX8_takeTwo 5 (some .int) 3 73 [.ref 79, .ref 118, .ref 119, .int (iI (d.1 3 : Nat))] μ (AnsQ (TwoS μ μ c L d i 12 13)) := by
  refine con_of (by decide) rfl (Nat.le_of_ble_eq_true rfl) (ok_Q rfl) ?_
  refine ev_w (fun hR => ?_)
  have hR0 := hR
  have hL5 := hT.2.1
  obtain ⟨k0, k1, k2, k3, kp, kr, kb, kl⟩ := id hK
  have hc0 : ∀ {ν e}, SoFr μ ν d e → ν.1 79 43 = d.1 0 ∧ ν.1 79 47 = d.1 1 ∧ ν.1 79 52 = d.1 2 ∧ ν.1 79 56 = d.1 3 := fun {ν e} h => ⟨h.2.2.2.1 0 (by decide), h.2.2.2.1 1 (by decide), h.2.2.2.1 2 (by decide), h.2.2.2.1 3 (by decide)⟩
  have htx : ∀ {ν e}, SoFr μ ν d e → TX ν c L := fun {ν e} h => hT.rs h.1
  refine ev_aload_n dX8_takeTwo_0 rfl ?_
  refine ev_aload_n dX8_takeTwo_1 rfl ?_
  refine ev_iload_n dX8_takeTwo_2 rfl ?_
  refine ev_iconst dX8_takeTwo_3 ?_
  refine ev_aload_n dX8_takeTwo_4 rfl ?_
  refine ev_getI (kz := 43) dX8_takeTwo_5 fl_X8_254 rfl rfl rfl ?_
  rw [(hc0 hS).1]
  refine ev_iconst dX8_takeTwo_8 ?_
  refine ev_isub dX8_takeTwo_9 ?_
  refine ev_callVP dX8_takeTwo_10 kv_X8_257 (m_into μ c L i hT hS.2.2.1 hiL 0 ((d.1 0 : Int) - 1) (by first | decide | exact ⟨by omega, by omega⟩) (by first | decide | exact ⟨by omega, by omega⟩) 118 4 rfl (by decide) (d.1 3) (by omega)) rfl rfl (ci := 8) rfl rfl ⟨by decide, by decide⟩ (Nat.le_of_ble_eq_true rfl) ?_
  rintro v_10 τ_10 ⟨z_10, rfl, hq_10⟩
  refine ev_w (fun hR => ?_)
  refine ev_istore dX8_takeTwo_13 rfl (by decide) rfl ?_
  rcases into_S hS (show row 12 from ⟨by decide, by decide, by decide⟩) hq_10 with ⟨f1, w1, r1, rfl, f0, f4, hrs, hw, hcn⟩ | ⟨x1, a1, e1, r1, rfl, S1, vv1, ot1, nu1, na1⟩
  · refine ev_iload dX8_takeTwo_15 rfl ?_
    refine ev_if_le (tgt := 25) dX8_takeTwo_17 (by decide) (by first | exact hR.1 _ _ | exact hR0.1 _ _ | assumption | exact ⟨by omega, by omega⟩ | exact ⟨by simp [wr_at]; omega, by simp [wr_at]; omega⟩ | exact b2_R _ | exact bC_R _ | exact band_R _ _ | exact bor_R _ _ | exact bshl_R _ _ | exact bshr_R _ _ | exact bxor_R _ _ | exact bs_R (by omega) | decide) (fun h_17 => ?_) (fun h_17 => ?_)
    · exfalso; omega
    · refine ev_iload dX8_takeTwo_20 rfl ?_
      refine ev_goto (tgt := 38) dX8_takeTwo_22 (by decide) ?_
      refine ev_istore dX8_takeTwo_38 rfl (by decide) rfl ?_
      refine ev_iload dX8_takeTwo_40 rfl ?_
      refine ev_if_le (tgt := 50) dX8_takeTwo_42 (by decide) (by first | exact hR.1 _ _ | exact hR0.1 _ _ | assumption | exact ⟨by omega, by omega⟩ | exact ⟨by simp [wr_at]; omega, by simp [wr_at]; omega⟩ | exact b2_R _ | exact bC_R _ | exact band_R _ _ | exact bor_R _ _ | exact bshl_R _ _ | exact bshr_R _ _ | exact bxor_R _ _ | exact bs_R (by omega) | decide) (fun h_42 => ?_) (fun h_42 => ?_)
      · exfalso; omega
      · refine ev_iload dX8_takeTwo_45 rfl ?_
        refine ev_goto (tgt := 72) dX8_takeTwo_47 (by decide) ?_
        refine ev_ireturn dX8_takeTwo_72 ?_
        refine ⟨_, rfl, Or.inl ⟨_, _, Or.inl r1, rfl, f0, f4, hrs, hw, hcn⟩⟩
  · have n1 := numR_ok r1 hiL
    refine ev_iload dX8_takeTwo_15 rfl ?_
    refine ev_if_le (tgt := 25) dX8_takeTwo_17 (by decide) (by first | exact hR.1 _ _ | exact hR0.1 _ _ | assumption | exact ⟨by omega, by omega⟩ | exact ⟨by simp [wr_at]; omega, by simp [wr_at]; omega⟩ | exact b2_R _ | exact bC_R _ | exact band_R _ _ | exact bor_R _ _ | exact bshl_R _ _ | exact bshr_R _ _ | exact bxor_R _ _ | exact bs_R (by omega) | decide) (fun h_17 => ?_) (fun h_17 => ?_)
    · refine ev_aload_n dX8_takeTwo_25 rfl ?_
      refine ev_aload_n dX8_takeTwo_26 rfl ?_
      refine ev_iload_n dX8_takeTwo_27 rfl ?_
      refine ev_iconst dX8_takeTwo_28 ?_
      refine ev_aload_n dX8_takeTwo_29 rfl ?_
      refine ev_getI (kz := 43) dX8_takeTwo_30 fl_X8_254 rfl rfl rfl ?_
      rw [(hc0 S1).1]
      refine ev_iconst dX8_takeTwo_33 ?_
      refine ev_isub dX8_takeTwo_34 ?_
      refine ev_callVP dX8_takeTwo_35 kv_X8_257 (m_into _ c L e1 (htx S1) S1.2.2.1 n1.2.2.2.2 0 ((d.1 0 : Int) - 1) (by first | decide | exact ⟨by omega, by omega⟩) (by first | decide | exact ⟨by omega, by omega⟩) 119 4 rfl (by decide) (d.1 3) (by omega)) rfl rfl (ci := 8) rfl rfl ⟨by decide, by decide⟩ (Nat.le_of_ble_eq_true rfl) ?_
      rintro v_35 τ_35 ⟨z_35, rfl, hq_35⟩
      refine ev_w (fun hR => ?_)
      refine ev_istore dX8_takeTwo_38 rfl (by decide) rfl ?_
      rcases into_S S1 (show row 13 from ⟨by decide, by decide, by decide⟩) hq_35 with ⟨f2, w2, r2, rfl, f0, f4, hrs, hw, hcn⟩ | ⟨x2, a2, e2, r2, rfl, S2, vv2, ot2, nu2, na2⟩
      · refine ev_iload dX8_takeTwo_40 rfl ?_
        refine ev_if_le (tgt := 50) dX8_takeTwo_42 (by decide) (by first | exact hR.1 _ _ | exact hR0.1 _ _ | assumption | exact ⟨by omega, by omega⟩ | exact ⟨by simp [wr_at]; omega, by simp [wr_at]; omega⟩ | exact b2_R _ | exact bC_R _ | exact band_R _ _ | exact bor_R _ _ | exact bshl_R _ _ | exact bshr_R _ _ | exact bxor_R _ _ | exact bs_R (by omega) | decide) (fun h_42 => ?_) (fun h_42 => ?_)
        · exfalso; omega
        · refine ev_iload dX8_takeTwo_45 rfl ?_
          refine ev_goto (tgt := 72) dX8_takeTwo_47 (by decide) ?_
          refine ev_ireturn dX8_takeTwo_72 ?_
          refine ⟨_, rfl, Or.inl ⟨_, _, Or.inr ⟨x1, a1, e1, r1, by unfold othR; rw [r2]⟩, rfl, f0, f4, hrs, hw, hcn⟩⟩
      · have n2 := numR_ok r2 n1.2.2.2.2
        have hv1 : τ_35.1 118 ((d.1 3 : Nat) : Int) = x1 := by rw [ot2 118 (by decide) (by decide) (by decide)]; exact vv1
        have hv2 : τ_35.1 119 ((d.1 3 : Nat) : Int) = x2 := vv2
        refine ev_iload dX8_takeTwo_40 rfl ?_
        refine ev_if_le (tgt := 50) dX8_takeTwo_42 (by decide) (by first | exact hR.1 _ _ | exact hR0.1 _ _ | assumption | exact ⟨by omega, by omega⟩ | exact ⟨by simp [wr_at]; omega, by simp [wr_at]; omega⟩ | exact b2_R _ | exact bC_R _ | exact band_R _ _ | exact bor_R _ _ | exact bshl_R _ _ | exact bshr_R _ _ | exact bxor_R _ _ | exact bs_R (by omega) | decide) (fun h_42 => ?_) (fun h_42 => ?_)
        · refine ev_aload_n dX8_takeTwo_50 rfl ?_
          refine ev_iload_n dX8_takeTwo_51 rfl ?_
          refine ev_iaload dX8_takeTwo_52 rfl (by first | omega | (simp [wr_at]; omega) | (simp [wr_at, *]; omega)) (by first | omega | (simp [wr_at]; omega) | (simp [wr_at, *]; omega)) (by decide) ?_
          rw [hv1]
          refine ev_aload_n dX8_takeTwo_53 rfl ?_
          refine ev_iload_n dX8_takeTwo_54 rfl ?_
          refine ev_iaload dX8_takeTwo_55 rfl (by first | omega | (simp [wr_at]; omega) | (simp [wr_at, *]; omega)) (by first | omega | (simp [wr_at]; omega) | (simp [wr_at, *]; omega)) (by decide) ?_
          rw [hv2]
          refine ev_icmp_ne (tgt := 71) dX8_takeTwo_56 (by decide) ⟨by omega, by omega⟩ ⟨by omega, by omega⟩ (fun h_56 => ?_) (fun h_56 => ?_)
          · refine ev_iconst dX8_takeTwo_71 ?_
            refine ev_ireturn dX8_takeTwo_72 ?_
            first
              | (refine ⟨4, rfl, Or.inl ⟨4, a2, Or.inr ⟨x1, a1, e1, r1, by unfold othR; rw [r2]; dsimp only; rw [if_pos h_56.symm]⟩, rfl, by decide, by decide, S2.1.wf _ (by unfold PF; omega), FA.mk S2.2.2.1 (by omega), fun k hk => ?_⟩⟩
                 have := fM_R k
                 rw [wr_nek _ (by omega)]
                 exact S2.2.2.2.1 k hk)
              | (refine ⟨0, rfl, Or.inr ⟨x1, a1, e1, x2, a2, e2, r1, by unfold othR; rw [r2]; dsimp only; rw [if_neg (fun y => h_56 y.symm)], rfl, S2, hv1, hv2, fun q h1 h2 h3 h4 => ?_⟩⟩
                 rw [ot2 q h1 h2 h4, ot1 q h1 h2 h3])
          · refine ev_aload_n dX8_takeTwo_59 rfl ?_
            refine ev_iconst dX8_takeTwo_60 ?_
            refine ev_aload_n dX8_takeTwo_61 rfl ?_
            refine ev_getI (kz := 42) dX8_takeTwo_62 fl_X8_245 rfl rfl rfl ?_
            rw [na2]
            refine ev_callVI dX8_takeTwo_65 kv_X8_241 (m_fails _ 4 (a2 : Int) (by decide) ⟨by omega, by omega⟩) rfl rfl (ci := 8) rfl rfl ⟨by decide, by decide⟩ (Nat.le_of_ble_eq_true rfl) ?_
            refine ev_w (fun hR => ?_)
            refine ev_goto (tgt := 72) dX8_takeTwo_68 (by decide) ?_
            refine ev_ireturn dX8_takeTwo_72 ?_
            first
              | (refine ⟨4, rfl, Or.inl ⟨4, a2, Or.inr ⟨x1, a1, e1, r1, by unfold othR; rw [r2]; dsimp only; rw [if_pos h_56.symm]⟩, rfl, by decide, by decide, S2.1.wf _ (by unfold PF; omega), FA.mk S2.2.2.1 (by omega), fun k hk => ?_⟩⟩
                 have := fM_R k
                 rw [wr_nek _ (by omega)]
                 exact S2.2.2.2.1 k hk)
              | (refine ⟨0, rfl, Or.inr ⟨x1, a1, e1, x2, a2, e2, r1, by unfold othR; rw [r2]; dsimp only; rw [if_neg (fun y => h_56 y.symm)], rfl, S2, hv1, hv2, fun q h1 h2 h3 h4 => ?_⟩⟩
                 rw [ot2 q h1 h2 h4, ot1 q h1 h2 h3])
        · exfalso; omega
    · exfalso; omega
set_option maxHeartbeats 2000000 in
theorem m_takeRope (μ : Mem) (c : Nat → Int) (L i : Nat) (d : PD) (hT : TX μ c L) (hiL : i ≤ L) (hS : SoFr μ μ d i) (hK : PDok d) (hf : d.1 1 < 12) : Con yX8_takeRope cX8_takeRope 2 (some .int) 4 97 [.ref 79] μ (AnsQ (BodM μ (ropeR c L d i))) := by
  refine con_of (by decide) rfl (Nat.le_of_ble_eq_true rfl) (ok_Q rfl) ?_
  refine ev_w (fun hR => ?_)
  have hR0 := hR
  have hL5 := hT.2.1
  obtain ⟨k0, k1, k2, k3, kp, kr, kb, kl⟩ := id hK
  have hc0 : ∀ {ν e}, SoFr μ ν d e → ν.1 79 43 = d.1 0 ∧ ν.1 79 47 = d.1 1 ∧ ν.1 79 52 = d.1 2 ∧ ν.1 79 56 = d.1 3 := fun {ν e} h => ⟨h.2.2.2.1 0 (by decide), h.2.2.2.1 1 (by decide), h.2.2.2.1 2 (by decide), h.2.2.2.1 3 (by decide)⟩
  have htx : ∀ {ν e}, SoFr μ ν d e → TX ν c L := fun {ν e} h => hT.rs h.1
  refine ev_aload_n dX8_takeRope_0 rfl ?_
  refine ev_aload_n dX8_takeRope_1 rfl ?_
  refine ev_getR (r := 111) dX8_takeRope_2 fl_X8_108 rfl rfl rfl ?_
  refine ev_aload_n dX8_takeRope_5 rfl ?_
  refine ev_getR (r := 112) dX8_takeRope_6 fl_X8_111 rfl rfl rfl ?_
  refine ev_aload_n dX8_takeRope_9 rfl ?_
  refine ev_getI (kz := 47) dX8_takeRope_10 fl_X8_261 rfl rfl rfl ?_
  rw [(hc0 hS).2.1]
  refine ev_callVP dX8_takeRope_13 kv_X8_264 (m_twoR μ c L i d hT hiL hS hK hf) rfl rfl (ci := 8) rfl rfl ⟨by decide, by decide⟩ (Nat.le_of_ble_eq_true rfl) ?_
  rintro v_13 τ_13 ⟨z_13, rfl, hq_13⟩
  refine ev_w (fun hR => ?_)
  refine ev_istore_n dX8_takeRope_16 rfl (by decide) rfl ?_
  rcases hq_13 with ⟨f1, w1, r1, rfl, f0, f4, hrs, hw, hcn⟩ | ⟨x1, a1, e1, x2, a2, e2, r1, r2, rfl, S2, vv1, vv2, ot2⟩
  · refine ev_iload_n dX8_takeRope_17 rfl ?_
    refine ev_if_le (tgt := 25) dX8_takeRope_18 (by decide) (by first | exact hR.1 _ _ | exact hR0.1 _ _ | assumption | exact ⟨by omega, by omega⟩ | exact ⟨by simp [wr_at]; omega, by simp [wr_at]; omega⟩ | exact b2_R _ | exact bC_R _ | exact band_R _ _ | exact bor_R _ _ | exact bshl_R _ _ | exact bshr_R _ _ | exact bxor_R _ _ | exact bs_R (by omega) | decide) (fun h_18 => ?_) (fun h_18 => ?_)
    · exfalso; omega
    · refine ev_iload_n dX8_takeRope_21 rfl ?_
      refine ev_goto (tgt := 40) dX8_takeRope_22 (by decide) ?_
      refine ev_istore_n dX8_takeRope_40 rfl (by decide) rfl ?_
      refine ev_iload_n dX8_takeRope_41 rfl ?_
      refine ev_if_le (tgt := 49) dX8_takeRope_42 (by decide) (by first | exact hR.1 _ _ | exact hR0.1 _ _ | assumption | exact ⟨by omega, by omega⟩ | exact ⟨by simp [wr_at]; omega, by simp [wr_at]; omega⟩ | exact b2_R _ | exact bC_R _ | exact band_R _ _ | exact bor_R _ _ | exact bshl_R _ _ | exact bshr_R _ _ | exact bxor_R _ _ | exact bs_R (by omega) | decide) (fun h_42 => ?_) (fun h_42 => ?_)
      · exfalso; omega
      · refine ev_iload_n dX8_takeRope_45 rfl ?_
        refine ev_goto (tgt := 65) dX8_takeRope_46 (by decide) ?_
        refine ev_istore_n dX8_takeRope_65 rfl (by decide) rfl ?_
        refine ev_aload_n dX8_takeRope_66 rfl ?_
        refine ev_dup dX8_takeRope_67 rfl ?_
        refine ev_getI (kz := 47) dX8_takeRope_68 fl_X8_261 rfl rfl rfl ?_
        refine ev_iconst dX8_takeRope_71 ?_
        refine ev_iadd dX8_takeRope_72 ?_
        refine ev_putI (kz := 47) dX8_takeRope_73 fp_X8_261 rfl rfl rfl (by have := hcn 1 (by decide); rw [show fM 1 = 47 from rfl] at this; rw [this]; exact ⟨by omega, by omega⟩) ?_
        refine ev_w (fun hR => ?_)
        refine ev_iload_n dX8_takeRope_76 rfl ?_
        refine ev_ireturn dX8_takeRope_77 ?_
        refine ⟨_, rfl, Or.inl ⟨_, _, (ropeR_two r1), rfl, f0, f4, hrs.wf _ (by unfold PF; omega), ?_⟩⟩
        exact hw.wf _ (by decide) (by decide)
  · have n1 := numR_ok r1 hiL
    have n2 := othR_ok r2 n1.2.2.2.2
    refine ev_iload_n dX8_takeRope_17 rfl ?_
    refine ev_if_le (tgt := 25) dX8_takeRope_18 (by decide) (by first | exact hR.1 _ _ | exact hR0.1 _ _ | assumption | exact ⟨by omega, by omega⟩ | exact ⟨by simp [wr_at]; omega, by simp [wr_at]; omega⟩ | exact b2_R _ | exact bC_R _ | exact band_R _ _ | exact bor_R _ _ | exact bshl_R _ _ | exact bshr_R _ _ | exact bxor_R _ _ | exact bs_R (by omega) | decide) (fun h_18 => ?_) (fun h_18 => ?_)
    · refine ev_aload_n dX8_takeRope_25 rfl ?_
      refine ev_aload_n dX8_takeRope_26 rfl ?_
      refine ev_getR (r := 113) dX8_takeRope_27 fl_X8_114 rfl rfl rfl ?_
      refine ev_aload_n dX8_takeRope_30 rfl ?_
      refine ev_getI (kz := 47) dX8_takeRope_31 fl_X8_261 rfl rfl rfl ?_
      rw [(hc0 S2).2.1]
      refine ev_iconst dX8_takeRope_34 ?_
      refine ev_bipush dX8_takeRope_35 (by decide) ?_
      refine ev_callVP dX8_takeRope_37 kv_X8_257 (m_into _ c L e2 (htx S2) S2.2.2.1 n2.2.2.2.2.1 1 99 (by first | decide | exact ⟨by omega, by omega⟩) (by first | decide | exact ⟨by omega, by omega⟩) 113 12 rfl (by decide) (d.1 1) (by omega)) rfl rfl (ci := 8) rfl rfl ⟨by decide, by decide⟩ (Nat.le_of_ble_eq_true rfl) ?_
      rintro v_37 τ_37 ⟨z_37, rfl, hq_37⟩
      refine ev_w (fun hR => ?_)
      refine ev_istore_n dX8_takeRope_40 rfl (by decide) rfl ?_
      rcases into_S S2 (show row 7 from ⟨by decide, by decide, by decide⟩) hq_37 with ⟨f3, w3, r3, rfl, f0, f4, hrs, hw, hcn⟩ | ⟨x3, a3, e3, r3, rfl, S3, vv3, ot3, nu3, na3⟩
      · refine ev_iload_n dX8_takeRope_41 rfl ?_
        refine ev_if_le (tgt := 49) dX8_takeRope_42 (by decide) (by first | exact hR.1 _ _ | exact hR0.1 _ _ | assumption | exact ⟨by omega, by omega⟩ | exact ⟨by simp [wr_at]; omega, by simp [wr_at]; omega⟩ | exact b2_R _ | exact bC_R _ | exact band_R _ _ | exact bor_R _ _ | exact bshl_R _ _ | exact bshr_R _ _ | exact bxor_R _ _ | exact bs_R (by omega) | decide) (fun h_42 => ?_) (fun h_42 => ?_)
        · exfalso; omega
        · refine ev_iload_n dX8_takeRope_45 rfl ?_
          refine ev_goto (tgt := 65) dX8_takeRope_46 (by decide) ?_
          refine ev_istore_n dX8_takeRope_65 rfl (by decide) rfl ?_
          refine ev_aload_n dX8_takeRope_66 rfl ?_
          refine ev_dup dX8_takeRope_67 rfl ?_
          refine ev_getI (kz := 47) dX8_takeRope_68 fl_X8_261 rfl rfl rfl ?_
          refine ev_iconst dX8_takeRope_71 ?_
          refine ev_iadd dX8_takeRope_72 ?_
          refine ev_putI (kz := 47) dX8_takeRope_73 fp_X8_261 rfl rfl rfl (by have := hcn 1 (by decide); rw [show fM 1 = 47 from rfl] at this; rw [this]; exact ⟨by omega, by omega⟩) ?_
          refine ev_w (fun hR => ?_)
          refine ev_iload_n dX8_takeRope_76 rfl ?_
          refine ev_ireturn dX8_takeRope_77 ?_
          refine ⟨_, rfl, Or.inl ⟨_, _, (by unfold ropeR; rw [r1]; dsimp only; rw [r2]; dsimp only; rw [r3]), rfl, f0, f4, hrs.wf _ (by unfold PF; omega), ?_⟩⟩
          exact hw.wf _ (by decide) (by decide)
      · have n3 := numR_ok r3 n2.2.2.2.2.1
        refine ev_iload_n dX8_takeRope_41 rfl ?_
        refine ev_if_le (tgt := 49) dX8_takeRope_42 (by decide) (by first | exact hR.1 _ _ | exact hR0.1 _ _ | assumption | exact ⟨by omega, by omega⟩ | exact ⟨by simp [wr_at]; omega, by simp [wr_at]; omega⟩ | exact b2_R _ | exact bC_R _ | exact band_R _ _ | exact bor_R _ _ | exact bshl_R _ _ | exact bshr_R _ _ | exact bxor_R _ _ | exact bs_R (by omega) | decide) (fun h_42 => ?_) (fun h_42 => ?_)
        · refine ev_aload_n dX8_takeRope_49 rfl ?_
          refine ev_aload_n dX8_takeRope_50 rfl ?_
          refine ev_getR (r := 114) dX8_takeRope_51 fl_X8_117 rfl rfl rfl ?_
          refine ev_aload_n dX8_takeRope_54 rfl ?_
          refine ev_getI (kz := 47) dX8_takeRope_55 fl_X8_261 rfl rfl rfl ?_
          rw [(hc0 S3).2.1]
          refine ev_iconst dX8_takeRope_58 ?_
          refine ev_sipush dX8_takeRope_59 (by decide) ?_
          refine ev_callVP dX8_takeRope_62 kv_X8_257 (m_into _ c L e3 (htx S3) S3.2.2.1 n3.2.2.2.2 1 999 (by first | decide | exact ⟨by omega, by omega⟩) (by first | decide | exact ⟨by omega, by omega⟩) 114 12 rfl (by decide) (d.1 1) (by omega)) rfl rfl (ci := 8) rfl rfl ⟨by decide, by decide⟩ (Nat.le_of_ble_eq_true rfl) ?_
          rintro v_62 τ_62 ⟨z_62, rfl, hq_62⟩
          refine ev_w (fun hR => ?_)
          refine ev_istore_n dX8_takeRope_65 rfl (by decide) rfl ?_
          rcases into_S S3 (show row 8 from ⟨by decide, by decide, by decide⟩) hq_62 with ⟨f4, w4, r4, rfl, f0, f4, hrs, hw, hcn⟩ | ⟨x4, a4, e4, r4, rfl, S4, vv4, ot4, nu4, na4⟩
          · refine ev_aload_n dX8_takeRope_66 rfl ?_
            refine ev_dup dX8_takeRope_67 rfl ?_
            refine ev_getI (kz := 47) dX8_takeRope_68 fl_X8_261 rfl rfl rfl ?_
            refine ev_iconst dX8_takeRope_71 ?_
            refine ev_iadd dX8_takeRope_72 ?_
            refine ev_putI (kz := 47) dX8_takeRope_73 fp_X8_261 rfl rfl rfl (by have := hcn 1 (by decide); rw [show fM 1 = 47 from rfl] at this; rw [this]; exact ⟨by omega, by omega⟩) ?_
            refine ev_w (fun hR => ?_)
            refine ev_iload_n dX8_takeRope_76 rfl ?_
            refine ev_ireturn dX8_takeRope_77 ?_
            refine ⟨_, rfl, Or.inl ⟨_, _, (by unfold ropeR; rw [r1]; dsimp only; rw [r2]; dsimp only; rw [r3]; dsimp only; rw [r4]), rfl, f0, f4, hrs.wf _ (by unfold PF; omega), ?_⟩⟩
            exact hw.wf _ (by decide) (by decide)
          · refine ev_aload_n dX8_takeRope_66 rfl ?_
            refine ev_dup dX8_takeRope_67 rfl ?_
            refine ev_getI (kz := 47) dX8_takeRope_68 fl_X8_261 rfl rfl rfl ?_
            rw [(hc0 S4).2.1]
            refine ev_iconst dX8_takeRope_71 ?_
            refine ev_iadd dX8_takeRope_72 ?_
            refine ev_putI (kz := 47) dX8_takeRope_73 fp_X8_261 rfl rfl rfl (by first | exact hR.1 _ _ | exact hR0.1 _ _ | assumption | exact ⟨by omega, by omega⟩ | exact ⟨by simp [wr_at]; omega, by simp [wr_at]; omega⟩ | exact b2_R _ | exact bC_R _ | exact band_R _ _ | exact bor_R _ _ | exact bshl_R _ _ | exact bshr_R _ _ | exact bxor_R _ _ | exact bs_R (by omega) | decide) ?_
            refine ev_w (fun hR => ?_)
            refine ev_iload_n dX8_takeRope_76 rfl ?_
            refine ev_ireturn dX8_takeRope_77 ?_
            refine ⟨_, rfl, Or.inr ⟨addD d 1 (v5 5 x1 x2 x3 x4 0), e4, by unfold ropeR; rw [r1]; dsimp only; rw [r2]; dsimp only; rw [r3]; dsimp only; rw [r4], rfl, ?_⟩⟩
            refine stp_add (g := 1) S4 (by decide) _ (fun j hj hg => ?_)
            have hj9 : j = 5 ∨ j = 6 ∨ j = 7 ∨ j = 8 := by
              obtain ⟨h1, h2, h3⟩ := hj
              unfold grp at hg
              split at hg
              · omega
              · split at hg
                · omega
                · split at hg <;> omega
            rcases hj9 with rfl | rfl | rfl | rfl
            · show τ_62.1 111 _ = x1
              rw [ot4 111 (by decide) (by decide) (by decide), ot3 111 (by decide) (by decide) (by decide)]; exact vv1
            · show τ_62.1 112 _ = x2
              rw [ot4 112 (by decide) (by decide) (by decide), ot3 112 (by decide) (by decide) (by decide)]; exact vv2
            · show τ_62.1 113 _ = x3
              rw [ot4 113 (by decide) (by decide) (by decide)]; exact vv3
            · exact vv4
        · exfalso; omega
    · exfalso; omega
