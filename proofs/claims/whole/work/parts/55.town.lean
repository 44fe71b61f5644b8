theorem toN {z : Int} {r : Nat} (h : z = r) : z.toNat = r := by omega
/-- the memory behind a told town: the plan lies at Q, the other place is P -/
def townM (τ : Mem) (P Q nr : Nat) : Mem := wr (wr (beginM (wr (wr (wr τ 1 1 0) 0 1 (Q : Nat)) 0 2 (P : Nat)) Q nr) 65 0 0) 0 5 0
def TownQ (σ : Mem) (P Q L : Nat) (R : (Int × Nat) ⊕ PD) (z : Int) (τ : Mem) : Prop := (∃ f w υ, R = .inl (f, w) ∧ z = -10 - f ∧ BdF σ υ Q L f w ∧ τ = wr υ 1 1 0) ∨ (∃ d υ, R = .inr d ∧ z = d.1 0 ∧ PDok d ∧ Same (SP Q) σ υ ∧ υ.1 1 3 = -1 ∧ PRep υ Q d ∧ RAt υ Q d ∧ τ = townM υ P Q (d.1 1))
theorem ReadQ.bad {σ τ : Mem} {P L : Nat} {R : (Int × Nat) ⊕ PD} {z : Int} (h : ReadQ σ P L R z τ) (hz : z = 0) : ∃ f w, R = .inl (f, w) ∧ BdF σ τ P L f w := by
  rcases h with h | h
  · exact h.2
  · have := h.1; omega
theorem ReadQ.ok {σ τ : Mem} {P L : Nat} {R : (Int × Nat) ⊕ PD} {z : Int} (h : ReadQ σ P L R z τ) (hz : ¬ z = 0) : ∃ d, R = .inr d ∧ PDok d ∧ Same (SP P) σ τ ∧ τ.1 1 1 = L ∧ τ.1 1 3 = -1 ∧ PRep τ P d ∧ RAt τ P d := by
  rcases h with h | h
  · exact absurd h.1 hz
  · exact h.2
theorem beginM_c {σ : Mem} {P nr c : Nat} (h : ¬ (37 ≤ c ∧ c ≤ 43)) (k : Int) : (beginM σ P nr).1 c k = σ.1 c k := by
  unfold beginM fillM
  rw [cpyM_at, if_neg (by omega), cpyM_at, if_neg (by omega)]
  show (if c = 43 ∧ 0 ≤ k ∧ k < ((4 : Nat) : Int) then (-1 : Int) else if c = 41 ∧ 0 ≤ k ∧ k < ((4 : Nat) : Int) then 0 else if c = 40 ∧ 0 ≤ k ∧ k < ((4 : Nat) : Int) then -1 else if c = 38 ∧ 0 ≤ k ∧ k < ((12 : Nat) : Int) then 0 else (wr (wr (wr (wr (wr (wr σ 37 0 0) 37 1 0) 37 3 ((2 ^ nr : Nat) - 1)) 37 4 0) 37 5 0) 37 6 0).1 c k) = _
  rw [if_neg (by omega), if_neg (by omega), if_neg (by omega), if_neg (by omega), wr_nec _ (by omega), wr_nec _ (by omega), wr_nec _ (by omega), wr_nec _ (by omega), wr_nec _ (by omega), wr_nec _ (by omega)]

theorem k_town (σ : Mem) (P P2 L : Nat) (hP : P = 3 ∨ P = 20) (hP2 : P2 = 3 ∨ P2 = 20) (hne : P ≠ P2) (hpl : σ.1 0 1 = P) (hnp : σ.1 0 2 = P2) (hL : σ.1 1 1 = L) (hL5 : L ≤ 500) : Con yX7_town cX7_town 3 (some .int) 12 282 [.ref 0] σ (AnsQ (TownQ σ P P2 L (parR (fun j : Nat => σ.1 2 j) L (L + 1) d00 0))) := by
  refine con_of (by decide) rfl (Nat.le_of_ble_eq_true rfl) (ok_Q rfl) ?_
  refine ev_w (fun hR => ?_)
  have hR0 := hR
  refine ev_aload_n dX7_town_0 rfl ?_
  refine ev_getR (r := 1) dX7_town_1 fl_X7_10 rfl rfl rfl ?_
  refine ev_aload_n dX7_town_4 rfl ?_
  refine ev_getQ (r := P2) dX7_town_5 fl_X7_23 rfl rfl (toN hnp) ?_
  refine ev_callVP dX7_town_8 kv_X7_82 (k_read σ P2 L hP2 hL hL5) rfl rfl (ci := 3) rfl rfl ⟨by decide, by decide⟩ (Nat.le_of_ble_eq_true rfl) ?_
  rintro v_8 τ_8 ⟨z_8, rfl, hz_8⟩
  refine ev_w (fun hR => ?_)
  refine ev_istore_n dX7_town_11 rfl (by decide) rfl ?_
  refine ev_aload_n dX7_town_12 rfl ?_
  refine ev_getR (r := 1) dX7_town_13 fl_X7_10 rfl rfl rfl ?_
  refine ev_iconst dX7_town_16 ?_
  refine ev_putI (kz := 1) dX7_town_17 fp_X7_74 rfl rfl rfl (by first | exact hR.1 _ _ | exact hR0.1 _ _ | assumption | exact ⟨by omega, by omega⟩ | exact ⟨by simp [wr_at]; omega, by simp [wr_at]; omega⟩ | exact b2_R _ | exact band_R _ _ | exact bor_R _ _ | exact bshl_R _ _ | exact bshr_R _ _ | exact bxor_R _ _ | exact bs_R (by omega) | decide) ?_
  refine ev_w (fun hR => ?_)
  refine ev_iload_n dX7_town_20 rfl ?_
  refine ev_if_ne (tgt := 35) dX7_town_21 (by decide) hz_8.R (fun h_21 => ?_) (fun h_21 => ?_)
  · obtain ⟨d, hRd, hKd, hs, hl1, hl3, hDd, hAd⟩ := hz_8.ok h_21
    have u1 : (wr τ_8 1 1 0).1 0 1 = P := by rw [wr_nec _ (by decide), hs.at (by unfold SP; omega)]; exact hpl
    have u2 : (wr τ_8 1 1 0).1 0 2 = P2 := by rw [wr_nec _ (by decide), hs.at (by unfold SP; omega)]; exact hnp
    have u3 : (wr (wr τ_8 1 1 0) 0 1 (P2 : Nat)).1 0 1 = P2 := wr_eq _ _ _ _
    have u4 : (wr (wr (wr τ_8 1 1 0) 0 1 (P2 : Nat)) 0 2 (P : Nat)).1 0 1 = P2 := by rw [wr_nek _ (by decide), wr_eq]
    have u5 : (wr (wr (wr τ_8 1 1 0) 0 1 (P2 : Nat)) 0 2 (P : Nat)).1 P2 1 = d.1 1 := by
      rw [wr_nec _ (by omega), wr_nec _ (by omega), wr_nec _ (by omega)]
      exact hDd.1 1 (by decide)
    have u6 : (townM τ_8 P P2 (d.1 1)).1 0 1 = P2 := by
      unfold townM
      rw [wr_nek _ (by decide), wr_nec _ (by decide), beginM_c (by omega)]
      exact u4
    have u7 : (townM τ_8 P P2 (d.1 1)).1 P2 0 = d.1 0 := by
      unfold townM
      rw [wr_nec _ (by omega), wr_nec _ (by omega), beginM_c (by omega), wr_nec _ (by omega), wr_nec _ (by omega), wr_nec _ (by omega)]
      exact hDd.1 0 (by decide)
    have u8 := hKd.2.1
    refine ev_aload_n dX7_town_35 rfl ?_
    refine ev_getQ (r := P) dX7_town_36 fl_X7_19 rfl rfl (toN u1) ?_
    refine ev_astore_n dX7_town_39 rfl (by decide) rfl ?_
    refine ev_aload_n dX7_town_40 rfl ?_
    refine ev_aload_n dX7_town_41 rfl ?_
    refine ev_getQ (r := P2) dX7_town_42 fl_X7_23 rfl rfl (toN u2) ?_
    refine ev_putQ (kz := 1) dX7_town_45 fp_X7_19 rfl rfl rfl (by omega) ?_
    refine ev_w (fun hR => ?_)
    refine ev_aload_n dX7_town_48 rfl ?_
    refine ev_aload_n dX7_town_49 rfl ?_
    refine ev_putQ (kz := 2) dX7_town_50 fp_X7_23 rfl rfl rfl (by omega) ?_
    refine ev_w (fun hR => ?_)
    refine ev_aload_n dX7_town_53 rfl ?_
    refine ev_getR (r := 37) dX7_town_54 fl_X7_29 rfl rfl rfl ?_
    refine ev_aload_n dX7_town_57 rfl ?_
    refine ev_getQ (r := P2) dX7_town_58 fl_X7_19 rfl rfl (toN u4) ?_
    refine ev_callVV dX7_town_61 kv_X7_69 (k_begin _ P2 (d.1 1) hP2 u5 u8) rfl rfl (ci := 5) rfl rfl ⟨by decide, by decide⟩ (Nat.le_of_ble_eq_true rfl) ?_
    refine ev_w (fun hR => ?_)
    refine ev_aload_n dX7_town_64 rfl ?_
    refine ev_getR (r := 65) dX7_town_65 fl_X7_44 rfl rfl rfl ?_
    refine ev_iconst dX7_town_68 ?_
    refine ev_putI (kz := 0) dX7_town_69 fp_X7_89 rfl rfl rfl (by first | exact hR.1 _ _ | exact hR0.1 _ _ | assumption | exact ⟨by omega, by omega⟩ | exact ⟨by simp [wr_at]; omega, by simp [wr_at]; omega⟩ | exact b2_R _ | exact band_R _ _ | exact bor_R _ _ | exact bshl_R _ _ | exact bshr_R _ _ | exact bxor_R _ _ | exact bs_R (by omega) | decide) ?_
    refine ev_w (fun hR => ?_)
    refine ev_aload_n dX7_town_72 rfl ?_
    refine ev_iconst dX7_town_73 ?_
    refine ev_putI (kz := 5) dX7_town_74 fp_X7_37 rfl rfl rfl (by first | exact hR.1 _ _ | exact hR0.1 _ _ | assumption | exact ⟨by omega, by omega⟩ | exact ⟨by simp [wr_at]; omega, by simp [wr_at]; omega⟩ | exact b2_R _ | exact band_R _ _ | exact bor_R _ _ | exact bshl_R _ _ | exact bshr_R _ _ | exact bxor_R _ _ | exact bs_R (by omega) | decide) ?_
    refine ev_w (fun hR => ?_)
    refine ev_aload_n dX7_town_77 rfl ?_
    refine ev_getQ (r := P2) dX7_town_78 fl_X7_19 rfl rfl (toN u6) ?_
    refine ev_getI (kz := 0) dX7_town_81 fl_X7_92 (plO hP2) rfl rfl ?_
    rw [show (wr (wr (beginM (wr (wr (wr τ_8 1 1 0) 0 1 (P2 : Nat)) 0 2 (P : Nat)) P2 (d.1 1)) 65 0 0) 0 5 0).1 P2 0 = d.1 0 from u7]
    refine ev_ireturn dX7_town_84 ?_
    exact ⟨_, rfl, Or.inr ⟨d, τ_8, hRd, rfl, hKd, hs, hl3, hDd, hAd, rfl⟩⟩
  · refine ev_bipush dX7_town_24 (by decide) ?_
    refine ev_aload_n dX7_town_26 rfl ?_
    refine ev_getR (r := 1) dX7_town_27 fl_X7_10 rfl rfl rfl ?_
    obtain ⟨f, w, hN, hF⟩ := hz_8.bad h_21
    have v2 : (wr τ_8 1 1 0).1 1 2 = f := by rw [wr_nek _ (by decide)]; exact hF.2.2.1
    refine ev_getI (kz := 2) dX7_town_30 fl_X7_86 rfl rfl rfl ?_
    rw [v2]
    refine ev_isub dX7_town_33 ?_
    refine ev_ireturn dX7_town_34 ?_
    exact ⟨_, rfl, Or.inl ⟨f, w, τ_8, hN, rfl, hF, rfl⟩⟩
