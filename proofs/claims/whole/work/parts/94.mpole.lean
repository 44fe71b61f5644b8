def fM (k : Nat) : Int := if k = 0 then 43 else if k = 1 then 47 else if k = 2 then 52 else 56
def mM (j : Nat) : Nat := if j ≤ 3 then 107 + j else 106 + j
def PRm (μ : Mem) (d : PD) : Prop := PRepG μ 79 fM mM d
def PF (k : Int) : Prop := k = 37 ∨ k = 38 ∨ k = 40 ∨ k = 41 ∨ k = 42 ∨ k = 43 ∨ k = 47 ∨ k = 52 ∨ k = 56
/-- only what is read differs -/
def RS (μ ν : Mem) : Prop := (∀ q, ¬ (q = 79 ∨ (108 ≤ q ∧ q ≤ 122)) → ν.1 q = μ.1 q) ∧ ∀ k : Int, ¬ PF k → ν.1 79 k = μ.1 79 k
theorem RS.rf {μ : Mem} : RS μ μ := ⟨fun _ _ => rfl, fun _ _ => rfl⟩
theorem RS.tr {μ ν ρ : Mem} (h1 : RS μ ν) (h2 : RS ν ρ) : RS μ ρ := ⟨fun q hq => (h2.1 q hq).trans (h1.1 q hq), fun k hk => (h2.2 k hk).trans (h1.2 k hk)⟩
theorem RS.wf {μ ν : Mem} (h : RS μ ν) {k : Int} (z : Int) (hk : PF k) : RS μ (wr ν 79 k z) := by
  refine ⟨fun q hq => ?_, fun k9 h1 => ?_⟩
  · rw [← h.1 q hq]; funext k9; exact wr_nec _ (by omega)
  · rw [wr_nek _ (fun e => h1 (by rw [e]; exact hk))]; exact h.2 k9 h1
theorem RS.wq {μ ν : Mem} (h : RS μ ν) {q : Nat} (k z : Int) (h1 : 108 ≤ q) (h2 : q ≤ 122) : RS μ (wr ν q k z) := by
  refine ⟨fun q9 hq => ?_, fun k9 hk => ?_⟩
  · rw [← h.1 q9 hq]; funext k9; exact wr_nec _ (by omega)
  · rw [wr_nec _ (by omega)]; exact h.2 k9 hk
theorem NS.rs {μ ν : Mem} (h : NS μ ν) : RS μ ν := ⟨fun q hq => h.1 q (by omega), fun k hk => h.2 k (fun e => hk (Or.inl e)) (fun e => hk (Or.inr (Or.inl e))) (fun e => hk (Or.inr (Or.inr (Or.inr (Or.inl e))))) (fun e => hk (Or.inr (Or.inr (Or.inr (Or.inr (Or.inl e))))))⟩
theorem WdA.rs {μ ν : Mem} {a e : Nat} (h : WdA μ ν a e) : RS μ ν := ⟨fun q hq => h.1 q (by omega), fun k hk => h.2.1 k (fun e => hk (Or.inr (Or.inl e))) (fun e => hk (Or.inr (Or.inr (Or.inl e))))⟩
theorem TX.rs {μ ν : Mem} {c : Nat → Int} {L : Nat} (h : TX μ c L) (hr : RS μ ν) : TX ν c L := by
  refine ⟨by rw [hr.2 36 (by unfold PF; omega)]; exact h.1, h.2.1, ?_⟩
  rw [hr.1 107 (by omega)]
  exact h.2.2
theorem mM_R {j : Nat} (h : row j) : 108 ≤ mM j ∧ mM j ≤ 122 := by
  obtain ⟨h1, h2, h3⟩ := h
  unfold mM
  split <;> omega
theorem mM_inj {i j : Nat} (hi : row i) (hj : row j) (h : mM i = mM j) : i = j := by
  obtain ⟨h1, h2, h3⟩ := hi
  obtain ⟨g1, g2, g3⟩ := hj
  unfold mM at h
  split at h <;> split at h <;> omega
theorem fM_R (k : Nat) : fM k = 43 ∨ fM k = 47 ∨ fM k = 52 ∨ fM k = 56 := by
  unfold fM
  repeat' (first | omega | split)
/-- so far: the text read up to e, the plan d, and nothing else touched -/
def SoFr (μ ν : Mem) (d : PD) (e : Nat) : Prop := RS μ ν ∧ ν.1 79 37 = μ.1 79 37 ∧ ν.1 79 38 = e ∧ PRm ν d
def IntS (μ ν : Mem) (d : PD) (R : NRes) (j : Nat) (z : Int) (ν9 : Mem) : Prop := (∃ (f : Int) (w : Nat), R = .inl (f, w) ∧ z = f ∧ 0 < f ∧ f ≤ 4 ∧ RS μ ν9 ∧ FA ν9 w ∧ ∀ k, k < 4 → ν9.1 79 (fM k) = d.1 k) ∨ ∃ (x : Int) (a e : Nat), R = .inr (x, a, e) ∧ z = 0 ∧ SoFr μ ν9 d e ∧ ν9.1 (mM j) (d.1 (grp j)) = x ∧ (∀ q, 108 ≤ q → q ≤ 122 → q ≠ mM j → ν9.1 q = ν.1 q) ∧ ν9.1 79 41 = x ∧ ν9.1 79 42 = a
theorem into_S {μ ν ν9 : Mem} {d : PD} {i j : Nat} {R : NRes} {z : Int} (hS : SoFr μ ν d i) (hj : row j) (hq : IntM ν R (mM j) ((d.1 (grp j) : Nat) : Int) z ν9) : IntS μ ν d R j z ν9 := by
  obtain ⟨ν0, h0, rfl⟩ := hq
  have hm := mM_R hj
  have cnt9 : ∀ ν1, NS ν ν1 → ∀ k, k < 4 → (wr ν1 (mM j) ((d.1 (grp j) : Nat) : Int) (ν1.1 79 41)).1 79 (fM k) = d.1 k := by
    intro ν1 hn k hk
    have := fM_R k
    rw [wr_nec _ (by omega), hn.2 _ (by omega) (by omega) (by omega) (by omega)]
    exact hS.2.2.2.1 k hk
  rcases h0 with ⟨f, w, h1, h2, h3, h4, h5, h6⟩ | ⟨x, a, e, h1, h2, h3, h4, h5, h6, h7⟩
  · refine Or.inl ⟨f, w, h1, h2, h3, h4, (hS.1.tr h5.rs).wq _ _ hm.1 hm.2, ?_, cnt9 ν0 h5⟩
    exact h6.wq _ _ (by omega)
  · refine Or.inr ⟨x, a, e, h1, h2, ⟨(hS.1.tr h3.rs).wq _ _ hm.1 hm.2, ?_, ?_, cnt9 ν0 h3, fun j9 hj9 p hp => ?_⟩, ?_, fun q h8 h9 h10 => ?_, ?_, ?_⟩
    · rw [wr_nec _ (by omega), h4]; exact hS.2.1
    · rw [wr_nec _ (by omega)]; exact h5
    · have hm9 := mM_R hj9
      rw [wr_at]
      by_cases e9 : mM j9 = mM j
      · have := mM_inj hj9 hj e9
        subst this
        rw [if_neg (by omega), h3.1 _ (by omega)]
        exact hS.2.2.2.2 j9 hj9 p hp
      · rw [if_neg (fun y => e9 y.1), h3.1 _ (by omega)]
        exact hS.2.2.2.2 j9 hj9 p hp
    · rw [wr_eq]; exact h6
    · rw [← h3.1 q (by omega)]; funext k; exact wr_nec _ h10
    · rw [wr_nec _ (by omega)]; exact h6
    · rw [wr_nec _ (by omega)]; exact h7
/-- what a clause's body answers and leaves -/
def BodM (μ : Mem) (R : BRes) (z : Int) (ν : Mem) : Prop := (∃ (f : Int) (w : Nat), R = .inl (f, w) ∧ z = f ∧ 0 < f ∧ f ≤ 4 ∧ RS μ ν ∧ FA ν w) ∨ ∃ (d : PD) (e : Nat), R = .inr (d, e) ∧ z = 0 ∧ SoFr μ ν d e
theorem IntS.zR {μ ν ν9 : Mem} {d : PD} {R : NRes} {j : Nat} {z : Int} (h : IntS μ ν d R j z ν9) : 0 ≤ z ∧ z ≤ 4 := by
  rcases h with ⟨f, w, -, h, h2, h3, -⟩ | ⟨x, a, e, -, h, -⟩ <;> omega
theorem BodM.zR {μ ν : Mem} {R : BRes} {z : Int} (h : BodM μ R z ν) : 0 ≤ z ∧ z ≤ 4 := by
  rcases h with ⟨f, w, -, h, h2, h3, -⟩ | ⟨d, e, -, h, -⟩ <;> omega
/-- the plan with the new one -/
theorem stp_add {μ ν : Mem} {d : PD} {e g : Nat} (hS : SoFr μ ν d e) (hg : g < 4) (v : Nat → Int) (hv : ∀ j, row j → grp j = g → ν.1 (mM j) (d.1 g) = v j) : SoFr μ (wr ν 79 (fM g) ((d.1 g : Int) + 1)) (addD d g v) e := by
  have hf := fM_R g
  refine ⟨hS.1.wf _ (by unfold PF; omega), ?_, ?_, ?_⟩
  · rw [wr_nek _ (by omega)]; exact hS.2.1
  · rw [wr_nek _ (by omega)]; exact hS.2.2.1
  · refine PRepG.add hS.2.2.2 g v (wr_eq _ _ _ _) (fun k hk hne => ?_) (fun j hj hjg => ?_) (fun j hj p hp => ?_)
    · rw [wr_nek]
      have : ∀ a, a < 4 → ∀ b, b < 4 → a ≠ b → fM a ≠ fM b := by decide
      exact this k hk g hg hne
    · have hm := mM_R hj
      rw [wr_nec _ (by omega)]
      exact hv j hj hjg
    · have hm := mM_R hj
      rw [wr_nec _ (by omega)]
set_option maxHeartbeats 2000000 in
theorem m_takePole (μ : Mem) (c : Nat → Int) (L i : Nat) (d : PD) (hT : TX μ c L) (hiL : i ≤ L) (hS : SoFr μ μ d i) (hK : PDok d) (hf : d.1 0 < 8) : Con yX8_takePole cX8_takePole 2 (some .int) 3 73 [.ref 79] μ (AnsQ (BodM μ (poleR c L d i))) := by
  refine con_of (by decide) rfl (Nat.le_of_ble_eq_true rfl) (ok_Q rfl) ?_
  refine ev_w (fun hR => ?_)
  have hR0 := hR
  have hL5 := hT.2.1
  obtain ⟨k0, k1, k2, k3, kp, kr, kb, kl⟩ := id hK
  have hc0 : ∀ {ν e}, SoFr μ ν d e → ν.1 79 43 = d.1 0 ∧ ν.1 79 47 = d.1 1 ∧ ν.1 79 52 = d.1 2 ∧ ν.1 79 56 = d.1 3 := fun {ν e} h => ⟨h.2.2.2.1 0 (by decide), h.2.2.2.1 1 (by decide), h.2.2.2.1 2 (by decide), h.2.2.2.1 3 (by decide)⟩
  have htx : ∀ {ν e}, SoFr μ ν d e → TX ν c L := fun {ν e} h => hT.rs h.1
  refine ev_aload_n dX8_takePole_0 rfl ?_
  refine ev_aload_n dX8_takePole_1 rfl ?_
  refine ev_getR (r := 108) dX8_takePole_2 fl_X8_99 rfl rfl rfl ?_
  refine ev_aload_n dX8_takePole_5 rfl ?_
  refine ev_getI (kz := 43) dX8_takePole_6 fl_X8_254 rfl rfl rfl ?_
  rw [(hc0 hS).1]
  refine ev_iconst dX8_takePole_9 ?_
  refine ev_bipush dX8_takePole_10 (by decide) ?_
  refine ev_callVP dX8_takePole_12 kv_X8_257 (m_into μ c L i hT hS.2.2.1 hiL 0 99 (by first | decide | exact ⟨by omega, by omega⟩) (by first | decide | exact ⟨by omega, by omega⟩) 108 8 rfl (by decide) (d.1 0) (by omega)) rfl rfl (ci := 8) rfl rfl ⟨by decide, by decide⟩ (Nat.le_of_ble_eq_true rfl) ?_
  rintro v_12 τ_12 ⟨z_12, rfl, hq_12⟩
  refine ev_w (fun hR => ?_)
  refine ev_istore_n dX8_takePole_15 rfl (by decide) rfl ?_
  rcases into_S hS (show row 1 from ⟨by decide, by decide, by decide⟩) hq_12 with ⟨f1, w1, r1, rfl, f0, f4, hrs, hw, hcn⟩ | ⟨x1, a1, e1, r1, rfl, S1, vv1, ot1, nu1, na1⟩
  · refine ev_iload_n dX8_takePole_16 rfl ?_
    refine ev_if_le (tgt := 24) dX8_takePole_17 (by decide) (by first | exact hR.1 _ _ | exact hR0.1 _ _ | assumption | exact ⟨by omega, by omega⟩ | exact ⟨by simp [wr_at]; omega, by simp [wr_at]; omega⟩ | exact b2_R _ | exact bC_R _ | exact band_R _ _ | exact bor_R _ _ | exact bshl_R _ _ | exact bshr_R _ _ | exact bxor_R _ _ | exact bs_R (by omega) | decide) (fun h_17 => ?_) (fun h_17 => ?_)
    · exfalso; omega
    · refine ev_iload_n dX8_takePole_20 rfl ?_
      refine ev_goto (tgt := 39) dX8_takePole_21 (by decide) ?_
      refine ev_istore_n dX8_takePole_39 rfl (by decide) rfl ?_
      refine ev_iload_n dX8_takePole_40 rfl ?_
      refine ev_if_le (tgt := 48) dX8_takePole_41 (by decide) (by first | exact hR.1 _ _ | exact hR0.1 _ _ | assumption | exact ⟨by omega, by omega⟩ | exact ⟨by simp [wr_at]; omega, by simp [wr_at]; omega⟩ | exact b2_R _ | exact bC_R _ | exact band_R _ _ | exact bor_R _ _ | exact bshl_R _ _ | exact bshr_R _ _ | exact bxor_R _ _ | exact bs_R (by omega) | decide) (fun h_41 => ?_) (fun h_41 => ?_)
      · exfalso; omega
      · refine ev_iload_n dX8_takePole_44 rfl ?_
        refine ev_goto (tgt := 62) dX8_takePole_45 (by decide) ?_
        refine ev_istore_n dX8_takePole_62 rfl (by decide) rfl ?_
        refine ev_aload_n dX8_takePole_63 rfl ?_
        refine ev_dup dX8_takePole_64 rfl ?_
        refine ev_getI (kz := 43) dX8_takePole_65 fl_X8_254 rfl rfl rfl ?_
        refine ev_iconst dX8_takePole_68 ?_
        refine ev_iadd dX8_takePole_69 ?_
        refine ev_putI (kz := 43) dX8_takePole_70 fp_X8_254 rfl rfl rfl (by have := hcn 0 (by decide); rw [show fM 0 = 43 from rfl] at this; rw [this]; exact ⟨by omega, by omega⟩) ?_
        refine ev_w (fun hR => ?_)
        refine ev_iload_n dX8_takePole_73 rfl ?_
        refine ev_ireturn dX8_takePole_74 ?_
        refine ⟨_, rfl, Or.inl ⟨_, _, (by unfold poleR; rw [r1]), rfl, f0, f4, hrs.wf _ (by unfold PF; omega), ?_⟩⟩
        exact hw.wf _ (by decide) (by decide)
  · have n1 := numR_ok r1 hiL
    refine ev_iload_n dX8_takePole_16 rfl ?_
    refine ev_if_le (tgt := 24) dX8_takePole_17 (by decide) (by first | exact hR.1 _ _ | exact hR0.1 _ _ | assumption | exact ⟨by omega, by omega⟩ | exact ⟨by simp [wr_at]; omega, by simp [wr_at]; omega⟩ | exact b2_R _ | exact bC_R _ | exact band_R _ _ | exact bor_R _ _ | exact bshl_R _ _ | exact bshr_R _ _ | exact bxor_R _ _ | exact bs_R (by omega) | decide) (fun h_17 => ?_) (fun h_17 => ?_)
    · refine ev_aload_n dX8_takePole_24 rfl ?_
      refine ev_aload_n dX8_takePole_25 rfl ?_
      refine ev_getR (r := 109) dX8_takePole_26 fl_X8_102 rfl rfl rfl ?_
      refine ev_aload_n dX8_takePole_29 rfl ?_
      refine ev_getI (kz := 43) dX8_takePole_30 fl_X8_254 rfl rfl rfl ?_
      rw [(hc0 S1).1]
      refine ev_iconst dX8_takePole_33 ?_
      refine ev_bipush dX8_takePole_34 (by decide) ?_
      refine ev_callVP dX8_takePole_36 kv_X8_257 (m_into _ c L e1 (htx S1) S1.2.2.1 n1.2.2.2.2 0 99 (by first | decide | exact ⟨by omega, by omega⟩) (by first | decide | exact ⟨by omega, by omega⟩) 109 8 rfl (by decide) (d.1 0) (by omega)) rfl rfl (ci := 8) rfl rfl ⟨by decide, by decide⟩ (Nat.le_of_ble_eq_true rfl) ?_
      rintro v_36 τ_36 ⟨z_36, rfl, hq_36⟩
      refine ev_w (fun hR => ?_)
      refine ev_istore_n dX8_takePole_39 rfl (by decide) rfl ?_
      rcases into_S S1 (show row 2 from ⟨by decide, by decide, by decide⟩) hq_36 with ⟨f2, w2, r2, rfl, f0, f4, hrs, hw, hcn⟩ | ⟨x2, a2, e2, r2, rfl, S2, vv2, ot2, nu2, na2⟩
      · refine ev_iload_n dX8_takePole_40 rfl ?_
        refine ev_if_le (tgt := 48) dX8_takePole_41 (by decide) (by first | exact hR.1 _ _ | exact hR0.1 _ _ | assumption | exact ⟨by omega, by omega⟩ | exact ⟨by simp [wr_at]; omega, by simp [wr_at]; omega⟩ | exact b2_R _ | exact bC_R _ | exact band_R _ _ | exact bor_R _ _ | exact bshl_R _ _ | exact bshr_R _ _ | exact bxor_R _ _ | exact bs_R (by omega) | decide) (fun h_41 => ?_) (fun h_41 => ?_)
        · exfalso; omega
        · refine ev_iload_n dX8_takePole_44 rfl ?_
          refine ev_goto (tgt := 62) dX8_takePole_45 (by decide) ?_
          refine ev_istore_n dX8_takePole_62 rfl (by decide) rfl ?_
          refine ev_aload_n dX8_takePole_63 rfl ?_
          refine ev_dup dX8_takePole_64 rfl ?_
          refine ev_getI (kz := 43) dX8_takePole_65 fl_X8_254 rfl rfl rfl ?_
          refine ev_iconst dX8_takePole_68 ?_
          refine ev_iadd dX8_takePole_69 ?_
          refine ev_putI (kz := 43) dX8_takePole_70 fp_X8_254 rfl rfl rfl (by have := hcn 0 (by decide); rw [show fM 0 = 43 from rfl] at this; rw [this]; exact ⟨by omega, by omega⟩) ?_
          refine ev_w (fun hR => ?_)
          refine ev_iload_n dX8_takePole_73 rfl ?_
          refine ev_ireturn dX8_takePole_74 ?_
          refine ⟨_, rfl, Or.inl ⟨_, _, (by unfold poleR; rw [r1]; dsimp only; rw [r2]), rfl, f0, f4, hrs.wf _ (by unfold PF; omega), ?_⟩⟩
          exact hw.wf _ (by decide) (by decide)
      · have n2 := numR_ok r2 n1.2.2.2.2
        refine ev_iload_n dX8_takePole_40 rfl ?_
        refine ev_if_le (tgt := 48) dX8_takePole_41 (by decide) (by first | exact hR.1 _ _ | exact hR0.1 _ _ | assumption | exact ⟨by omega, by omega⟩ | exact ⟨by simp [wr_at]; omega, by simp [wr_at]; omega⟩ | exact b2_R _ | exact bC_R _ | exact band_R _ _ | exact bor_R _ _ | exact bshl_R _ _ | exact bshr_R _ _ | exact bxor_R _ _ | exact bs_R (by omega) | decide) (fun h_41 => ?_) (fun h_41 => ?_)
        · refine ev_aload_n dX8_takePole_48 rfl ?_
          refine ev_aload_n dX8_takePole_49 rfl ?_
          refine ev_getR (r := 110) dX8_takePole_50 fl_X8_105 rfl rfl rfl ?_
          refine ev_aload_n dX8_takePole_53 rfl ?_
          refine ev_getI (kz := 43) dX8_takePole_54 fl_X8_254 rfl rfl rfl ?_
          rw [(hc0 S2).1]
          refine ev_iconst dX8_takePole_57 ?_
          refine ev_iconst dX8_takePole_58 ?_
          refine ev_callVP dX8_takePole_59 kv_X8_257 (m_into _ c L e2 (htx S2) S2.2.2.1 n2.2.2.2.2 1 5 (by first | decide | exact ⟨by omega, by omega⟩) (by first | decide | exact ⟨by omega, by omega⟩) 110 8 rfl (by decide) (d.1 0) (by omega)) rfl rfl (ci := 8) rfl rfl ⟨by decide, by decide⟩ (Nat.le_of_ble_eq_true rfl) ?_
          rintro v_59 τ_59 ⟨z_59, rfl, hq_59⟩
          refine ev_w (fun hR => ?_)
          refine ev_istore_n dX8_takePole_62 rfl (by decide) rfl ?_
          rcases into_S S2 (show row 3 from ⟨by decide, by decide, by decide⟩) hq_59 with ⟨f3, w3, r3, rfl, f0, f4, hrs, hw, hcn⟩ | ⟨x3, a3, e3, r3, rfl, S3, vv3, ot3, nu3, na3⟩
          · refine ev_aload_n dX8_takePole_63 rfl ?_
            refine ev_dup dX8_takePole_64 rfl ?_
            refine ev_getI (kz := 43) dX8_takePole_65 fl_X8_254 rfl rfl rfl ?_
            refine ev_iconst dX8_takePole_68 ?_
            refine ev_iadd dX8_takePole_69 ?_
            refine ev_putI (kz := 43) dX8_takePole_70 fp_X8_254 rfl rfl rfl (by have := hcn 0 (by decide); rw [show fM 0 = 43 from rfl] at this; rw [this]; exact ⟨by omega, by omega⟩) ?_
            refine ev_w (fun hR => ?_)
            refine ev_iload_n dX8_takePole_73 rfl ?_
            refine ev_ireturn dX8_takePole_74 ?_
            refine ⟨_, rfl, Or.inl ⟨_, _, (by unfold poleR; rw [r1]; dsimp only; rw [r2]; dsimp only; rw [r3]), rfl, f0, f4, hrs.wf _ (by unfold PF; omega), ?_⟩⟩
            exact hw.wf _ (by decide) (by decide)
          · refine ev_aload_n dX8_takePole_63 rfl ?_
            refine ev_dup dX8_takePole_64 rfl ?_
            refine ev_getI (kz := 43) dX8_takePole_65 fl_X8_254 rfl rfl rfl ?_
            rw [(hc0 S3).1]
            refine ev_iconst dX8_takePole_68 ?_
            refine ev_iadd dX8_takePole_69 ?_
            refine ev_putI (kz := 43) dX8_takePole_70 fp_X8_254 rfl rfl rfl (by first | exact hR.1 _ _ | exact hR0.1 _ _ | assumption | exact ⟨by omega, by omega⟩ | exact ⟨by simp [wr_at]; omega, by simp [wr_at]; omega⟩ | exact b2_R _ | exact bC_R _ | exact band_R _ _ | exact bor_R _ _ | exact bshl_R _ _ | exact bshr_R _ _ | exact bxor_R _ _ | exact bs_R (by omega) | decide) ?_
            refine ev_w (fun hR => ?_)
            refine ev_iload_n dX8_takePole_73 rfl ?_
            refine ev_ireturn dX8_takePole_74 ?_
            refine ⟨_, rfl, Or.inr ⟨addD d 0 (v3 1 x1 x2 x3), e3, by unfold poleR; rw [r1]; dsimp only; rw [r2]; dsimp only; rw [r3], rfl, ?_⟩⟩
            refine stp_add (g := 0) S3 (by decide) _ (fun j hj hg => ?_)
            have hj9 : j = 1 ∨ j = 2 ∨ j = 3 := by
              obtain ⟨h1, h2, h3⟩ := hj
              unfold grp at hg
              split at hg
              · omega
              · split at hg
                · omega
                · split at hg <;> omega
            rcases hj9 with rfl | rfl | rfl
            · show τ_59.1 108 _ = x1
              rw [ot3 108 (by decide) (by decide) (by decide), ot2 108 (by decide) (by decide) (by decide)]; exact vv1
            · show τ_59.1 109 _ = x2
              rw [ot3 109 (by decide) (by decide) (by decide)]; exact vv2
            · exact vv3
        · exfalso; omega
    · exfalso; omega
