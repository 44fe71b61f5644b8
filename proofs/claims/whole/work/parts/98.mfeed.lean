/-- cells that may differ, and the values that are known -/
def Up (S : Nat → Int → Prop) (E : Nat → Int → Int) (D : Nat → Int → Prop) (μ ν : Mem) : Prop := (∀ c k, ¬ S c k → ν.1 c k = μ.1 c k) ∧ ∀ c k, D c k → ν.1 c k = E c k
theorem Up.rf {S : Nat → Int → Prop} {E : Nat → Int → Int} {D : Nat → Int → Prop} {μ : Mem} (h : ∀ c k, ¬ D c k) : Up S E D μ μ := ⟨fun _ _ _ => rfl, fun c k hd => absurd hd (h c k)⟩
theorem Up.put {S : Nat → Int → Prop} {E : Nat → Int → Int} {D : Nat → Int → Prop} {μ ν : Mem} (h : Up S E D μ ν) {c : Nat} {j z : Int} (hS : S c j) (hz : z = E c j) : Up S E (fun c9 j9 => D c9 j9 ∨ (c9 = c ∧ j9 = j)) μ (wr ν c j z) := by
  refine ⟨fun c9 k9 h9 => ?_, fun c9 j9 hd => ?_⟩
  · rw [wr_ne ν (fun e => h9 (by obtain ⟨rfl, rfl⟩ := e; exact hS))]
    exact h.1 c9 k9 h9
  · by_cases e : c9 = c ∧ j9 = j
    · obtain ⟨rfl, rfl⟩ := e; rw [wr_eq, hz]
    · rw [wr_ne ν e]
      exact h.2 c9 j9 (hd.resolve_right e)
theorem Up.mono {S : Nat → Int → Prop} {E : Nat → Int → Int} {D D2 : Nat → Int → Prop} {μ ν : Mem} (h : Up S E D μ ν) (hE : ∀ c j, D2 c j → D c j) : Up S E D2 μ ν := ⟨h.1, fun c j hj => h.2 c j (hE c j hj)⟩
theorem Up.st {S : Nat → Int → Prop} {E : Nat → Int → Int} {D : Nat → Int → Prop} {μ ν : Mem} (h : Up S E D μ ν) (a : Nat) (k : Int) : Up S E (fun c j => D c j ∨ (a ≤ c ∧ c < a ∧ j = k)) μ ν := h.mono (fun c j hj => hj.resolve_right (fun q => by omega))
theorem Up.run {S : Nat → Int → Prop} {E : Nat → Int → Int} {D : Nat → Int → Prop} {μ ν : Mem} {a : Nat} {k : Int} (b : Nat) (h : Up S E (fun c j => D c j ∨ (a ≤ c ∧ c < b ∧ j = k)) μ ν) {z : Int} (hS : S b k) (hz : z = E b k) : Up S E (fun c j => D c j ∨ (a ≤ c ∧ c < b + 1 ∧ j = k)) μ (wr ν b k z) := by
  refine (h.put hS hz).mono (fun c j hj => ?_)
  rcases hj with hj | ⟨h1, h2, h3⟩
  · exact Or.inl (Or.inl hj)
  · by_cases e : c = b
    · exact Or.inr ⟨e, h3⟩
    · exact Or.inl (Or.inr ⟨h1, by omega, h3⟩)
/-- rows a to b, up to k -/
def Rw (B : Nat → Int → Prop) (a b : Nat) (k : Int) : Nat → Int → Prop := fun c j => B c j ∨ (a ≤ c ∧ c < b ∧ 0 ≤ j ∧ j < k)
theorem Up.r0 {S : Nat → Int → Prop} {E : Nat → Int → Int} {B : Nat → Int → Prop} {μ ν : Mem} {a b : Nat} {k : Int} (h : Up S E B μ ν) (hk : k = 0) : Up S E (Rw B a b k) μ ν := h.mono (fun c j hj => hj.resolve_right (fun q => by omega))
theorem Up.rs {S : Nat → Int → Prop} {E : Nat → Int → Int} {B : Nat → Int → Prop} {μ ν : Mem} {a b b2 : Nat} {k k2 : Int} (h : Up S E (fun c j => Rw B a b k c j ∨ (a ≤ c ∧ c < b2 ∧ j = k)) μ ν) (hb : b2 = b) (hk : k2 = k + 1) : Up S E (Rw B a b k2) μ ν := by
  subst hb
  subst hk
  refine h.mono (fun c j hj => ?_)
  rcases hj with hj | ⟨h1, h2, h3, h4⟩
  · exact Or.inl (Or.inl hj)
  · by_cases e : j = k
    · exact Or.inr ⟨h1, h2, e⟩
    · exact Or.inl (Or.inr ⟨h1, h2, h3, by omega⟩)
theorem Up.rk {S : Nat → Int → Prop} {E : Nat → Int → Int} {B : Nat → Int → Prop} {μ ν : Mem} {a b : Nat} {k k2 : Int} (h : Up S E (Rw B a b k) μ ν) (hk : k2 ≤ k) : Up S E (Rw B a b k2) μ ν := by
  refine h.mono (fun c j hj => ?_)
  rcases hj with hj | ⟨h1, h2, h3, h4⟩
  · exact Or.inl hj
  · exact Or.inr ⟨h1, h2, h3, by omega⟩
def beF (c : Nat) (j : Int) : Prop := ((False ∨ (c = 79 ∧ j = 29)) ∨ (c = 79 ∧ j = 30)) ∨ (c = 79 ∧ j = 31)
def tbD : Nat → Int → Prop := Rw (Rw beF 95 98 12) 98 105 4
def cpF (c : Nat) (j : Int) : Prop := (((False ∨ (c = 79 ∧ j = 0)) ∨ (c = 79 ∧ j = 4)) ∨ (c = 79 ∧ j = 9)) ∨ (c = 79 ∧ j = 13)
def tcR : Nat → Int → Prop := Rw (Rw (Rw cpF 83 87 12) 80 83 8) 87 95 4
def tcD (c : Nat) (j : Int) : Prop := ((tcR c j ∨ (c = 79 ∧ j = 68)) ∨ (c = 133 ∧ j = 0)) ∨ (c = 133 ∧ j = 1)
def beE (μ : Mem) (c : Nat) (k : Int) : Int := if c = 98 then μ.1 87 k else if c = 102 then μ.1 90 k else if c = 99 ∨ c = 100 ∨ c = 103 then -1 else 0
def beS (c : Nat) (k : Int) : Prop := (95 ≤ c ∧ c ≤ 104) ∨ (c = 79 ∧ 29 ≤ k ∧ k ≤ 31)
def cpE (μ : Mem) (c : Nat) (k : Int) : Int := if c = 79 then (if k = 0 then μ.1 79 43 else if k = 4 then μ.1 79 47 else if k = 9 then μ.1 79 52 else if k = 13 then μ.1 79 56 else 0) else if c = 133 then 0 else μ.1 (c + 28) k
def cpS (c : Nat) (k : Int) : Prop := (80 ≤ c ∧ c ≤ 94) ∨ c = 133 ∨ (c = 79 ∧ (k = 0 ∨ k = 4 ∨ k = 9 ∨ k = 13 ∨ k = 68))
set_option maxHeartbeats 2000000 in
theorem m_begin (μ : Mem) : Con yX8_begin cX8_begin 2 none 0 0 [.ref 79] μ (AnsVP (fun ν => Up beS (beE μ) tbD μ ν)) := by
  refine con_of (by decide) rfl (Nat.le_of_ble_eq_true rfl) (ok_VP rfl) ?_
  refine ev_w (fun hR => ?_)
  have hR0 := hR
  have loop2 : ∀ k : Nat, k ≤ 4 → ∀ ν, Up beS (beE μ) (Rw (Rw beF 95 98 12) 98 105 k) μ ν → Ev RX8 cX8_begin 2 0 0 (AnsVP (fun ν => Up beS (beE μ) tbD μ ν)) 52 [some (.ref 79), some (.int (iI (k : Nat)))] [] ν := by
    refine for_up 4 (fun k hk ih => ?_)
    intro ν hI
    refine ev_w (fun hR => ?_)
    refine ev_iload_n dX8_begin_52 rfl ?_
    refine ev_iconst dX8_begin_53 ?_
    refine ev_icmp_ge (tgt := 122) dX8_begin_54 (by decide) (by first | exact hR.1 _ _ | exact hR0.1 _ _ | assumption | exact ⟨by omega, by omega⟩ | exact ⟨by simp [wr_at]; omega, by simp [wr_at]; omega⟩ | exact b2_R _ | exact bC_R _ | exact band_R _ _ | exact bor_R _ _ | exact bshl_R _ _ | exact bshr_R _ _ | exact bxor_R _ _ | exact bs_R (by omega) | decide) (by first | exact hR.1 _ _ | exact hR0.1 _ _ | assumption | exact ⟨by omega, by omega⟩ | exact ⟨by simp [wr_at]; omega, by simp [wr_at]; omega⟩ | exact b2_R _ | exact bC_R _ | exact band_R _ _ | exact bor_R _ _ | exact bshl_R _ _ | exact bshr_R _ _ | exact bxor_R _ _ | exact bs_R (by omega) | decide) (fun h_54 => ?_) (fun h_54 => ?_)
    · refine ev_return dX8_begin_122 ?_
      exact ⟨rfl, hI.rk (by omega)⟩
    · refine ev_aload_n dX8_begin_57 rfl ?_
      refine ev_getR (r := 98) dX8_begin_58 fl_X8_65 rfl rfl rfl ?_
      refine ev_iload_n dX8_begin_61 rfl ?_
      refine ev_aload_n dX8_begin_62 rfl ?_
      refine ev_getR (r := 87) dX8_begin_63 fl_X8_31 rfl rfl rfl ?_
      refine ev_iload_n dX8_begin_66 rfl ?_
      refine ev_iaload dX8_begin_67 rfl (by first | omega | (simp [wr_at]; omega) | (simp [wr_at, *]; omega)) (by first | omega | (simp [wr_at]; omega) | (simp [wr_at, *]; omega)) (by decide) ?_
      refine ev_iastore dX8_begin_68 rfl (by first | omega | (simp [wr_at]; omega) | (simp [wr_at, *]; omega)) (by first | omega | (simp [wr_at]; omega) | (simp [wr_at, *]; omega)) (by decide) (by first | exact hR.1 _ _ | exact hR0.1 _ _ | assumption | exact ⟨by omega, by omega⟩ | exact ⟨by simp [wr_at]; omega, by simp [wr_at]; omega⟩ | exact b2_R _ | exact bC_R _ | exact band_R _ _ | exact bor_R _ _ | exact bshl_R _ _ | exact bshr_R _ _ | exact bxor_R _ _ | exact bs_R (by omega) | decide) ?_
      refine ev_w (fun hR => ?_)
      have hI0 := hI.st 98 (k : Int)
      have hI1 := Up.run (z := (ν.1 87 (k : Int))) 98 hI0 (by unfold beS; omega) (by rw [hI0.1 87 _ (by unfold beS; omega)]; rfl)
      generalize wr ν 98 (k : Int) (ν.1 87 (k : Int)) = ν1 at hI1 hR ⊢
      refine ev_aload_n dX8_begin_69 rfl ?_
      refine ev_getR (r := 99) dX8_begin_70 fl_X8_68 rfl rfl rfl ?_
      refine ev_iload_n dX8_begin_73 rfl ?_
      refine ev_iconst dX8_begin_74 ?_
      refine ev_iastore dX8_begin_75 rfl (by first | omega | (simp [wr_at]; omega) | (simp [wr_at, *]; omega)) (by first | omega | (simp [wr_at]; omega) | (simp [wr_at, *]; omega)) (by decide) (by first | exact hR.1 _ _ | exact hR0.1 _ _ | assumption | exact ⟨by omega, by omega⟩ | exact ⟨by simp [wr_at]; omega, by simp [wr_at]; omega⟩ | exact b2_R _ | exact bC_R _ | exact band_R _ _ | exact bor_R _ _ | exact bshl_R _ _ | exact bshr_R _ _ | exact bxor_R _ _ | exact bs_R (by omega) | decide) ?_
      refine ev_w (fun hR => ?_)
      have hI2 := Up.run (z := (-1)) 99 hI1 (by unfold beS; omega) (rfl)
      generalize wr ν1 99 (k : Int) (-1) = ν2 at hI2 hR ⊢
      refine ev_aload_n dX8_begin_76 rfl ?_
      refine ev_getR (r := 100) dX8_begin_77 fl_X8_71 rfl rfl rfl ?_
      refine ev_iload_n dX8_begin_80 rfl ?_
      refine ev_iconst dX8_begin_81 ?_
      refine ev_iastore dX8_begin_82 rfl (by first | omega | (simp [wr_at]; omega) | (simp [wr_at, *]; omega)) (by first | omega | (simp [wr_at]; omega) | (simp [wr_at, *]; omega)) (by decide) (by first | exact hR.1 _ _ | exact hR0.1 _ _ | assumption | exact ⟨by omega, by omega⟩ | exact ⟨by simp [wr_at]; omega, by simp [wr_at]; omega⟩ | exact b2_R _ | exact bC_R _ | exact band_R _ _ | exact bor_R _ _ | exact bshl_R _ _ | exact bshr_R _ _ | exact bxor_R _ _ | exact bs_R (by omega) | decide) ?_
      refine ev_w (fun hR => ?_)
      have hI3 := Up.run (z := (-1)) 100 hI2 (by unfold beS; omega) (rfl)
      generalize wr ν2 100 (k : Int) (-1) = ν3 at hI3 hR ⊢
      refine ev_aload_n dX8_begin_83 rfl ?_
      refine ev_getR (r := 101) dX8_begin_84 fl_X8_74 rfl rfl rfl ?_
      refine ev_iload_n dX8_begin_87 rfl ?_
      refine ev_iconst dX8_begin_88 ?_
      refine ev_iastore dX8_begin_89 rfl (by first | omega | (simp [wr_at]; omega) | (simp [wr_at, *]; omega)) (by first | omega | (simp [wr_at]; omega) | (simp [wr_at, *]; omega)) (by decide) (by first | exact hR.1 _ _ | exact hR0.1 _ _ | assumption | exact ⟨by omega, by omega⟩ | exact ⟨by simp [wr_at]; omega, by simp [wr_at]; omega⟩ | exact b2_R _ | exact bC_R _ | exact band_R _ _ | exact bor_R _ _ | exact bshl_R _ _ | exact bshr_R _ _ | exact bxor_R _ _ | exact bs_R (by omega) | decide) ?_
      refine ev_w (fun hR => ?_)
      have hI4 := Up.run (z := 0) 101 hI3 (by unfold beS; omega) (rfl)
      generalize wr ν3 101 (k : Int) 0 = ν4 at hI4 hR ⊢
      refine ev_aload_n dX8_begin_90 rfl ?_
      refine ev_getR (r := 102) dX8_begin_91 fl_X8_77 rfl rfl rfl ?_
      refine ev_iload_n dX8_begin_94 rfl ?_
      refine ev_aload_n dX8_begin_95 rfl ?_
      refine ev_getR (r := 90) dX8_begin_96 fl_X8_40 rfl rfl rfl ?_
      refine ev_iload_n dX8_begin_99 rfl ?_
      refine ev_iaload dX8_begin_100 rfl (by first | omega | (simp [wr_at]; omega) | (simp [wr_at, *]; omega)) (by first | omega | (simp [wr_at]; omega) | (simp [wr_at, *]; omega)) (by decide) ?_
      refine ev_iastore dX8_begin_101 rfl (by first | omega | (simp [wr_at]; omega) | (simp [wr_at, *]; omega)) (by first | omega | (simp [wr_at]; omega) | (simp [wr_at, *]; omega)) (by decide) (by first | exact hR.1 _ _ | exact hR0.1 _ _ | assumption | exact ⟨by omega, by omega⟩ | exact ⟨by simp [wr_at]; omega, by simp [wr_at]; omega⟩ | exact b2_R _ | exact bC_R _ | exact band_R _ _ | exact bor_R _ _ | exact bshl_R _ _ | exact bshr_R _ _ | exact bxor_R _ _ | exact bs_R (by omega) | decide) ?_
      refine ev_w (fun hR => ?_)
      have hI5 := Up.run (z := (ν4.1 90 (k : Int))) 102 hI4 (by unfold beS; omega) (by rw [hI4.1 90 _ (by unfold beS; omega)]; rfl)
      generalize wr ν4 102 (k : Int) (ν4.1 90 (k : Int)) = ν5 at hI5 hR ⊢
      refine ev_aload_n dX8_begin_102 rfl ?_
      refine ev_getR (r := 103) dX8_begin_103 fl_X8_80 rfl rfl rfl ?_
      refine ev_iload_n dX8_begin_106 rfl ?_
      refine ev_iconst dX8_begin_107 ?_
      refine ev_iastore dX8_begin_108 rfl (by first | omega | (simp [wr_at]; omega) | (simp [wr_at, *]; omega)) (by first | omega | (simp [wr_at]; omega) | (simp [wr_at, *]; omega)) (by decide) (by first | exact hR.1 _ _ | exact hR0.1 _ _ | assumption | exact ⟨by omega, by omega⟩ | exact ⟨by simp [wr_at]; omega, by simp [wr_at]; omega⟩ | exact b2_R _ | exact bC_R _ | exact band_R _ _ | exact bor_R _ _ | exact bshl_R _ _ | exact bshr_R _ _ | exact bxor_R _ _ | exact bs_R (by omega) | decide) ?_
      refine ev_w (fun hR => ?_)
      have hI6 := Up.run (z := (-1)) 103 hI5 (by unfold beS; omega) (rfl)
      generalize wr ν5 103 (k : Int) (-1) = ν6 at hI6 hR ⊢
      refine ev_aload_n dX8_begin_109 rfl ?_
      refine ev_getR (r := 104) dX8_begin_110 fl_X8_83 rfl rfl rfl ?_
      refine ev_iload_n dX8_begin_113 rfl ?_
      refine ev_iconst dX8_begin_114 ?_
      refine ev_zastore dX8_begin_115 rfl (by first | omega | (simp [wr_at]; omega) | (simp [wr_at, *]; omega)) (by first | omega | (simp [wr_at]; omega) | (simp [wr_at, *]; omega)) (by decide) (by first | exact Or.inl rfl | exact Or.inr rfl | omega) ?_
      refine ev_w (fun hR => ?_)
      have hI7 := Up.run (z := 0) 104 hI6 (by unfold beS; omega) (rfl)
      generalize wr ν6 104 (k : Int) 0 = ν7 at hI7 hR ⊢
      refine ev_iinc dX8_begin_116 rfl rfl (by decide) rfl ?_
      refine ev_goto (tgt := 52) dX8_begin_119 (by decide) ?_
      exact ih (by omega) _ (Up.rs hI7 rfl rfl)
  have loop1 : ∀ k : Nat, k ≤ 12 → ∀ ν, Up beS (beE μ) (Rw beF 95 98 k) μ ν → Ev RX8 cX8_begin 2 0 0 (AnsVP (fun ν => Up beS (beE μ) tbD μ ν)) 17 [some (.ref 79), some (.int (iI (k : Nat)))] [] ν := by
    refine for_up 12 (fun k hk ih => ?_)
    intro ν hI
    refine ev_w (fun hR => ?_)
    refine ev_iload_n dX8_begin_17 rfl ?_
    refine ev_bipush dX8_begin_18 (by decide) ?_
    refine ev_icmp_ge (tgt := 50) dX8_begin_20 (by decide) (by first | exact hR.1 _ _ | exact hR0.1 _ _ | assumption | exact ⟨by omega, by omega⟩ | exact ⟨by simp [wr_at]; omega, by simp [wr_at]; omega⟩ | exact b2_R _ | exact bC_R _ | exact band_R _ _ | exact bor_R _ _ | exact bshl_R _ _ | exact bshr_R _ _ | exact bxor_R _ _ | exact bs_R (by omega) | decide) (by first | exact hR.1 _ _ | exact hR0.1 _ _ | assumption | exact ⟨by omega, by omega⟩ | exact ⟨by simp [wr_at]; omega, by simp [wr_at]; omega⟩ | exact b2_R _ | exact bC_R _ | exact band_R _ _ | exact bor_R _ _ | exact bshl_R _ _ | exact bshr_R _ _ | exact bxor_R _ _ | exact bs_R (by omega) | decide) (fun h_20 => ?_) (fun h_20 => ?_)
    · refine ev_iconst dX8_begin_50 ?_
      refine ev_istore_n dX8_begin_51 rfl (by decide) rfl ?_
      exact loop2 0 (by omega) _ (Up.r0 (hI.rk (by omega)) rfl)
    · refine ev_aload_n dX8_begin_23 rfl ?_
      refine ev_getR (r := 95) dX8_begin_24 fl_X8_55 rfl rfl rfl ?_
      refine ev_iload_n dX8_begin_27 rfl ?_
      refine ev_iconst dX8_begin_28 ?_
      refine ev_iastore dX8_begin_29 rfl (by first | omega | (simp [wr_at]; omega) | (simp [wr_at, *]; omega)) (by first | omega | (simp [wr_at]; omega) | (simp [wr_at, *]; omega)) (by decide) (by first | exact hR.1 _ _ | exact hR0.1 _ _ | assumption | exact ⟨by omega, by omega⟩ | exact ⟨by simp [wr_at]; omega, by simp [wr_at]; omega⟩ | exact b2_R _ | exact bC_R _ | exact band_R _ _ | exact bor_R _ _ | exact bshl_R _ _ | exact bshr_R _ _ | exact bxor_R _ _ | exact bs_R (by omega) | decide) ?_
      refine ev_w (fun hR => ?_)
      have hI0 := hI.st 95 (k : Int)
      have hI1 := Up.run (z := 0) 95 hI0 (by unfold beS; omega) (rfl)
      generalize wr ν 95 (k : Int) 0 = ν1 at hI1 hR ⊢
      refine ev_aload_n dX8_begin_30 rfl ?_
      refine ev_getR (r := 96) dX8_begin_31 fl_X8_58 rfl rfl rfl ?_
      refine ev_iload_n dX8_begin_34 rfl ?_
      refine ev_iconst dX8_begin_35 ?_
      refine ev_zastore dX8_begin_36 rfl (by first | omega | (simp [wr_at]; omega) | (simp [wr_at, *]; omega)) (by first | omega | (simp [wr_at]; omega) | (simp [wr_at, *]; omega)) (by decide) (by first | exact Or.inl rfl | exact Or.inr rfl | omega) ?_
      refine ev_w (fun hR => ?_)
      have hI2 := Up.run (z := 0) 96 hI1 (by unfold beS; omega) (rfl)
      generalize wr ν1 96 (k : Int) 0 = ν2 at hI2 hR ⊢
      refine ev_aload_n dX8_begin_37 rfl ?_
      refine ev_getR (r := 97) dX8_begin_38 fl_X8_62 rfl rfl rfl ?_
      refine ev_iload_n dX8_begin_41 rfl ?_
      refine ev_iconst dX8_begin_42 ?_
      refine ev_zastore dX8_begin_43 rfl (by first | omega | (simp [wr_at]; omega) | (simp [wr_at, *]; omega)) (by first | omega | (simp [wr_at]; omega) | (simp [wr_at, *]; omega)) (by decide) (by first | exact Or.inl rfl | exact Or.inr rfl | omega) ?_
      refine ev_w (fun hR => ?_)
      have hI3 := Up.run (z := 0) 97 hI2 (by unfold beS; omega) (rfl)
      generalize wr ν2 97 (k : Int) 0 = ν3 at hI3 hR ⊢
      refine ev_iinc dX8_begin_44 rfl rfl (by decide) rfl ?_
      refine ev_goto (tgt := 17) dX8_begin_47 (by decide) ?_
      exact ih (by omega) _ (Up.rs hI3 rfl rfl)
  have hI : Up beS (beE μ) (fun _ _ => False) μ μ := Up.rf (fun _ _ h => h)
  refine ev_aload_n dX8_begin_0 rfl ?_
  refine ev_iconst dX8_begin_1 ?_
  refine ev_putI (kz := 29) dX8_begin_2 fp_X8_193 rfl rfl rfl (by first | exact hR.1 _ _ | exact hR0.1 _ _ | assumption | exact ⟨by omega, by omega⟩ | exact ⟨by simp [wr_at]; omega, by simp [wr_at]; omega⟩ | exact b2_R _ | exact bC_R _ | exact band_R _ _ | exact bor_R _ _ | exact bshl_R _ _ | exact bshr_R _ _ | exact bxor_R _ _ | exact bs_R (by omega) | decide) ?_
  refine ev_w (fun hR => ?_)
  have hI1 := hI.put (c := 79) (j := 29) (z := 0) (by unfold beS; omega) (rfl)
  generalize wr μ 79 (29) 0 = ν1 at hI1 hR ⊢
  refine ev_aload_n dX8_begin_5 rfl ?_
  refine ev_iconst dX8_begin_6 ?_
  refine ev_putI (kz := 30) dX8_begin_7 fp_X8_196 rfl rfl rfl (by first | exact hR.1 _ _ | exact hR0.1 _ _ | assumption | exact ⟨by omega, by omega⟩ | exact ⟨by simp [wr_at]; omega, by simp [wr_at]; omega⟩ | exact b2_R _ | exact bC_R _ | exact band_R _ _ | exact bor_R _ _ | exact bshl_R _ _ | exact bshr_R _ _ | exact bxor_R _ _ | exact bs_R (by omega) | decide) ?_
  refine ev_w (fun hR => ?_)
  have hI2 := hI1.put (c := 79) (j := 30) (z := 0) (by unfold beS; omega) (rfl)
  generalize wr ν1 79 (30) 0 = ν2 at hI2 hR ⊢
  refine ev_aload_n dX8_begin_10 rfl ?_
  refine ev_iconst dX8_begin_11 ?_
  refine ev_putI (kz := 31) dX8_begin_12 fp_X8_199 rfl rfl rfl (by first | exact hR.1 _ _ | exact hR0.1 _ _ | assumption | exact ⟨by omega, by omega⟩ | exact ⟨by simp [wr_at]; omega, by simp [wr_at]; omega⟩ | exact b2_R _ | exact bC_R _ | exact band_R _ _ | exact bor_R _ _ | exact bshl_R _ _ | exact bshr_R _ _ | exact bxor_R _ _ | exact bs_R (by omega) | decide) ?_
  refine ev_w (fun hR => ?_)
  have hI3 := hI2.put (c := 79) (j := 31) (z := 0) (by unfold beS; omega) (rfl)
  generalize wr ν2 79 (31) 0 = ν3 at hI3 hR ⊢
  refine ev_iconst dX8_begin_15 ?_
  refine ev_istore_n dX8_begin_16 rfl (by decide) rfl ?_
  exact loop1 0 (by omega) _ (Up.r0 hI3 rfl)
def fedM (μ : Mem) (L : Nat) (x : Int64) (n : Nat) : Nat → Mem
  | 0 => μ
  | m + 1 => wr (wr (fedM μ L x n m) 107 ((L + m : Nat) : Int) (ub x (n - 1 - m) : Nat)) 79 36 ((L + m + 1 : Nat) : Int)
theorem fedM_1 {μ : Mem} {L : Nat} (h : μ.1 79 36 = L) (x : Int64) (n m : Nat) : (fedM μ L x n m).1 79 36 = ((L + m : Nat) : Int) := by
  cases m with
  | zero => exact h
  | succ m => rw [fedM, wr_eq]; rfl
theorem m_feed (μ : Mem) (L : Nat) (hL : μ.1 79 36 = L) (hL5 : L ≤ 500) (n0 : Int) (hn0 : inR n0) (x : Int64) : Con yX8_feed cX8_feed 5 (some .int) 1 25 [.ref 79, .int (iI n0), .long x] μ (fun v ν => if ¬ (1 ≤ n0 ∧ n0 ≤ 8) then AnsI (-1000000002) μ v ν else if (L : Int) + n0 > 500 then AnsI (-1000000004) μ v ν else AnsI ((L : Int) + n0) (fedM μ L x n0.toNat n0.toNat) v ν) := by
  refine con_of (by decide) rfl (Nat.le_of_ble_eq_true rfl) ((fun v τ h => by repeat (first | exact ok_I rfl v τ h | exact ok_IP rfl v τ h | split at h))) ?_
  refine ev_w (fun hR => ?_)
  have hR0 := hR
  have loop : ∀ n : Nat, n0 = n → 1 ≤ n → n ≤ 8 → L + n ≤ 500 → ∀ m : Nat, m ≤ n → Ev RX8 cX8_feed 5 1 25 (fun v ν => if ¬ (1 ≤ n0 ∧ n0 ≤ 8) then AnsI (-1000000002) μ v ν else if (L : Int) + n0 > 500 then AnsI (-1000000004) μ v ν else AnsI ((L : Int) + n0) (fedM μ L x n0.toNat n0.toNat) v ν) 35 [some (.ref 79), some (.int (iI n0)), some (.long x), none, some (.int (iI ((n : Int) - 1 - m)))] [] (fedM μ L x n m) := by
    intro n hn h1 h8 hLn
    subst hn
    refine for_up n (fun m hm ih => ?_)
    refine ev_w (fun hR => ?_)
    have hl := fedM_1 hL x n m
    refine ev_iload dX8_feed_35 rfl ?_
    refine ev_if_lt (tgt := 77) dX8_feed_37 (by decide) (by first | exact hR.1 _ _ | exact hR0.1 _ _ | assumption | exact ⟨by omega, by omega⟩ | exact ⟨by simp [wr_at]; omega, by simp [wr_at]; omega⟩ | exact b2_R _ | exact bC_R _ | exact band_R _ _ | exact bor_R _ _ | exact bshl_R _ _ | exact bshr_R _ _ | exact bxor_R _ _ | exact bs_R (by omega) | decide) (fun h_37 => ?_) (fun h_37 => ?_)
    · refine ev_aload_n dX8_feed_77 rfl ?_
      refine ev_getI (kz := 36) dX8_feed_78 fl_X8_205 rfl rfl rfl ?_
      rw [hl]
      refine ev_ireturn dX8_feed_81 ?_
      obtain rfl : m = n := by omega
      rw [if_neg (c := ¬ (1 ≤ (m : Int) ∧ (m : Int) ≤ 8)) (fun y => y ⟨by omega, by omega⟩), if_neg (by omega)]
      exact ⟨rfl, rfl⟩
    · obtain ⟨k, hk⟩ : ∃ k : Nat, n - 1 - m = k := ⟨_, rfl⟩
      have ek : (n : Int) - 1 - m = (k : Int) := by omega
      have hub := ub_R x k
      refine ev_aload_n dX8_feed_40 rfl ?_
      refine ev_getR (r := 107) dX8_feed_41 fl_X8_92 rfl rfl rfl ?_
      refine ev_aload_n dX8_feed_44 rfl ?_
      refine ev_getI (kz := 36) dX8_feed_45 fl_X8_205 rfl rfl rfl ?_
      rw [hl]
      refine ev_lload_n dX8_feed_48 rfl ?_
      refine ev_bipush dX8_feed_49 (by decide) ?_
      refine ev_iload dX8_feed_51 rfl ?_
      refine ev_imul dX8_feed_53 ?_
      rw [ek, show (8 : Int) * ((k : Nat) : Int) = ((8 * k : Nat) : Int) from rfl]
      refine ev_lshr dX8_feed_54 rfl ?_
      refine ev_ldc2 (z := 255) dX8_feed_55 kl_X8_209 (by decide) ?_
      refine ev_land dX8_feed_58 ?_
      rw [lshr_b x k (by omega)]
      refine ev_l2i dX8_feed_59 ?_
      refine ev_iastore dX8_feed_60 rfl (by first | omega | (simp [wr_at]; omega) | (simp [wr_at, *]; omega)) (by first | omega | (simp [wr_at]; omega) | (simp [wr_at, *]; omega)) (by decide) (by first | exact hR.1 _ _ | exact hR0.1 _ _ | assumption | exact ⟨by omega, by omega⟩ | exact ⟨by simp [wr_at]; omega, by simp [wr_at]; omega⟩ | exact b2_R _ | exact bC_R _ | exact band_R _ _ | exact bor_R _ _ | exact bshl_R _ _ | exact bshr_R _ _ | exact bxor_R _ _ | exact bs_R (by omega) | decide) ?_
      refine ev_w (fun hR => ?_)
      refine ev_aload_n dX8_feed_61 rfl ?_
      refine ev_dup dX8_feed_62 rfl ?_
      refine ev_getI (kz := 36) dX8_feed_63 fl_X8_205 rfl rfl rfl ?_
      rw [wr_nec _ (by decide), hl]
      refine ev_iconst dX8_feed_66 ?_
      refine ev_iadd dX8_feed_67 ?_
      refine ev_putI (kz := 36) dX8_feed_68 fp_X8_205 rfl rfl rfl ⟨by omega, by omega⟩ ?_
      refine ev_w (fun hR => ?_)
      refine ev_iinc dX8_feed_71 rfl rfl (by decide) rfl ?_
      refine ev_goto (tgt := 35) dX8_feed_74 (by decide) ?_
      refine ev_ab (show _ = [some (.ref 79), some (.int (iI n)), some (.long x), none, some (.int (iI ((n : Int) - 1 - (m + 1 : Nat))))] from by rw [show (n : Int) - 1 - (m + 1 : Nat) = (k : Int) + -1 by omega]; rfl) ?_
      have e2 : fedM μ L x n (m + 1) = wr (wr (fedM μ L x n m) 107 ((L + m : Nat) : Int) ((ub x k : Nat) : Int)) 79 36 ((L + m + 1 : Nat) : Int) := by rw [fedM, hk]
      rw [show ((L + m : Nat) : Int) + 1 = ((L + m + 1 : Nat) : Int) from rfl, ← e2]
      exact ih (by omega)
  refine ev_iload_n dX8_feed_0 rfl ?_
  refine ev_i2l dX8_feed_1 hn0 ?_
  refine ev_lconst (z := 1) dX8_feed_2 (by decide) ?_
  refine ev_ldc2 (z := 8) dX8_feed_3 kl_X8_202 (by decide) ?_
  refine ev_callSI dX8_feed_6 ks_X8_180 (m_in μ n0 1 8 ⟨by omega, by omega⟩ (by decide) (by decide)) rfl rfl ⟨by decide, by decide⟩ (Nat.le_of_ble_eq_true rfl) ?_
  refine ev_w (fun hR => ?_)
  refine ev_if_ne (tgt := 15) dX8_feed_9 (by decide) (by first | exact hR.1 _ _ | exact hR0.1 _ _ | assumption | exact ⟨by omega, by omega⟩ | exact ⟨by simp [wr_at]; omega, by simp [wr_at]; omega⟩ | exact b2_R _ | exact bC_R _ | exact band_R _ _ | exact bor_R _ _ | exact bshl_R _ _ | exact bshr_R _ _ | exact bxor_R _ _ | exact bs_R (by omega) | decide) (fun h_9 => ?_) (fun h_9 => ?_)
  · refine ev_aload_n dX8_feed_15 rfl ?_
    refine ev_getI (kz := 36) dX8_feed_16 fl_X8_205 rfl rfl rfl ?_
    rw [hL]
    have q0 := b2_ne h_9
    refine ev_iload_n dX8_feed_19 rfl ?_
    refine ev_iadd dX8_feed_20 ?_
    refine ev_sipush dX8_feed_21 (by decide) ?_
    refine ev_icmp_le (tgt := 30) dX8_feed_24 (by decide) (by first | exact hR.1 _ _ | exact hR0.1 _ _ | assumption | exact ⟨by omega, by omega⟩ | exact ⟨by simp [wr_at]; omega, by simp [wr_at]; omega⟩ | exact b2_R _ | exact bC_R _ | exact band_R _ _ | exact bor_R _ _ | exact bshl_R _ _ | exact bshr_R _ _ | exact bxor_R _ _ | exact bs_R (by omega) | decide) (by first | exact hR.1 _ _ | exact hR0.1 _ _ | assumption | exact ⟨by omega, by omega⟩ | exact ⟨by simp [wr_at]; omega, by simp [wr_at]; omega⟩ | exact b2_R _ | exact bC_R _ | exact band_R _ _ | exact bor_R _ _ | exact bshl_R _ _ | exact bshr_R _ _ | exact bxor_R _ _ | exact bs_R (by omega) | decide) (fun h_24 => ?_) (fun h_24 => ?_)
    · refine ev_iload_n dX8_feed_30 rfl ?_
      refine ev_iconst dX8_feed_31 ?_
      refine ev_isub dX8_feed_32 ?_
      refine ev_istore dX8_feed_33 rfl (by decide) rfl ?_
      have q0 := b2_ne h_9
      obtain ⟨n, hn⟩ : ∃ n : Nat, n0 = n := ⟨n0.toNat, by omega⟩
      have q := loop n hn (by omega) (by omega) (by omega) 0 (by omega)
      have e : (n0 : Int) - 1 = (n : Int) - 1 - (0 : Nat) := by omega
      rw [e]
      exact q
    · refine ev_ldc (z := -1000000004) dX8_feed_27 kc_X8_208 (by decide) ?_
      refine ev_ireturn dX8_feed_29 ?_
      have q := b2_ne h_9
      rw [if_neg (fun y => y q), if_pos (by omega)]
      exact ⟨rfl, rfl⟩
  · refine ev_ldc (z := -1000000002) dX8_feed_12 kc_X8_204 (by decide) ?_
    refine ev_ireturn dX8_feed_14 ?_
    have q := b2_eq (by omega : b2 (1 ≤ n0 ∧ n0 ≤ 8) = 0)
    rw [if_pos q]
    exact ⟨rfl, rfl⟩
