theorem ev_st {own : String} {cc : ByteArray} {nL fr lo : Nat} {Φ : Option Value → Mem → Prop} {pc : Nat} {ab : List (Option Value)} {st st' : List Value} {σ : Mem} (h : st = st') (k : Ev own cc nL fr lo Φ pc ab st' σ) : Ev own cc nL fr lo Φ pc ab st σ := h ▸ k
theorem k_fault (σ : Mem) : Con yX7_fault cX7_fault 1 (some .int) 0 0 [.ref 0] σ (AnsI (σ.1 1 3) σ) := by
  refine con_of (by decide) rfl (Nat.le_of_ble_eq_true rfl) (ok_I rfl) ?_
  refine ev_w (fun hR => ?_)
  have hR0 := hR
  refine ev_aload_n dX7_fault_0 rfl ?_
  refine ev_getR (r := 1) dX7_fault_1 fl_X7_10 rfl rfl rfl ?_
  refine ev_getI (kz := 3) dX7_fault_4 fl_X7_95 rfl rfl rfl ?_
  refine ev_ireturn dX7_fault_7 ?_
  exact ⟨rfl, rfl⟩
def toldC (σ : Mem) (P : Nat) (x : Int) : Int := if x = 0 then σ.1 P 0 else if x = 1 then σ.1 P 1 else if x = 2 then σ.1 P 2 else if x = 3 then σ.1 P 3 else if x = 4 then σ.1 1 1 else if x = 5 then σ.1 37 0 else if x = 6 then σ.1 37 1 else if x = 7 then σ.1 37 5 else if x = 8 then σ.1 37 6 else if x = 9 then σ.1 65 0 else if x = 10 then σ.1 37 3 else -1000000002
theorem k_told (σ : Mem) (P n nr nb nl w wt : Nat) (f t : Nat → Nat) (hPO : PlanOk σ P n nr nb nl f t) (hPI : PlIs σ P) (hBt : Bits σ w wt) (x : Int) (hx : inR x) : Con yX7_told cX7_told 2 (some .int) 0 0 [.ref 0, .int (iI x)] σ (AnsI (toldC σ P x) σ) := by
  refine con_of (by decide) rfl (Nat.le_of_ble_eq_true rfl) (ok_I rfl) ?_
  refine ev_w (fun hR => ?_)
  have hR0 := hR
  obtain ⟨hPR, ⟨hnb, hnb4⟩, ⟨hnl, hnl4⟩, hpo, hro, hbo, hlo⟩ := id hPO
  obtain ⟨hP, hn, hn8, hnr, hnr12, hft⟩ := id hPR
  obtain ⟨hw, hw2, hwt, hwt2⟩ := id hBt
  have hpl := hPI.q
  refine ev_iload_n dX7_told_0 rfl ?_
  by_cases h_1 : x < 0 ∨ 10 < x
  · refine ev_tableOut (tgt := 148) dX7_told_1 (by first | exact hR.1 _ _ | exact hR0.1 _ _ | assumption | exact ⟨by omega, by omega⟩ | exact ⟨by simp [wr_at]; omega, by simp [wr_at]; omega⟩ | exact b2_R _ | exact bC_R _ | exact band_R _ _ | exact bor_R _ _ | exact bshl_R _ _ | exact bshr_R _ _ | exact bxor_R _ _ | exact bs_R (by omega) | decide) h_1 (by decide) ?_
    refine ev_ldc (z := -1000000002) dX7_told_148 kc_X7_73 (by decide) ?_
    refine ev_ireturn dX7_told_150 ?_
    exact ⟨by first | rfl | (unfold toldC; rw [if_neg (by omega), if_neg (by omega), if_neg (by omega), if_neg (by omega), if_neg (by omega), if_neg (by omega), if_neg (by omega), if_neg (by omega), if_neg (by omega), if_neg (by omega), if_neg (by omega)]), rfl⟩
  by_cases h_1_0 : x = 0
  · subst h_1_0
    refine ev_tableIn (off := 59) (tgt := 60) dX7_told_1 (by decide) (by decide) (by decide) rfl (by decide) ?_
    refine ev_aload_n dX7_told_60 rfl ?_
    refine ev_getQ (r := P) dX7_told_61 fl_X7_19 rfl rfl hpl ?_
    refine ev_getI (kz := 0) dX7_told_64 fl_X7_92 (plO hP) rfl rfl ?_
    refine ev_ireturn dX7_told_67 ?_
    exact ⟨by first | rfl | (unfold toldC; rw [if_neg (by omega), if_neg (by omega), if_neg (by omega), if_neg (by omega), if_neg (by omega), if_neg (by omega), if_neg (by omega), if_neg (by omega), if_neg (by omega), if_neg (by omega), if_neg (by omega)]), rfl⟩
  by_cases h_1_1 : x = 1
  · subst h_1_1
    refine ev_tableIn (off := 67) (tgt := 68) dX7_told_1 (by decide) (by decide) (by decide) rfl (by decide) ?_
    refine ev_aload_n dX7_told_68 rfl ?_
    refine ev_getQ (r := P) dX7_told_69 fl_X7_19 rfl rfl hpl ?_
    refine ev_getI (kz := 1) dX7_told_72 fl_X7_98 (plO hP) rfl rfl ?_
    refine ev_ireturn dX7_told_75 ?_
    exact ⟨by first | rfl | (unfold toldC; rw [if_neg (by omega), if_neg (by omega), if_neg (by omega), if_neg (by omega), if_neg (by omega), if_neg (by omega), if_neg (by omega), if_neg (by omega), if_neg (by omega), if_neg (by omega), if_neg (by omega)]), rfl⟩
  by_cases h_1_2 : x = 2
  · subst h_1_2
    refine ev_tableIn (off := 75) (tgt := 76) dX7_told_1 (by decide) (by decide) (by decide) rfl (by decide) ?_
    refine ev_aload_n dX7_told_76 rfl ?_
    refine ev_getQ (r := P) dX7_told_77 fl_X7_19 rfl rfl hpl ?_
    refine ev_getI (kz := 2) dX7_told_80 fl_X7_101 (plO hP) rfl rfl ?_
    refine ev_ireturn dX7_told_83 ?_
    exact ⟨by first | rfl | (unfold toldC; rw [if_neg (by omega), if_neg (by omega), if_neg (by omega), if_neg (by omega), if_neg (by omega), if_neg (by omega), if_neg (by omega), if_neg (by omega), if_neg (by omega), if_neg (by omega), if_neg (by omega)]), rfl⟩
  by_cases h_1_3 : x = 3
  · subst h_1_3
    refine ev_tableIn (off := 83) (tgt := 84) dX7_told_1 (by decide) (by decide) (by decide) rfl (by decide) ?_
    refine ev_aload_n dX7_told_84 rfl ?_
    refine ev_getQ (r := P) dX7_told_85 fl_X7_19 rfl rfl hpl ?_
    refine ev_getI (kz := 3) dX7_told_88 fl_X7_104 (plO hP) rfl rfl ?_
    refine ev_ireturn dX7_told_91 ?_
    exact ⟨by first | rfl | (unfold toldC; rw [if_neg (by omega), if_neg (by omega), if_neg (by omega), if_neg (by omega), if_neg (by omega), if_neg (by omega), if_neg (by omega), if_neg (by omega), if_neg (by omega), if_neg (by omega), if_neg (by omega)]), rfl⟩
  by_cases h_1_4 : x = 4
  · subst h_1_4
    refine ev_tableIn (off := 91) (tgt := 92) dX7_told_1 (by decide) (by decide) (by decide) rfl (by decide) ?_
    refine ev_aload_n dX7_told_92 rfl ?_
    refine ev_getR (r := 1) dX7_told_93 fl_X7_10 rfl rfl rfl ?_
    refine ev_getI (kz := 1) dX7_told_96 fl_X7_74 rfl rfl rfl ?_
    refine ev_ireturn dX7_told_99 ?_
    exact ⟨by first | rfl | (unfold toldC; rw [if_neg (by omega), if_neg (by omega), if_neg (by omega), if_neg (by omega), if_neg (by omega), if_neg (by omega), if_neg (by omega), if_neg (by omega), if_neg (by omega), if_neg (by omega), if_neg (by omega)]), rfl⟩
  by_cases h_1_5 : x = 5
  · subst h_1_5
    refine ev_tableIn (off := 99) (tgt := 100) dX7_told_1 (by decide) (by decide) (by decide) rfl (by decide) ?_
    refine ev_aload_n dX7_told_100 rfl ?_
    refine ev_getR (r := 37) dX7_told_101 fl_X7_29 rfl rfl rfl ?_
    refine ev_getI (kz := 0) dX7_told_104 fl_X7_107 rfl rfl rfl ?_
    refine ev_ireturn dX7_told_107 ?_
    exact ⟨by first | rfl | (unfold toldC; rw [if_neg (by omega), if_neg (by omega), if_neg (by omega), if_neg (by omega), if_neg (by omega), if_neg (by omega), if_neg (by omega), if_neg (by omega), if_neg (by omega), if_neg (by omega), if_neg (by omega)]), rfl⟩
  by_cases h_1_6 : x = 6
  · subst h_1_6
    refine ev_tableIn (off := 107) (tgt := 108) dX7_told_1 (by decide) (by decide) (by decide) rfl (by decide) ?_
    refine ev_aload_n dX7_told_108 rfl ?_
    refine ev_getR (r := 37) dX7_told_109 fl_X7_29 rfl rfl rfl ?_
    refine ev_getI (kz := 1) dX7_told_112 fl_X7_110 rfl rfl rfl ?_
    refine ev_ireturn dX7_told_115 ?_
    exact ⟨by first | rfl | (unfold toldC; rw [if_neg (by omega), if_neg (by omega), if_neg (by omega), if_neg (by omega), if_neg (by omega), if_neg (by omega), if_neg (by omega), if_neg (by omega), if_neg (by omega), if_neg (by omega), if_neg (by omega)]), rfl⟩
  by_cases h_1_7 : x = 7
  · subst h_1_7
    refine ev_tableIn (off := 115) (tgt := 116) dX7_told_1 (by decide) (by decide) (by decide) rfl (by decide) ?_
    refine ev_aload_n dX7_told_116 rfl ?_
    refine ev_getR (r := 37) dX7_told_117 fl_X7_29 rfl rfl rfl ?_
    refine ev_getI (kz := 5) dX7_told_120 fl_X7_113 rfl rfl rfl ?_
    refine ev_ireturn dX7_told_123 ?_
    exact ⟨by first | rfl | (unfold toldC; rw [if_neg (by omega), if_neg (by omega), if_neg (by omega), if_neg (by omega), if_neg (by omega), if_neg (by omega), if_neg (by omega), if_neg (by omega), if_neg (by omega), if_neg (by omega), if_neg (by omega)]), rfl⟩
  by_cases h_1_8 : x = 8
  · subst h_1_8
    refine ev_tableIn (off := 123) (tgt := 124) dX7_told_1 (by decide) (by decide) (by decide) rfl (by decide) ?_
    refine ev_aload_n dX7_told_124 rfl ?_
    refine ev_getR (r := 37) dX7_told_125 fl_X7_29 rfl rfl rfl ?_
    refine ev_getI (kz := 6) dX7_told_128 fl_X7_116 rfl rfl rfl ?_
    refine ev_ireturn dX7_told_131 ?_
    exact ⟨by first | rfl | (unfold toldC; rw [if_neg (by omega), if_neg (by omega), if_neg (by omega), if_neg (by omega), if_neg (by omega), if_neg (by omega), if_neg (by omega), if_neg (by omega), if_neg (by omega), if_neg (by omega), if_neg (by omega)]), rfl⟩
  by_cases h_1_9 : x = 9
  · subst h_1_9
    refine ev_tableIn (off := 131) (tgt := 132) dX7_told_1 (by decide) (by decide) (by decide) rfl (by decide) ?_
    refine ev_aload_n dX7_told_132 rfl ?_
    refine ev_getR (r := 65) dX7_told_133 fl_X7_44 rfl rfl rfl ?_
    refine ev_getI (kz := 0) dX7_told_136 fl_X7_89 rfl rfl rfl ?_
    refine ev_ireturn dX7_told_139 ?_
    exact ⟨by first | rfl | (unfold toldC; rw [if_neg (by omega), if_neg (by omega), if_neg (by omega), if_neg (by omega), if_neg (by omega), if_neg (by omega), if_neg (by omega), if_neg (by omega), if_neg (by omega), if_neg (by omega), if_neg (by omega)]), rfl⟩
  have h_1_10 : x = 10 := by omega
  subst h_1_10
  refine ev_tableIn (off := 139) (tgt := 140) dX7_told_1 (by decide) (by decide) (by decide) rfl (by decide) ?_
  refine ev_aload_n dX7_told_140 rfl ?_
  refine ev_getR (r := 37) dX7_told_141 fl_X7_29 rfl rfl rfl ?_
  refine ev_getI (kz := 3) dX7_told_144 fl_X7_119 rfl rfl rfl ?_
  refine ev_ireturn dX7_told_147 ?_
  exact ⟨by first | rfl | (unfold toldC; rw [if_neg (by omega), if_neg (by omega), if_neg (by omega), if_neg (by omega), if_neg (by omega), if_neg (by omega), if_neg (by omega), if_neg (by omega), if_neg (by omega), if_neg (by omega), if_neg (by omega)]), rfl⟩
def dvN (σ : Mem) : Nat := (σ.1 37 5).toNat
def poleC (σ : Mem) (P nb nl w wt : Nat) (p x : Int) : Int := if ¬ (0 ≤ p ∧ p < σ.1 P 0) then -1000000001 else if x = 0 then σ.1 (P + 1) p else if x = 1 then σ.1 (P + 2) p else if x = 2 then σ.1 (P + 3) p else if x = 3 then (bs (fun b => decide (σ.1 40 b = -1 ∧ σ.1 39 b = p)) nb : Nat) else if x = 4 then (bs (fun l => decide (σ.1 42 l = p)) nl : Nat) else -1000000002
theorem k_pole (σ : Mem) (P n nr nb nl w wt : Nat) (f t : Nat → Nat) (hPO : PlanOk σ P n nr nb nl f t) (hPI : PlIs σ P) (hBt : Bits σ w wt) (dv : Nat) (hdv : σ.1 37 5 = dv) (hdv2 : dv < 4096) (p x : Int) (hp : inR p) (hx : inR x) : Con yX7_pole cX7_pole 3 (some .int) 1 24 [.ref 0, .int (iI p), .int (iI x)] σ (AnsI (poleC σ P nb nl w wt p x) σ) := by
  refine con_of (by decide) rfl (Nat.le_of_ble_eq_true rfl) (ok_I rfl) ?_
  refine ev_w (fun hR => ?_)
  have hR0 := hR
  obtain ⟨hPR, ⟨hnb, hnb4⟩, ⟨hnl, hnl4⟩, hpo, hro, hbo, hlo⟩ := id hPO
  obtain ⟨hP, hn, hn8, hnr, hnr12, hft⟩ := id hPR
  obtain ⟨hw, hw2, hwt, hwt2⟩ := id hBt
  have hpl := hPI.q
  refine ev_aload_n dX7_pole_0 rfl ?_
  refine ev_iload_n dX7_pole_1 rfl ?_
  refine ev_callVI dX7_pole_2 kv_X7_122 (k_isPole σ p P hp hP hpl) rfl rfl (ci := 7) rfl rfl ⟨by decide, by decide⟩ (Nat.le_of_ble_eq_true rfl) ?_
  refine ev_w (fun hR => ?_)
  refine ev_if_ne (tgt := 11) dX7_pole_5 (by decide) (by first | exact hR.1 _ _ | exact hR0.1 _ _ | assumption | exact ⟨by omega, by omega⟩ | exact ⟨by simp [wr_at]; omega, by simp [wr_at]; omega⟩ | exact b2_R _ | exact bC_R _ | exact band_R _ _ | exact bor_R _ _ | exact bshl_R _ _ | exact bshr_R _ _ | exact bxor_R _ _ | exact bs_R (by omega) | decide) (fun h_5 => ?_) (fun h_5 => ?_)
  · have q0 := b2_ne h_5
    refine ev_iload_n dX7_pole_11 rfl ?_
    by_cases h_12 : x < 0 ∨ 4 < x
    · refine ev_tableOut (tgt := 110) dX7_pole_12 (by first | exact hR.1 _ _ | exact hR0.1 _ _ | assumption | exact ⟨by omega, by omega⟩ | exact ⟨by simp [wr_at]; omega, by simp [wr_at]; omega⟩ | exact b2_R _ | exact bC_R _ | exact band_R _ _ | exact bor_R _ _ | exact bshl_R _ _ | exact bshr_R _ _ | exact bxor_R _ _ | exact bs_R (by omega) | decide) h_12 (by decide) ?_
      refine ev_ldc (z := -1000000002) dX7_pole_110 kc_X7_73 (by decide) ?_
      refine ev_ireturn dX7_pole_112 ?_
      first
        | (have q := b2_eq (by omega : b2 (0 ≤ p ∧ p < σ.1 P 0) = 0); exact ⟨by rw [poleC, if_pos q], rfl⟩)
        | (have q := b2_ne h_5
           refine ⟨?_, rfl⟩
           rw [poleC, if_neg (fun z => z q)]
           first
             | rfl
             | (rw [if_neg (by omega), if_neg (by omega), if_neg (by omega), if_neg (by omega), if_neg (by omega)])
             | (rw [show dvN σ = dv by unfold dvN; omega] <;> rfl)
             | (have z := b2_ne h_5; simp [z])
             | (have z := b2_eq h_5; simp at z; simp [z]))
    by_cases h_12_0 : x = 0
    · subst h_12_0
      refine ev_tableIn (off := 36) (tgt := 48) dX7_pole_12 (by decide) (by decide) (by decide) rfl (by decide) ?_
      refine ev_aload_n dX7_pole_48 rfl ?_
      refine ev_getQ (r := P) dX7_pole_49 fl_X7_19 rfl rfl hpl ?_
      refine ev_getR (r := P + 1) dX7_pole_52 fl_X7_127 (plO hP) rfl rfl ?_
      refine ev_iload_n dX7_pole_55 rfl ?_
      refine ev_iaload dX7_pole_56 (plA1 hP) (by first | omega | (simp [wr_at]; omega) | (simp [wr_at, *]; omega)) (by first | omega | (simp [wr_at]; omega) | (simp [wr_at, *]; omega)) (by decide) ?_
      refine ev_ireturn dX7_pole_57 ?_
      first
        | (have q := b2_eq (by omega : b2 (0 ≤ p ∧ p < σ.1 P 0) = 0); exact ⟨by rw [poleC, if_pos q], rfl⟩)
        | (have q := b2_ne h_5
           refine ⟨?_, rfl⟩
           rw [poleC, if_neg (fun z => z q)]
           first
             | rfl
             | (rw [if_neg (by omega), if_neg (by omega), if_neg (by omega), if_neg (by omega), if_neg (by omega)])
             | (rw [show dvN σ = dv by unfold dvN; omega] <;> rfl)
             | (have z := b2_ne h_5; simp [z])
             | (have z := b2_eq h_5; simp at z; simp [z]))
    by_cases h_12_1 : x = 1
    · subst h_12_1
      refine ev_tableIn (off := 46) (tgt := 58) dX7_pole_12 (by decide) (by decide) (by decide) rfl (by decide) ?_
      refine ev_aload_n dX7_pole_58 rfl ?_
      refine ev_getQ (r := P) dX7_pole_59 fl_X7_19 rfl rfl hpl ?_
      refine ev_getR (r := P + 2) dX7_pole_62 fl_X7_131 (plO hP) rfl rfl ?_
      refine ev_iload_n dX7_pole_65 rfl ?_
      refine ev_iaload dX7_pole_66 (plA2 hP) (by first | omega | (simp [wr_at]; omega) | (simp [wr_at, *]; omega)) (by first | omega | (simp [wr_at]; omega) | (simp [wr_at, *]; omega)) (by decide) ?_
      refine ev_ireturn dX7_pole_67 ?_
      first
        | (have q := b2_eq (by omega : b2 (0 ≤ p ∧ p < σ.1 P 0) = 0); exact ⟨by rw [poleC, if_pos q], rfl⟩)
        | (have q := b2_ne h_5
           refine ⟨?_, rfl⟩
           rw [poleC, if_neg (fun z => z q)]
           first
             | rfl
             | (rw [if_neg (by omega), if_neg (by omega), if_neg (by omega), if_neg (by omega), if_neg (by omega)])
             | (rw [show dvN σ = dv by unfold dvN; omega] <;> rfl)
             | (have z := b2_ne h_5; simp [z])
             | (have z := b2_eq h_5; simp at z; simp [z]))
    by_cases h_12_2 : x = 2
    · subst h_12_2
      refine ev_tableIn (off := 56) (tgt := 68) dX7_pole_12 (by decide) (by decide) (by decide) rfl (by decide) ?_
      refine ev_aload_n dX7_pole_68 rfl ?_
      refine ev_getQ (r := P) dX7_pole_69 fl_X7_19 rfl rfl hpl ?_
      refine ev_getR (r := P + 3) dX7_pole_72 fl_X7_134 (plO hP) rfl rfl ?_
      refine ev_iload_n dX7_pole_75 rfl ?_
      refine ev_iaload dX7_pole_76 (plA3 hP) (by first | omega | (simp [wr_at]; omega) | (simp [wr_at, *]; omega)) (by first | omega | (simp [wr_at]; omega) | (simp [wr_at, *]; omega)) (by decide) ?_
      refine ev_ireturn dX7_pole_77 ?_
      first
        | (have q := b2_eq (by omega : b2 (0 ≤ p ∧ p < σ.1 P 0) = 0); exact ⟨by rw [poleC, if_pos q], rfl⟩)
        | (have q := b2_ne h_5
           refine ⟨?_, rfl⟩
           rw [poleC, if_neg (fun z => z q)]
           first
             | rfl
             | (rw [if_neg (by omega), if_neg (by omega), if_neg (by omega), if_neg (by omega), if_neg (by omega)])
             | (rw [show dvN σ = dv by unfold dvN; omega] <;> rfl)
             | (have z := b2_ne h_5; simp [z])
             | (have z := b2_eq h_5; simp at z; simp [z]))
    by_cases h_12_3 : x = 3
    · subst h_12_3
      refine ev_tableIn (off := 66) (tgt := 78) dX7_pole_12 (by decide) (by decide) (by decide) rfl (by decide) ?_
      refine ev_aload_n dX7_pole_78 rfl ?_
      refine ev_getR (r := 37) dX7_pole_79 fl_X7_29 rfl rfl rfl ?_
      refine ev_iload_n dX7_pole_82 rfl ?_
      refine ev_aload_n dX7_pole_83 rfl ?_
      refine ev_getQ (r := P) dX7_pole_84 fl_X7_19 rfl rfl hpl ?_
      refine ev_getI (kz := 2) dX7_pole_87 fl_X7_101 (plO hP) rfl rfl ?_
      rw [hnb]
      refine ev_callVI dX7_pole_90 kv_X7_137 (k_boysAt σ p nb hp hnb4) rfl rfl (ci := 5) rfl rfl ⟨by decide, by decide⟩ (Nat.le_of_ble_eq_true rfl) ?_
      refine ev_w (fun hR => ?_)
      refine ev_ireturn dX7_pole_93 ?_
      first
        | (have q := b2_eq (by omega : b2 (0 ≤ p ∧ p < σ.1 P 0) = 0); exact ⟨by rw [poleC, if_pos q], rfl⟩)
        | (have q := b2_ne h_5
           refine ⟨?_, rfl⟩
           rw [poleC, if_neg (fun z => z q)]
           first
             | rfl
             | (rw [if_neg (by omega), if_neg (by omega), if_neg (by omega), if_neg (by omega), if_neg (by omega)])
             | (rw [show dvN σ = dv by unfold dvN; omega] <;> rfl)
             | (have z := b2_ne h_5; simp [z])
             | (have z := b2_eq h_5; simp at z; simp [z]))
    have h_12_4 : x = 4 := by omega
    subst h_12_4
    refine ev_tableIn (off := 82) (tgt := 94) dX7_pole_12 (by decide) (by decide) (by decide) rfl (by decide) ?_
    refine ev_aload_n dX7_pole_94 rfl ?_
    refine ev_getR (r := 37) dX7_pole_95 fl_X7_29 rfl rfl rfl ?_
    refine ev_iload_n dX7_pole_98 rfl ?_
    refine ev_aload_n dX7_pole_99 rfl ?_
    refine ev_getQ (r := P) dX7_pole_100 fl_X7_19 rfl rfl hpl ?_
    refine ev_getI (kz := 3) dX7_pole_103 fl_X7_104 (plO hP) rfl rfl ?_
    rw [hnl]
    refine ev_callVI dX7_pole_106 kv_X7_141 (k_loadsAt σ p nl hp hnl4) rfl rfl (ci := 5) rfl rfl ⟨by decide, by decide⟩ (Nat.le_of_ble_eq_true rfl) ?_
    refine ev_w (fun hR => ?_)
    refine ev_ireturn dX7_pole_109 ?_
    first
      | (have q := b2_eq (by omega : b2 (0 ≤ p ∧ p < σ.1 P 0) = 0); exact ⟨by rw [poleC, if_pos q], rfl⟩)
      | (have q := b2_ne h_5
         refine ⟨?_, rfl⟩
         rw [poleC, if_neg (fun z => z q)]
         first
           | rfl
           | (rw [if_neg (by omega), if_neg (by omega), if_neg (by omega), if_neg (by omega), if_neg (by omega)])
           | (rw [show dvN σ = dv by unfold dvN; omega] <;> rfl)
           | (have z := b2_ne h_5; simp [z])
           | (have z := b2_eq h_5; simp at z; simp [z]))
  · refine ev_ldc (z := -1000000001) dX7_pole_8 kc_X7_126 (by decide) ?_
    refine ev_ireturn dX7_pole_10 ?_
    first
      | (have q := b2_eq (by omega : b2 (0 ≤ p ∧ p < σ.1 P 0) = 0); exact ⟨by rw [poleC, if_pos q], rfl⟩)
      | (have q := b2_ne h_5
         refine ⟨?_, rfl⟩
         rw [poleC, if_neg (fun z => z q)]
         first
           | rfl
           | (rw [if_neg (by omega), if_neg (by omega), if_neg (by omega), if_neg (by omega), if_neg (by omega)])
           | (rw [show dvN σ = dv by unfold dvN; omega] <;> rfl)
           | (have z := b2_ne h_5; simp [z])
           | (have z := b2_eq h_5; simp at z; simp [z]))
def ropeC (σ : Mem) (P nb nl w wt : Nat) (p x : Int) : Int := if ¬ (0 ≤ p ∧ p < σ.1 P 1) then -1000000001 else if x = 0 then σ.1 (P + 5) p else if x = 1 then σ.1 (P + 6) p else if x = 2 then σ.1 (P + 7) p else if x = 3 then σ.1 (P + 8) p else if x = 4 then σ.1 38 p else if x = 5 then b2 (wt.testBit p.toNat = true) else if x = 6 then b2 (w.testBit p.toNat = true) else if x = 7 then fstI (fun b => σ.1 40 b) p nb else -1000000002
theorem k_rope (σ : Mem) (P n nr nb nl w wt : Nat) (f t : Nat → Nat) (hPO : PlanOk σ P n nr nb nl f t) (hPI : PlIs σ P) (hBt : Bits σ w wt) (dv : Nat) (hdv : σ.1 37 5 = dv) (hdv2 : dv < 4096) (p x : Int) (hp : inR p) (hx : inR x) : Con yX7_rope cX7_rope 3 (some .int) 1 23 [.ref 0, .int (iI p), .int (iI x)] σ (AnsI (ropeC σ P nb nl w wt p x) σ) := by
  refine con_of (by decide) rfl (Nat.le_of_ble_eq_true rfl) (ok_I rfl) ?_
  refine ev_w (fun hR => ?_)
  have hR0 := hR
  obtain ⟨hPR, ⟨hnb, hnb4⟩, ⟨hnl, hnl4⟩, hpo, hro, hbo, hlo⟩ := id hPO
  obtain ⟨hP, hn, hn8, hnr, hnr12, hft⟩ := id hPR
  obtain ⟨hw, hw2, hwt, hwt2⟩ := id hBt
  have hpl := hPI.q
  refine ev_aload_n dX7_rope_0 rfl ?_
  refine ev_iload_n dX7_rope_1 rfl ?_
  refine ev_callVI dX7_rope_2 kv_X7_144 (k_isRope σ p P hp hP hpl) rfl rfl (ci := 7) rfl rfl ⟨by decide, by decide⟩ (Nat.le_of_ble_eq_true rfl) ?_
  refine ev_w (fun hR => ?_)
  refine ev_if_ne (tgt := 11) dX7_rope_5 (by decide) (by first | exact hR.1 _ _ | exact hR0.1 _ _ | assumption | exact ⟨by omega, by omega⟩ | exact ⟨by simp [wr_at]; omega, by simp [wr_at]; omega⟩ | exact b2_R _ | exact bC_R _ | exact band_R _ _ | exact bor_R _ _ | exact bshl_R _ _ | exact bshr_R _ _ | exact bxor_R _ _ | exact bs_R (by omega) | decide) (fun h_5 => ?_) (fun h_5 => ?_)
  · have q0 := b2_ne h_5
    refine ev_iload_n dX7_rope_11 rfl ?_
    by_cases h_12 : x < 0 ∨ 7 < x
    · refine ev_tableOut (tgt := 150) dX7_rope_12 (by first | exact hR.1 _ _ | exact hR0.1 _ _ | assumption | exact ⟨by omega, by omega⟩ | exact ⟨by simp [wr_at]; omega, by simp [wr_at]; omega⟩ | exact b2_R _ | exact bC_R _ | exact band_R _ _ | exact bor_R _ _ | exact bshl_R _ _ | exact bshr_R _ _ | exact bxor_R _ _ | exact bs_R (by omega) | decide) h_12 (by decide) ?_
      refine ev_ldc (z := -1000000002) dX7_rope_150 kc_X7_73 (by decide) ?_
      refine ev_ireturn dX7_rope_152 ?_
      first
        | (have q := b2_eq (by omega : b2 (0 ≤ p ∧ p < σ.1 P 1) = 0); exact ⟨by rw [ropeC, if_pos q], rfl⟩)
        | (have q := b2_ne h_5
           refine ⟨?_, rfl⟩
           rw [ropeC, if_neg (fun z => z q)]
           first
             | rfl
             | (rw [if_neg (by omega), if_neg (by omega), if_neg (by omega), if_neg (by omega), if_neg (by omega), if_neg (by omega), if_neg (by omega), if_neg (by omega)])
             | (rw [show dvN σ = dv by unfold dvN; omega] <;> rfl)
             | (have z := b2_ne h_5; simp [z])
             | (have z := b2_eq h_5; simp at z; simp [z]))
    by_cases h_12_0 : x = 0
    · subst h_12_0
      refine ev_tableIn (off := 48) (tgt := 60) dX7_rope_12 (by decide) (by decide) (by decide) rfl (by decide) ?_
      refine ev_aload_n dX7_rope_60 rfl ?_
      refine ev_getQ (r := P) dX7_rope_61 fl_X7_19 rfl rfl hpl ?_
      refine ev_getR (r := P + 5) dX7_rope_64 fl_X7_147 (plO hP) rfl rfl ?_
      refine ev_iload_n dX7_rope_67 rfl ?_
      refine ev_iaload dX7_rope_68 (plA5 hP) (by first | omega | (simp [wr_at]; omega) | (simp [wr_at, *]; omega)) (by first | omega | (simp [wr_at]; omega) | (simp [wr_at, *]; omega)) (by decide) ?_
      refine ev_ireturn dX7_rope_69 ?_
      first
        | (have q := b2_eq (by omega : b2 (0 ≤ p ∧ p < σ.1 P 1) = 0); exact ⟨by rw [ropeC, if_pos q], rfl⟩)
        | (have q := b2_ne h_5
           refine ⟨?_, rfl⟩
           rw [ropeC, if_neg (fun z => z q)]
           first
             | rfl
             | (rw [if_neg (by omega), if_neg (by omega), if_neg (by omega), if_neg (by omega), if_neg (by omega), if_neg (by omega), if_neg (by omega), if_neg (by omega)])
             | (rw [show dvN σ = dv by unfold dvN; omega] <;> rfl)
             | (have z := b2_ne h_5; simp [z])
             | (have z := b2_eq h_5; simp at z; simp [z]))
    by_cases h_12_1 : x = 1
    · subst h_12_1
      refine ev_tableIn (off := 58) (tgt := 70) dX7_rope_12 (by decide) (by decide) (by decide) rfl (by decide) ?_
      refine ev_aload_n dX7_rope_70 rfl ?_
      refine ev_getQ (r := P) dX7_rope_71 fl_X7_19 rfl rfl hpl ?_
      refine ev_getR (r := P + 6) dX7_rope_74 fl_X7_150 (plO hP) rfl rfl ?_
      refine ev_iload_n dX7_rope_77 rfl ?_
      refine ev_iaload dX7_rope_78 (plA6 hP) (by first | omega | (simp [wr_at]; omega) | (simp [wr_at, *]; omega)) (by first | omega | (simp [wr_at]; omega) | (simp [wr_at, *]; omega)) (by decide) ?_
      refine ev_ireturn dX7_rope_79 ?_
      first
        | (have q := b2_eq (by omega : b2 (0 ≤ p ∧ p < σ.1 P 1) = 0); exact ⟨by rw [ropeC, if_pos q], rfl⟩)
        | (have q := b2_ne h_5
           refine ⟨?_, rfl⟩
           rw [ropeC, if_neg (fun z => z q)]
           first
             | rfl
             | (rw [if_neg (by omega), if_neg (by omega), if_neg (by omega), if_neg (by omega), if_neg (by omega), if_neg (by omega), if_neg (by omega), if_neg (by omega)])
             | (rw [show dvN σ = dv by unfold dvN; omega] <;> rfl)
             | (have z := b2_ne h_5; simp [z])
             | (have z := b2_eq h_5; simp at z; simp [z]))
    by_cases h_12_2 : x = 2
    · subst h_12_2
      refine ev_tableIn (off := 68) (tgt := 80) dX7_rope_12 (by decide) (by decide) (by decide) rfl (by decide) ?_
      refine ev_aload_n dX7_rope_80 rfl ?_
      refine ev_getQ (r := P) dX7_rope_81 fl_X7_19 rfl rfl hpl ?_
      refine ev_getR (r := P + 7) dX7_rope_84 fl_X7_153 (plO hP) rfl rfl ?_
      refine ev_iload_n dX7_rope_87 rfl ?_
      refine ev_iaload dX7_rope_88 (plA7 hP) (by first | omega | (simp [wr_at]; omega) | (simp [wr_at, *]; omega)) (by first | omega | (simp [wr_at]; omega) | (simp [wr_at, *]; omega)) (by decide) ?_
      refine ev_ireturn dX7_rope_89 ?_
      first
        | (have q := b2_eq (by omega : b2 (0 ≤ p ∧ p < σ.1 P 1) = 0); exact ⟨by rw [ropeC, if_pos q], rfl⟩)
        | (have q := b2_ne h_5
           refine ⟨?_, rfl⟩
           rw [ropeC, if_neg (fun z => z q)]
           first
             | rfl
             | (rw [if_neg (by omega), if_neg (by omega), if_neg (by omega), if_neg (by omega), if_neg (by omega), if_neg (by omega), if_neg (by omega), if_neg (by omega)])
             | (rw [show dvN σ = dv by unfold dvN; omega] <;> rfl)
             | (have z := b2_ne h_5; simp [z])
             | (have z := b2_eq h_5; simp at z; simp [z]))
    by_cases h_12_3 : x = 3
    · subst h_12_3
      refine ev_tableIn (off := 78) (tgt := 90) dX7_rope_12 (by decide) (by decide) (by decide) rfl (by decide) ?_
      refine ev_aload_n dX7_rope_90 rfl ?_
      refine ev_getQ (r := P) dX7_rope_91 fl_X7_19 rfl rfl hpl ?_
      refine ev_getR (r := P + 8) dX7_rope_94 fl_X7_156 (plO hP) rfl rfl ?_
      refine ev_iload_n dX7_rope_97 rfl ?_
      refine ev_iaload dX7_rope_98 (plA8 hP) (by first | omega | (simp [wr_at]; omega) | (simp [wr_at, *]; omega)) (by first | omega | (simp [wr_at]; omega) | (simp [wr_at, *]; omega)) (by decide) ?_
      refine ev_ireturn dX7_rope_99 ?_
      first
        | (have q := b2_eq (by omega : b2 (0 ≤ p ∧ p < σ.1 P 1) = 0); exact ⟨by rw [ropeC, if_pos q], rfl⟩)
        | (have q := b2_ne h_5
           refine ⟨?_, rfl⟩
           rw [ropeC, if_neg (fun z => z q)]
           first
             | rfl
             | (rw [if_neg (by omega), if_neg (by omega), if_neg (by omega), if_neg (by omega), if_neg (by omega), if_neg (by omega), if_neg (by omega), if_neg (by omega)])
             | (rw [show dvN σ = dv by unfold dvN; omega] <;> rfl)
             | (have z := b2_ne h_5; simp [z])
             | (have z := b2_eq h_5; simp at z; simp [z]))
    by_cases h_12_4 : x = 4
    · subst h_12_4
      refine ev_tableIn (off := 88) (tgt := 100) dX7_rope_12 (by decide) (by decide) (by decide) rfl (by decide) ?_
      refine ev_aload_n dX7_rope_100 rfl ?_
      refine ev_getR (r := 37) dX7_rope_101 fl_X7_29 rfl rfl rfl ?_
      refine ev_getR (r := 38) dX7_rope_104 fl_X7_159 rfl rfl rfl ?_
      refine ev_iload_n dX7_rope_107 rfl ?_
      refine ev_iaload dX7_rope_108 rfl (by first | omega | (simp [wr_at]; omega) | (simp [wr_at, *]; omega)) (by first | omega | (simp [wr_at]; omega) | (simp [wr_at, *]; omega)) (by decide) ?_
      refine ev_ireturn dX7_rope_109 ?_
      first
        | (have q := b2_eq (by omega : b2 (0 ≤ p ∧ p < σ.1 P 1) = 0); exact ⟨by rw [ropeC, if_pos q], rfl⟩)
        | (have q := b2_ne h_5
           refine ⟨?_, rfl⟩
           rw [ropeC, if_neg (fun z => z q)]
           first
             | rfl
             | (rw [if_neg (by omega), if_neg (by omega), if_neg (by omega), if_neg (by omega), if_neg (by omega), if_neg (by omega), if_neg (by omega), if_neg (by omega)])
             | (rw [show dvN σ = dv by unfold dvN; omega] <;> rfl)
             | (have z := b2_ne h_5; simp [z])
             | (have z := b2_eq h_5; simp at z; simp [z]))
    by_cases h_12_5 : x = 5
    · subst h_12_5
      refine ev_tableIn (off := 98) (tgt := 110) dX7_rope_12 (by decide) (by decide) (by decide) rfl (by decide) ?_
      refine ev_aload_n dX7_rope_110 rfl ?_
      refine ev_getR (r := 37) dX7_rope_111 fl_X7_29 rfl rfl rfl ?_
      refine ev_getI (kz := 4) dX7_rope_114 fl_X7_162 rfl rfl rfl ?_
      refine ev_iload_n dX7_rope_117 rfl ?_
      rw [hwt]
      have ep : p = ((p.toNat : Nat) : Int) := by omega
      refine ev_st (show _ = [Value.int (iI ((p.toNat : Nat) : Int)), Value.int (iI wt)] by rw [← ep]) ?_
      refine ev_callSI dX7_rope_118 ks_X7_165 (k_bit σ wt p.toNat (by omega) (by omega)) rfl rfl ⟨by decide, by decide⟩ (Nat.le_of_ble_eq_true rfl) ?_
      refine ev_w (fun hR => ?_)
      refine ev_ireturn dX7_rope_121 ?_
      first
        | (have q := b2_eq (by omega : b2 (0 ≤ p ∧ p < σ.1 P 1) = 0); exact ⟨by rw [ropeC, if_pos q], rfl⟩)
        | (have q := b2_ne h_5
           refine ⟨?_, rfl⟩
           rw [ropeC, if_neg (fun z => z q)]
           first
             | rfl
             | (rw [if_neg (by omega), if_neg (by omega), if_neg (by omega), if_neg (by omega), if_neg (by omega), if_neg (by omega), if_neg (by omega), if_neg (by omega)])
             | (rw [show dvN σ = dv by unfold dvN; omega] <;> rfl)
             | (have z := b2_ne h_5; simp [z])
             | (have z := b2_eq h_5; simp at z; simp [z]))
    by_cases h_12_6 : x = 6
    · subst h_12_6
      refine ev_tableIn (off := 110) (tgt := 122) dX7_rope_12 (by decide) (by decide) (by decide) rfl (by decide) ?_
      refine ev_aload_n dX7_rope_122 rfl ?_
      refine ev_getR (r := 37) dX7_rope_123 fl_X7_29 rfl rfl rfl ?_
      refine ev_getI (kz := 3) dX7_rope_126 fl_X7_119 rfl rfl rfl ?_
      refine ev_iload_n dX7_rope_129 rfl ?_
      rw [hw]
      have ep : p = ((p.toNat : Nat) : Int) := by omega
      refine ev_st (show _ = [Value.int (iI ((p.toNat : Nat) : Int)), Value.int (iI w)] by rw [← ep]) ?_
      refine ev_callSI dX7_rope_130 ks_X7_165 (k_bit σ w p.toNat (by omega) (by omega)) rfl rfl ⟨by decide, by decide⟩ (Nat.le_of_ble_eq_true rfl) ?_
      refine ev_w (fun hR => ?_)
      refine ev_ireturn dX7_rope_133 ?_
      first
        | (have q := b2_eq (by omega : b2 (0 ≤ p ∧ p < σ.1 P 1) = 0); exact ⟨by rw [ropeC, if_pos q], rfl⟩)
        | (have q := b2_ne h_5
           refine ⟨?_, rfl⟩
           rw [ropeC, if_neg (fun z => z q)]
           first
             | rfl
             | (rw [if_neg (by omega), if_neg (by omega), if_neg (by omega), if_neg (by omega), if_neg (by omega), if_neg (by omega), if_neg (by omega), if_neg (by omega)])
             | (rw [show dvN σ = dv by unfold dvN; omega] <;> rfl)
             | (have z := b2_ne h_5; simp [z])
             | (have z := b2_eq h_5; simp at z; simp [z]))
    have h_12_7 : x = 7 := by omega
    subst h_12_7
    refine ev_tableIn (off := 122) (tgt := 134) dX7_rope_12 (by decide) (by decide) (by decide) rfl (by decide) ?_
    refine ev_aload_n dX7_rope_134 rfl ?_
    refine ev_getR (r := 37) dX7_rope_135 fl_X7_29 rfl rfl rfl ?_
    refine ev_iload_n dX7_rope_138 rfl ?_
    refine ev_aload_n dX7_rope_139 rfl ?_
    refine ev_getQ (r := P) dX7_rope_140 fl_X7_19 rfl rfl hpl ?_
    refine ev_getI (kz := 2) dX7_rope_143 fl_X7_101 (plO hP) rfl rfl ?_
    rw [hnb]
    refine ev_callVI dX7_rope_146 kv_X7_168 (k_boyOn σ p nb hp hnb4) rfl rfl (ci := 5) rfl rfl ⟨by decide, by decide⟩ (Nat.le_of_ble_eq_true rfl) ?_
    refine ev_w (fun hR => ?_)
    refine ev_ireturn dX7_rope_149 ?_
    first
      | (have q := b2_eq (by omega : b2 (0 ≤ p ∧ p < σ.1 P 1) = 0); exact ⟨by rw [ropeC, if_pos q], rfl⟩)
      | (have q := b2_ne h_5
         refine ⟨?_, rfl⟩
         rw [ropeC, if_neg (fun z => z q)]
         first
           | rfl
           | (rw [if_neg (by omega), if_neg (by omega), if_neg (by omega), if_neg (by omega), if_neg (by omega), if_neg (by omega), if_neg (by omega), if_neg (by omega)])
           | (rw [show dvN σ = dv by unfold dvN; omega] <;> rfl)
           | (have z := b2_ne h_5; simp [z])
           | (have z := b2_eq h_5; simp at z; simp [z]))
  · refine ev_ldc (z := -1000000001) dX7_rope_8 kc_X7_126 (by decide) ?_
    refine ev_ireturn dX7_rope_10 ?_
    first
      | (have q := b2_eq (by omega : b2 (0 ≤ p ∧ p < σ.1 P 1) = 0); exact ⟨by rw [ropeC, if_pos q], rfl⟩)
      | (have q := b2_ne h_5
         refine ⟨?_, rfl⟩
         rw [ropeC, if_neg (fun z => z q)]
         first
           | rfl
           | (rw [if_neg (by omega), if_neg (by omega), if_neg (by omega), if_neg (by omega), if_neg (by omega), if_neg (by omega), if_neg (by omega), if_neg (by omega)])
           | (rw [show dvN σ = dv by unfold dvN; omega] <;> rfl)
           | (have z := b2_ne h_5; simp [z])
           | (have z := b2_eq h_5; simp at z; simp [z]))
def boyC (σ : Mem) (P nb nl w wt : Nat) (p x : Int) : Int := if ¬ (0 ≤ p ∧ p < σ.1 P 2) then -1000000001 else if x = 0 then (if σ.1 40 p = -1 then σ.1 39 p else -1) else if x = 1 then σ.1 40 p else if x = 2 then σ.1 41 p else if x = 3 then σ.1 (P + 10) p else if x = 4 then σ.1 (P + 11) p else if x = 5 then (bs (fun l => decide (σ.1 43 l = p)) nl : Nat) else -1000000002
theorem k_boy (σ : Mem) (P n nr nb nl w wt : Nat) (f t : Nat → Nat) (hPO : PlanOk σ P n nr nb nl f t) (hPI : PlIs σ P) (hBt : Bits σ w wt) (dv : Nat) (hdv : σ.1 37 5 = dv) (hdv2 : dv < 4096) (p x : Int) (hp : inR p) (hx : inR x) : Con yX7_boy cX7_boy 3 (some .int) 1 24 [.ref 0, .int (iI p), .int (iI x)] σ (AnsI (boyC σ P nb nl w wt p x) σ) := by
  refine con_of (by decide) rfl (Nat.le_of_ble_eq_true rfl) (ok_I rfl) ?_
  refine ev_w (fun hR => ?_)
  have hR0 := hR
  obtain ⟨hPR, ⟨hnb, hnb4⟩, ⟨hnl, hnl4⟩, hpo, hro, hbo, hlo⟩ := id hPO
  obtain ⟨hP, hn, hn8, hnr, hnr12, hft⟩ := id hPR
  obtain ⟨hw, hw2, hwt, hwt2⟩ := id hBt
  have hpl := hPI.q
  refine ev_aload_n dX7_boy_0 rfl ?_
  refine ev_iload_n dX7_boy_1 rfl ?_
  refine ev_callVI dX7_boy_2 kv_X7_171 (k_isBoy σ p P hp hP hpl) rfl rfl (ci := 7) rfl rfl ⟨by decide, by decide⟩ (Nat.le_of_ble_eq_true rfl) ?_
  refine ev_w (fun hR => ?_)
  refine ev_if_ne (tgt := 11) dX7_boy_5 (by decide) (by first | exact hR.1 _ _ | exact hR0.1 _ _ | assumption | exact ⟨by omega, by omega⟩ | exact ⟨by simp [wr_at]; omega, by simp [wr_at]; omega⟩ | exact b2_R _ | exact bC_R _ | exact band_R _ _ | exact bor_R _ _ | exact bshl_R _ _ | exact bshr_R _ _ | exact bxor_R _ _ | exact bs_R (by omega) | decide) (fun h_5 => ?_) (fun h_5 => ?_)
  · have q0 := b2_ne h_5
    refine ev_iload_n dX7_boy_11 rfl ?_
    by_cases h_12 : x < 0 ∨ 5 < x
    · refine ev_tableOut (tgt := 133) dX7_boy_12 (by first | exact hR.1 _ _ | exact hR0.1 _ _ | assumption | exact ⟨by omega, by omega⟩ | exact ⟨by simp [wr_at]; omega, by simp [wr_at]; omega⟩ | exact b2_R _ | exact bC_R _ | exact band_R _ _ | exact bor_R _ _ | exact bshl_R _ _ | exact bshr_R _ _ | exact bxor_R _ _ | exact bs_R (by omega) | decide) h_12 (by decide) ?_
      refine ev_ldc (z := -1000000002) dX7_boy_133 kc_X7_73 (by decide) ?_
      refine ev_ireturn dX7_boy_135 ?_
      first
        | (have q := b2_eq (by omega : b2 (0 ≤ p ∧ p < σ.1 P 2) = 0); exact ⟨by rw [boyC, if_pos q], rfl⟩)
        | (have q := b2_ne h_5
           refine ⟨?_, rfl⟩
           rw [boyC, if_neg (fun z => z q)]
           first
             | rfl
             | (rw [if_neg (by omega), if_neg (by omega), if_neg (by omega), if_neg (by omega), if_neg (by omega), if_neg (by omega)])
             | (rw [show dvN σ = dv by unfold dvN; omega] <;> rfl)
             | (have z := b2_ne h_60; simp [z])
             | (have z := b2_eq h_60; simp at z; simp [z]))
    by_cases h_12_0 : x = 0
    · subst h_12_0
      refine ev_tableIn (off := 40) (tgt := 52) dX7_boy_12 (by decide) (by decide) (by decide) rfl (by decide) ?_
      refine ev_aload_n dX7_boy_52 rfl ?_
      refine ev_getR (r := 37) dX7_boy_53 fl_X7_29 rfl rfl rfl ?_
      refine ev_iload_n dX7_boy_56 rfl ?_
      refine ev_callVI dX7_boy_57 kv_X7_174 (k_isOnRope σ p (by omega) (by omega)) rfl rfl (ci := 5) rfl rfl ⟨by decide, by decide⟩ (Nat.le_of_ble_eq_true rfl) ?_
      refine ev_w (fun hR => ?_)
      refine ev_if_eq (tgt := 67) dX7_boy_60 (by decide) (by first | exact hR.1 _ _ | exact hR0.1 _ _ | assumption | exact ⟨by omega, by omega⟩ | exact ⟨by simp [wr_at]; omega, by simp [wr_at]; omega⟩ | exact b2_R _ | exact bC_R _ | exact band_R _ _ | exact bor_R _ _ | exact bshl_R _ _ | exact bshr_R _ _ | exact bxor_R _ _ | exact bs_R (by omega) | decide) (fun h_60 => ?_) (fun h_60 => ?_)
      · refine ev_aload_n dX7_boy_67 rfl ?_
        refine ev_getR (r := 37) dX7_boy_68 fl_X7_29 rfl rfl rfl ?_
        refine ev_getR (r := 39) dX7_boy_71 fl_X7_177 rfl rfl rfl ?_
        refine ev_iload_n dX7_boy_74 rfl ?_
        refine ev_iaload dX7_boy_75 rfl (by first | omega | (simp [wr_at]; omega) | (simp [wr_at, *]; omega)) (by first | omega | (simp [wr_at]; omega) | (simp [wr_at, *]; omega)) (by decide) ?_
        refine ev_ireturn dX7_boy_76 ?_
        first
          | (have q := b2_eq (by omega : b2 (0 ≤ p ∧ p < σ.1 P 2) = 0); exact ⟨by rw [boyC, if_pos q], rfl⟩)
          | (have q := b2_ne h_5
             refine ⟨?_, rfl⟩
             rw [boyC, if_neg (fun z => z q)]
             first
               | rfl
               | (rw [if_neg (by omega), if_neg (by omega), if_neg (by omega), if_neg (by omega), if_neg (by omega), if_neg (by omega)])
               | (rw [show dvN σ = dv by unfold dvN; omega] <;> rfl)
               | (have z := b2_ne h_60; simp [z])
               | (have z := b2_eq h_60; simp at z; simp [z]))
      · refine ev_iconst dX7_boy_63 ?_
        refine ev_goto (tgt := 76) dX7_boy_64 (by decide) ?_
        refine ev_ireturn dX7_boy_76 ?_
        first
          | (have q := b2_eq (by omega : b2 (0 ≤ p ∧ p < σ.1 P 2) = 0); exact ⟨by rw [boyC, if_pos q], rfl⟩)
          | (have q := b2_ne h_5
             refine ⟨?_, rfl⟩
             rw [boyC, if_neg (fun z => z q)]
             first
               | rfl
               | (rw [if_neg (by omega), if_neg (by omega), if_neg (by omega), if_neg (by omega), if_neg (by omega), if_neg (by omega)])
               | (rw [show dvN σ = dv by unfold dvN; omega] <;> rfl)
               | (have z := b2_ne h_60; simp [z])
               | (have z := b2_eq h_60; simp at z; simp [z]))
    by_cases h_12_1 : x = 1
    · subst h_12_1
      refine ev_tableIn (off := 65) (tgt := 77) dX7_boy_12 (by decide) (by decide) (by decide) rfl (by decide) ?_
      refine ev_aload_n dX7_boy_77 rfl ?_
      refine ev_getR (r := 37) dX7_boy_78 fl_X7_29 rfl rfl rfl ?_
      refine ev_getR (r := 40) dX7_boy_81 fl_X7_180 rfl rfl rfl ?_
      refine ev_iload_n dX7_boy_84 rfl ?_
      refine ev_iaload dX7_boy_85 rfl (by first | omega | (simp [wr_at]; omega) | (simp [wr_at, *]; omega)) (by first | omega | (simp [wr_at]; omega) | (simp [wr_at, *]; omega)) (by decide) ?_
      refine ev_ireturn dX7_boy_86 ?_
      first
        | (have q := b2_eq (by omega : b2 (0 ≤ p ∧ p < σ.1 P 2) = 0); exact ⟨by rw [boyC, if_pos q], rfl⟩)
        | (have q := b2_ne h_5
           refine ⟨?_, rfl⟩
           rw [boyC, if_neg (fun z => z q)]
           first
             | rfl
             | (rw [if_neg (by omega), if_neg (by omega), if_neg (by omega), if_neg (by omega), if_neg (by omega), if_neg (by omega)])
             | (rw [show dvN σ = dv by unfold dvN; omega] <;> rfl)
             | (have z := b2_ne h_60; simp [z])
             | (have z := b2_eq h_60; simp at z; simp [z]))
    by_cases h_12_2 : x = 2
    · subst h_12_2
      refine ev_tableIn (off := 75) (tgt := 87) dX7_boy_12 (by decide) (by decide) (by decide) rfl (by decide) ?_
      refine ev_aload_n dX7_boy_87 rfl ?_
      refine ev_getR (r := 37) dX7_boy_88 fl_X7_29 rfl rfl rfl ?_
      refine ev_getR (r := 41) dX7_boy_91 fl_X7_183 rfl rfl rfl ?_
      refine ev_iload_n dX7_boy_94 rfl ?_
      refine ev_iaload dX7_boy_95 rfl (by first | omega | (simp [wr_at]; omega) | (simp [wr_at, *]; omega)) (by first | omega | (simp [wr_at]; omega) | (simp [wr_at, *]; omega)) (by decide) ?_
      refine ev_ireturn dX7_boy_96 ?_
      first
        | (have q := b2_eq (by omega : b2 (0 ≤ p ∧ p < σ.1 P 2) = 0); exact ⟨by rw [boyC, if_pos q], rfl⟩)
        | (have q := b2_ne h_5
           refine ⟨?_, rfl⟩
           rw [boyC, if_neg (fun z => z q)]
           first
             | rfl
             | (rw [if_neg (by omega), if_neg (by omega), if_neg (by omega), if_neg (by omega), if_neg (by omega), if_neg (by omega)])
             | (rw [show dvN σ = dv by unfold dvN; omega] <;> rfl)
             | (have z := b2_ne h_60; simp [z])
             | (have z := b2_eq h_60; simp at z; simp [z]))
    by_cases h_12_3 : x = 3
    · subst h_12_3
      refine ev_tableIn (off := 85) (tgt := 97) dX7_boy_12 (by decide) (by decide) (by decide) rfl (by decide) ?_
      refine ev_aload_n dX7_boy_97 rfl ?_
      refine ev_getQ (r := P) dX7_boy_98 fl_X7_19 rfl rfl hpl ?_
      refine ev_getR (r := P + 10) dX7_boy_101 fl_X7_186 (plO hP) rfl rfl ?_
      refine ev_iload_n dX7_boy_104 rfl ?_
      refine ev_iaload dX7_boy_105 (plA10 hP) (by first | omega | (simp [wr_at]; omega) | (simp [wr_at, *]; omega)) (by first | omega | (simp [wr_at]; omega) | (simp [wr_at, *]; omega)) (by decide) ?_
      refine ev_ireturn dX7_boy_106 ?_
      first
        | (have q := b2_eq (by omega : b2 (0 ≤ p ∧ p < σ.1 P 2) = 0); exact ⟨by rw [boyC, if_pos q], rfl⟩)
        | (have q := b2_ne h_5
           refine ⟨?_, rfl⟩
           rw [boyC, if_neg (fun z => z q)]
           first
             | rfl
             | (rw [if_neg (by omega), if_neg (by omega), if_neg (by omega), if_neg (by omega), if_neg (by omega), if_neg (by omega)])
             | (rw [show dvN σ = dv by unfold dvN; omega] <;> rfl)
             | (have z := b2_ne h_60; simp [z])
             | (have z := b2_eq h_60; simp at z; simp [z]))
    by_cases h_12_4 : x = 4
    · subst h_12_4
      refine ev_tableIn (off := 95) (tgt := 107) dX7_boy_12 (by decide) (by decide) (by decide) rfl (by decide) ?_
      refine ev_aload_n dX7_boy_107 rfl ?_
      refine ev_getQ (r := P) dX7_boy_108 fl_X7_19 rfl rfl hpl ?_
      refine ev_getR (r := P + 11) dX7_boy_111 fl_X7_189 (plO hP) rfl rfl ?_
      refine ev_iload_n dX7_boy_114 rfl ?_
      refine ev_iaload dX7_boy_115 (plA11 hP) (by first | omega | (simp [wr_at]; omega) | (simp [wr_at, *]; omega)) (by first | omega | (simp [wr_at]; omega) | (simp [wr_at, *]; omega)) (by decide) ?_
      refine ev_ireturn dX7_boy_116 ?_
      first
        | (have q := b2_eq (by omega : b2 (0 ≤ p ∧ p < σ.1 P 2) = 0); exact ⟨by rw [boyC, if_pos q], rfl⟩)
        | (have q := b2_ne h_5
           refine ⟨?_, rfl⟩
           rw [boyC, if_neg (fun z => z q)]
           first
             | rfl
             | (rw [if_neg (by omega), if_neg (by omega), if_neg (by omega), if_neg (by omega), if_neg (by omega), if_neg (by omega)])
             | (rw [show dvN σ = dv by unfold dvN; omega] <;> rfl)
             | (have z := b2_ne h_60; simp [z])
             | (have z := b2_eq h_60; simp at z; simp [z]))
    have h_12_5 : x = 5 := by omega
    subst h_12_5
    refine ev_tableIn (off := 105) (tgt := 117) dX7_boy_12 (by decide) (by decide) (by decide) rfl (by decide) ?_
    refine ev_aload_n dX7_boy_117 rfl ?_
    refine ev_getR (r := 37) dX7_boy_118 fl_X7_29 rfl rfl rfl ?_
    refine ev_iload_n dX7_boy_121 rfl ?_
    refine ev_aload_n dX7_boy_122 rfl ?_
    refine ev_getQ (r := P) dX7_boy_123 fl_X7_19 rfl rfl hpl ?_
    refine ev_getI (kz := 3) dX7_boy_126 fl_X7_104 (plO hP) rfl rfl ?_
    rw [hnl]
    refine ev_callVI dX7_boy_129 kv_X7_192 (k_carriedBy σ p nl hp hnl4) rfl rfl (ci := 5) rfl rfl ⟨by decide, by decide⟩ (Nat.le_of_ble_eq_true rfl) ?_
    refine ev_w (fun hR => ?_)
    refine ev_ireturn dX7_boy_132 ?_
    first
      | (have q := b2_eq (by omega : b2 (0 ≤ p ∧ p < σ.1 P 2) = 0); exact ⟨by rw [boyC, if_pos q], rfl⟩)
      | (have q := b2_ne h_5
         refine ⟨?_, rfl⟩
         rw [boyC, if_neg (fun z => z q)]
         first
           | rfl
           | (rw [if_neg (by omega), if_neg (by omega), if_neg (by omega), if_neg (by omega), if_neg (by omega), if_neg (by omega)])
           | (rw [show dvN σ = dv by unfold dvN; omega] <;> rfl)
           | (have z := b2_ne h_60; simp [z])
           | (have z := b2_eq h_60; simp at z; simp [z]))
  · refine ev_ldc (z := -1000000001) dX7_boy_8 kc_X7_126 (by decide) ?_
    refine ev_ireturn dX7_boy_10 ?_
    first
      | (have q := b2_eq (by omega : b2 (0 ≤ p ∧ p < σ.1 P 2) = 0); exact ⟨by rw [boyC, if_pos q], rfl⟩)
      | (have q := b2_ne h_5
         refine ⟨?_, rfl⟩
         rw [boyC, if_neg (fun z => z q)]
         first
           | rfl
           | (rw [if_neg (by omega), if_neg (by omega), if_neg (by omega), if_neg (by omega), if_neg (by omega), if_neg (by omega)])
           | (rw [show dvN σ = dv by unfold dvN; omega] <;> rfl)
           | (have z := b2_ne h_60; simp [z])
           | (have z := b2_eq h_60; simp at z; simp [z]))
def loadC (σ : Mem) (P nb nl w wt : Nat) (p x : Int) : Int := if ¬ (0 ≤ p ∧ p < σ.1 P 3) then -1000000001 else if x = 0 then σ.1 42 p else if x = 1 then σ.1 (P + 13) p else if x = 2 then σ.1 (P + 14) p else if x = 3 then σ.1 (P + 15) p else if x = 4 then σ.1 (P + 16) p else if x = 5 then σ.1 43 p else if x = 6 then b2 ((dvN σ).testBit p.toNat = true) else -1000000002
theorem k_load (σ : Mem) (P n nr nb nl w wt : Nat) (f t : Nat → Nat) (hPO : PlanOk σ P n nr nb nl f t) (hPI : PlIs σ P) (hBt : Bits σ w wt) (dv : Nat) (hdv : σ.1 37 5 = dv) (hdv2 : dv < 4096) (p x : Int) (hp : inR p) (hx : inR x) : Con yX7_load cX7_load 3 (some .int) 1 21 [.ref 0, .int (iI p), .int (iI x)] σ (AnsI (loadC σ P nb nl w wt p x) σ) := by
  refine con_of (by decide) rfl (Nat.le_of_ble_eq_true rfl) (ok_I rfl) ?_
  refine ev_w (fun hR => ?_)
  have hR0 := hR
  obtain ⟨hPR, ⟨hnb, hnb4⟩, ⟨hnl, hnl4⟩, hpo, hro, hbo, hlo⟩ := id hPO
  obtain ⟨hP, hn, hn8, hnr, hnr12, hft⟩ := id hPR
  obtain ⟨hw, hw2, hwt, hwt2⟩ := id hBt
  have hpl := hPI.q
  refine ev_aload_n dX7_load_0 rfl ?_
  refine ev_iload_n dX7_load_1 rfl ?_
  refine ev_callVI dX7_load_2 kv_X7_195 (k_isLoad σ p P hp hP hpl) rfl rfl (ci := 7) rfl rfl ⟨by decide, by decide⟩ (Nat.le_of_ble_eq_true rfl) ?_
  refine ev_w (fun hR => ?_)
  refine ev_if_ne (tgt := 11) dX7_load_5 (by decide) (by first | exact hR.1 _ _ | exact hR0.1 _ _ | assumption | exact ⟨by omega, by omega⟩ | exact ⟨by simp [wr_at]; omega, by simp [wr_at]; omega⟩ | exact b2_R _ | exact bC_R _ | exact band_R _ _ | exact bor_R _ _ | exact bshl_R _ _ | exact bshr_R _ _ | exact bxor_R _ _ | exact bs_R (by omega) | decide) (fun h_5 => ?_) (fun h_5 => ?_)
  · have q0 := b2_ne h_5
    refine ev_iload_n dX7_load_11 rfl ?_
    by_cases h_12 : x < 0 ∨ 6 < x
    · refine ev_tableOut (tgt := 128) dX7_load_12 (by first | exact hR.1 _ _ | exact hR0.1 _ _ | assumption | exact ⟨by omega, by omega⟩ | exact ⟨by simp [wr_at]; omega, by simp [wr_at]; omega⟩ | exact b2_R _ | exact bC_R _ | exact band_R _ _ | exact bor_R _ _ | exact bshl_R _ _ | exact bshr_R _ _ | exact bxor_R _ _ | exact bs_R (by omega) | decide) h_12 (by decide) ?_
      refine ev_ldc (z := -1000000002) dX7_load_128 kc_X7_73 (by decide) ?_
      refine ev_ireturn dX7_load_130 ?_
      first
        | (have q := b2_eq (by omega : b2 (0 ≤ p ∧ p < σ.1 P 3) = 0); exact ⟨by rw [loadC, if_pos q], rfl⟩)
        | (have q := b2_ne h_5
           refine ⟨?_, rfl⟩
           rw [loadC, if_neg (fun z => z q)]
           first
             | rfl
             | (rw [if_neg (by omega), if_neg (by omega), if_neg (by omega), if_neg (by omega), if_neg (by omega), if_neg (by omega), if_neg (by omega)])
             | (rw [show dvN σ = dv by unfold dvN; omega] <;> rfl)
             | (have z := b2_ne h_5; simp [z])
             | (have z := b2_eq h_5; simp at z; simp [z]))
    by_cases h_12_0 : x = 0
    · subst h_12_0
      refine ev_tableIn (off := 44) (tgt := 56) dX7_load_12 (by decide) (by decide) (by decide) rfl (by decide) ?_
      refine ev_aload_n dX7_load_56 rfl ?_
      refine ev_getR (r := 37) dX7_load_57 fl_X7_29 rfl rfl rfl ?_
      refine ev_getR (r := 42) dX7_load_60 fl_X7_198 rfl rfl rfl ?_
      refine ev_iload_n dX7_load_63 rfl ?_
      refine ev_iaload dX7_load_64 rfl (by first | omega | (simp [wr_at]; omega) | (simp [wr_at, *]; omega)) (by first | omega | (simp [wr_at]; omega) | (simp [wr_at, *]; omega)) (by decide) ?_
      refine ev_ireturn dX7_load_65 ?_
      first
        | (have q := b2_eq (by omega : b2 (0 ≤ p ∧ p < σ.1 P 3) = 0); exact ⟨by rw [loadC, if_pos q], rfl⟩)
        | (have q := b2_ne h_5
           refine ⟨?_, rfl⟩
           rw [loadC, if_neg (fun z => z q)]
           first
             | rfl
             | (rw [if_neg (by omega), if_neg (by omega), if_neg (by omega), if_neg (by omega), if_neg (by omega), if_neg (by omega), if_neg (by omega)])
             | (rw [show dvN σ = dv by unfold dvN; omega] <;> rfl)
             | (have z := b2_ne h_5; simp [z])
             | (have z := b2_eq h_5; simp at z; simp [z]))
    by_cases h_12_1 : x = 1
    · subst h_12_1
      refine ev_tableIn (off := 54) (tgt := 66) dX7_load_12 (by decide) (by decide) (by decide) rfl (by decide) ?_
      refine ev_aload_n dX7_load_66 rfl ?_
      refine ev_getQ (r := P) dX7_load_67 fl_X7_19 rfl rfl hpl ?_
      refine ev_getR (r := P + 13) dX7_load_70 fl_X7_201 (plO hP) rfl rfl ?_
      refine ev_iload_n dX7_load_73 rfl ?_
      refine ev_iaload dX7_load_74 (plA13 hP) (by first | omega | (simp [wr_at]; omega) | (simp [wr_at, *]; omega)) (by first | omega | (simp [wr_at]; omega) | (simp [wr_at, *]; omega)) (by decide) ?_
      refine ev_ireturn dX7_load_75 ?_
      first
        | (have q := b2_eq (by omega : b2 (0 ≤ p ∧ p < σ.1 P 3) = 0); exact ⟨by rw [loadC, if_pos q], rfl⟩)
        | (have q := b2_ne h_5
           refine ⟨?_, rfl⟩
           rw [loadC, if_neg (fun z => z q)]
           first
             | rfl
             | (rw [if_neg (by omega), if_neg (by omega), if_neg (by omega), if_neg (by omega), if_neg (by omega), if_neg (by omega), if_neg (by omega)])
             | (rw [show dvN σ = dv by unfold dvN; omega] <;> rfl)
             | (have z := b2_ne h_5; simp [z])
             | (have z := b2_eq h_5; simp at z; simp [z]))
    by_cases h_12_2 : x = 2
    · subst h_12_2
      refine ev_tableIn (off := 64) (tgt := 76) dX7_load_12 (by decide) (by decide) (by decide) rfl (by decide) ?_
      refine ev_aload_n dX7_load_76 rfl ?_
      refine ev_getQ (r := P) dX7_load_77 fl_X7_19 rfl rfl hpl ?_
      refine ev_getR (r := P + 14) dX7_load_80 fl_X7_204 (plO hP) rfl rfl ?_
      refine ev_iload_n dX7_load_83 rfl ?_
      refine ev_iaload dX7_load_84 (plA14 hP) (by first | omega | (simp [wr_at]; omega) | (simp [wr_at, *]; omega)) (by first | omega | (simp [wr_at]; omega) | (simp [wr_at, *]; omega)) (by decide) ?_
      refine ev_ireturn dX7_load_85 ?_
      first
        | (have q := b2_eq (by omega : b2 (0 ≤ p ∧ p < σ.1 P 3) = 0); exact ⟨by rw [loadC, if_pos q], rfl⟩)
        | (have q := b2_ne h_5
           refine ⟨?_, rfl⟩
           rw [loadC, if_neg (fun z => z q)]
           first
             | rfl
             | (rw [if_neg (by omega), if_neg (by omega), if_neg (by omega), if_neg (by omega), if_neg (by omega), if_neg (by omega), if_neg (by omega)])
             | (rw [show dvN σ = dv by unfold dvN; omega] <;> rfl)
             | (have z := b2_ne h_5; simp [z])
             | (have z := b2_eq h_5; simp at z; simp [z]))
    by_cases h_12_3 : x = 3
    · subst h_12_3
      refine ev_tableIn (off := 74) (tgt := 86) dX7_load_12 (by decide) (by decide) (by decide) rfl (by decide) ?_
      refine ev_aload_n dX7_load_86 rfl ?_
      refine ev_getQ (r := P) dX7_load_87 fl_X7_19 rfl rfl hpl ?_
      refine ev_getR (r := P + 15) dX7_load_90 fl_X7_207 (plO hP) rfl rfl ?_
      refine ev_iload_n dX7_load_93 rfl ?_
      refine ev_iaload dX7_load_94 (plA15 hP) (by first | omega | (simp [wr_at]; omega) | (simp [wr_at, *]; omega)) (by first | omega | (simp [wr_at]; omega) | (simp [wr_at, *]; omega)) (by decide) ?_
      refine ev_ireturn dX7_load_95 ?_
      first
        | (have q := b2_eq (by omega : b2 (0 ≤ p ∧ p < σ.1 P 3) = 0); exact ⟨by rw [loadC, if_pos q], rfl⟩)
        | (have q := b2_ne h_5
           refine ⟨?_, rfl⟩
           rw [loadC, if_neg (fun z => z q)]
           first
             | rfl
             | (rw [if_neg (by omega), if_neg (by omega), if_neg (by omega), if_neg (by omega), if_neg (by omega), if_neg (by omega), if_neg (by omega)])
             | (rw [show dvN σ = dv by unfold dvN; omega] <;> rfl)
             | (have z := b2_ne h_5; simp [z])
             | (have z := b2_eq h_5; simp at z; simp [z]))
    by_cases h_12_4 : x = 4
    · subst h_12_4
      refine ev_tableIn (off := 84) (tgt := 96) dX7_load_12 (by decide) (by decide) (by decide) rfl (by decide) ?_
      refine ev_aload_n dX7_load_96 rfl ?_
      refine ev_getQ (r := P) dX7_load_97 fl_X7_19 rfl rfl hpl ?_
      refine ev_getR (r := P + 16) dX7_load_100 fl_X7_210 (plO hP) rfl rfl ?_
      refine ev_iload_n dX7_load_103 rfl ?_
      refine ev_iaload dX7_load_104 (plA16 hP) (by first | omega | (simp [wr_at]; omega) | (simp [wr_at, *]; omega)) (by first | omega | (simp [wr_at]; omega) | (simp [wr_at, *]; omega)) (by decide) ?_
      refine ev_ireturn dX7_load_105 ?_
      first
        | (have q := b2_eq (by omega : b2 (0 ≤ p ∧ p < σ.1 P 3) = 0); exact ⟨by rw [loadC, if_pos q], rfl⟩)
        | (have q := b2_ne h_5
           refine ⟨?_, rfl⟩
           rw [loadC, if_neg (fun z => z q)]
           first
             | rfl
             | (rw [if_neg (by omega), if_neg (by omega), if_neg (by omega), if_neg (by omega), if_neg (by omega), if_neg (by omega), if_neg (by omega)])
             | (rw [show dvN σ = dv by unfold dvN; omega] <;> rfl)
             | (have z := b2_ne h_5; simp [z])
             | (have z := b2_eq h_5; simp at z; simp [z]))
    by_cases h_12_5 : x = 5
    · subst h_12_5
      refine ev_tableIn (off := 94) (tgt := 106) dX7_load_12 (by decide) (by decide) (by decide) rfl (by decide) ?_
      refine ev_aload_n dX7_load_106 rfl ?_
      refine ev_getR (r := 37) dX7_load_107 fl_X7_29 rfl rfl rfl ?_
      refine ev_getR (r := 43) dX7_load_110 fl_X7_213 rfl rfl rfl ?_
      refine ev_iload_n dX7_load_113 rfl ?_
      refine ev_iaload dX7_load_114 rfl (by first | omega | (simp [wr_at]; omega) | (simp [wr_at, *]; omega)) (by first | omega | (simp [wr_at]; omega) | (simp [wr_at, *]; omega)) (by decide) ?_
      refine ev_ireturn dX7_load_115 ?_
      first
        | (have q := b2_eq (by omega : b2 (0 ≤ p ∧ p < σ.1 P 3) = 0); exact ⟨by rw [loadC, if_pos q], rfl⟩)
        | (have q := b2_ne h_5
           refine ⟨?_, rfl⟩
           rw [loadC, if_neg (fun z => z q)]
           first
             | rfl
             | (rw [if_neg (by omega), if_neg (by omega), if_neg (by omega), if_neg (by omega), if_neg (by omega), if_neg (by omega), if_neg (by omega)])
             | (rw [show dvN σ = dv by unfold dvN; omega] <;> rfl)
             | (have z := b2_ne h_5; simp [z])
             | (have z := b2_eq h_5; simp at z; simp [z]))
    have h_12_6 : x = 6 := by omega
    subst h_12_6
    refine ev_tableIn (off := 104) (tgt := 116) dX7_load_12 (by decide) (by decide) (by decide) rfl (by decide) ?_
    refine ev_aload_n dX7_load_116 rfl ?_
    refine ev_getR (r := 37) dX7_load_117 fl_X7_29 rfl rfl rfl ?_
    refine ev_getI (kz := 5) dX7_load_120 fl_X7_113 rfl rfl rfl ?_
    refine ev_iload_n dX7_load_123 rfl ?_
    rw [hdv]
    have ep : p = ((p.toNat : Nat) : Int) := by omega
    refine ev_st (show _ = [Value.int (iI ((p.toNat : Nat) : Int)), Value.int (iI dv)] by rw [← ep]) ?_
    refine ev_callSI dX7_load_124 ks_X7_165 (k_bit σ dv p.toNat (by omega) (by omega)) rfl rfl ⟨by decide, by decide⟩ (Nat.le_of_ble_eq_true rfl) ?_
    refine ev_w (fun hR => ?_)
    refine ev_ireturn dX7_load_127 ?_
    first
      | (have q := b2_eq (by omega : b2 (0 ≤ p ∧ p < σ.1 P 3) = 0); exact ⟨by rw [loadC, if_pos q], rfl⟩)
      | (have q := b2_ne h_5
         refine ⟨?_, rfl⟩
         rw [loadC, if_neg (fun z => z q)]
         first
           | rfl
           | (rw [if_neg (by omega), if_neg (by omega), if_neg (by omega), if_neg (by omega), if_neg (by omega), if_neg (by omega), if_neg (by omega)])
           | (rw [show dvN σ = dv by unfold dvN; omega] <;> rfl)
           | (have z := b2_ne h_5; simp [z])
           | (have z := b2_eq h_5; simp at z; simp [z]))
  · refine ev_ldc (z := -1000000001) dX7_load_8 kc_X7_126 (by decide) ?_
    refine ev_ireturn dX7_load_10 ?_
    first
      | (have q := b2_eq (by omega : b2 (0 ≤ p ∧ p < σ.1 P 3) = 0); exact ⟨by rw [loadC, if_pos q], rfl⟩)
      | (have q := b2_ne h_5
         refine ⟨?_, rfl⟩
         rw [loadC, if_neg (fun z => z q)]
         first
           | rfl
           | (rw [if_neg (by omega), if_neg (by omega), if_neg (by omega), if_neg (by omega), if_neg (by omega), if_neg (by omega), if_neg (by omega)])
           | (rw [show dvN σ = dv by unfold dvN; omega] <;> rfl)
           | (have z := b2_ne h_5; simp [z])
           | (have z := b2_eq h_5; simp at z; simp [z]))
