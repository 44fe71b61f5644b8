/-- of two states: the fields and rows behind a copy -/
theorem copyM_f {σ : Mem} {t o : Nat} (ht : t = 37 ∨ t = 47 ∨ t = 56) (ho : o = 37 ∨ o = 47 ∨ o = 56) (hne : o ≠ t) {k : Int} (h0 : 0 ≤ k) (h1 : k ≤ 6) : (copyM σ t o).1 t k = σ.1 o k := by
  unfold copyM copyM0
  rw [cpy_c (by omega), cpy_c (by omega), cpy_c (by omega), cpy_c (by omega), cpy_c (by omega), cpy_c (by omega), cpy_c (by omega), cpy_c (by omega)]
  repeat rw [wr_at]
  have hk : k = 0 ∨ k = 1 ∨ k = 2 ∨ k = 3 ∨ k = 4 ∨ k = 5 ∨ k = 6 := by omega
  rcases hk with rfl | rfl | rfl | rfl | rfl | rfl | rfl <;> simp
theorem copyM_r1 {σ : Mem} {t o : Nat} (ht : t = 37 ∨ t = 47 ∨ t = 56) (ho : o = 37 ∨ o = 47 ∨ o = 56) (hne : o ≠ t) {k : Int} (h0 : 0 ≤ k) (h1 : k < 12) : (copyM σ t o).1 (t + 1) k = σ.1 (o + 1) k := by
  unfold copyM
  rw [cpy_c (by omega), cpy_c (by omega), cpy_c (by omega), cpy_c (by omega), cpy_c (by omega), cpy_c (by omega), cpy_c (by omega)]
  rw [cpyM_at, if_pos ⟨rfl, h0, by omega⟩]
  rw [show (0 : Int) + (k - 0) = k by omega]
  unfold copyM0
  rw [wr_nec _ (by omega), wr_nec _ (by omega), wr_nec _ (by omega), wr_nec _ (by omega), wr_nec _ (by omega), wr_nec _ (by omega), wr_nec _ (by omega)]
theorem copyM_r2 {σ : Mem} {t o : Nat} (ht : t = 37 ∨ t = 47 ∨ t = 56) (ho : o = 37 ∨ o = 47 ∨ o = 56) (hne : o ≠ t) {k : Int} (h0 : 0 ≤ k) (h1 : k < 4) : (copyM σ t o).1 (t + 2) k = σ.1 (o + 2) k := by
  unfold copyM
  rw [cpy_c (by omega), cpy_c (by omega), cpy_c (by omega), cpy_c (by omega), cpy_c (by omega), cpy_c (by omega)]
  rw [cpyM_at, if_pos ⟨rfl, h0, by omega⟩]
  rw [show (0 : Int) + (k - 0) = k by omega]
  rw [cpy_c (by omega)]
  unfold copyM0
  rw [wr_nec _ (by omega), wr_nec _ (by omega), wr_nec _ (by omega), wr_nec _ (by omega), wr_nec _ (by omega), wr_nec _ (by omega), wr_nec _ (by omega)]
theorem copyM_r3 {σ : Mem} {t o : Nat} (ht : t = 37 ∨ t = 47 ∨ t = 56) (ho : o = 37 ∨ o = 47 ∨ o = 56) (hne : o ≠ t) {k : Int} (h0 : 0 ≤ k) (h1 : k < 4) : (copyM σ t o).1 (t + 3) k = σ.1 (o + 3) k := by
  unfold copyM
  rw [cpy_c (by omega), cpy_c (by omega), cpy_c (by omega), cpy_c (by omega), cpy_c (by omega)]
  rw [cpyM_at, if_pos ⟨rfl, h0, by omega⟩]
  rw [show (0 : Int) + (k - 0) = k by omega]
  rw [cpy_c (by omega), cpy_c (by omega)]
  unfold copyM0
  rw [wr_nec _ (by omega), wr_nec _ (by omega), wr_nec _ (by omega), wr_nec _ (by omega), wr_nec _ (by omega), wr_nec _ (by omega), wr_nec _ (by omega)]
theorem copyM_r4 {σ : Mem} {t o : Nat} (ht : t = 37 ∨ t = 47 ∨ t = 56) (ho : o = 37 ∨ o = 47 ∨ o = 56) (hne : o ≠ t) {k : Int} (h0 : 0 ≤ k) (h1 : k < 4) : (copyM σ t o).1 (t + 4) k = σ.1 (o + 4) k := by
  unfold copyM
  rw [cpy_c (by omega), cpy_c (by omega), cpy_c (by omega), cpy_c (by omega)]
  rw [cpyM_at, if_pos ⟨rfl, h0, by omega⟩]
  rw [show (0 : Int) + (k - 0) = k by omega]
  rw [cpy_c (by omega), cpy_c (by omega), cpy_c (by omega)]
  unfold copyM0
  rw [wr_nec _ (by omega), wr_nec _ (by omega), wr_nec _ (by omega), wr_nec _ (by omega), wr_nec _ (by omega), wr_nec _ (by omega), wr_nec _ (by omega)]
theorem copyM_r5 {σ : Mem} {t o : Nat} (ht : t = 37 ∨ t = 47 ∨ t = 56) (ho : o = 37 ∨ o = 47 ∨ o = 56) (hne : o ≠ t) {k : Int} (h0 : 0 ≤ k) (h1 : k < 4) : (copyM σ t o).1 (t + 5) k = σ.1 (o + 5) k := by
  unfold copyM
  rw [cpy_c (by omega), cpy_c (by omega), cpy_c (by omega)]
  rw [cpyM_at, if_pos ⟨rfl, h0, by omega⟩]
  rw [show (0 : Int) + (k - 0) = k by omega]
  rw [cpy_c (by omega), cpy_c (by omega), cpy_c (by omega), cpy_c (by omega)]
  unfold copyM0
  rw [wr_nec _ (by omega), wr_nec _ (by omega), wr_nec _ (by omega), wr_nec _ (by omega), wr_nec _ (by omega), wr_nec _ (by omega), wr_nec _ (by omega)]
theorem copyM_r6 {σ : Mem} {t o : Nat} (ht : t = 37 ∨ t = 47 ∨ t = 56) (ho : o = 37 ∨ o = 47 ∨ o = 56) (hne : o ≠ t) {k : Int} (h0 : 0 ≤ k) (h1 : k < 4) : (copyM σ t o).1 (t + 6) k = σ.1 (o + 6) k := by
  unfold copyM
  rw [cpy_c (by omega), cpy_c (by omega)]
  rw [cpyM_at, if_pos ⟨rfl, h0, by omega⟩]
  rw [show (0 : Int) + (k - 0) = k by omega]
  rw [cpy_c (by omega), cpy_c (by omega), cpy_c (by omega), cpy_c (by omega), cpy_c (by omega)]
  unfold copyM0
  rw [wr_nec _ (by omega), wr_nec _ (by omega), wr_nec _ (by omega), wr_nec _ (by omega), wr_nec _ (by omega), wr_nec _ (by omega), wr_nec _ (by omega)]
theorem copyM_r7 {σ : Mem} {t o : Nat} (ht : t = 37 ∨ t = 47 ∨ t = 56) (ho : o = 37 ∨ o = 47 ∨ o = 56) (hne : o ≠ t) {k : Int} (h0 : 0 ≤ k) (h1 : k < 200) : (copyM σ t o).1 (t + 7) k = σ.1 (o + 7) k := by
  unfold copyM
  rw [cpy_c (by omega)]
  rw [cpyM_at, if_pos ⟨rfl, h0, by omega⟩]
  rw [show (0 : Int) + (k - 0) = k by omega]
  rw [cpy_c (by omega), cpy_c (by omega), cpy_c (by omega), cpy_c (by omega), cpy_c (by omega), cpy_c (by omega)]
  unfold copyM0
  rw [wr_nec _ (by omega), wr_nec _ (by omega), wr_nec _ (by omega), wr_nec _ (by omega), wr_nec _ (by omega), wr_nec _ (by omega), wr_nec _ (by omega)]
theorem copyM_r8 {σ : Mem} {t o : Nat} (ht : t = 37 ∨ t = 47 ∨ t = 56) (ho : o = 37 ∨ o = 47 ∨ o = 56) (hne : o ≠ t) {k : Int} (h0 : 0 ≤ k) (h1 : k < 200) : (copyM σ t o).1 (t + 8) k = σ.1 (o + 8) k := by
  unfold copyM
  rw [cpyM_at, if_pos ⟨rfl, h0, by omega⟩]
  rw [show (0 : Int) + (k - 0) = k by omega]
  rw [cpy_c (by omega), cpy_c (by omega), cpy_c (by omega), cpy_c (by omega), cpy_c (by omega), cpy_c (by omega), cpy_c (by omega)]
  unfold copyM0
  rw [wr_nec _ (by omega), wr_nec _ (by omega), wr_nec _ (by omega), wr_nec _ (by omega), wr_nec _ (by omega), wr_nec _ (by omega), wr_nec _ (by omega)]
def bz (z : Int) : Int := if z = 0 then 0 else 1
/-- an image as the reference lays it: the place j of it -/
def imgE (μ : Mem) (j : Int) : Int := if j < 12 then μ.1 95 j else if j < 24 then bz (μ.1 96 (j - 12)) + 2 * bz (μ.1 97 (j - 12)) else if j < 28 then μ.1 98 (j - 24) else if j < 32 then μ.1 99 (j - 28) else if j < 36 then μ.1 100 (j - 32) else if j < 40 then μ.1 101 (j - 36) else if j < 44 then μ.1 102 (j - 40) else if j < 48 then μ.1 103 (j - 44) else if j < 52 then bz (μ.1 104 (j - 48)) else if j = 52 then μ.1 79 29 else if j = 53 then μ.1 79 30 else if j = 54 then μ.1 79 31 else if j = 55 then μ.1 79 34 else if j < 256 then μ.1 105 (j - 56) else μ.1 106 (j - 256)
theorem imgE_95 (μ : Mem) {k : Int} (h0 : 0 ≤ k) (h1 : k < 12) : imgE μ k = μ.1 95 k := by
  unfold imgE
  rw [if_pos h1]
theorem imgE_96 (μ : Mem) {k : Int} (h0 : 0 ≤ k) (h1 : k < 12) : imgE μ (12 + k) = bz (μ.1 96 k) + 2 * bz (μ.1 97 k) := by
  unfold imgE
  rw [if_neg (by omega), if_pos (by omega), show (12 : Int) + k - 12 = k by omega]
theorem imgE_98 (μ : Mem) {k : Int} (h0 : 0 ≤ k) (h1 : k < 4) : imgE μ (24 + k) = μ.1 98 k := by
  unfold imgE
  rw [if_neg (by omega), if_neg (by omega), if_pos (by omega), show (24 : Int) + k - 24 = k by omega]
theorem imgE_99 (μ : Mem) {k : Int} (h0 : 0 ≤ k) (h1 : k < 4) : imgE μ (28 + k) = μ.1 99 k := by
  unfold imgE
  rw [if_neg (by omega), if_neg (by omega), if_neg (by omega), if_pos (by omega), show (28 : Int) + k - 28 = k by omega]
theorem imgE_100 (μ : Mem) {k : Int} (h0 : 0 ≤ k) (h1 : k < 4) : imgE μ (32 + k) = μ.1 100 k := by
  unfold imgE
  rw [if_neg (by omega), if_neg (by omega), if_neg (by omega), if_neg (by omega), if_pos (by omega), show (32 : Int) + k - 32 = k by omega]
theorem imgE_101 (μ : Mem) {k : Int} (h0 : 0 ≤ k) (h1 : k < 4) : imgE μ (36 + k) = μ.1 101 k := by
  unfold imgE
  rw [if_neg (by omega), if_neg (by omega), if_neg (by omega), if_neg (by omega), if_neg (by omega), if_pos (by omega), show (36 : Int) + k - 36 = k by omega]
theorem imgE_102 (μ : Mem) {k : Int} (h0 : 0 ≤ k) (h1 : k < 4) : imgE μ (40 + k) = μ.1 102 k := by
  unfold imgE
  rw [if_neg (by omega), if_neg (by omega), if_neg (by omega), if_neg (by omega), if_neg (by omega), if_neg (by omega), if_pos (by omega), show (40 : Int) + k - 40 = k by omega]
theorem imgE_103 (μ : Mem) {k : Int} (h0 : 0 ≤ k) (h1 : k < 4) : imgE μ (44 + k) = μ.1 103 k := by
  unfold imgE
  rw [if_neg (by omega), if_neg (by omega), if_neg (by omega), if_neg (by omega), if_neg (by omega), if_neg (by omega), if_neg (by omega), if_pos (by omega), show (44 : Int) + k - 44 = k by omega]
theorem imgE_104 (μ : Mem) {k : Int} (h0 : 0 ≤ k) (h1 : k < 4) : imgE μ (48 + k) = bz (μ.1 104 k) := by
  unfold imgE
  rw [if_neg (by omega), if_neg (by omega), if_neg (by omega), if_neg (by omega), if_neg (by omega), if_neg (by omega), if_neg (by omega), if_neg (by omega), if_pos (by omega), show (48 : Int) + k - 48 = k by omega]
theorem imgE_f29 (μ : Mem) : imgE μ 52 = μ.1 79 29 := by
  unfold imgE
  rw [if_neg (by omega), if_neg (by omega), if_neg (by omega), if_neg (by omega), if_neg (by omega), if_neg (by omega), if_neg (by omega), if_neg (by omega), if_neg (by omega), if_pos (by omega)]
theorem imgE_f30 (μ : Mem) : imgE μ 53 = μ.1 79 30 := by
  unfold imgE
  rw [if_neg (by omega), if_neg (by omega), if_neg (by omega), if_neg (by omega), if_neg (by omega), if_neg (by omega), if_neg (by omega), if_neg (by omega), if_neg (by omega), if_neg (by omega), if_pos (by omega)]
theorem imgE_f31 (μ : Mem) : imgE μ 54 = μ.1 79 31 := by
  unfold imgE
  rw [if_neg (by omega), if_neg (by omega), if_neg (by omega), if_neg (by omega), if_neg (by omega), if_neg (by omega), if_neg (by omega), if_neg (by omega), if_neg (by omega), if_neg (by omega), if_neg (by omega), if_pos (by omega)]
theorem imgE_f34 (μ : Mem) : imgE μ 55 = μ.1 79 34 := by
  unfold imgE
  rw [if_neg (by omega), if_neg (by omega), if_neg (by omega), if_neg (by omega), if_neg (by omega), if_neg (by omega), if_neg (by omega), if_neg (by omega), if_neg (by omega), if_neg (by omega), if_neg (by omega), if_neg (by omega), if_pos (by omega)]
theorem imgE_105 (μ : Mem) {k : Int} (h0 : 0 ≤ k) (h1 : k < 200) : imgE μ (56 + k) = μ.1 105 k := by
  unfold imgE
  rw [if_neg (by omega), if_neg (by omega), if_neg (by omega), if_neg (by omega), if_neg (by omega), if_neg (by omega), if_neg (by omega), if_neg (by omega), if_neg (by omega), if_neg (by omega), if_neg (by omega), if_neg (by omega), if_neg (by omega), if_pos (by omega), show (56 : Int) + k - 56 = k by omega]
theorem imgE_106 (μ : Mem) {k : Int} (h0 : 0 ≤ k) (h1 : k < 200) : imgE μ (256 + k) = μ.1 106 k := by
  unfold imgE
  rw [if_neg (by omega), if_neg (by omega), if_neg (by omega), if_neg (by omega), if_neg (by omega), if_neg (by omega), if_neg (by omega), if_neg (by omega), if_neg (by omega), if_neg (by omega), if_neg (by omega), if_neg (by omega), if_neg (by omega), if_neg (by omega), show (256 : Int) + k - 256 = k by omega]
/-- the reference's images row under way: the places that D names are laid -/
def Img (μ ν : Mem) (at9 : Int) (D : Int → Prop) : Prop := (∀ c, c ≠ 132 → ν.1 c = μ.1 c) ∧ ν.2 = μ.2 ∧ (∀ k : Int, k < at9 ∨ at9 + 500 ≤ k → ν.1 132 k = μ.1 132 k) ∧ ∀ j, D j → ν.1 132 (at9 + j) = imgE μ j
theorem Img.put {μ ν : Mem} {at9 : Int} {D : Int → Prop} (h : Img μ ν at9 D) {ix j z : Int} (hx : ix = at9 + j) (h0 : 0 ≤ j) (h1 : j < 500) (hz : z = imgE μ j) : Img μ (wr ν 132 ix z) at9 (fun i => D i ∨ i = j) := by
  subst hx
  refine ⟨fun c hc => ?_, h.2.1, fun k hk => ?_, fun i hi => ?_⟩
  · rw [← h.1 c hc]; funext k; exact wr_nec ν hc
  · rw [wr_nek ν (by omega)]; exact h.2.2.1 k hk
  · by_cases e : i = j
    · subst e; rw [wr_eq, hz]
    · rw [wr_nek ν (by omega)]
      exact h.2.2.2 i (hi.resolve_right e)
theorem Img.mono {μ ν : Mem} {at9 : Int} {D E : Int → Prop} (h : Img μ ν at9 D) (hE : ∀ j, E j → D j) : Img μ ν at9 E := ⟨h.1, h.2.1, h.2.2.1, fun j hj => h.2.2.2 j (hE j hj)⟩
set_option maxHeartbeats 4000000 in
theorem m_keep (μ : Mem) (x : Int) (hx : inR x) : Con yX8_keep cX8_keep 4 (some .int) 1 25 [.ref 79, .int (iI x)] μ (fun v ν => if ¬ (0 ≤ x ∧ x < 2) then AnsI (-1000000001) μ v ν else AnsIP 1 (fun ν => ∃ ν0, Img μ ν0 (500 * x) (fun j => 0 ≤ j ∧ j < 456) ∧ ν = wr ν0 133 x 1) v ν) := by
  refine con_of (by decide) rfl (Nat.le_of_ble_eq_true rfl) ((fun v τ h => by repeat (first | exact ok_I rfl v τ h | exact ok_IP rfl v τ h | split at h))) ?_
  refine ev_w (fun hR => ?_)
  have hR0 := hR
  have loop3 : (0 ≤ x ∧ x < 2) → ∀ k : Nat, k ≤ 200 → ∀ ν, Img μ ν (500 * x) (fun j => (0 ≤ j ∧ j < 56) ∨ (56 ≤ j ∧ j < 56 + k) ∨ (256 ≤ j ∧ j < 256 + k)) → Ev RX8 cX8_keep 4 1 25 (fun v ν => if ¬ (0 ≤ x ∧ x < 2) then AnsI (-1000000001) μ v ν else AnsIP 1 (fun ν => ∃ ν0, Img μ ν0 (500 * x) (fun j => 0 ≤ j ∧ j < 456) ∧ ν = wr ν0 133 x 1) v ν) 282 [some (.ref 79), some (.int (iI x)), some (.int (iI (500 * x))), some (.int (iI (k : Nat)))] [] ν := by
    intro hx9
    refine for_up 200 (fun k hk ih => ?_)
    intro ν hI
    refine ev_w (fun hR => ?_)
    refine ev_iload_n dX8_keep_282 rfl ?_
    refine ev_sipush dX8_keep_283 (by decide) ?_
    refine ev_icmp_ge (tgt := 330) dX8_keep_286 (by decide) (by first | exact hR.1 _ _ | exact hR0.1 _ _ | assumption | exact ⟨by omega, by omega⟩ | exact ⟨by simp [wr_at]; omega, by simp [wr_at]; omega⟩ | exact b2_R _ | exact bC_R _ | exact band_R _ _ | exact bor_R _ _ | exact bshl_R _ _ | exact bshr_R _ _ | exact bxor_R _ _ | exact bs_R (by omega) | decide) (by first | exact hR.1 _ _ | exact hR0.1 _ _ | assumption | exact ⟨by omega, by omega⟩ | exact ⟨by simp [wr_at]; omega, by simp [wr_at]; omega⟩ | exact b2_R _ | exact bC_R _ | exact band_R _ _ | exact bor_R _ _ | exact bshl_R _ _ | exact bshr_R _ _ | exact bxor_R _ _ | exact bs_R (by omega) | decide) (fun h_286 => ?_) (fun h_286 => ?_)
    · refine ev_aload_n dX8_keep_330 rfl ?_
      refine ev_getR (r := 133) dX8_keep_331 fl_X8_174 rfl rfl rfl ?_
      refine ev_iload_n dX8_keep_334 rfl ?_
      refine ev_iconst dX8_keep_335 ?_
      refine ev_zastore dX8_keep_336 rfl (by first | omega | (simp [wr_at]; omega) | (simp [wr_at, *]; omega)) (by first | omega | (simp [wr_at]; omega) | (simp [wr_at, *]; omega)) (by decide) (by first | exact Or.inl rfl | exact Or.inr rfl | omega) ?_
      refine ev_w (fun hR => ?_)
      refine ev_iconst dX8_keep_337 ?_
      refine ev_ireturn dX8_keep_338 ?_
      rw [if_neg (fun y => y hx9)]
      exact ⟨rfl, ν, hI.mono (fun j hj => by omega), rfl⟩
    · refine ev_aload_n dX8_keep_289 rfl ?_
      refine ev_getR (r := 132) dX8_keep_290 fl_X8_171 rfl rfl rfl ?_
      refine ev_iload_n dX8_keep_293 rfl ?_
      refine ev_bipush dX8_keep_294 (by decide) ?_
      refine ev_iadd dX8_keep_296 ?_
      refine ev_iload_n dX8_keep_297 rfl ?_
      refine ev_iadd dX8_keep_298 ?_
      refine ev_aload_n dX8_keep_299 rfl ?_
      refine ev_getR (r := 105) dX8_keep_300 fl_X8_86 rfl rfl rfl ?_
      refine ev_iload_n dX8_keep_303 rfl ?_
      refine ev_iaload dX8_keep_304 rfl (by first | omega | (simp [wr_at]; omega) | (simp [wr_at, *]; omega)) (by first | omega | (simp [wr_at]; omega) | (simp [wr_at, *]; omega)) (by decide) ?_
      refine ev_iastore dX8_keep_305 rfl (by first | omega | (simp [wr_at]; omega) | (simp [wr_at, *]; omega)) (by first | omega | (simp [wr_at]; omega) | (simp [wr_at, *]; omega)) (by decide) (by first | exact hR.1 _ _ | exact hR0.1 _ _ | assumption | exact ⟨by omega, by omega⟩ | exact ⟨by simp [wr_at]; omega, by simp [wr_at]; omega⟩ | exact b2_R _ | exact bC_R _ | exact band_R _ _ | exact bor_R _ _ | exact bshl_R _ _ | exact bshr_R _ _ | exact bxor_R _ _ | exact bs_R (by omega) | decide) ?_
      refine ev_w (fun hR => ?_)
      have hI1 := hI.put (ix := (500 * x + 56 + (k : Int))) (j := (56 + (k : Int))) (z := (ν.1 105 (k : Int))) (by omega) (by omega) (by omega) (by rw [hI.1 105 (by decide), imgE_105 μ (by omega) (by omega)])
      generalize wr ν 132 (500 * x + 56 + (k : Int)) (ν.1 105 (k : Int)) = ν1 at *
      refine ev_aload_n dX8_keep_306 rfl ?_
      refine ev_getR (r := 132) dX8_keep_307 fl_X8_171 rfl rfl rfl ?_
      refine ev_iload_n dX8_keep_310 rfl ?_
      refine ev_sipush dX8_keep_311 (by decide) ?_
      refine ev_iadd dX8_keep_314 ?_
      refine ev_iload_n dX8_keep_315 rfl ?_
      refine ev_iadd dX8_keep_316 ?_
      refine ev_aload_n dX8_keep_317 rfl ?_
      refine ev_getR (r := 106) dX8_keep_318 fl_X8_89 rfl rfl rfl ?_
      refine ev_iload_n dX8_keep_321 rfl ?_
      refine ev_iaload dX8_keep_322 rfl (by first | omega | (simp [wr_at]; omega) | (simp [wr_at, *]; omega)) (by first | omega | (simp [wr_at]; omega) | (simp [wr_at, *]; omega)) (by decide) ?_
      refine ev_iastore dX8_keep_323 rfl (by first | omega | (simp [wr_at]; omega) | (simp [wr_at, *]; omega)) (by first | omega | (simp [wr_at]; omega) | (simp [wr_at, *]; omega)) (by decide) (by first | exact hR.1 _ _ | exact hR0.1 _ _ | assumption | exact ⟨by omega, by omega⟩ | exact ⟨by simp [wr_at]; omega, by simp [wr_at]; omega⟩ | exact b2_R _ | exact bC_R _ | exact band_R _ _ | exact bor_R _ _ | exact bshl_R _ _ | exact bshr_R _ _ | exact bxor_R _ _ | exact bs_R (by omega) | decide) ?_
      refine ev_w (fun hR => ?_)
      have hI2 := hI1.put (ix := (500 * x + 256 + (k : Int))) (j := (256 + (k : Int))) (z := (ν1.1 106 (k : Int))) (by omega) (by omega) (by omega) (by rw [hI1.1 106 (by decide), imgE_106 μ (by omega) (by omega)])
      generalize wr ν1 132 (500 * x + 256 + (k : Int)) (ν1.1 106 (k : Int)) = ν2 at *
      refine ev_iinc dX8_keep_324 rfl rfl (by decide) rfl ?_
      refine ev_goto (tgt := 282) dX8_keep_327 (by decide) ?_
      exact ih (by omega) _ (hI2.mono (fun j hj => by omega))
  have loop2 : (0 ≤ x ∧ x < 2) → ∀ k : Nat, k ≤ 4 → ∀ ν, Img μ ν (500 * x) (fun j => (0 ≤ j ∧ j < 24) ∨ (24 ≤ j ∧ j < 24 + k) ∨ (28 ≤ j ∧ j < 28 + k) ∨ (32 ≤ j ∧ j < 32 + k) ∨ (36 ≤ j ∧ j < 36 + k) ∨ (40 ≤ j ∧ j < 40 + k) ∨ (44 ≤ j ∧ j < 44 + k) ∨ (48 ≤ j ∧ j < 48 + k)) → Ev RX8 cX8_keep 4 1 25 (fun v ν => if ¬ (0 ≤ x ∧ x < 2) then AnsI (-1000000001) μ v ν else AnsIP 1 (fun ν => ∃ ν0, Img μ ν0 (500 * x) (fun j => 0 ≤ j ∧ j < 456) ∧ ν = wr ν0 133 x 1) v ν) 90 [some (.ref 79), some (.int (iI x)), some (.int (iI (500 * x))), some (.int (iI (k : Nat)))] [] ν := by
    intro hx9
    refine for_up 4 (fun k hk ih => ?_)
    intro ν hI
    refine ev_w (fun hR => ?_)
    have hl3 := loop3 hx9
    refine ev_iload_n dX8_keep_90 rfl ?_
    refine ev_iconst dX8_keep_91 ?_
    refine ev_icmp_ge (tgt := 228) dX8_keep_92 (by decide) (by first | exact hR.1 _ _ | exact hR0.1 _ _ | assumption | exact ⟨by omega, by omega⟩ | exact ⟨by simp [wr_at]; omega, by simp [wr_at]; omega⟩ | exact b2_R _ | exact bC_R _ | exact band_R _ _ | exact bor_R _ _ | exact bshl_R _ _ | exact bshr_R _ _ | exact bxor_R _ _ | exact bs_R (by omega) | decide) (by first | exact hR.1 _ _ | exact hR0.1 _ _ | assumption | exact ⟨by omega, by omega⟩ | exact ⟨by simp [wr_at]; omega, by simp [wr_at]; omega⟩ | exact b2_R _ | exact bC_R _ | exact band_R _ _ | exact bor_R _ _ | exact bshl_R _ _ | exact bshr_R _ _ | exact bxor_R _ _ | exact bs_R (by omega) | decide) (fun h_92 => ?_) (fun h_92 => ?_)
    · refine ev_aload_n dX8_keep_228 rfl ?_
      refine ev_getR (r := 132) dX8_keep_229 fl_X8_171 rfl rfl rfl ?_
      refine ev_iload_n dX8_keep_232 rfl ?_
      refine ev_bipush dX8_keep_233 (by decide) ?_
      refine ev_iadd dX8_keep_235 ?_
      refine ev_aload_n dX8_keep_236 rfl ?_
      refine ev_getI (kz := 29) dX8_keep_237 fl_X8_193 rfl rfl rfl ?_
      refine ev_iastore dX8_keep_240 rfl (by first | omega | (simp [wr_at]; omega) | (simp [wr_at, *]; omega)) (by first | omega | (simp [wr_at]; omega) | (simp [wr_at, *]; omega)) (by decide) (by first | exact hR.1 _ _ | exact hR0.1 _ _ | assumption | exact ⟨by omega, by omega⟩ | exact ⟨by simp [wr_at]; omega, by simp [wr_at]; omega⟩ | exact b2_R _ | exact bC_R _ | exact band_R _ _ | exact bor_R _ _ | exact bshl_R _ _ | exact bshr_R _ _ | exact bxor_R _ _ | exact bs_R (by omega) | decide) ?_
      refine ev_w (fun hR => ?_)
      have hI1 := hI.put (ix := (500 * x + 52)) (j := 52) (z := (ν.1 79 29)) (by omega) (by omega) (by omega) (by rw [hI.1 79 (by decide), imgE_f29])
      generalize wr ν 132 (500 * x + 52) (ν.1 79 29) = ν1 at *
      refine ev_aload_n dX8_keep_241 rfl ?_
      refine ev_getR (r := 132) dX8_keep_242 fl_X8_171 rfl rfl rfl ?_
      refine ev_iload_n dX8_keep_245 rfl ?_
      refine ev_bipush dX8_keep_246 (by decide) ?_
      refine ev_iadd dX8_keep_248 ?_
      refine ev_aload_n dX8_keep_249 rfl ?_
      refine ev_getI (kz := 30) dX8_keep_250 fl_X8_196 rfl rfl rfl ?_
      refine ev_iastore dX8_keep_253 rfl (by first | omega | (simp [wr_at]; omega) | (simp [wr_at, *]; omega)) (by first | omega | (simp [wr_at]; omega) | (simp [wr_at, *]; omega)) (by decide) (by first | exact hR.1 _ _ | exact hR0.1 _ _ | assumption | exact ⟨by omega, by omega⟩ | exact ⟨by simp [wr_at]; omega, by simp [wr_at]; omega⟩ | exact b2_R _ | exact bC_R _ | exact band_R _ _ | exact bor_R _ _ | exact bshl_R _ _ | exact bshr_R _ _ | exact bxor_R _ _ | exact bs_R (by omega) | decide) ?_
      refine ev_w (fun hR => ?_)
      have hI2 := hI1.put (ix := (500 * x + 53)) (j := 53) (z := (ν1.1 79 30)) (by omega) (by omega) (by omega) (by rw [hI1.1 79 (by decide), imgE_f30])
      generalize wr ν1 132 (500 * x + 53) (ν1.1 79 30) = ν2 at *
      refine ev_aload_n dX8_keep_254 rfl ?_
      refine ev_getR (r := 132) dX8_keep_255 fl_X8_171 rfl rfl rfl ?_
      refine ev_iload_n dX8_keep_258 rfl ?_
      refine ev_bipush dX8_keep_259 (by decide) ?_
      refine ev_iadd dX8_keep_261 ?_
      refine ev_aload_n dX8_keep_262 rfl ?_
      refine ev_getI (kz := 31) dX8_keep_263 fl_X8_199 rfl rfl rfl ?_
      refine ev_iastore dX8_keep_266 rfl (by first | omega | (simp [wr_at]; omega) | (simp [wr_at, *]; omega)) (by first | omega | (simp [wr_at]; omega) | (simp [wr_at, *]; omega)) (by decide) (by first | exact hR.1 _ _ | exact hR0.1 _ _ | assumption | exact ⟨by omega, by omega⟩ | exact ⟨by simp [wr_at]; omega, by simp [wr_at]; omega⟩ | exact b2_R _ | exact bC_R _ | exact band_R _ _ | exact bor_R _ _ | exact bshl_R _ _ | exact bshr_R _ _ | exact bxor_R _ _ | exact bs_R (by omega) | decide) ?_
      refine ev_w (fun hR => ?_)
      have hI3 := hI2.put (ix := (500 * x + 54)) (j := 54) (z := (ν2.1 79 31)) (by omega) (by omega) (by omega) (by rw [hI2.1 79 (by decide), imgE_f31])
      generalize wr ν2 132 (500 * x + 54) (ν2.1 79 31) = ν3 at *
      refine ev_aload_n dX8_keep_267 rfl ?_
      refine ev_getR (r := 132) dX8_keep_268 fl_X8_171 rfl rfl rfl ?_
      refine ev_iload_n dX8_keep_271 rfl ?_
      refine ev_bipush dX8_keep_272 (by decide) ?_
      refine ev_iadd dX8_keep_274 ?_
      refine ev_aload_n dX8_keep_275 rfl ?_
      refine ev_getI (kz := 34) dX8_keep_276 fl_X8_373 rfl rfl rfl ?_
      refine ev_iastore dX8_keep_279 rfl (by first | omega | (simp [wr_at]; omega) | (simp [wr_at, *]; omega)) (by first | omega | (simp [wr_at]; omega) | (simp [wr_at, *]; omega)) (by decide) (by first | exact hR.1 _ _ | exact hR0.1 _ _ | assumption | exact ⟨by omega, by omega⟩ | exact ⟨by simp [wr_at]; omega, by simp [wr_at]; omega⟩ | exact b2_R _ | exact bC_R _ | exact band_R _ _ | exact bor_R _ _ | exact bshl_R _ _ | exact bshr_R _ _ | exact bxor_R _ _ | exact bs_R (by omega) | decide) ?_
      refine ev_w (fun hR => ?_)
      have hI4 := hI3.put (ix := (500 * x + 55)) (j := 55) (z := (ν3.1 79 34)) (by omega) (by omega) (by omega) (by rw [hI3.1 79 (by decide), imgE_f34])
      generalize wr ν3 132 (500 * x + 55) (ν3.1 79 34) = ν4 at *
      refine ev_iconst dX8_keep_280 ?_
      refine ev_istore_n dX8_keep_281 rfl (by decide) rfl ?_
      exact hl3 0 (by omega) _ (hI4.mono (fun j hj => by omega))
    · refine ev_aload_n dX8_keep_95 rfl ?_
      refine ev_getR (r := 132) dX8_keep_96 fl_X8_171 rfl rfl rfl ?_
      refine ev_iload_n dX8_keep_99 rfl ?_
      refine ev_bipush dX8_keep_100 (by decide) ?_
      refine ev_iadd dX8_keep_102 ?_
      refine ev_iload_n dX8_keep_103 rfl ?_
      refine ev_iadd dX8_keep_104 ?_
      refine ev_aload_n dX8_keep_105 rfl ?_
      refine ev_getR (r := 98) dX8_keep_106 fl_X8_65 rfl rfl rfl ?_
      refine ev_iload_n dX8_keep_109 rfl ?_
      refine ev_iaload dX8_keep_110 rfl (by first | omega | (simp [wr_at]; omega) | (simp [wr_at, *]; omega)) (by first | omega | (simp [wr_at]; omega) | (simp [wr_at, *]; omega)) (by decide) ?_
      refine ev_iastore dX8_keep_111 rfl (by first | omega | (simp [wr_at]; omega) | (simp [wr_at, *]; omega)) (by first | omega | (simp [wr_at]; omega) | (simp [wr_at, *]; omega)) (by decide) (by first | exact hR.1 _ _ | exact hR0.1 _ _ | assumption | exact ⟨by omega, by omega⟩ | exact ⟨by simp [wr_at]; omega, by simp [wr_at]; omega⟩ | exact b2_R _ | exact bC_R _ | exact band_R _ _ | exact bor_R _ _ | exact bshl_R _ _ | exact bshr_R _ _ | exact bxor_R _ _ | exact bs_R (by omega) | decide) ?_
      refine ev_w (fun hR => ?_)
      have hI1 := hI.put (ix := (500 * x + 24 + (k : Int))) (j := (24 + (k : Int))) (z := (ν.1 98 (k : Int))) (by omega) (by omega) (by omega) (by rw [hI.1 98 (by decide), imgE_98 μ (by omega) (by omega)])
      generalize wr ν 132 (500 * x + 24 + (k : Int)) (ν.1 98 (k : Int)) = ν1 at *
      refine ev_aload_n dX8_keep_112 rfl ?_
      refine ev_getR (r := 132) dX8_keep_113 fl_X8_171 rfl rfl rfl ?_
      refine ev_iload_n dX8_keep_116 rfl ?_
      refine ev_bipush dX8_keep_117 (by decide) ?_
      refine ev_iadd dX8_keep_119 ?_
      refine ev_iload_n dX8_keep_120 rfl ?_
      refine ev_iadd dX8_keep_121 ?_
      refine ev_aload_n dX8_keep_122 rfl ?_
      refine ev_getR (r := 99) dX8_keep_123 fl_X8_68 rfl rfl rfl ?_
      refine ev_iload_n dX8_keep_126 rfl ?_
      refine ev_iaload dX8_keep_127 rfl (by first | omega | (simp [wr_at]; omega) | (simp [wr_at, *]; omega)) (by first | omega | (simp [wr_at]; omega) | (simp [wr_at, *]; omega)) (by decide) ?_
      refine ev_iastore dX8_keep_128 rfl (by first | omega | (simp [wr_at]; omega) | (simp [wr_at, *]; omega)) (by first | omega | (simp [wr_at]; omega) | (simp [wr_at, *]; omega)) (by decide) (by first | exact hR.1 _ _ | exact hR0.1 _ _ | assumption | exact ⟨by omega, by omega⟩ | exact ⟨by simp [wr_at]; omega, by simp [wr_at]; omega⟩ | exact b2_R _ | exact bC_R _ | exact band_R _ _ | exact bor_R _ _ | exact bshl_R _ _ | exact bshr_R _ _ | exact bxor_R _ _ | exact bs_R (by omega) | decide) ?_
      refine ev_w (fun hR => ?_)
      have hI2 := hI1.put (ix := (500 * x + 28 + (k : Int))) (j := (28 + (k : Int))) (z := (ν1.1 99 (k : Int))) (by omega) (by omega) (by omega) (by rw [hI1.1 99 (by decide), imgE_99 μ (by omega) (by omega)])
      generalize wr ν1 132 (500 * x + 28 + (k : Int)) (ν1.1 99 (k : Int)) = ν2 at *
      refine ev_aload_n dX8_keep_129 rfl ?_
      refine ev_getR (r := 132) dX8_keep_130 fl_X8_171 rfl rfl rfl ?_
      refine ev_iload_n dX8_keep_133 rfl ?_
      refine ev_bipush dX8_keep_134 (by decide) ?_
      refine ev_iadd dX8_keep_136 ?_
      refine ev_iload_n dX8_keep_137 rfl ?_
      refine ev_iadd dX8_keep_138 ?_
      refine ev_aload_n dX8_keep_139 rfl ?_
      refine ev_getR (r := 100) dX8_keep_140 fl_X8_71 rfl rfl rfl ?_
      refine ev_iload_n dX8_keep_143 rfl ?_
      refine ev_iaload dX8_keep_144 rfl (by first | omega | (simp [wr_at]; omega) | (simp [wr_at, *]; omega)) (by first | omega | (simp [wr_at]; omega) | (simp [wr_at, *]; omega)) (by decide) ?_
      refine ev_iastore dX8_keep_145 rfl (by first | omega | (simp [wr_at]; omega) | (simp [wr_at, *]; omega)) (by first | omega | (simp [wr_at]; omega) | (simp [wr_at, *]; omega)) (by decide) (by first | exact hR.1 _ _ | exact hR0.1 _ _ | assumption | exact ⟨by omega, by omega⟩ | exact ⟨by simp [wr_at]; omega, by simp [wr_at]; omega⟩ | exact b2_R _ | exact bC_R _ | exact band_R _ _ | exact bor_R _ _ | exact bshl_R _ _ | exact bshr_R _ _ | exact bxor_R _ _ | exact bs_R (by omega) | decide) ?_
      refine ev_w (fun hR => ?_)
      have hI3 := hI2.put (ix := (500 * x + 32 + (k : Int))) (j := (32 + (k : Int))) (z := (ν2.1 100 (k : Int))) (by omega) (by omega) (by omega) (by rw [hI2.1 100 (by decide), imgE_100 μ (by omega) (by omega)])
      generalize wr ν2 132 (500 * x + 32 + (k : Int)) (ν2.1 100 (k : Int)) = ν3 at *
      refine ev_aload_n dX8_keep_146 rfl ?_
      refine ev_getR (r := 132) dX8_keep_147 fl_X8_171 rfl rfl rfl ?_
      refine ev_iload_n dX8_keep_150 rfl ?_
      refine ev_bipush dX8_keep_151 (by decide) ?_
      refine ev_iadd dX8_keep_153 ?_
      refine ev_iload_n dX8_keep_154 rfl ?_
      refine ev_iadd dX8_keep_155 ?_
      refine ev_aload_n dX8_keep_156 rfl ?_
      refine ev_getR (r := 101) dX8_keep_157 fl_X8_74 rfl rfl rfl ?_
      refine ev_iload_n dX8_keep_160 rfl ?_
      refine ev_iaload dX8_keep_161 rfl (by first | omega | (simp [wr_at]; omega) | (simp [wr_at, *]; omega)) (by first | omega | (simp [wr_at]; omega) | (simp [wr_at, *]; omega)) (by decide) ?_
      refine ev_iastore dX8_keep_162 rfl (by first | omega | (simp [wr_at]; omega) | (simp [wr_at, *]; omega)) (by first | omega | (simp [wr_at]; omega) | (simp [wr_at, *]; omega)) (by decide) (by first | exact hR.1 _ _ | exact hR0.1 _ _ | assumption | exact ⟨by omega, by omega⟩ | exact ⟨by simp [wr_at]; omega, by simp [wr_at]; omega⟩ | exact b2_R _ | exact bC_R _ | exact band_R _ _ | exact bor_R _ _ | exact bshl_R _ _ | exact bshr_R _ _ | exact bxor_R _ _ | exact bs_R (by omega) | decide) ?_
      refine ev_w (fun hR => ?_)
      have hI4 := hI3.put (ix := (500 * x + 36 + (k : Int))) (j := (36 + (k : Int))) (z := (ν3.1 101 (k : Int))) (by omega) (by omega) (by omega) (by rw [hI3.1 101 (by decide), imgE_101 μ (by omega) (by omega)])
      generalize wr ν3 132 (500 * x + 36 + (k : Int)) (ν3.1 101 (k : Int)) = ν4 at *
      refine ev_aload_n dX8_keep_163 rfl ?_
      refine ev_getR (r := 132) dX8_keep_164 fl_X8_171 rfl rfl rfl ?_
      refine ev_iload_n dX8_keep_167 rfl ?_
      refine ev_bipush dX8_keep_168 (by decide) ?_
      refine ev_iadd dX8_keep_170 ?_
      refine ev_iload_n dX8_keep_171 rfl ?_
      refine ev_iadd dX8_keep_172 ?_
      refine ev_aload_n dX8_keep_173 rfl ?_
      refine ev_getR (r := 102) dX8_keep_174 fl_X8_77 rfl rfl rfl ?_
      refine ev_iload_n dX8_keep_177 rfl ?_
      refine ev_iaload dX8_keep_178 rfl (by first | omega | (simp [wr_at]; omega) | (simp [wr_at, *]; omega)) (by first | omega | (simp [wr_at]; omega) | (simp [wr_at, *]; omega)) (by decide) ?_
      refine ev_iastore dX8_keep_179 rfl (by first | omega | (simp [wr_at]; omega) | (simp [wr_at, *]; omega)) (by first | omega | (simp [wr_at]; omega) | (simp [wr_at, *]; omega)) (by decide) (by first | exact hR.1 _ _ | exact hR0.1 _ _ | assumption | exact ⟨by omega, by omega⟩ | exact ⟨by simp [wr_at]; omega, by simp [wr_at]; omega⟩ | exact b2_R _ | exact bC_R _ | exact band_R _ _ | exact bor_R _ _ | exact bshl_R _ _ | exact bshr_R _ _ | exact bxor_R _ _ | exact bs_R (by omega) | decide) ?_
      refine ev_w (fun hR => ?_)
      have hI5 := hI4.put (ix := (500 * x + 40 + (k : Int))) (j := (40 + (k : Int))) (z := (ν4.1 102 (k : Int))) (by omega) (by omega) (by omega) (by rw [hI4.1 102 (by decide), imgE_102 μ (by omega) (by omega)])
      generalize wr ν4 132 (500 * x + 40 + (k : Int)) (ν4.1 102 (k : Int)) = ν5 at *
      refine ev_aload_n dX8_keep_180 rfl ?_
      refine ev_getR (r := 132) dX8_keep_181 fl_X8_171 rfl rfl rfl ?_
      refine ev_iload_n dX8_keep_184 rfl ?_
      refine ev_bipush dX8_keep_185 (by decide) ?_
      refine ev_iadd dX8_keep_187 ?_
      refine ev_iload_n dX8_keep_188 rfl ?_
      refine ev_iadd dX8_keep_189 ?_
      refine ev_aload_n dX8_keep_190 rfl ?_
      refine ev_getR (r := 103) dX8_keep_191 fl_X8_80 rfl rfl rfl ?_
      refine ev_iload_n dX8_keep_194 rfl ?_
      refine ev_iaload dX8_keep_195 rfl (by first | omega | (simp [wr_at]; omega) | (simp [wr_at, *]; omega)) (by first | omega | (simp [wr_at]; omega) | (simp [wr_at, *]; omega)) (by decide) ?_
      refine ev_iastore dX8_keep_196 rfl (by first | omega | (simp [wr_at]; omega) | (simp [wr_at, *]; omega)) (by first | omega | (simp [wr_at]; omega) | (simp [wr_at, *]; omega)) (by decide) (by first | exact hR.1 _ _ | exact hR0.1 _ _ | assumption | exact ⟨by omega, by omega⟩ | exact ⟨by simp [wr_at]; omega, by simp [wr_at]; omega⟩ | exact b2_R _ | exact bC_R _ | exact band_R _ _ | exact bor_R _ _ | exact bshl_R _ _ | exact bshr_R _ _ | exact bxor_R _ _ | exact bs_R (by omega) | decide) ?_
      refine ev_w (fun hR => ?_)
      have hI6 := hI5.put (ix := (500 * x + 44 + (k : Int))) (j := (44 + (k : Int))) (z := (ν5.1 103 (k : Int))) (by omega) (by omega) (by omega) (by rw [hI5.1 103 (by decide), imgE_103 μ (by omega) (by omega)])
      generalize wr ν5 132 (500 * x + 44 + (k : Int)) (ν5.1 103 (k : Int)) = ν6 at *
      refine ev_aload_n dX8_keep_197 rfl ?_
      refine ev_getR (r := 132) dX8_keep_198 fl_X8_171 rfl rfl rfl ?_
      refine ev_iload_n dX8_keep_201 rfl ?_
      refine ev_bipush dX8_keep_202 (by decide) ?_
      refine ev_iadd dX8_keep_204 ?_
      refine ev_iload_n dX8_keep_205 rfl ?_
      refine ev_iadd dX8_keep_206 ?_
      refine ev_aload_n dX8_keep_207 rfl ?_
      refine ev_getR (r := 104) dX8_keep_208 fl_X8_83 rfl rfl rfl ?_
      refine ev_iload_n dX8_keep_211 rfl ?_
      refine ev_zaload dX8_keep_212 rfl (by first | omega | (simp [wr_at]; omega) | (simp [wr_at, *]; omega)) (by first | omega | (simp [wr_at]; omega) | (simp [wr_at, *]; omega)) (by decide) ?_
      refine ev_if_eq (tgt := 220) dX8_keep_213 (by decide) (by first | exact hR.1 _ _ | exact hR0.1 _ _ | assumption | exact ⟨by omega, by omega⟩ | exact ⟨by simp [wr_at]; omega, by simp [wr_at]; omega⟩ | exact b2_R _ | exact bC_R _ | exact band_R _ _ | exact bor_R _ _ | exact bshl_R _ _ | exact bshr_R _ _ | exact bxor_R _ _ | exact bs_R (by omega) | decide) (fun h_213 => ?_) (fun h_213 => ?_)
      · refine ev_iconst dX8_keep_220 ?_
        refine ev_iastore dX8_keep_221 rfl (by first | omega | (simp [wr_at]; omega) | (simp [wr_at, *]; omega)) (by first | omega | (simp [wr_at]; omega) | (simp [wr_at, *]; omega)) (by decide) (by first | exact hR.1 _ _ | exact hR0.1 _ _ | assumption | exact ⟨by omega, by omega⟩ | exact ⟨by simp [wr_at]; omega, by simp [wr_at]; omega⟩ | exact b2_R _ | exact bC_R _ | exact band_R _ _ | exact bor_R _ _ | exact bshl_R _ _ | exact bshr_R _ _ | exact bxor_R _ _ | exact bs_R (by omega) | decide) ?_
        refine ev_w (fun hR => ?_)
        refine ev_iinc dX8_keep_222 rfl rfl (by decide) rfl ?_
        refine ev_goto (tgt := 90) dX8_keep_225 (by decide) ?_
        first
          | (have hI7 := hI6.put (ix := (500 * x + 48 + (k : Int))) (j := (48 + (k : Int))) (z := 0) (by omega) (by omega) (by omega) (by
               rw [imgE_104 μ (by omega) (by omega), ← hI6.1 104 (by decide)]
               unfold bz
               rw [if_pos h_213])
             exact ih (by omega) _ (hI7.mono (fun j hj => by omega)))
          | (have hI7 := hI6.put (ix := (500 * x + 48 + (k : Int))) (j := (48 + (k : Int))) (z := 1) (by omega) (by omega) (by omega) (by
               rw [imgE_104 μ (by omega) (by omega), ← hI6.1 104 (by decide)]
               unfold bz
               rw [if_neg h_213])
             exact ih (by omega) _ (hI7.mono (fun j hj => by omega)))
      · refine ev_iconst dX8_keep_216 ?_
        refine ev_goto (tgt := 221) dX8_keep_217 (by decide) ?_
        refine ev_iastore dX8_keep_221 rfl (by first | omega | (simp [wr_at]; omega) | (simp [wr_at, *]; omega)) (by first | omega | (simp [wr_at]; omega) | (simp [wr_at, *]; omega)) (by decide) (by first | exact hR.1 _ _ | exact hR0.1 _ _ | assumption | exact ⟨by omega, by omega⟩ | exact ⟨by simp [wr_at]; omega, by simp [wr_at]; omega⟩ | exact b2_R _ | exact bC_R _ | exact band_R _ _ | exact bor_R _ _ | exact bshl_R _ _ | exact bshr_R _ _ | exact bxor_R _ _ | exact bs_R (by omega) | decide) ?_
        refine ev_w (fun hR => ?_)
        refine ev_iinc dX8_keep_222 rfl rfl (by decide) rfl ?_
        refine ev_goto (tgt := 90) dX8_keep_225 (by decide) ?_
        first
          | (have hI7 := hI6.put (ix := (500 * x + 48 + (k : Int))) (j := (48 + (k : Int))) (z := 0) (by omega) (by omega) (by omega) (by
               rw [imgE_104 μ (by omega) (by omega), ← hI6.1 104 (by decide)]
               unfold bz
               rw [if_pos h_213])
             exact ih (by omega) _ (hI7.mono (fun j hj => by omega)))
          | (have hI7 := hI6.put (ix := (500 * x + 48 + (k : Int))) (j := (48 + (k : Int))) (z := 1) (by omega) (by omega) (by omega) (by
               rw [imgE_104 μ (by omega) (by omega), ← hI6.1 104 (by decide)]
               unfold bz
               rw [if_neg h_213])
             exact ih (by omega) _ (hI7.mono (fun j hj => by omega)))
  have loop1 : (0 ≤ x ∧ x < 2) → ∀ k : Nat, k ≤ 12 → ∀ ν, Img μ ν (500 * x) (fun j => (0 ≤ j ∧ j < k) ∨ (12 ≤ j ∧ j < 12 + k)) → Ev RX8 cX8_keep 4 1 25 (fun v ν => if ¬ (0 ≤ x ∧ x < 2) then AnsI (-1000000001) μ v ν else AnsIP 1 (fun ν => ∃ ν0, Img μ ν0 (500 * x) (fun j => 0 ≤ j ∧ j < 456) ∧ ν = wr ν0 133 x 1) v ν) 22 [some (.ref 79), some (.int (iI x)), some (.int (iI (500 * x))), some (.int (iI (k : Nat)))] [] ν := by
    intro hx9
    refine for_up 12 (fun k hk ih => ?_)
    intro ν hI
    refine ev_w (fun hR => ?_)
    have hl2 := loop2 hx9
    refine ev_iload_n dX8_keep_22 rfl ?_
    refine ev_bipush dX8_keep_23 (by decide) ?_
    refine ev_icmp_ge (tgt := 88) dX8_keep_25 (by decide) (by first | exact hR.1 _ _ | exact hR0.1 _ _ | assumption | exact ⟨by omega, by omega⟩ | exact ⟨by simp [wr_at]; omega, by simp [wr_at]; omega⟩ | exact b2_R _ | exact bC_R _ | exact band_R _ _ | exact bor_R _ _ | exact bshl_R _ _ | exact bshr_R _ _ | exact bxor_R _ _ | exact bs_R (by omega) | decide) (by first | exact hR.1 _ _ | exact hR0.1 _ _ | assumption | exact ⟨by omega, by omega⟩ | exact ⟨by simp [wr_at]; omega, by simp [wr_at]; omega⟩ | exact b2_R _ | exact bC_R _ | exact band_R _ _ | exact bor_R _ _ | exact bshl_R _ _ | exact bshr_R _ _ | exact bxor_R _ _ | exact bs_R (by omega) | decide) (fun h_25 => ?_) (fun h_25 => ?_)
    · refine ev_iconst dX8_keep_88 ?_
      refine ev_istore_n dX8_keep_89 rfl (by decide) rfl ?_
      exact hl2 0 (by omega) _ (hI.mono (fun j hj => by omega))
    · refine ev_aload_n dX8_keep_28 rfl ?_
      refine ev_getR (r := 132) dX8_keep_29 fl_X8_171 rfl rfl rfl ?_
      refine ev_iload_n dX8_keep_32 rfl ?_
      refine ev_iload_n dX8_keep_33 rfl ?_
      refine ev_iadd dX8_keep_34 ?_
      refine ev_aload_n dX8_keep_35 rfl ?_
      refine ev_getR (r := 95) dX8_keep_36 fl_X8_55 rfl rfl rfl ?_
      refine ev_iload_n dX8_keep_39 rfl ?_
      refine ev_iaload dX8_keep_40 rfl (by first | omega | (simp [wr_at]; omega) | (simp [wr_at, *]; omega)) (by first | omega | (simp [wr_at]; omega) | (simp [wr_at, *]; omega)) (by decide) ?_
      refine ev_iastore dX8_keep_41 rfl (by first | omega | (simp [wr_at]; omega) | (simp [wr_at, *]; omega)) (by first | omega | (simp [wr_at]; omega) | (simp [wr_at, *]; omega)) (by decide) (by first | exact hR.1 _ _ | exact hR0.1 _ _ | assumption | exact ⟨by omega, by omega⟩ | exact ⟨by simp [wr_at]; omega, by simp [wr_at]; omega⟩ | exact b2_R _ | exact bC_R _ | exact band_R _ _ | exact bor_R _ _ | exact bshl_R _ _ | exact bshr_R _ _ | exact bxor_R _ _ | exact bs_R (by omega) | decide) ?_
      refine ev_w (fun hR => ?_)
      have hI1 := hI.put (ix := (500 * x + (k : Int))) (j := ((k : Int))) (z := (ν.1 95 (k : Int))) (by omega) (by omega) (by omega) (by rw [hI.1 95 (by decide), imgE_95 μ (by omega) (by omega)])
      generalize wr ν 132 (500 * x + (k : Int)) (ν.1 95 (k : Int)) = ν1 at *
      refine ev_aload_n dX8_keep_42 rfl ?_
      refine ev_getR (r := 132) dX8_keep_43 fl_X8_171 rfl rfl rfl ?_
      refine ev_iload_n dX8_keep_46 rfl ?_
      refine ev_bipush dX8_keep_47 (by decide) ?_
      refine ev_iadd dX8_keep_49 ?_
      refine ev_iload_n dX8_keep_50 rfl ?_
      refine ev_iadd dX8_keep_51 ?_
      refine ev_aload_n dX8_keep_52 rfl ?_
      refine ev_getR (r := 96) dX8_keep_53 fl_X8_58 rfl rfl rfl ?_
      refine ev_iload_n dX8_keep_56 rfl ?_
      refine ev_zaload dX8_keep_57 rfl (by first | omega | (simp [wr_at]; omega) | (simp [wr_at, *]; omega)) (by first | omega | (simp [wr_at]; omega) | (simp [wr_at, *]; omega)) (by decide) ?_
      refine ev_if_eq (tgt := 65) dX8_keep_58 (by decide) (by first | exact hR.1 _ _ | exact hR0.1 _ _ | assumption | exact ⟨by omega, by omega⟩ | exact ⟨by simp [wr_at]; omega, by simp [wr_at]; omega⟩ | exact b2_R _ | exact bC_R _ | exact band_R _ _ | exact bor_R _ _ | exact bshl_R _ _ | exact bshr_R _ _ | exact bxor_R _ _ | exact bs_R (by omega) | decide) (fun h_58 => ?_) (fun h_58 => ?_)
      · refine ev_iconst dX8_keep_65 ?_
        refine ev_aload_n dX8_keep_66 rfl ?_
        refine ev_getR (r := 97) dX8_keep_67 fl_X8_62 rfl rfl rfl ?_
        refine ev_iload_n dX8_keep_70 rfl ?_
        refine ev_zaload dX8_keep_71 rfl (by first | omega | (simp [wr_at]; omega) | (simp [wr_at, *]; omega)) (by first | omega | (simp [wr_at]; omega) | (simp [wr_at, *]; omega)) (by decide) ?_
        refine ev_if_eq (tgt := 79) dX8_keep_72 (by decide) (by first | exact hR.1 _ _ | exact hR0.1 _ _ | assumption | exact ⟨by omega, by omega⟩ | exact ⟨by simp [wr_at]; omega, by simp [wr_at]; omega⟩ | exact b2_R _ | exact bC_R _ | exact band_R _ _ | exact bor_R _ _ | exact bshl_R _ _ | exact bshr_R _ _ | exact bxor_R _ _ | exact bs_R (by omega) | decide) (fun h_72 => ?_) (fun h_72 => ?_)
        · refine ev_iconst dX8_keep_79 ?_
          refine ev_iadd dX8_keep_80 ?_
          refine ev_iastore dX8_keep_81 rfl (by first | omega | (simp [wr_at]; omega) | (simp [wr_at, *]; omega)) (by first | omega | (simp [wr_at]; omega) | (simp [wr_at, *]; omega)) (by decide) (by first | exact hR.1 _ _ | exact hR0.1 _ _ | assumption | exact ⟨by omega, by omega⟩ | exact ⟨by simp [wr_at]; omega, by simp [wr_at]; omega⟩ | exact b2_R _ | exact bC_R _ | exact band_R _ _ | exact bor_R _ _ | exact bshl_R _ _ | exact bshr_R _ _ | exact bxor_R _ _ | exact bs_R (by omega) | decide) ?_
          refine ev_w (fun hR => ?_)
          refine ev_iinc dX8_keep_82 rfl rfl (by decide) rfl ?_
          refine ev_goto (tgt := 22) dX8_keep_85 (by decide) ?_
          first
            | (have hI2 := hI1.put (ix := (500 * x + 12 + (k : Int))) (j := (12 + (k : Int))) (z := 0 + 0) (by omega) (by omega) (by omega) (by
                 rw [imgE_96 μ (by omega) (by omega), ← hI1.1 96 (by decide), ← hI1.1 97 (by decide)]
                 unfold bz
                 rw [if_pos h_58, if_pos h_72]
                 rfl)
               exact ih (by omega) _ (hI2.mono (fun j hj => by omega)))
            | (have hI2 := hI1.put (ix := (500 * x + 12 + (k : Int))) (j := (12 + (k : Int))) (z := 0 + 2) (by omega) (by omega) (by omega) (by
                 rw [imgE_96 μ (by omega) (by omega), ← hI1.1 96 (by decide), ← hI1.1 97 (by decide)]
                 unfold bz
                 rw [if_pos h_58, if_neg h_72]
                 rfl)
               exact ih (by omega) _ (hI2.mono (fun j hj => by omega)))
            | (have hI2 := hI1.put (ix := (500 * x + 12 + (k : Int))) (j := (12 + (k : Int))) (z := 1 + 0) (by omega) (by omega) (by omega) (by
                 rw [imgE_96 μ (by omega) (by omega), ← hI1.1 96 (by decide), ← hI1.1 97 (by decide)]
                 unfold bz
                 rw [if_neg h_58, if_pos h_72]
                 rfl)
               exact ih (by omega) _ (hI2.mono (fun j hj => by omega)))
            | (have hI2 := hI1.put (ix := (500 * x + 12 + (k : Int))) (j := (12 + (k : Int))) (z := 1 + 2) (by omega) (by omega) (by omega) (by
                 rw [imgE_96 μ (by omega) (by omega), ← hI1.1 96 (by decide), ← hI1.1 97 (by decide)]
                 unfold bz
                 rw [if_neg h_58, if_neg h_72]
                 rfl)
               exact ih (by omega) _ (hI2.mono (fun j hj => by omega)))
        · refine ev_iconst dX8_keep_75 ?_
          refine ev_goto (tgt := 80) dX8_keep_76 (by decide) ?_
          refine ev_iadd dX8_keep_80 ?_
          refine ev_iastore dX8_keep_81 rfl (by first | omega | (simp [wr_at]; omega) | (simp [wr_at, *]; omega)) (by first | omega | (simp [wr_at]; omega) | (simp [wr_at, *]; omega)) (by decide) (by first | exact hR.1 _ _ | exact hR0.1 _ _ | assumption | exact ⟨by omega, by omega⟩ | exact ⟨by simp [wr_at]; omega, by simp [wr_at]; omega⟩ | exact b2_R _ | exact bC_R _ | exact band_R _ _ | exact bor_R _ _ | exact bshl_R _ _ | exact bshr_R _ _ | exact bxor_R _ _ | exact bs_R (by omega) | decide) ?_
          refine ev_w (fun hR => ?_)
          refine ev_iinc dX8_keep_82 rfl rfl (by decide) rfl ?_
          refine ev_goto (tgt := 22) dX8_keep_85 (by decide) ?_
          first
            | (have hI2 := hI1.put (ix := (500 * x + 12 + (k : Int))) (j := (12 + (k : Int))) (z := 0 + 0) (by omega) (by omega) (by omega) (by
                 rw [imgE_96 μ (by omega) (by omega), ← hI1.1 96 (by decide), ← hI1.1 97 (by decide)]
                 unfold bz
                 rw [if_pos h_58, if_pos h_72]
                 rfl)
               exact ih (by omega) _ (hI2.mono (fun j hj => by omega)))
            | (have hI2 := hI1.put (ix := (500 * x + 12 + (k : Int))) (j := (12 + (k : Int))) (z := 0 + 2) (by omega) (by omega) (by omega) (by
                 rw [imgE_96 μ (by omega) (by omega), ← hI1.1 96 (by decide), ← hI1.1 97 (by decide)]
                 unfold bz
                 rw [if_pos h_58, if_neg h_72]
                 rfl)
               exact ih (by omega) _ (hI2.mono (fun j hj => by omega)))
            | (have hI2 := hI1.put (ix := (500 * x + 12 + (k : Int))) (j := (12 + (k : Int))) (z := 1 + 0) (by omega) (by omega) (by omega) (by
                 rw [imgE_96 μ (by omega) (by omega), ← hI1.1 96 (by decide), ← hI1.1 97 (by decide)]
                 unfold bz
                 rw [if_neg h_58, if_pos h_72]
                 rfl)
               exact ih (by omega) _ (hI2.mono (fun j hj => by omega)))
            | (have hI2 := hI1.put (ix := (500 * x + 12 + (k : Int))) (j := (12 + (k : Int))) (z := 1 + 2) (by omega) (by omega) (by omega) (by
                 rw [imgE_96 μ (by omega) (by omega), ← hI1.1 96 (by decide), ← hI1.1 97 (by decide)]
                 unfold bz
                 rw [if_neg h_58, if_neg h_72]
                 rfl)
               exact ih (by omega) _ (hI2.mono (fun j hj => by omega)))
      · refine ev_iconst dX8_keep_61 ?_
        refine ev_goto (tgt := 66) dX8_keep_62 (by decide) ?_
        refine ev_aload_n dX8_keep_66 rfl ?_
        refine ev_getR (r := 97) dX8_keep_67 fl_X8_62 rfl rfl rfl ?_
        refine ev_iload_n dX8_keep_70 rfl ?_
        refine ev_zaload dX8_keep_71 rfl (by first | omega | (simp [wr_at]; omega) | (simp [wr_at, *]; omega)) (by first | omega | (simp [wr_at]; omega) | (simp [wr_at, *]; omega)) (by decide) ?_
        refine ev_if_eq (tgt := 79) dX8_keep_72 (by decide) (by first | exact hR.1 _ _ | exact hR0.1 _ _ | assumption | exact ⟨by omega, by omega⟩ | exact ⟨by simp [wr_at]; omega, by simp [wr_at]; omega⟩ | exact b2_R _ | exact bC_R _ | exact band_R _ _ | exact bor_R _ _ | exact bshl_R _ _ | exact bshr_R _ _ | exact bxor_R _ _ | exact bs_R (by omega) | decide) (fun h_72 => ?_) (fun h_72 => ?_)
        · refine ev_iconst dX8_keep_79 ?_
          refine ev_iadd dX8_keep_80 ?_
          refine ev_iastore dX8_keep_81 rfl (by first | omega | (simp [wr_at]; omega) | (simp [wr_at, *]; omega)) (by first | omega | (simp [wr_at]; omega) | (simp [wr_at, *]; omega)) (by decide) (by first | exact hR.1 _ _ | exact hR0.1 _ _ | assumption | exact ⟨by omega, by omega⟩ | exact ⟨by simp [wr_at]; omega, by simp [wr_at]; omega⟩ | exact b2_R _ | exact bC_R _ | exact band_R _ _ | exact bor_R _ _ | exact bshl_R _ _ | exact bshr_R _ _ | exact bxor_R _ _ | exact bs_R (by omega) | decide) ?_
          refine ev_w (fun hR => ?_)
          refine ev_iinc dX8_keep_82 rfl rfl (by decide) rfl ?_
          refine ev_goto (tgt := 22) dX8_keep_85 (by decide) ?_
          first
            | (have hI2 := hI1.put (ix := (500 * x + 12 + (k : Int))) (j := (12 + (k : Int))) (z := 0 + 0) (by omega) (by omega) (by omega) (by
                 rw [imgE_96 μ (by omega) (by omega), ← hI1.1 96 (by decide), ← hI1.1 97 (by decide)]
                 unfold bz
                 rw [if_pos h_58, if_pos h_72]
                 rfl)
               exact ih (by omega) _ (hI2.mono (fun j hj => by omega)))
            | (have hI2 := hI1.put (ix := (500 * x + 12 + (k : Int))) (j := (12 + (k : Int))) (z := 0 + 2) (by omega) (by omega) (by omega) (by
                 rw [imgE_96 μ (by omega) (by omega), ← hI1.1 96 (by decide), ← hI1.1 97 (by decide)]
                 unfold bz
                 rw [if_pos h_58, if_neg h_72]
                 rfl)
               exact ih (by omega) _ (hI2.mono (fun j hj => by omega)))
            | (have hI2 := hI1.put (ix := (500 * x + 12 + (k : Int))) (j := (12 + (k : Int))) (z := 1 + 0) (by omega) (by omega) (by omega) (by
                 rw [imgE_96 μ (by omega) (by omega), ← hI1.1 96 (by decide), ← hI1.1 97 (by decide)]
                 unfold bz
                 rw [if_neg h_58, if_pos h_72]
                 rfl)
               exact ih (by omega) _ (hI2.mono (fun j hj => by omega)))
            | (have hI2 := hI1.put (ix := (500 * x + 12 + (k : Int))) (j := (12 + (k : Int))) (z := 1 + 2) (by omega) (by omega) (by omega) (by
                 rw [imgE_96 μ (by omega) (by omega), ← hI1.1 96 (by decide), ← hI1.1 97 (by decide)]
                 unfold bz
                 rw [if_neg h_58, if_neg h_72]
                 rfl)
               exact ih (by omega) _ (hI2.mono (fun j hj => by omega)))
        · refine ev_iconst dX8_keep_75 ?_
          refine ev_goto (tgt := 80) dX8_keep_76 (by decide) ?_
          refine ev_iadd dX8_keep_80 ?_
          refine ev_iastore dX8_keep_81 rfl (by first | omega | (simp [wr_at]; omega) | (simp [wr_at, *]; omega)) (by first | omega | (simp [wr_at]; omega) | (simp [wr_at, *]; omega)) (by decide) (by first | exact hR.1 _ _ | exact hR0.1 _ _ | assumption | exact ⟨by omega, by omega⟩ | exact ⟨by simp [wr_at]; omega, by simp [wr_at]; omega⟩ | exact b2_R _ | exact bC_R _ | exact band_R _ _ | exact bor_R _ _ | exact bshl_R _ _ | exact bshr_R _ _ | exact bxor_R _ _ | exact bs_R (by omega) | decide) ?_
          refine ev_w (fun hR => ?_)
          refine ev_iinc dX8_keep_82 rfl rfl (by decide) rfl ?_
          refine ev_goto (tgt := 22) dX8_keep_85 (by decide) ?_
          first
            | (have hI2 := hI1.put (ix := (500 * x + 12 + (k : Int))) (j := (12 + (k : Int))) (z := 0 + 0) (by omega) (by omega) (by omega) (by
                 rw [imgE_96 μ (by omega) (by omega), ← hI1.1 96 (by decide), ← hI1.1 97 (by decide)]
                 unfold bz
                 rw [if_pos h_58, if_pos h_72]
                 rfl)
               exact ih (by omega) _ (hI2.mono (fun j hj => by omega)))
            | (have hI2 := hI1.put (ix := (500 * x + 12 + (k : Int))) (j := (12 + (k : Int))) (z := 0 + 2) (by omega) (by omega) (by omega) (by
                 rw [imgE_96 μ (by omega) (by omega), ← hI1.1 96 (by decide), ← hI1.1 97 (by decide)]
                 unfold bz
                 rw [if_pos h_58, if_neg h_72]
                 rfl)
               exact ih (by omega) _ (hI2.mono (fun j hj => by omega)))
            | (have hI2 := hI1.put (ix := (500 * x + 12 + (k : Int))) (j := (12 + (k : Int))) (z := 1 + 0) (by omega) (by omega) (by omega) (by
                 rw [imgE_96 μ (by omega) (by omega), ← hI1.1 96 (by decide), ← hI1.1 97 (by decide)]
                 unfold bz
                 rw [if_neg h_58, if_pos h_72]
                 rfl)
               exact ih (by omega) _ (hI2.mono (fun j hj => by omega)))
            | (have hI2 := hI1.put (ix := (500 * x + 12 + (k : Int))) (j := (12 + (k : Int))) (z := 1 + 2) (by omega) (by omega) (by omega) (by
                 rw [imgE_96 μ (by omega) (by omega), ← hI1.1 96 (by decide), ← hI1.1 97 (by decide)]
                 unfold bz
                 rw [if_neg h_58, if_neg h_72]
                 rfl)
               exact ih (by omega) _ (hI2.mono (fun j hj => by omega)))
  refine ev_iload_n dX8_keep_0 rfl ?_
  refine ev_i2l dX8_keep_1 hx ?_
  refine ev_lconst (z := 0) dX8_keep_2 (by decide) ?_
  refine ev_lconst (z := 1) dX8_keep_3 (by decide) ?_
  refine ev_callSI dX8_keep_4 ks_X8_180 (m_in μ x 0 1 ⟨by omega, by omega⟩ (by decide) (by decide)) rfl rfl ⟨by decide, by decide⟩ (Nat.le_of_ble_eq_true rfl) ?_
  refine ev_w (fun hR => ?_)
  refine ev_if_ne (tgt := 14) dX8_keep_7 (by decide) (by first | exact hR.1 _ _ | exact hR0.1 _ _ | assumption | exact ⟨by omega, by omega⟩ | exact ⟨by simp [wr_at]; omega, by simp [wr_at]; omega⟩ | exact b2_R _ | exact bC_R _ | exact band_R _ _ | exact bor_R _ _ | exact bshl_R _ _ | exact bshr_R _ _ | exact bxor_R _ _ | exact bs_R (by omega) | decide) (fun h_7 => ?_) (fun h_7 => ?_)
  · refine ev_sipush dX8_keep_14 (by decide) ?_
    refine ev_iload_n dX8_keep_17 rfl ?_
    refine ev_imul dX8_keep_18 ?_
    refine ev_istore_n dX8_keep_19 rfl (by decide) rfl ?_
    refine ev_iconst dX8_keep_20 ?_
    refine ev_istore_n dX8_keep_21 rfl (by decide) rfl ?_
    have q := b2_ne h_7
    exact loop1 ⟨by omega, by omega⟩ 0 (by omega) μ ⟨fun _ _ => rfl, rfl, fun _ _ => rfl, fun j hj => by omega⟩
  · refine ev_ldcw (z := -1000000001) dX8_keep_10 kc_X8_316 (by decide) ?_
    refine ev_ireturn dX8_keep_13 ?_
    have q := b2_eq (by omega : b2 (0 ≤ x ∧ x ≤ 1) = 0)
    rw [if_pos (by omega)]
    exact ⟨rfl, rfl⟩
