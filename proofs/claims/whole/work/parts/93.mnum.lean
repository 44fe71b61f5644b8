/-- only the numbers' fields differ -/
def NS (μ ν : Mem) : Prop := (∀ q, q ≠ 79 → ν.1 q = μ.1 q) ∧ ∀ k : Int, k ≠ 37 → k ≠ 38 → k ≠ 41 → k ≠ 42 → ν.1 79 k = μ.1 79 k
theorem NS.wf {μ ν : Mem} (h : NS μ ν) {k : Int} (z : Int) (hk : k = 37 ∨ k = 38 ∨ k = 41 ∨ k = 42) : NS μ (wr ν 79 k z) := by
  refine ⟨fun q hq => ?_, fun k9 h1 h2 h3 h4 => ?_⟩
  · rw [← h.1 q hq]; funext k9; exact wr_nec _ hq
  · rw [wr_nek _ (by omega)]; exact h.2 k9 h1 h2 h3 h4
/-- where a fault is, and the place read to -/
def FA (ν : Mem) (w : Nat) : Prop := ν.1 79 37 = w ∧ 0 ≤ ν.1 79 38 ∧ ν.1 79 38 ≤ 500
theorem FA.mk {ν : Mem} {w j : Nat} (h : ν.1 79 38 = j) (hj : j ≤ 500) : FA (wr ν 79 37 (w : Int)) w := by
  refine ⟨wr_eq _ _ _ _, ?_, ?_⟩ <;> rw [wr_nek _ (by decide)] <;> omega
theorem FA.wf {ν : Mem} {w : Nat} (h : FA ν w) {k : Int} (z : Int) (h1 : k ≠ 37) (h2 : k ≠ 38) : FA (wr ν 79 k z) w := by
  unfold FA
  rw [wr_nek _ (by omega), wr_nek _ (by omega)]
  exact h
theorem FA.wq {ν : Mem} {w : Nat} (h : FA ν w) {q : Nat} (k z : Int) (h1 : q ≠ 79) : FA (wr ν q k z) w := by
  unfold FA
  rw [wr_nec _ (by omega), wr_nec _ (by omega)]
  exact h
/-- what takeNumber answers and leaves -/
def NumM (μ : Mem) (R : NRes) (z : Int) (ν : Mem) : Prop := (∃ (f : Int) (w : Nat), R = .inl (f, w) ∧ z = f ∧ 0 < f ∧ f ≤ 4 ∧ NS μ ν ∧ FA ν w) ∨ ∃ (x : Int) (a e : Nat), R = .inr (x, a, e) ∧ z = 0 ∧ NS μ ν ∧ ν.1 79 37 = μ.1 79 37 ∧ ν.1 79 38 = e ∧ ν.1 79 41 = x ∧ ν.1 79 42 = a
def nv (c : Nat → Int) (a : Nat) : Nat → Int
  | 0 => 0
  | k + 1 => if 10000 < nv c a k then nv c a k else 10 * nv c a k + c (a + k) - 48
theorem nv_R {c : Nat → Int} {a : Nat} : ∀ n, (∀ k, k < n → 48 ≤ c (a + k) ∧ c (a + k) ≤ 57) → 0 ≤ nv c a n ∧ nv c a n ≤ 100009 := by
  intro n
  induction n with
  | zero => intro _; rw [nv]; decide
  | succ n ih =>
    intro h
    have i := ih (fun k hk => h k (by omega))
    have hn := h n (by omega)
    rw [nv]
    split <;> omega
theorem nv_dv {c : Nat → Int} {a : Nat} : ∀ n, n ≤ 3 → (∀ k, k < n → 48 ≤ c (a + k) ∧ c (a + k) ≤ 57) → nv c a n = dv c a n := by
  intro n hn h
  have key : ∀ m, m ≤ n → nv c a m = dv c a m ∧ 0 ≤ nv c a m ∧ nv c a m < 10 ^ m := by
    intro m
    induction m with
    | zero => intro _; exact ⟨rfl, by rw [nv]; decide, by rw [nv]; decide⟩
    | succ m ih =>
      intro hm
      obtain ⟨i1, i2, i3⟩ := ih (by omega)
      have hh := h m (by omega)
      have h3 : (10 : Int) ^ m ≤ 1000 := by
        rcases (by omega : m = 0 ∨ m = 1 ∨ m = 2) with rfl | rfl | rfl <;> decide
      have e : (10 : Int) ^ (m + 1) = 10 ^ m * 10 := Int.pow_succ 10 m
      rw [nv, if_neg (by omega), e, dv, ← i1]
      omega
  exact (key n (Nat.le_refl _)).1
set_option maxHeartbeats 2000000 in
theorem m_takeNumber (μ : Mem) (c : Nat → Int) (L i : Nat) (hT : TX μ c L) (hi : μ.1 79 38 = i) (hiL : i ≤ L) (lo hi2 : Int) (hlo : inR lo) (hhi : inR hi2) : Con yX8_takeNumber cX8_takeNumber 4 (some .int) 1 25 [.ref 79, .int (iI lo), .int (iI hi2)] μ (AnsQ (NumM μ (numR c L lo hi2 i))) := by
  refine con_of (by decide) rfl (Nat.le_of_ble_eq_true rfl) (ok_Q rfl) ?_
  refine ev_w (fun hR => ?_)
  have hR0 := hR
  have hT0 := hT
  obtain ⟨hL, hL5, htx⟩ := hT
  have hs2 : sk c L i ≤ L := scan_le hiL
  have hnum : numR c L lo hi2 i = if scan (isD c) L (sk c L i) = sk c L i then .inl (1, sk c L i) else if scan (isD c) L (sk c L i) - sk c L i ≤ 3 ∧ lo ≤ dv c (sk c L i) (scan (isD c) L (sk c L i) - sk c L i) ∧ dv c (sk c L i) (scan (isD c) L (sk c L i) - sk c L i) ≤ hi2 then .inr (dv c (sk c L i) (scan (isD c) L (sk c L i) - sk c L i), sk c L i, scan (isD c) L (sk c L i)) else .inl (2, sk c L i) := rfl
  have hher : herV μ c L i = if sk c L i < L then μ.1 107 (sk c L i : Nat) else -1 := rfl
  have hq9 := m_here μ c L i hT0 hi hiL
  generalize ha : sk c L i = a at *
  generalize hv9 : herV μ c L i = h9 at *
  have hh9 : -1 ≤ h9 ∧ h9 ≤ 255 := by
    rw [hher]
    split
    next q => have t := htx a q; omega
    next => omega
  have loop : (a < L ∧ isD c a = true) → ∀ j : Nat, j ≤ L → a ≤ j → scan (isD c) L j = scan (isD c) L a → ∀ ν, (NS μ ν ∧ ν.1 79 37 = μ.1 79 37 ∧ ν.1 79 38 = j ∧ ν.1 79 41 = nv c a (j - a) ∧ ν.1 79 42 = a) → ∀ x3, Ev RX8 cX8_takeNumber 4 1 25 (AnsQ (NumM μ (numR c L lo hi2 i))) 42 [some (.ref 79), some (.int (iI lo)), some (.int (iI hi2)), x3] [] ν := by
    intro hfirst
    refine for_up L (fun j hj ih => ?_)
    intro haj hsk ν hν x3
    refine ev_w (fun hR => ?_)
    obtain ⟨n1, n2, n3, n4, n5⟩ := id hν
    have e2 : ν.1 79 36 = (L : Int) := by rw [n1.2 _ (by decide) (by decide) (by decide) (by decide)]; exact hL
    have e3 : ∀ k, ν.1 107 k = μ.1 107 k := fun k => by rw [n1.1 107 (by decide)]
    have hin : ∀ q, a ≤ q → q < j → isD c q = true := fun q h1 h2 => scan_in h1 (by rw [← hsk]; exact Nat.lt_of_lt_of_le h2 (scan_ge _ _ _))
    have hdg : ∀ k, k < j - a → 48 ≤ c (a + k) ∧ c (a + k) ≤ 57 := fun k hk => of_decide_eq_true (hin (a + k) (by omega) (by omega))
    have hnR := nv_R (c := c) (a := a) (j - a) hdg
    have hsu : nv c a (j + 1 - a) = if 10000 < nv c a (j - a) then nv c a (j - a) else 10 * nv c a (j - a) + c j - 48 := by
      rw [show j + 1 - a = (j - a) + 1 by omega, nv, show a + (j - a) = j by omega]
    refine ev_aload_n dX8_takeNumber_42 rfl ?_
    refine ev_getI (kz := 38) dX8_takeNumber_43 fl_X8_211 rfl rfl rfl ?_
    rw [n3]
    refine ev_aload_n dX8_takeNumber_46 rfl ?_
    refine ev_getI (kz := 36) dX8_takeNumber_47 fl_X8_205 rfl rfl rfl ?_
    rw [e2]
    refine ev_icmp_ge (tgt := 129) dX8_takeNumber_50 (by decide) (by first | exact hR.1 _ _ | exact hR0.1 _ _ | assumption | exact ⟨by omega, by omega⟩ | exact ⟨by simp [wr_at]; omega, by simp [wr_at]; omega⟩ | exact b2_R _ | exact bC_R _ | exact band_R _ _ | exact bor_R _ _ | exact bshl_R _ _ | exact bshr_R _ _ | exact bxor_R _ _ | exact bs_R (by omega) | decide) (by first | exact hR.1 _ _ | exact hR0.1 _ _ | assumption | exact ⟨by omega, by omega⟩ | exact ⟨by simp [wr_at]; omega, by simp [wr_at]; omega⟩ | exact b2_R _ | exact bC_R _ | exact band_R _ _ | exact bor_R _ _ | exact bshl_R _ _ | exact bshr_R _ _ | exact bxor_R _ _ | exact bs_R (by omega) | decide) (fun h_50 => ?_) (fun h_50 => ?_)
    · have hst : scan (isD c) L j = j := by
        refine scan_stop ?_
        first
          | exact Or.inl (by omega)
          | (refine Or.inr (decide_eq_false (fun z => b2_eq h_72 ?_))
             have t := htx j (by omega)
             rw [← t.2.2] at z
             exact (sg_d t.1 t.2.1 (by decide) (by decide)).mp z)
      rw [hsk] at hst
      have hja : a < j := by
        refine Classical.byContradiction (fun hn => ?_)
        have e9 : j = a := by omega
        rw [e9] at hst
        rw [scan_go hfirst.1 hfirst.2] at hst
        have := scan_ge (isD c) L (a + 1)
        omega
      rw [hst, if_neg (by omega)] at hnum
      refine ev_aload_n dX8_takeNumber_129 rfl ?_
      refine ev_getI (kz := 38) dX8_takeNumber_130 fl_X8_211 rfl rfl rfl ?_
      rw [n3]
      refine ev_aload_n dX8_takeNumber_133 rfl ?_
      refine ev_getI (kz := 42) dX8_takeNumber_134 fl_X8_245 rfl rfl rfl ?_
      rw [n5]
      refine ev_isub dX8_takeNumber_137 ?_
      refine ev_iconst dX8_takeNumber_138 ?_
      refine ev_icmp_gt (tgt := 157) dX8_takeNumber_139 (by decide) ⟨by omega, by omega⟩ ⟨by omega, by omega⟩ (fun h_139 => ?_) (fun h_139 => ?_)
      · refine ev_aload_n dX8_takeNumber_157 rfl ?_
        refine ev_iconst dX8_takeNumber_158 ?_
        refine ev_aload_n dX8_takeNumber_159 rfl ?_
        refine ev_getI (kz := 42) dX8_takeNumber_160 fl_X8_245 rfl rfl rfl ?_
        rw [n5]
        refine ev_callVI dX8_takeNumber_163 kv_X8_241 (m_fails ν 2 a (by decide) ⟨by omega, by omega⟩) rfl rfl (ci := 8) rfl rfl ⟨by decide, by decide⟩ (Nat.le_of_ble_eq_true rfl) ?_
        refine ev_w (fun hR => ?_)
        refine ev_goto (tgt := 170) dX8_takeNumber_166 (by decide) ?_
        refine ev_ireturn dX8_takeNumber_170 ?_
        first
          | (have hno : ¬ (j - a ≤ 3 ∧ lo ≤ dv c a (j - a) ∧ dv c a (j - a) ≤ hi2) := by
               intro z
               have ed := nv_dv (c := c) (a := a) (j - a) z.1 hdg
               first
                 | omega
                 | (have y := b2_eq h_154; rw [ed] at y; exact y z.2)
             rw [if_neg hno] at hnum
             refine ⟨2, rfl, Or.inl ⟨2, a, hnum, rfl, by decide, by decide, n1.wf _ (by decide), ?_⟩⟩
             exact FA.mk n3 (by omega))
          | (have y := b2_ne h_154
             have ed := nv_dv (c := c) (a := a) (j - a) (by omega) hdg
             rw [ed] at y
             rw [if_pos ⟨by omega, y⟩] at hnum
             refine ⟨0, rfl, Or.inr ⟨_, a, j, hnum, rfl, n1, n2, n3, ?_, n5⟩⟩
             rw [n4, ed])
      · refine ev_aload_n dX8_takeNumber_142 rfl ?_
        refine ev_getI (kz := 41) dX8_takeNumber_143 fl_X8_248 rfl rfl rfl ?_
        rw [n4]
        refine ev_i2l dX8_takeNumber_146 ⟨by omega, by omega⟩ ?_
        refine ev_iload_n dX8_takeNumber_147 rfl ?_
        refine ev_i2l dX8_takeNumber_148 hlo ?_
        refine ev_iload_n dX8_takeNumber_149 rfl ?_
        refine ev_i2l dX8_takeNumber_150 hhi ?_
        refine ev_callSI dX8_takeNumber_151 ks_X8_180 (m_in ν (nv c a (j - a)) lo hi2 ⟨by omega, by omega⟩ ⟨by omega, by omega⟩ ⟨by omega, by omega⟩) rfl rfl ⟨by decide, by decide⟩ (Nat.le_of_ble_eq_true rfl) ?_
        refine ev_w (fun hR => ?_)
        refine ev_if_ne (tgt := 169) dX8_takeNumber_154 (by decide) (by first | exact hR.1 _ _ | exact hR0.1 _ _ | assumption | exact ⟨by omega, by omega⟩ | exact ⟨by simp [wr_at]; omega, by simp [wr_at]; omega⟩ | exact b2_R _ | exact bC_R _ | exact band_R _ _ | exact bor_R _ _ | exact bshl_R _ _ | exact bshr_R _ _ | exact bxor_R _ _ | exact bs_R (by omega) | decide) (fun h_154 => ?_) (fun h_154 => ?_)
        · refine ev_iconst dX8_takeNumber_169 ?_
          refine ev_ireturn dX8_takeNumber_170 ?_
          first
            | (have hno : ¬ (j - a ≤ 3 ∧ lo ≤ dv c a (j - a) ∧ dv c a (j - a) ≤ hi2) := by
                 intro z
                 have ed := nv_dv (c := c) (a := a) (j - a) z.1 hdg
                 first
                   | omega
                   | (have y := b2_eq h_154; rw [ed] at y; exact y z.2)
               rw [if_neg hno] at hnum
               refine ⟨2, rfl, Or.inl ⟨2, a, hnum, rfl, by decide, by decide, n1.wf _ (by decide), ?_⟩⟩
               exact FA.mk n3 (by omega))
            | (have y := b2_ne h_154
               have ed := nv_dv (c := c) (a := a) (j - a) (by omega) hdg
               rw [ed] at y
               rw [if_pos ⟨by omega, y⟩] at hnum
               refine ⟨0, rfl, Or.inr ⟨_, a, j, hnum, rfl, n1, n2, n3, ?_, n5⟩⟩
               rw [n4, ed])
        · refine ev_aload_n dX8_takeNumber_157 rfl ?_
          refine ev_iconst dX8_takeNumber_158 ?_
          refine ev_aload_n dX8_takeNumber_159 rfl ?_
          refine ev_getI (kz := 42) dX8_takeNumber_160 fl_X8_245 rfl rfl rfl ?_
          rw [n5]
          refine ev_callVI dX8_takeNumber_163 kv_X8_241 (m_fails ν 2 a (by decide) ⟨by omega, by omega⟩) rfl rfl (ci := 8) rfl rfl ⟨by decide, by decide⟩ (Nat.le_of_ble_eq_true rfl) ?_
          refine ev_w (fun hR => ?_)
          refine ev_goto (tgt := 170) dX8_takeNumber_166 (by decide) ?_
          refine ev_ireturn dX8_takeNumber_170 ?_
          first
            | (have hno : ¬ (j - a ≤ 3 ∧ lo ≤ dv c a (j - a) ∧ dv c a (j - a) ≤ hi2) := by
                 intro z
                 have ed := nv_dv (c := c) (a := a) (j - a) z.1 hdg
                 first
                   | omega
                   | (have y := b2_eq h_154; rw [ed] at y; exact y z.2)
               rw [if_neg hno] at hnum
               refine ⟨2, rfl, Or.inl ⟨2, a, hnum, rfl, by decide, by decide, n1.wf _ (by decide), ?_⟩⟩
               exact FA.mk n3 (by omega))
            | (have y := b2_ne h_154
               have ed := nv_dv (c := c) (a := a) (j - a) (by omega) hdg
               rw [ed] at y
               rw [if_pos ⟨by omega, y⟩] at hnum
               refine ⟨0, rfl, Or.inr ⟨_, a, j, hnum, rfl, n1, n2, n3, ?_, n5⟩⟩
               rw [n4, ed])
    · refine ev_aload_n dX8_takeNumber_53 rfl ?_
      refine ev_getR (r := 107) dX8_takeNumber_54 fl_X8_92 rfl rfl rfl ?_
      refine ev_aload_n dX8_takeNumber_57 rfl ?_
      refine ev_getI (kz := 38) dX8_takeNumber_58 fl_X8_211 rfl rfl rfl ?_
      rw [n3]
      refine ev_iaload dX8_takeNumber_61 rfl (by first | omega | (simp [wr_at]; omega) | (simp [wr_at, *]; omega)) (by first | omega | (simp [wr_at]; omega) | (simp [wr_at, *]; omega)) (by decide) ?_
      rw [e3]
      refine ev_i2l dX8_takeNumber_62 (by have t := htx j (by omega); exact ⟨by omega, by omega⟩) ?_
      refine ev_ldc2 (z := 48) dX8_takeNumber_63 kl_X8_237 (by decide) ?_
      refine ev_ldc2 (z := 57) dX8_takeNumber_66 kl_X8_239 (by decide) ?_
      refine ev_callSI dX8_takeNumber_69 ks_X8_180 (m_in ν (μ.1 107 (j : Int)) 48 57 (by have t := htx j (by omega); exact ⟨by omega, by omega⟩) (by decide) (by decide)) rfl rfl ⟨by decide, by decide⟩ (Nat.le_of_ble_eq_true rfl) ?_
      refine ev_w (fun hR => ?_)
      refine ev_if_eq (tgt := 129) dX8_takeNumber_72 (by decide) (by first | exact hR.1 _ _ | exact hR0.1 _ _ | assumption | exact ⟨by omega, by omega⟩ | exact ⟨by simp [wr_at]; omega, by simp [wr_at]; omega⟩ | exact b2_R _ | exact bC_R _ | exact band_R _ _ | exact bor_R _ _ | exact bshl_R _ _ | exact bshr_R _ _ | exact bxor_R _ _ | exact bs_R (by omega) | decide) (fun h_72 => ?_) (fun h_72 => ?_)
      · have hst : scan (isD c) L j = j := by
          refine scan_stop ?_
          first
            | exact Or.inl (by omega)
            | (refine Or.inr (decide_eq_false (fun z => b2_eq h_72 ?_))
               have t := htx j (by omega)
               rw [← t.2.2] at z
               exact (sg_d t.1 t.2.1 (by decide) (by decide)).mp z)
        rw [hsk] at hst
        have hja : a < j := by
          refine Classical.byContradiction (fun hn => ?_)
          have e9 : j = a := by omega
          rw [e9] at hst
          rw [scan_go hfirst.1 hfirst.2] at hst
          have := scan_ge (isD c) L (a + 1)
          omega
        rw [hst, if_neg (by omega)] at hnum
        refine ev_aload_n dX8_takeNumber_129 rfl ?_
        refine ev_getI (kz := 38) dX8_takeNumber_130 fl_X8_211 rfl rfl rfl ?_
        rw [n3]
        refine ev_aload_n dX8_takeNumber_133 rfl ?_
        refine ev_getI (kz := 42) dX8_takeNumber_134 fl_X8_245 rfl rfl rfl ?_
        rw [n5]
        refine ev_isub dX8_takeNumber_137 ?_
        refine ev_iconst dX8_takeNumber_138 ?_
        refine ev_icmp_gt (tgt := 157) dX8_takeNumber_139 (by decide) ⟨by omega, by omega⟩ ⟨by omega, by omega⟩ (fun h_139 => ?_) (fun h_139 => ?_)
        · refine ev_aload_n dX8_takeNumber_157 rfl ?_
          refine ev_iconst dX8_takeNumber_158 ?_
          refine ev_aload_n dX8_takeNumber_159 rfl ?_
          refine ev_getI (kz := 42) dX8_takeNumber_160 fl_X8_245 rfl rfl rfl ?_
          rw [n5]
          refine ev_callVI dX8_takeNumber_163 kv_X8_241 (m_fails ν 2 a (by decide) ⟨by omega, by omega⟩) rfl rfl (ci := 8) rfl rfl ⟨by decide, by decide⟩ (Nat.le_of_ble_eq_true rfl) ?_
          refine ev_w (fun hR => ?_)
          refine ev_goto (tgt := 170) dX8_takeNumber_166 (by decide) ?_
          refine ev_ireturn dX8_takeNumber_170 ?_
          first
            | (have hno : ¬ (j - a ≤ 3 ∧ lo ≤ dv c a (j - a) ∧ dv c a (j - a) ≤ hi2) := by
                 intro z
                 have ed := nv_dv (c := c) (a := a) (j - a) z.1 hdg
                 first
                   | omega
                   | (have y := b2_eq h_154; rw [ed] at y; exact y z.2)
               rw [if_neg hno] at hnum
               refine ⟨2, rfl, Or.inl ⟨2, a, hnum, rfl, by decide, by decide, n1.wf _ (by decide), ?_⟩⟩
               exact FA.mk n3 (by omega))
            | (have y := b2_ne h_154
               have ed := nv_dv (c := c) (a := a) (j - a) (by omega) hdg
               rw [ed] at y
               rw [if_pos ⟨by omega, y⟩] at hnum
               refine ⟨0, rfl, Or.inr ⟨_, a, j, hnum, rfl, n1, n2, n3, ?_, n5⟩⟩
               rw [n4, ed])
        · refine ev_aload_n dX8_takeNumber_142 rfl ?_
          refine ev_getI (kz := 41) dX8_takeNumber_143 fl_X8_248 rfl rfl rfl ?_
          rw [n4]
          refine ev_i2l dX8_takeNumber_146 ⟨by omega, by omega⟩ ?_
          refine ev_iload_n dX8_takeNumber_147 rfl ?_
          refine ev_i2l dX8_takeNumber_148 hlo ?_
          refine ev_iload_n dX8_takeNumber_149 rfl ?_
          refine ev_i2l dX8_takeNumber_150 hhi ?_
          refine ev_callSI dX8_takeNumber_151 ks_X8_180 (m_in ν (nv c a (j - a)) lo hi2 ⟨by omega, by omega⟩ ⟨by omega, by omega⟩ ⟨by omega, by omega⟩) rfl rfl ⟨by decide, by decide⟩ (Nat.le_of_ble_eq_true rfl) ?_
          refine ev_w (fun hR => ?_)
          refine ev_if_ne (tgt := 169) dX8_takeNumber_154 (by decide) (by first | exact hR.1 _ _ | exact hR0.1 _ _ | assumption | exact ⟨by omega, by omega⟩ | exact ⟨by simp [wr_at]; omega, by simp [wr_at]; omega⟩ | exact b2_R _ | exact bC_R _ | exact band_R _ _ | exact bor_R _ _ | exact bshl_R _ _ | exact bshr_R _ _ | exact bxor_R _ _ | exact bs_R (by omega) | decide) (fun h_154 => ?_) (fun h_154 => ?_)
          · refine ev_iconst dX8_takeNumber_169 ?_
            refine ev_ireturn dX8_takeNumber_170 ?_
            first
              | (have hno : ¬ (j - a ≤ 3 ∧ lo ≤ dv c a (j - a) ∧ dv c a (j - a) ≤ hi2) := by
                   intro z
                   have ed := nv_dv (c := c) (a := a) (j - a) z.1 hdg
                   first
                     | omega
                     | (have y := b2_eq h_154; rw [ed] at y; exact y z.2)
                 rw [if_neg hno] at hnum
                 refine ⟨2, rfl, Or.inl ⟨2, a, hnum, rfl, by decide, by decide, n1.wf _ (by decide), ?_⟩⟩
                 exact FA.mk n3 (by omega))
              | (have y := b2_ne h_154
                 have ed := nv_dv (c := c) (a := a) (j - a) (by omega) hdg
                 rw [ed] at y
                 rw [if_pos ⟨by omega, y⟩] at hnum
                 refine ⟨0, rfl, Or.inr ⟨_, a, j, hnum, rfl, n1, n2, n3, ?_, n5⟩⟩
                 rw [n4, ed])
          · refine ev_aload_n dX8_takeNumber_157 rfl ?_
            refine ev_iconst dX8_takeNumber_158 ?_
            refine ev_aload_n dX8_takeNumber_159 rfl ?_
            refine ev_getI (kz := 42) dX8_takeNumber_160 fl_X8_245 rfl rfl rfl ?_
            rw [n5]
            refine ev_callVI dX8_takeNumber_163 kv_X8_241 (m_fails ν 2 a (by decide) ⟨by omega, by omega⟩) rfl rfl (ci := 8) rfl rfl ⟨by decide, by decide⟩ (Nat.le_of_ble_eq_true rfl) ?_
            refine ev_w (fun hR => ?_)
            refine ev_goto (tgt := 170) dX8_takeNumber_166 (by decide) ?_
            refine ev_ireturn dX8_takeNumber_170 ?_
            first
              | (have hno : ¬ (j - a ≤ 3 ∧ lo ≤ dv c a (j - a) ∧ dv c a (j - a) ≤ hi2) := by
                   intro z
                   have ed := nv_dv (c := c) (a := a) (j - a) z.1 hdg
                   first
                     | omega
                     | (have y := b2_eq h_154; rw [ed] at y; exact y z.2)
                 rw [if_neg hno] at hnum
                 refine ⟨2, rfl, Or.inl ⟨2, a, hnum, rfl, by decide, by decide, n1.wf _ (by decide), ?_⟩⟩
                 exact FA.mk n3 (by omega))
              | (have y := b2_ne h_154
                 have ed := nv_dv (c := c) (a := a) (j - a) (by omega) hdg
                 rw [ed] at y
                 rw [if_pos ⟨by omega, y⟩] at hnum
                 refine ⟨0, rfl, Or.inr ⟨_, a, j, hnum, rfl, n1, n2, n3, ?_, n5⟩⟩
                 rw [n4, ed])
      · have t := htx j (by omega)
        have hdig := b2_ne h_72
        have hcj : c j = μ.1 107 (j : Int) := by rw [← t.2.2]; exact sg_id (by omega)
        have hstep : ∀ z : Int, z = nv c a (j + 1 - a) → ∀ x3, Ev RX8 cX8_takeNumber 4 1 25 (AnsQ (NumM μ (numR c L lo hi2 i))) 42 [some (.ref 79), some (.int (iI lo)), some (.int (iI hi2)), x3] [] (wr (wr ν 79 41 z) 79 38 ((j + 1 : Nat) : Int)) := by
          intro z hz x3
          refine ih (by omega) (by omega) ?_ _ ⟨(n1.wf _ (by decide)).wf _ (by decide), ?_, wr_eq _ _ _ _, ?_, ?_⟩ x3
          · rw [← hsk]
            refine (scan_go (by omega) (decide_eq_true ?_)).symm
            omega
          · rw [wr_nek _ (by decide), wr_nek _ (by decide)]; exact n2
          · rw [wr_nek _ (by decide), wr_eq, hz]
          · rw [wr_nek _ (by decide), wr_nek _ (by decide)]; exact n5
        refine ev_aload_n dX8_takeNumber_75 rfl ?_
        refine ev_aload_n dX8_takeNumber_76 rfl ?_
        refine ev_getI (kz := 41) dX8_takeNumber_77 fl_X8_248 rfl rfl rfl ?_
        rw [n4]
        refine ev_sipush dX8_takeNumber_80 (by decide) ?_
        refine ev_icmp_le (tgt := 93) dX8_takeNumber_83 (by decide) (by first | exact hR.1 _ _ | exact hR0.1 _ _ | assumption | exact ⟨by omega, by omega⟩ | exact ⟨by simp [wr_at]; omega, by simp [wr_at]; omega⟩ | exact b2_R _ | exact bC_R _ | exact band_R _ _ | exact bor_R _ _ | exact bshl_R _ _ | exact bshr_R _ _ | exact bxor_R _ _ | exact bs_R (by omega) | decide) (by first | exact hR.1 _ _ | exact hR0.1 _ _ | assumption | exact ⟨by omega, by omega⟩ | exact ⟨by simp [wr_at]; omega, by simp [wr_at]; omega⟩ | exact b2_R _ | exact bC_R _ | exact band_R _ _ | exact bor_R _ _ | exact bshl_R _ _ | exact bshr_R _ _ | exact bxor_R _ _ | exact bs_R (by omega) | decide) (fun h_83 => ?_) (fun h_83 => ?_)
        · refine ev_bipush dX8_takeNumber_93 (by decide) ?_
          refine ev_aload_n dX8_takeNumber_95 rfl ?_
          refine ev_getI (kz := 41) dX8_takeNumber_96 fl_X8_248 rfl rfl rfl ?_
          rw [n4]
          refine ev_imul dX8_takeNumber_99 ?_
          refine ev_aload_n dX8_takeNumber_100 rfl ?_
          refine ev_getR (r := 107) dX8_takeNumber_101 fl_X8_92 rfl rfl rfl ?_
          refine ev_aload_n dX8_takeNumber_104 rfl ?_
          refine ev_getI (kz := 38) dX8_takeNumber_105 fl_X8_211 rfl rfl rfl ?_
          rw [n3]
          refine ev_iaload dX8_takeNumber_108 rfl (by first | omega | (simp [wr_at]; omega) | (simp [wr_at, *]; omega)) (by first | omega | (simp [wr_at]; omega) | (simp [wr_at, *]; omega)) (by decide) ?_
          rw [e3]
          refine ev_iadd dX8_takeNumber_109 ?_
          refine ev_bipush dX8_takeNumber_110 (by decide) ?_
          refine ev_isub dX8_takeNumber_112 ?_
          refine ev_putI (kz := 41) dX8_takeNumber_113 fp_X8_248 rfl rfl rfl ⟨by omega, by omega⟩ ?_
          refine ev_w (fun hR => ?_)
          refine ev_aload_n dX8_takeNumber_116 rfl ?_
          refine ev_dup dX8_takeNumber_117 rfl ?_
          refine ev_getI (kz := 38) dX8_takeNumber_118 fl_X8_211 rfl rfl rfl ?_
          rw [wr_nek _ (by decide), n3]
          refine ev_iconst dX8_takeNumber_121 ?_
          refine ev_iadd dX8_takeNumber_122 ?_
          refine ev_putI (kz := 38) dX8_takeNumber_123 fp_X8_211 rfl rfl rfl (by first | exact hR.1 _ _ | exact hR0.1 _ _ | assumption | exact ⟨by omega, by omega⟩ | exact ⟨by simp [wr_at]; omega, by simp [wr_at]; omega⟩ | exact b2_R _ | exact bC_R _ | exact band_R _ _ | exact bor_R _ _ | exact bshl_R _ _ | exact bshr_R _ _ | exact bxor_R _ _ | exact bs_R (by omega) | decide) ?_
          refine ev_w (fun hR => ?_)
          refine ev_goto (tgt := 42) dX8_takeNumber_126 (by decide) ?_
          refine hstep _ ?_ _
          rw [hsu]
          first
            | (rw [if_pos (by omega)])
            | (rw [if_neg (by omega), hcj])
        · refine ev_aload_n dX8_takeNumber_86 rfl ?_
          refine ev_getI (kz := 41) dX8_takeNumber_87 fl_X8_248 rfl rfl rfl ?_
          rw [n4]
          refine ev_goto (tgt := 113) dX8_takeNumber_90 (by decide) ?_
          refine ev_putI (kz := 41) dX8_takeNumber_113 fp_X8_248 rfl rfl rfl ⟨by omega, by omega⟩ ?_
          refine ev_w (fun hR => ?_)
          refine ev_aload_n dX8_takeNumber_116 rfl ?_
          refine ev_dup dX8_takeNumber_117 rfl ?_
          refine ev_getI (kz := 38) dX8_takeNumber_118 fl_X8_211 rfl rfl rfl ?_
          rw [wr_nek _ (by decide), n3]
          refine ev_iconst dX8_takeNumber_121 ?_
          refine ev_iadd dX8_takeNumber_122 ?_
          refine ev_putI (kz := 38) dX8_takeNumber_123 fp_X8_211 rfl rfl rfl (by first | exact hR.1 _ _ | exact hR0.1 _ _ | assumption | exact ⟨by omega, by omega⟩ | exact ⟨by simp [wr_at]; omega, by simp [wr_at]; omega⟩ | exact b2_R _ | exact bC_R _ | exact band_R _ _ | exact bor_R _ _ | exact bshl_R _ _ | exact bshr_R _ _ | exact bxor_R _ _ | exact bs_R (by omega) | decide) ?_
          refine ev_w (fun hR => ?_)
          refine ev_goto (tgt := 42) dX8_takeNumber_126 (by decide) ?_
          refine hstep _ ?_ _
          rw [hsu]
          first
            | (rw [if_pos (by omega)])
            | (rw [if_neg (by omega), hcj])
  refine ev_aload_n dX8_takeNumber_0 rfl ?_
  refine ev_callVI dX8_takeNumber_1 kv_X8_214 (hq9) rfl rfl (ci := 8) rfl rfl ⟨by decide, by decide⟩ (Nat.le_of_ble_eq_true rfl) ?_
  refine ev_w (fun hR => ?_)
  refine ev_istore_n dX8_takeNumber_4 rfl (by decide) rfl ?_
  refine ev_iload_n dX8_takeNumber_5 rfl ?_
  refine ev_i2l dX8_takeNumber_6 ⟨by omega, by omega⟩ ?_
  refine ev_ldc2 (z := 48) dX8_takeNumber_7 kl_X8_237 (by decide) ?_
  refine ev_ldc2 (z := 57) dX8_takeNumber_10 kl_X8_239 (by decide) ?_
  refine ev_callSI dX8_takeNumber_13 ks_X8_180 (m_in _ h9 48 57 ⟨by omega, by omega⟩ (by decide) (by decide)) rfl rfl ⟨by decide, by decide⟩ (Nat.le_of_ble_eq_true rfl) ?_
  refine ev_w (fun hR => ?_)
  refine ev_if_ne (tgt := 29) dX8_takeNumber_16 (by decide) (by first | exact hR.1 _ _ | exact hR0.1 _ _ | assumption | exact ⟨by omega, by omega⟩ | exact ⟨by simp [wr_at]; omega, by simp [wr_at]; omega⟩ | exact b2_R _ | exact bC_R _ | exact band_R _ _ | exact bor_R _ _ | exact bshl_R _ _ | exact bshr_R _ _ | exact bxor_R _ _ | exact bs_R (by omega) | decide) (fun h_16 => ?_) (fun h_16 => ?_)
  · refine ev_aload_n dX8_takeNumber_29 rfl ?_
    refine ev_aload_n dX8_takeNumber_30 rfl ?_
    refine ev_getI (kz := 38) dX8_takeNumber_31 fl_X8_211 rfl rfl rfl ?_
    rw [wr_eq]
    refine ev_putI (kz := 42) dX8_takeNumber_34 fp_X8_245 rfl rfl rfl (by first | exact hR.1 _ _ | exact hR0.1 _ _ | assumption | exact ⟨by omega, by omega⟩ | exact ⟨by simp [wr_at]; omega, by simp [wr_at]; omega⟩ | exact b2_R _ | exact bC_R _ | exact band_R _ _ | exact bor_R _ _ | exact bshl_R _ _ | exact bshr_R _ _ | exact bxor_R _ _ | exact bs_R (by omega) | decide) ?_
    refine ev_w (fun hR => ?_)
    refine ev_aload_n dX8_takeNumber_37 rfl ?_
    refine ev_iconst dX8_takeNumber_38 ?_
    refine ev_putI (kz := 41) dX8_takeNumber_39 fp_X8_248 rfl rfl rfl (by first | exact hR.1 _ _ | exact hR0.1 _ _ | assumption | exact ⟨by omega, by omega⟩ | exact ⟨by simp [wr_at]; omega, by simp [wr_at]; omega⟩ | exact b2_R _ | exact bC_R _ | exact band_R _ _ | exact bor_R _ _ | exact bshl_R _ _ | exact bshr_R _ _ | exact bxor_R _ _ | exact bs_R (by omega) | decide) ?_
    refine ev_w (fun hR => ?_)
    have hd9 := b2_ne h_16
    have hfirst : a < L ∧ isD c a = true := by
      by_cases q : a < L
      · refine ⟨q, decide_eq_true ?_⟩
        have t := htx a q
        rw [hher, if_pos q] at hd9
        rw [← t.2.2]
        exact (sg_d t.1 t.2.1 (by decide) (by decide)).mpr hd9
      · rw [hher, if_neg q] at hd9; omega
    refine loop hfirst a hs2 (Nat.le_refl _) rfl _ ⟨NS.wf (NS.wf (NS.wf ⟨fun _ _ => rfl, fun _ _ _ _ _ => rfl⟩ _ (by decide)) _ (by decide)) _ (by decide), ?_, ?_, ?_, ?_⟩ _
    · rw [wr_nek _ (by decide), wr_nek _ (by decide), wr_nek _ (by decide)]
    · rw [wr_nek _ (by decide), wr_nek _ (by decide), wr_eq]
    · rw [wr_eq, Nat.sub_self]; rfl
    · rw [wr_nek _ (by decide), wr_eq]
  · refine ev_aload_n dX8_takeNumber_19 rfl ?_
    refine ev_iconst dX8_takeNumber_20 ?_
    refine ev_aload_n dX8_takeNumber_21 rfl ?_
    refine ev_getI (kz := 38) dX8_takeNumber_22 fl_X8_211 rfl rfl rfl ?_
    rw [wr_eq]
    refine ev_callVI dX8_takeNumber_25 kv_X8_241 (m_fails _ 1 a (by decide) ⟨by omega, by omega⟩) rfl rfl (ci := 8) rfl rfl ⟨by decide, by decide⟩ (Nat.le_of_ble_eq_true rfl) ?_
    refine ev_w (fun hR => ?_)
    refine ev_ireturn dX8_takeNumber_28 ?_
    have hst : scan (isD c) L a = a := by
      refine scan_stop ?_
      by_cases q : a < L
      · refine Or.inr (decide_eq_false (fun z => b2_eq (by omega : b2 (48 ≤ h9 ∧ h9 ≤ 57) = 0) ?_))
        have t := htx a q
        rw [hher, if_pos q]
        rw [← t.2.2] at z
        exact (sg_d t.1 t.2.1 (by decide) (by decide)).mp z
      · exact Or.inl (by omega)
    rw [if_pos hst] at hnum
    refine ⟨1, rfl, Or.inl ⟨1, a, hnum, rfl, by decide, by decide, ?_, FA.mk (wr_eq _ _ _ _) (by omega)⟩⟩
    exact (NS.wf (NS.wf ⟨fun _ _ => rfl, fun _ _ _ _ _ => rfl⟩ _ (by decide)) _ (by decide))
def IntM (μ : Mem) (R : NRes) (q : Nat) (k : Int) (z : Int) (ν : Mem) : Prop := ∃ ν0, NumM μ R z ν0 ∧ ν = wr ν0 q k (ν0.1 79 41)
theorem NumM.zR {μ ν : Mem} {R : NRes} {z : Int} (h : NumM μ R z ν) : 0 ≤ z ∧ z ≤ 4 := by
  rcases h with ⟨f, w, -, h, h2, h3, -⟩ | ⟨x, a, e, -, h, -⟩ <;> omega
theorem m_into (μ : Mem) (c : Nat → Int) (L i : Nat) (hT : TX μ c L) (hi : μ.1 79 38 = i) (hiL : i ≤ L) (lo hi2 : Int) (hlo : inR lo) (hhi : inR hi2) (q len : Nat) (hq : shapes[q]? = some (.inr (0, len))) (hlen : len ≤ 4096) (k : Nat) (hk : k < len) : Con yX8_into cX8_into 6 (some .int) 2 48 [.ref 79, .ref q, .int (iI k), .int (iI lo), .int (iI hi2)] μ (AnsQ (IntM μ (numR c L lo hi2 i) q k)) := by
  refine con_of (by decide) rfl (Nat.le_of_ble_eq_true rfl) (ok_Q rfl) ?_
  refine ev_w (fun hR => ?_)
  have hR0 := hR
  refine ev_aload_n dX8_into_0 rfl ?_
  refine ev_iload_n dX8_into_1 rfl ?_
  refine ev_iload dX8_into_2 rfl ?_
  refine ev_callVP dX8_into_4 kv_X8_251 (m_takeNumber μ c L i hT hi hiL lo hi2 hlo hhi) rfl rfl (ci := 8) rfl rfl ⟨by decide, by decide⟩ (Nat.le_of_ble_eq_true rfl) ?_
  rintro v_4 τ_4 ⟨z_4, rfl, hq_4⟩
  refine ev_w (fun hR => ?_)
  refine ev_istore dX8_into_7 rfl (by decide) rfl ?_
  refine ev_aload_n dX8_into_9 rfl ?_
  refine ev_iload_n dX8_into_10 rfl ?_
  refine ev_aload_n dX8_into_11 rfl ?_
  refine ev_getI (kz := 41) dX8_into_12 fl_X8_248 rfl rfl rfl ?_
  refine ev_iastore dX8_into_15 hq (by first | omega | (simp [wr_at]; omega) | (simp [wr_at, *]; omega)) (by first | omega | (simp [wr_at]; omega) | (simp [wr_at, *]; omega)) hlen (by first | exact hR.1 _ _ | exact hR0.1 _ _ | assumption | exact ⟨by omega, by omega⟩ | exact ⟨by simp [wr_at]; omega, by simp [wr_at]; omega⟩ | exact b2_R _ | exact bC_R _ | exact band_R _ _ | exact bor_R _ _ | exact bshl_R _ _ | exact bshr_R _ _ | exact bxor_R _ _ | exact bs_R (by omega) | decide) ?_
  refine ev_w (fun hR => ?_)
  refine ev_iload dX8_into_16 rfl ?_
  refine ev_ireturn dX8_into_18 ?_
  exact ⟨z_4, rfl, _, hq_4, rfl⟩
