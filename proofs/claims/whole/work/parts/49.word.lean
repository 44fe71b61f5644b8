theorem RdS.put {σ τ : Mem} {L : Nat} {x : Int} {a e : Nat} (h : RdS σ τ L x a e) (y : Int) (e2 : Nat) : RdS σ (wr (wr τ 1 6 y) 1 4 (e2 : Nat)) L y a e2 := by
  obtain ⟨⟨h1, h2, h3, h4, h5⟩, h6⟩ := h
  refine ⟨⟨Same.wr (S := S1) (Same.wr (S := S1) h1 rfl) rfl, ?_, ?_, wr_eq _ _ _ _, ?_⟩, ?_⟩
  · rw [wr_nek _ (by decide), wr_nek _ (by decide)]; exact h2
  · rw [wr_nek _ (by decide), wr_nek _ (by decide)]; exact h3
  · rw [wr_nek _ (by decide), wr_nek _ (by decide)]; exact h5
  · rw [wr_nek _ (by decide), wr_eq]
theorem RdA.fail {σ τ : Mem} {L a e : Nat} (h : RdA σ τ L a e) (f : Int) (w : Nat) : RdF σ (wr (wr τ 1 2 f) 1 3 (w : Nat)) L f w := by
  obtain ⟨h1, h2, h3, h4, h5⟩ := h
  refine ⟨Same.wr (S := S1) (Same.wr (S := S1) h1 rfl) rfl, ?_, ?_, wr_eq _ _ _ _⟩
  · rw [wr_nek _ (by decide), wr_nek _ (by decide)]; exact h2
  · rw [wr_nek _ (by decide), wr_eq]
theorem k_number (σ : Mem) (L i : Nat) (hL : σ.1 1 1 = L) (hL5 : L ≤ 500) (hi : σ.1 1 4 = i) (hiL : i ≤ L) (lo hi2 : Int) (hlo : inR lo) (hhi : inR hi2) : Con yX3_readNumber cX3_readNumber 3 (some .boolean) 1 22 [.ref 1, .int (iI lo), .int (iI hi2)] σ (AnsQ (NumQ σ L (numR (fun j : Nat => σ.1 2 j) L lo hi2 i))) := by
  refine con_of (by decide) rfl (Nat.le_of_ble_eq_true rfl) (ok_QZ rfl (fun z τ h => h.z)) ?_
  refine ev_w (fun hR => ?_)
  have hR0 := hR
  have e1 : (wr σ 1 4 (sk (fun j : Nat => σ.1 2 j) L i : Nat)).1 1 4 = (sk (fun j : Nat => σ.1 2 j) L i : Nat) := wr_eq _ _ _ _
  have e2 : (wr σ 1 4 (sk (fun j : Nat => σ.1 2 j) L i : Nat)).1 1 1 = L := by rw [wr_nek _ (by decide)]; exact hL
  have e3 : ∀ k, (wr σ 1 4 (sk (fun j : Nat => σ.1 2 j) L i : Nat)).1 2 k = σ.1 2 k := fun k => wr_nec _ (by decide)
  have hs1 : i ≤ sk (fun j : Nat => σ.1 2 j) L i := scan_ge _ _ _
  have hs2 : sk (fun j : Nat => σ.1 2 j) L i ≤ L := scan_le hiL
  generalize ha : (sk (fun j : Nat => σ.1 2 j) L i) = a at *
  have loop : ∀ j : Nat, j ≤ L → a ≤ j → scan (isD (fun j : Nat => σ.1 2 j)) L j = scan (isD (fun j : Nat => σ.1 2 j)) L a → ∀ τ : Mem, RdS σ τ L (dv (fun j : Nat => σ.1 2 j) a (min (j - a) 3)) a j → Ev RX3 cX3_readNumber 3 1 22 (AnsQ (NumQ σ L (numR (fun j : Nat => σ.1 2 j) L lo hi2 i))) 17 [some (.ref 1), some (.int (iI lo)), some (.int (iI hi2))] [] τ := by
    refine for_up L (fun j hj ih => ?_)
    intro haj hsk τ hτ
    refine ev_w (fun hR => ?_)
    obtain ⟨⟨f0, f2, f3, f1, f5⟩, f6⟩ := id hτ
    have fc : ∀ k, τ.1 2 k = σ.1 2 k := fun k => f0.at (by unfold S1; decide : ¬ S1 2) k
    have hdj : ∀ q, a ≤ q → q < j → isD (fun j : Nat => σ.1 2 j) q = true := fun q h1 h2 => scan_in h1 (by rw [← hsk]; exact Nat.lt_of_lt_of_le h2 (scan_ge _ _ _))
    have hdR := dv_R (c := (fun j : Nat => σ.1 2 j)) (a := a) (k := min (j - a) 3) (fun q h1 h2 => hdj q h1 (by omega)) (by omega)
    have hpw : (10 : Int) ^ (min (j - a) 3) ≤ 1000 := by
      have h3 : min (j - a) 3 = 0 ∨ min (j - a) 3 = 1 ∨ min (j - a) 3 = 2 ∨ min (j - a) 3 = 3 := by omega
      rcases h3 with h | h | h | h <;> rw [h] <;> decide
    have hcj : (-128 : Int) ≤ 0 := by decide
    refine ev_aload_n dX3_readNumber_17 rfl ?_
    refine ev_getI (kz := 4) dX3_readNumber_18 fl_X3_25 rfl rfl rfl ?_
    rw [f1]
    refine ev_aload_n dX3_readNumber_21 rfl ?_
    refine ev_getI (kz := 1) dX3_readNumber_22 fl_X3_15 rfl rfl rfl ?_
    rw [f2]
    refine ev_icmp_ge (tgt := 113) dX3_readNumber_25 (by decide) (by first | exact hR.1 _ _ | exact hR0.1 _ _ | assumption | exact ⟨by omega, by omega⟩ | exact ⟨by simp [wr_at]; omega, by simp [wr_at]; omega⟩ | exact b2_R _ | exact band_R _ _ | exact bor_R _ _ | exact bshl_R _ _ | exact bshr_R _ _ | exact bxor_R _ _ | exact bs_R (by omega) | decide) (by first | exact hR.1 _ _ | exact hR0.1 _ _ | assumption | exact ⟨by omega, by omega⟩ | exact ⟨by simp [wr_at]; omega, by simp [wr_at]; omega⟩ | exact b2_R _ | exact band_R _ _ | exact bor_R _ _ | exact bshl_R _ _ | exact bshr_R _ _ | exact bxor_R _ _ | exact bs_R (by omega) | decide) (fun h_25 => ?_) (fun h_25 => ?_)
    · have hst : scan (isD (fun j : Nat => σ.1 2 j)) L j = j := by
        by_cases q : j < L
        · exact scan_stop (Or.inr (decide_eq_false (fun z => by have z2 : 48 ≤ σ.1 2 (j : Nat) ∧ σ.1 2 (j : Nat) ≤ 57 := z; omega)))
        · exact scan_stop (Or.inl (by omega))
      have hse : scan (isD (fun j : Nat => σ.1 2 j)) L a = j := by rw [← hsk, hst]
      have hnum : numR (fun j : Nat => σ.1 2 j) L lo hi2 i = if j = a then .inl (1, a) else if j - a ≤ 3 ∧ lo ≤ dv (fun j : Nat => σ.1 2 j) a (j - a) ∧ dv (fun j : Nat => σ.1 2 j) a (j - a) ≤ hi2 then .inr (dv (fun j : Nat => σ.1 2 j) a (j - a), a, j) else .inl (2, a) := by
        unfold numR
        rw [ha, hse]
      refine ev_aload_n dX3_readNumber_113 rfl ?_
      refine ev_getI (kz := 4) dX3_readNumber_114 fl_X3_25 rfl rfl rfl ?_
      rw [f1]
      refine ev_aload_n dX3_readNumber_117 rfl ?_
      refine ev_getI (kz := 5) dX3_readNumber_118 fl_X3_28 rfl rfl rfl ?_
      rw [f5]
      refine ev_icmp_ne (tgt := 134) dX3_readNumber_121 (by decide) (by first | exact hR.1 _ _ | exact hR0.1 _ _ | assumption | exact ⟨by omega, by omega⟩ | exact ⟨by simp [wr_at]; omega, by simp [wr_at]; omega⟩ | exact b2_R _ | exact band_R _ _ | exact bor_R _ _ | exact bshl_R _ _ | exact bshr_R _ _ | exact bxor_R _ _ | exact bs_R (by omega) | decide) (by first | exact hR.1 _ _ | exact hR0.1 _ _ | assumption | exact ⟨by omega, by omega⟩ | exact ⟨by simp [wr_at]; omega, by simp [wr_at]; omega⟩ | exact b2_R _ | exact band_R _ _ | exact bor_R _ _ | exact bshl_R _ _ | exact bshr_R _ _ | exact bxor_R _ _ | exact bs_R (by omega) | decide) (fun h_121 => ?_) (fun h_121 => ?_)
      · refine ev_aload_n dX3_readNumber_134 rfl ?_
        refine ev_getI (kz := 4) dX3_readNumber_135 fl_X3_25 rfl rfl rfl ?_
        rw [f1]
        refine ev_aload_n dX3_readNumber_138 rfl ?_
        refine ev_getI (kz := 5) dX3_readNumber_139 fl_X3_28 rfl rfl rfl ?_
        rw [f5]
        refine ev_isub dX3_readNumber_142 ?_
        refine ev_iconst dX3_readNumber_143 ?_
        refine ev_icmp_gt (tgt := 163) dX3_readNumber_144 (by decide) (by first | exact hR.1 _ _ | exact hR0.1 _ _ | assumption | exact ⟨by omega, by omega⟩ | exact ⟨by simp [wr_at]; omega, by simp [wr_at]; omega⟩ | exact b2_R _ | exact band_R _ _ | exact bor_R _ _ | exact bshl_R _ _ | exact bshr_R _ _ | exact bxor_R _ _ | exact bs_R (by omega) | decide) (by first | exact hR.1 _ _ | exact hR0.1 _ _ | assumption | exact ⟨by omega, by omega⟩ | exact ⟨by simp [wr_at]; omega, by simp [wr_at]; omega⟩ | exact b2_R _ | exact band_R _ _ | exact bor_R _ _ | exact bshl_R _ _ | exact bshr_R _ _ | exact bxor_R _ _ | exact bs_R (by omega) | decide) (fun h_144 => ?_) (fun h_144 => ?_)
        · refine ev_aload_n dX3_readNumber_163 rfl ?_
          refine ev_iconst dX3_readNumber_164 ?_
          refine ev_aload_n dX3_readNumber_165 rfl ?_
          refine ev_getI (kz := 5) dX3_readNumber_166 fl_X3_28 rfl rfl rfl ?_
          rw [f5]
          refine ev_callVI dX3_readNumber_169 kv_X3_96 (k_fail τ 2 _ (by decide) ⟨by omega, by omega⟩) rfl rfl (ci := 3) rfl rfl ⟨by decide, by decide⟩ (Nat.le_of_ble_eq_true rfl) ?_
          refine ev_w (fun hR => ?_)
          refine ev_if_eq (tgt := 179) dX3_readNumber_172 (by decide) (by first | exact hR.1 _ _ | exact hR0.1 _ _ | assumption | exact ⟨by omega, by omega⟩ | exact ⟨by simp [wr_at]; omega, by simp [wr_at]; omega⟩ | exact b2_R _ | exact band_R _ _ | exact bor_R _ _ | exact bshl_R _ _ | exact bshr_R _ _ | exact bxor_R _ _ | exact bs_R (by omega) | decide) (fun h_172 => ?_) (fun h_172 => ?_)
          · refine ev_iconst dX3_readNumber_179 ?_
            refine ev_ireturn dX3_readNumber_180 ?_
            first
              | exact absurd rfl h_172
              | (refine ⟨0, rfl, Or.inl ⟨rfl, 2, a, ?_, hτ.1.fail 2 a⟩⟩
                 rw [hnum, if_neg (by omega), if_neg]
                 rintro ⟨z1, z2, z3⟩
                 rw [show min (j - a) 3 = j - a by omega] at *
                 omega)
              | (refine ⟨1, rfl, Or.inr ⟨rfl, dv (fun j : Nat => σ.1 2 j) a (j - a), a, j, ?_, ?_⟩⟩
                 · rw [show min (j - a) 3 = j - a by omega] at *
                   rw [hnum, if_neg (by omega), if_pos ⟨by omega, by omega, by omega⟩]
                 · rw [show min (j - a) 3 = j - a by omega] at hτ
                   exact hτ)
          · refine ev_iconst dX3_readNumber_175 ?_
            refine ev_goto (tgt := 180) dX3_readNumber_176 (by decide) ?_
            refine ev_ireturn dX3_readNumber_180 ?_
            first
              | exact absurd rfl h_172
              | (refine ⟨0, rfl, Or.inl ⟨rfl, 2, a, ?_, hτ.1.fail 2 a⟩⟩
                 rw [hnum, if_neg (by omega), if_neg]
                 rintro ⟨z1, z2, z3⟩
                 rw [show min (j - a) 3 = j - a by omega] at *
                 omega)
              | (refine ⟨1, rfl, Or.inr ⟨rfl, dv (fun j : Nat => σ.1 2 j) a (j - a), a, j, ?_, ?_⟩⟩
                 · rw [show min (j - a) 3 = j - a by omega] at *
                   rw [hnum, if_neg (by omega), if_pos ⟨by omega, by omega, by omega⟩]
                 · rw [show min (j - a) 3 = j - a by omega] at hτ
                   exact hτ)
        · refine ev_aload_n dX3_readNumber_147 rfl ?_
          refine ev_getI (kz := 6) dX3_readNumber_148 fl_X3_31 rfl rfl rfl ?_
          rw [f6]
          refine ev_iload_n dX3_readNumber_151 rfl ?_
          refine ev_icmp_lt (tgt := 163) dX3_readNumber_152 (by decide) (by first | exact hR.1 _ _ | exact hR0.1 _ _ | assumption | exact ⟨by omega, by omega⟩ | exact ⟨by simp [wr_at]; omega, by simp [wr_at]; omega⟩ | exact b2_R _ | exact band_R _ _ | exact bor_R _ _ | exact bshl_R _ _ | exact bshr_R _ _ | exact bxor_R _ _ | exact bs_R (by omega) | decide) (by first | exact hR.1 _ _ | exact hR0.1 _ _ | assumption | exact ⟨by omega, by omega⟩ | exact ⟨by simp [wr_at]; omega, by simp [wr_at]; omega⟩ | exact b2_R _ | exact band_R _ _ | exact bor_R _ _ | exact bshl_R _ _ | exact bshr_R _ _ | exact bxor_R _ _ | exact bs_R (by omega) | decide) (fun h_152 => ?_) (fun h_152 => ?_)
          · refine ev_aload_n dX3_readNumber_163 rfl ?_
            refine ev_iconst dX3_readNumber_164 ?_
            refine ev_aload_n dX3_readNumber_165 rfl ?_
            refine ev_getI (kz := 5) dX3_readNumber_166 fl_X3_28 rfl rfl rfl ?_
            rw [f5]
            refine ev_callVI dX3_readNumber_169 kv_X3_96 (k_fail τ 2 _ (by decide) ⟨by omega, by omega⟩) rfl rfl (ci := 3) rfl rfl ⟨by decide, by decide⟩ (Nat.le_of_ble_eq_true rfl) ?_
            refine ev_w (fun hR => ?_)
            refine ev_if_eq (tgt := 179) dX3_readNumber_172 (by decide) (by first | exact hR.1 _ _ | exact hR0.1 _ _ | assumption | exact ⟨by omega, by omega⟩ | exact ⟨by simp [wr_at]; omega, by simp [wr_at]; omega⟩ | exact b2_R _ | exact band_R _ _ | exact bor_R _ _ | exact bshl_R _ _ | exact bshr_R _ _ | exact bxor_R _ _ | exact bs_R (by omega) | decide) (fun h_172 => ?_) (fun h_172 => ?_)
            · refine ev_iconst dX3_readNumber_179 ?_
              refine ev_ireturn dX3_readNumber_180 ?_
              first
                | exact absurd rfl h_172
                | (refine ⟨0, rfl, Or.inl ⟨rfl, 2, a, ?_, hτ.1.fail 2 a⟩⟩
                   rw [hnum, if_neg (by omega), if_neg]
                   rintro ⟨z1, z2, z3⟩
                   rw [show min (j - a) 3 = j - a by omega] at *
                   omega)
                | (refine ⟨1, rfl, Or.inr ⟨rfl, dv (fun j : Nat => σ.1 2 j) a (j - a), a, j, ?_, ?_⟩⟩
                   · rw [show min (j - a) 3 = j - a by omega] at *
                     rw [hnum, if_neg (by omega), if_pos ⟨by omega, by omega, by omega⟩]
                   · rw [show min (j - a) 3 = j - a by omega] at hτ
                     exact hτ)
            · refine ev_iconst dX3_readNumber_175 ?_
              refine ev_goto (tgt := 180) dX3_readNumber_176 (by decide) ?_
              refine ev_ireturn dX3_readNumber_180 ?_
              first
                | exact absurd rfl h_172
                | (refine ⟨0, rfl, Or.inl ⟨rfl, 2, a, ?_, hτ.1.fail 2 a⟩⟩
                   rw [hnum, if_neg (by omega), if_neg]
                   rintro ⟨z1, z2, z3⟩
                   rw [show min (j - a) 3 = j - a by omega] at *
                   omega)
                | (refine ⟨1, rfl, Or.inr ⟨rfl, dv (fun j : Nat => σ.1 2 j) a (j - a), a, j, ?_, ?_⟩⟩
                   · rw [show min (j - a) 3 = j - a by omega] at *
                     rw [hnum, if_neg (by omega), if_pos ⟨by omega, by omega, by omega⟩]
                   · rw [show min (j - a) 3 = j - a by omega] at hτ
                     exact hτ)
          · refine ev_aload_n dX3_readNumber_155 rfl ?_
            refine ev_getI (kz := 6) dX3_readNumber_156 fl_X3_31 rfl rfl rfl ?_
            rw [f6]
            refine ev_iload_n dX3_readNumber_159 rfl ?_
            refine ev_icmp_le (tgt := 175) dX3_readNumber_160 (by decide) (by first | exact hR.1 _ _ | exact hR0.1 _ _ | assumption | exact ⟨by omega, by omega⟩ | exact ⟨by simp [wr_at]; omega, by simp [wr_at]; omega⟩ | exact b2_R _ | exact band_R _ _ | exact bor_R _ _ | exact bshl_R _ _ | exact bshr_R _ _ | exact bxor_R _ _ | exact bs_R (by omega) | decide) (by first | exact hR.1 _ _ | exact hR0.1 _ _ | assumption | exact ⟨by omega, by omega⟩ | exact ⟨by simp [wr_at]; omega, by simp [wr_at]; omega⟩ | exact b2_R _ | exact band_R _ _ | exact bor_R _ _ | exact bshl_R _ _ | exact bshr_R _ _ | exact bxor_R _ _ | exact bs_R (by omega) | decide) (fun h_160 => ?_) (fun h_160 => ?_)
            · refine ev_iconst dX3_readNumber_175 ?_
              refine ev_goto (tgt := 180) dX3_readNumber_176 (by decide) ?_
              refine ev_ireturn dX3_readNumber_180 ?_
              first
                | exact absurd rfl h_172
                | (refine ⟨0, rfl, Or.inl ⟨rfl, 2, a, ?_, hτ.1.fail 2 a⟩⟩
                   rw [hnum, if_neg (by omega), if_neg]
                   rintro ⟨z1, z2, z3⟩
                   rw [show min (j - a) 3 = j - a by omega] at *
                   omega)
                | (refine ⟨1, rfl, Or.inr ⟨rfl, dv (fun j : Nat => σ.1 2 j) a (j - a), a, j, ?_, ?_⟩⟩
                   · rw [show min (j - a) 3 = j - a by omega] at *
                     rw [hnum, if_neg (by omega), if_pos ⟨by omega, by omega, by omega⟩]
                   · rw [show min (j - a) 3 = j - a by omega] at hτ
                     exact hτ)
            · refine ev_aload_n dX3_readNumber_163 rfl ?_
              refine ev_iconst dX3_readNumber_164 ?_
              refine ev_aload_n dX3_readNumber_165 rfl ?_
              refine ev_getI (kz := 5) dX3_readNumber_166 fl_X3_28 rfl rfl rfl ?_
              rw [f5]
              refine ev_callVI dX3_readNumber_169 kv_X3_96 (k_fail τ 2 _ (by decide) ⟨by omega, by omega⟩) rfl rfl (ci := 3) rfl rfl ⟨by decide, by decide⟩ (Nat.le_of_ble_eq_true rfl) ?_
              refine ev_w (fun hR => ?_)
              refine ev_if_eq (tgt := 179) dX3_readNumber_172 (by decide) (by first | exact hR.1 _ _ | exact hR0.1 _ _ | assumption | exact ⟨by omega, by omega⟩ | exact ⟨by simp [wr_at]; omega, by simp [wr_at]; omega⟩ | exact b2_R _ | exact band_R _ _ | exact bor_R _ _ | exact bshl_R _ _ | exact bshr_R _ _ | exact bxor_R _ _ | exact bs_R (by omega) | decide) (fun h_172 => ?_) (fun h_172 => ?_)
              · refine ev_iconst dX3_readNumber_179 ?_
                refine ev_ireturn dX3_readNumber_180 ?_
                first
                  | exact absurd rfl h_172
                  | (refine ⟨0, rfl, Or.inl ⟨rfl, 2, a, ?_, hτ.1.fail 2 a⟩⟩
                     rw [hnum, if_neg (by omega), if_neg]
                     rintro ⟨z1, z2, z3⟩
                     rw [show min (j - a) 3 = j - a by omega] at *
                     omega)
                  | (refine ⟨1, rfl, Or.inr ⟨rfl, dv (fun j : Nat => σ.1 2 j) a (j - a), a, j, ?_, ?_⟩⟩
                     · rw [show min (j - a) 3 = j - a by omega] at *
                       rw [hnum, if_neg (by omega), if_pos ⟨by omega, by omega, by omega⟩]
                     · rw [show min (j - a) 3 = j - a by omega] at hτ
                       exact hτ)
              · refine ev_iconst dX3_readNumber_175 ?_
                refine ev_goto (tgt := 180) dX3_readNumber_176 (by decide) ?_
                refine ev_ireturn dX3_readNumber_180 ?_
                first
                  | exact absurd rfl h_172
                  | (refine ⟨0, rfl, Or.inl ⟨rfl, 2, a, ?_, hτ.1.fail 2 a⟩⟩
                     rw [hnum, if_neg (by omega), if_neg]
                     rintro ⟨z1, z2, z3⟩
                     rw [show min (j - a) 3 = j - a by omega] at *
                     omega)
                  | (refine ⟨1, rfl, Or.inr ⟨rfl, dv (fun j : Nat => σ.1 2 j) a (j - a), a, j, ?_, ?_⟩⟩
                     · rw [show min (j - a) 3 = j - a by omega] at *
                       rw [hnum, if_neg (by omega), if_pos ⟨by omega, by omega, by omega⟩]
                     · rw [show min (j - a) 3 = j - a by omega] at hτ
                       exact hτ)
      · refine ev_aload_n dX3_readNumber_124 rfl ?_
        refine ev_iconst dX3_readNumber_125 ?_
        refine ev_aload_n dX3_readNumber_126 rfl ?_
        refine ev_getI (kz := 5) dX3_readNumber_127 fl_X3_28 rfl rfl rfl ?_
        rw [f5]
        refine ev_callVI dX3_readNumber_130 kv_X3_96 (k_fail τ 1 _ (by decide) ⟨by omega, by omega⟩) rfl rfl (ci := 3) rfl rfl ⟨by decide, by decide⟩ (Nat.le_of_ble_eq_true rfl) ?_
        refine ev_w (fun hR => ?_)
        refine ev_ireturn dX3_readNumber_133 ?_
        refine ⟨0, rfl, Or.inl ⟨rfl, 1, a, ?_, hτ.1.fail 1 a⟩⟩
        rw [hnum, if_pos (by omega)]
    · refine ev_aload_n dX3_readNumber_28 rfl ?_
      refine ev_getR (r := 2) dX3_readNumber_29 fl_X3_9 rfl rfl rfl ?_
      refine ev_aload_n dX3_readNumber_32 rfl ?_
      refine ev_getI (kz := 4) dX3_readNumber_33 fl_X3_25 rfl rfl rfl ?_
      rw [f1]
      refine ev_baload dX3_readNumber_36 rfl (by first | omega | (simp [wr_at]; omega) | (simp [wr_at, *]; omega)) (by first | omega | (simp [wr_at]; omega) | (simp [wr_at, *]; omega)) (by decide) ?_
      rw [fc]
      refine ev_bipush dX3_readNumber_37 (by decide) ?_
      refine ev_icmp_lt (tgt := 113) dX3_readNumber_39 (by decide) (by first | exact hR.1 _ _ | exact hR0.1 _ _ | assumption | exact ⟨by omega, by omega⟩ | exact ⟨by simp [wr_at]; omega, by simp [wr_at]; omega⟩ | exact b2_R _ | exact band_R _ _ | exact bor_R _ _ | exact bshl_R _ _ | exact bshr_R _ _ | exact bxor_R _ _ | exact bs_R (by omega) | decide) (by first | exact hR.1 _ _ | exact hR0.1 _ _ | assumption | exact ⟨by omega, by omega⟩ | exact ⟨by simp [wr_at]; omega, by simp [wr_at]; omega⟩ | exact b2_R _ | exact band_R _ _ | exact bor_R _ _ | exact bshl_R _ _ | exact bshr_R _ _ | exact bxor_R _ _ | exact bs_R (by omega) | decide) (fun h_39 => ?_) (fun h_39 => ?_)
      · have hst : scan (isD (fun j : Nat => σ.1 2 j)) L j = j := by
          by_cases q : j < L
          · exact scan_stop (Or.inr (decide_eq_false (fun z => by have z2 : 48 ≤ σ.1 2 (j : Nat) ∧ σ.1 2 (j : Nat) ≤ 57 := z; omega)))
          · exact scan_stop (Or.inl (by omega))
        have hse : scan (isD (fun j : Nat => σ.1 2 j)) L a = j := by rw [← hsk, hst]
        have hnum : numR (fun j : Nat => σ.1 2 j) L lo hi2 i = if j = a then .inl (1, a) else if j - a ≤ 3 ∧ lo ≤ dv (fun j : Nat => σ.1 2 j) a (j - a) ∧ dv (fun j : Nat => σ.1 2 j) a (j - a) ≤ hi2 then .inr (dv (fun j : Nat => σ.1 2 j) a (j - a), a, j) else .inl (2, a) := by
          unfold numR
          rw [ha, hse]
        refine ev_aload_n dX3_readNumber_113 rfl ?_
        refine ev_getI (kz := 4) dX3_readNumber_114 fl_X3_25 rfl rfl rfl ?_
        rw [f1]
        refine ev_aload_n dX3_readNumber_117 rfl ?_
        refine ev_getI (kz := 5) dX3_readNumber_118 fl_X3_28 rfl rfl rfl ?_
        rw [f5]
        refine ev_icmp_ne (tgt := 134) dX3_readNumber_121 (by decide) (by first | exact hR.1 _ _ | exact hR0.1 _ _ | assumption | exact ⟨by omega, by omega⟩ | exact ⟨by simp [wr_at]; omega, by simp [wr_at]; omega⟩ | exact b2_R _ | exact band_R _ _ | exact bor_R _ _ | exact bshl_R _ _ | exact bshr_R _ _ | exact bxor_R _ _ | exact bs_R (by omega) | decide) (by first | exact hR.1 _ _ | exact hR0.1 _ _ | assumption | exact ⟨by omega, by omega⟩ | exact ⟨by simp [wr_at]; omega, by simp [wr_at]; omega⟩ | exact b2_R _ | exact band_R _ _ | exact bor_R _ _ | exact bshl_R _ _ | exact bshr_R _ _ | exact bxor_R _ _ | exact bs_R (by omega) | decide) (fun h_121 => ?_) (fun h_121 => ?_)
        · refine ev_aload_n dX3_readNumber_134 rfl ?_
          refine ev_getI (kz := 4) dX3_readNumber_135 fl_X3_25 rfl rfl rfl ?_
          rw [f1]
          refine ev_aload_n dX3_readNumber_138 rfl ?_
          refine ev_getI (kz := 5) dX3_readNumber_139 fl_X3_28 rfl rfl rfl ?_
          rw [f5]
          refine ev_isub dX3_readNumber_142 ?_
          refine ev_iconst dX3_readNumber_143 ?_
          refine ev_icmp_gt (tgt := 163) dX3_readNumber_144 (by decide) (by first | exact hR.1 _ _ | exact hR0.1 _ _ | assumption | exact ⟨by omega, by omega⟩ | exact ⟨by simp [wr_at]; omega, by simp [wr_at]; omega⟩ | exact b2_R _ | exact band_R _ _ | exact bor_R _ _ | exact bshl_R _ _ | exact bshr_R _ _ | exact bxor_R _ _ | exact bs_R (by omega) | decide) (by first | exact hR.1 _ _ | exact hR0.1 _ _ | assumption | exact ⟨by omega, by omega⟩ | exact ⟨by simp [wr_at]; omega, by simp [wr_at]; omega⟩ | exact b2_R _ | exact band_R _ _ | exact bor_R _ _ | exact bshl_R _ _ | exact bshr_R _ _ | exact bxor_R _ _ | exact bs_R (by omega) | decide) (fun h_144 => ?_) (fun h_144 => ?_)
          · refine ev_aload_n dX3_readNumber_163 rfl ?_
            refine ev_iconst dX3_readNumber_164 ?_
            refine ev_aload_n dX3_readNumber_165 rfl ?_
            refine ev_getI (kz := 5) dX3_readNumber_166 fl_X3_28 rfl rfl rfl ?_
            rw [f5]
            refine ev_callVI dX3_readNumber_169 kv_X3_96 (k_fail τ 2 _ (by decide) ⟨by omega, by omega⟩) rfl rfl (ci := 3) rfl rfl ⟨by decide, by decide⟩ (Nat.le_of_ble_eq_true rfl) ?_
            refine ev_w (fun hR => ?_)
            refine ev_if_eq (tgt := 179) dX3_readNumber_172 (by decide) (by first | exact hR.1 _ _ | exact hR0.1 _ _ | assumption | exact ⟨by omega, by omega⟩ | exact ⟨by simp [wr_at]; omega, by simp [wr_at]; omega⟩ | exact b2_R _ | exact band_R _ _ | exact bor_R _ _ | exact bshl_R _ _ | exact bshr_R _ _ | exact bxor_R _ _ | exact bs_R (by omega) | decide) (fun h_172 => ?_) (fun h_172 => ?_)
            · refine ev_iconst dX3_readNumber_179 ?_
              refine ev_ireturn dX3_readNumber_180 ?_
              first
                | exact absurd rfl h_172
                | (refine ⟨0, rfl, Or.inl ⟨rfl, 2, a, ?_, hτ.1.fail 2 a⟩⟩
                   rw [hnum, if_neg (by omega), if_neg]
                   rintro ⟨z1, z2, z3⟩
                   rw [show min (j - a) 3 = j - a by omega] at *
                   omega)
                | (refine ⟨1, rfl, Or.inr ⟨rfl, dv (fun j : Nat => σ.1 2 j) a (j - a), a, j, ?_, ?_⟩⟩
                   · rw [show min (j - a) 3 = j - a by omega] at *
                     rw [hnum, if_neg (by omega), if_pos ⟨by omega, by omega, by omega⟩]
                   · rw [show min (j - a) 3 = j - a by omega] at hτ
                     exact hτ)
            · refine ev_iconst dX3_readNumber_175 ?_
              refine ev_goto (tgt := 180) dX3_readNumber_176 (by decide) ?_
              refine ev_ireturn dX3_readNumber_180 ?_
              first
                | exact absurd rfl h_172
                | (refine ⟨0, rfl, Or.inl ⟨rfl, 2, a, ?_, hτ.1.fail 2 a⟩⟩
                   rw [hnum, if_neg (by omega), if_neg]
                   rintro ⟨z1, z2, z3⟩
                   rw [show min (j - a) 3 = j - a by omega] at *
                   omega)
                | (refine ⟨1, rfl, Or.inr ⟨rfl, dv (fun j : Nat => σ.1 2 j) a (j - a), a, j, ?_, ?_⟩⟩
                   · rw [show min (j - a) 3 = j - a by omega] at *
                     rw [hnum, if_neg (by omega), if_pos ⟨by omega, by omega, by omega⟩]
                   · rw [show min (j - a) 3 = j - a by omega] at hτ
                     exact hτ)
          · refine ev_aload_n dX3_readNumber_147 rfl ?_
            refine ev_getI (kz := 6) dX3_readNumber_148 fl_X3_31 rfl rfl rfl ?_
            rw [f6]
            refine ev_iload_n dX3_readNumber_151 rfl ?_
            refine ev_icmp_lt (tgt := 163) dX3_readNumber_152 (by decide) (by first | exact hR.1 _ _ | exact hR0.1 _ _ | assumption | exact ⟨by omega, by omega⟩ | exact ⟨by simp [wr_at]; omega, by simp [wr_at]; omega⟩ | exact b2_R _ | exact band_R _ _ | exact bor_R _ _ | exact bshl_R _ _ | exact bshr_R _ _ | exact bxor_R _ _ | exact bs_R (by omega) | decide) (by first | exact hR.1 _ _ | exact hR0.1 _ _ | assumption | exact ⟨by omega, by omega⟩ | exact ⟨by simp [wr_at]; omega, by simp [wr_at]; omega⟩ | exact b2_R _ | exact band_R _ _ | exact bor_R _ _ | exact bshl_R _ _ | exact bshr_R _ _ | exact bxor_R _ _ | exact bs_R (by omega) | decide) (fun h_152 => ?_) (fun h_152 => ?_)
            · refine ev_aload_n dX3_readNumber_163 rfl ?_
              refine ev_iconst dX3_readNumber_164 ?_
              refine ev_aload_n dX3_readNumber_165 rfl ?_
              refine ev_getI (kz := 5) dX3_readNumber_166 fl_X3_28 rfl rfl rfl ?_
              rw [f5]
              refine ev_callVI dX3_readNumber_169 kv_X3_96 (k_fail τ 2 _ (by decide) ⟨by omega, by omega⟩) rfl rfl (ci := 3) rfl rfl ⟨by decide, by decide⟩ (Nat.le_of_ble_eq_true rfl) ?_
              refine ev_w (fun hR => ?_)
              refine ev_if_eq (tgt := 179) dX3_readNumber_172 (by decide) (by first | exact hR.1 _ _ | exact hR0.1 _ _ | assumption | exact ⟨by omega, by omega⟩ | exact ⟨by simp [wr_at]; omega, by simp [wr_at]; omega⟩ | exact b2_R _ | exact band_R _ _ | exact bor_R _ _ | exact bshl_R _ _ | exact bshr_R _ _ | exact bxor_R _ _ | exact bs_R (by omega) | decide) (fun h_172 => ?_) (fun h_172 => ?_)
              · refine ev_iconst dX3_readNumber_179 ?_
                refine ev_ireturn dX3_readNumber_180 ?_
                first
                  | exact absurd rfl h_172
                  | (refine ⟨0, rfl, Or.inl ⟨rfl, 2, a, ?_, hτ.1.fail 2 a⟩⟩
                     rw [hnum, if_neg (by omega), if_neg]
                     rintro ⟨z1, z2, z3⟩
                     rw [show min (j - a) 3 = j - a by omega] at *
                     omega)
                  | (refine ⟨1, rfl, Or.inr ⟨rfl, dv (fun j : Nat => σ.1 2 j) a (j - a), a, j, ?_, ?_⟩⟩
                     · rw [show min (j - a) 3 = j - a by omega] at *
                       rw [hnum, if_neg (by omega), if_pos ⟨by omega, by omega, by omega⟩]
                     · rw [show min (j - a) 3 = j - a by omega] at hτ
                       exact hτ)
              · refine ev_iconst dX3_readNumber_175 ?_
                refine ev_goto (tgt := 180) dX3_readNumber_176 (by decide) ?_
                refine ev_ireturn dX3_readNumber_180 ?_
                first
                  | exact absurd rfl h_172
                  | (refine ⟨0, rfl, Or.inl ⟨rfl, 2, a, ?_, hτ.1.fail 2 a⟩⟩
                     rw [hnum, if_neg (by omega), if_neg]
                     rintro ⟨z1, z2, z3⟩
                     rw [show min (j - a) 3 = j - a by omega] at *
                     omega)
                  | (refine ⟨1, rfl, Or.inr ⟨rfl, dv (fun j : Nat => σ.1 2 j) a (j - a), a, j, ?_, ?_⟩⟩
                     · rw [show min (j - a) 3 = j - a by omega] at *
                       rw [hnum, if_neg (by omega), if_pos ⟨by omega, by omega, by omega⟩]
                     · rw [show min (j - a) 3 = j - a by omega] at hτ
                       exact hτ)
            · refine ev_aload_n dX3_readNumber_155 rfl ?_
              refine ev_getI (kz := 6) dX3_readNumber_156 fl_X3_31 rfl rfl rfl ?_
              rw [f6]
              refine ev_iload_n dX3_readNumber_159 rfl ?_
              refine ev_icmp_le (tgt := 175) dX3_readNumber_160 (by decide) (by first | exact hR.1 _ _ | exact hR0.1 _ _ | assumption | exact ⟨by omega, by omega⟩ | exact ⟨by simp [wr_at]; omega, by simp [wr_at]; omega⟩ | exact b2_R _ | exact band_R _ _ | exact bor_R _ _ | exact bshl_R _ _ | exact bshr_R _ _ | exact bxor_R _ _ | exact bs_R (by omega) | decide) (by first | exact hR.1 _ _ | exact hR0.1 _ _ | assumption | exact ⟨by omega, by omega⟩ | exact ⟨by simp [wr_at]; omega, by simp [wr_at]; omega⟩ | exact b2_R _ | exact band_R _ _ | exact bor_R _ _ | exact bshl_R _ _ | exact bshr_R _ _ | exact bxor_R _ _ | exact bs_R (by omega) | decide) (fun h_160 => ?_) (fun h_160 => ?_)
              · refine ev_iconst dX3_readNumber_175 ?_
                refine ev_goto (tgt := 180) dX3_readNumber_176 (by decide) ?_
                refine ev_ireturn dX3_readNumber_180 ?_
                first
                  | exact absurd rfl h_172
                  | (refine ⟨0, rfl, Or.inl ⟨rfl, 2, a, ?_, hτ.1.fail 2 a⟩⟩
                     rw [hnum, if_neg (by omega), if_neg]
                     rintro ⟨z1, z2, z3⟩
                     rw [show min (j - a) 3 = j - a by omega] at *
                     omega)
                  | (refine ⟨1, rfl, Or.inr ⟨rfl, dv (fun j : Nat => σ.1 2 j) a (j - a), a, j, ?_, ?_⟩⟩
                     · rw [show min (j - a) 3 = j - a by omega] at *
                       rw [hnum, if_neg (by omega), if_pos ⟨by omega, by omega, by omega⟩]
                     · rw [show min (j - a) 3 = j - a by omega] at hτ
                       exact hτ)
              · refine ev_aload_n dX3_readNumber_163 rfl ?_
                refine ev_iconst dX3_readNumber_164 ?_
                refine ev_aload_n dX3_readNumber_165 rfl ?_
                refine ev_getI (kz := 5) dX3_readNumber_166 fl_X3_28 rfl rfl rfl ?_
                rw [f5]
                refine ev_callVI dX3_readNumber_169 kv_X3_96 (k_fail τ 2 _ (by decide) ⟨by omega, by omega⟩) rfl rfl (ci := 3) rfl rfl ⟨by decide, by decide⟩ (Nat.le_of_ble_eq_true rfl) ?_
                refine ev_w (fun hR => ?_)
                refine ev_if_eq (tgt := 179) dX3_readNumber_172 (by decide) (by first | exact hR.1 _ _ | exact hR0.1 _ _ | assumption | exact ⟨by omega, by omega⟩ | exact ⟨by simp [wr_at]; omega, by simp [wr_at]; omega⟩ | exact b2_R _ | exact band_R _ _ | exact bor_R _ _ | exact bshl_R _ _ | exact bshr_R _ _ | exact bxor_R _ _ | exact bs_R (by omega) | decide) (fun h_172 => ?_) (fun h_172 => ?_)
                · refine ev_iconst dX3_readNumber_179 ?_
                  refine ev_ireturn dX3_readNumber_180 ?_
                  first
                    | exact absurd rfl h_172
                    | (refine ⟨0, rfl, Or.inl ⟨rfl, 2, a, ?_, hτ.1.fail 2 a⟩⟩
                       rw [hnum, if_neg (by omega), if_neg]
                       rintro ⟨z1, z2, z3⟩
                       rw [show min (j - a) 3 = j - a by omega] at *
                       omega)
                    | (refine ⟨1, rfl, Or.inr ⟨rfl, dv (fun j : Nat => σ.1 2 j) a (j - a), a, j, ?_, ?_⟩⟩
                       · rw [show min (j - a) 3 = j - a by omega] at *
                         rw [hnum, if_neg (by omega), if_pos ⟨by omega, by omega, by omega⟩]
                       · rw [show min (j - a) 3 = j - a by omega] at hτ
                         exact hτ)
                · refine ev_iconst dX3_readNumber_175 ?_
                  refine ev_goto (tgt := 180) dX3_readNumber_176 (by decide) ?_
                  refine ev_ireturn dX3_readNumber_180 ?_
                  first
                    | exact absurd rfl h_172
                    | (refine ⟨0, rfl, Or.inl ⟨rfl, 2, a, ?_, hτ.1.fail 2 a⟩⟩
                       rw [hnum, if_neg (by omega), if_neg]
                       rintro ⟨z1, z2, z3⟩
                       rw [show min (j - a) 3 = j - a by omega] at *
                       omega)
                    | (refine ⟨1, rfl, Or.inr ⟨rfl, dv (fun j : Nat => σ.1 2 j) a (j - a), a, j, ?_, ?_⟩⟩
                       · rw [show min (j - a) 3 = j - a by omega] at *
                         rw [hnum, if_neg (by omega), if_pos ⟨by omega, by omega, by omega⟩]
                       · rw [show min (j - a) 3 = j - a by omega] at hτ
                         exact hτ)
        · refine ev_aload_n dX3_readNumber_124 rfl ?_
          refine ev_iconst dX3_readNumber_125 ?_
          refine ev_aload_n dX3_readNumber_126 rfl ?_
          refine ev_getI (kz := 5) dX3_readNumber_127 fl_X3_28 rfl rfl rfl ?_
          rw [f5]
          refine ev_callVI dX3_readNumber_130 kv_X3_96 (k_fail τ 1 _ (by decide) ⟨by omega, by omega⟩) rfl rfl (ci := 3) rfl rfl ⟨by decide, by decide⟩ (Nat.le_of_ble_eq_true rfl) ?_
          refine ev_w (fun hR => ?_)
          refine ev_ireturn dX3_readNumber_133 ?_
          refine ⟨0, rfl, Or.inl ⟨rfl, 1, a, ?_, hτ.1.fail 1 a⟩⟩
          rw [hnum, if_pos (by omega)]
      · refine ev_aload_n dX3_readNumber_42 rfl ?_
        refine ev_getR (r := 2) dX3_readNumber_43 fl_X3_9 rfl rfl rfl ?_
        refine ev_aload_n dX3_readNumber_46 rfl ?_
        refine ev_getI (kz := 4) dX3_readNumber_47 fl_X3_25 rfl rfl rfl ?_
        rw [f1]
        refine ev_baload dX3_readNumber_50 rfl (by first | omega | (simp [wr_at]; omega) | (simp [wr_at, *]; omega)) (by first | omega | (simp [wr_at]; omega) | (simp [wr_at, *]; omega)) (by decide) ?_
        rw [fc]
        refine ev_bipush dX3_readNumber_51 (by decide) ?_
        refine ev_icmp_gt (tgt := 113) dX3_readNumber_53 (by decide) (by first | exact hR.1 _ _ | exact hR0.1 _ _ | assumption | exact ⟨by omega, by omega⟩ | exact ⟨by simp [wr_at]; omega, by simp [wr_at]; omega⟩ | exact b2_R _ | exact band_R _ _ | exact bor_R _ _ | exact bshl_R _ _ | exact bshr_R _ _ | exact bxor_R _ _ | exact bs_R (by omega) | decide) (by first | exact hR.1 _ _ | exact hR0.1 _ _ | assumption | exact ⟨by omega, by omega⟩ | exact ⟨by simp [wr_at]; omega, by simp [wr_at]; omega⟩ | exact b2_R _ | exact band_R _ _ | exact bor_R _ _ | exact bshl_R _ _ | exact bshr_R _ _ | exact bxor_R _ _ | exact bs_R (by omega) | decide) (fun h_53 => ?_) (fun h_53 => ?_)
        · have hst : scan (isD (fun j : Nat => σ.1 2 j)) L j = j := by
            by_cases q : j < L
            · exact scan_stop (Or.inr (decide_eq_false (fun z => by have z2 : 48 ≤ σ.1 2 (j : Nat) ∧ σ.1 2 (j : Nat) ≤ 57 := z; omega)))
            · exact scan_stop (Or.inl (by omega))
          have hse : scan (isD (fun j : Nat => σ.1 2 j)) L a = j := by rw [← hsk, hst]
          have hnum : numR (fun j : Nat => σ.1 2 j) L lo hi2 i = if j = a then .inl (1, a) else if j - a ≤ 3 ∧ lo ≤ dv (fun j : Nat => σ.1 2 j) a (j - a) ∧ dv (fun j : Nat => σ.1 2 j) a (j - a) ≤ hi2 then .inr (dv (fun j : Nat => σ.1 2 j) a (j - a), a, j) else .inl (2, a) := by
            unfold numR
            rw [ha, hse]
          refine ev_aload_n dX3_readNumber_113 rfl ?_
          refine ev_getI (kz := 4) dX3_readNumber_114 fl_X3_25 rfl rfl rfl ?_
          rw [f1]
          refine ev_aload_n dX3_readNumber_117 rfl ?_
          refine ev_getI (kz := 5) dX3_readNumber_118 fl_X3_28 rfl rfl rfl ?_
          rw [f5]
          refine ev_icmp_ne (tgt := 134) dX3_readNumber_121 (by decide) (by first | exact hR.1 _ _ | exact hR0.1 _ _ | assumption | exact ⟨by omega, by omega⟩ | exact ⟨by simp [wr_at]; omega, by simp [wr_at]; omega⟩ | exact b2_R _ | exact band_R _ _ | exact bor_R _ _ | exact bshl_R _ _ | exact bshr_R _ _ | exact bxor_R _ _ | exact bs_R (by omega) | decide) (by first | exact hR.1 _ _ | exact hR0.1 _ _ | assumption | exact ⟨by omega, by omega⟩ | exact ⟨by simp [wr_at]; omega, by simp [wr_at]; omega⟩ | exact b2_R _ | exact band_R _ _ | exact bor_R _ _ | exact bshl_R _ _ | exact bshr_R _ _ | exact bxor_R _ _ | exact bs_R (by omega) | decide) (fun h_121 => ?_) (fun h_121 => ?_)
          · refine ev_aload_n dX3_readNumber_134 rfl ?_
            refine ev_getI (kz := 4) dX3_readNumber_135 fl_X3_25 rfl rfl rfl ?_
            rw [f1]
            refine ev_aload_n dX3_readNumber_138 rfl ?_
            refine ev_getI (kz := 5) dX3_readNumber_139 fl_X3_28 rfl rfl rfl ?_
            rw [f5]
            refine ev_isub dX3_readNumber_142 ?_
            refine ev_iconst dX3_readNumber_143 ?_
            refine ev_icmp_gt (tgt := 163) dX3_readNumber_144 (by decide) (by first | exact hR.1 _ _ | exact hR0.1 _ _ | assumption | exact ⟨by omega, by omega⟩ | exact ⟨by simp [wr_at]; omega, by simp [wr_at]; omega⟩ | exact b2_R _ | exact band_R _ _ | exact bor_R _ _ | exact bshl_R _ _ | exact bshr_R _ _ | exact bxor_R _ _ | exact bs_R (by omega) | decide) (by first | exact hR.1 _ _ | exact hR0.1 _ _ | assumption | exact ⟨by omega, by omega⟩ | exact ⟨by simp [wr_at]; omega, by simp [wr_at]; omega⟩ | exact b2_R _ | exact band_R _ _ | exact bor_R _ _ | exact bshl_R _ _ | exact bshr_R _ _ | exact bxor_R _ _ | exact bs_R (by omega) | decide) (fun h_144 => ?_) (fun h_144 => ?_)
            · refine ev_aload_n dX3_readNumber_163 rfl ?_
              refine ev_iconst dX3_readNumber_164 ?_
              refine ev_aload_n dX3_readNumber_165 rfl ?_
              refine ev_getI (kz := 5) dX3_readNumber_166 fl_X3_28 rfl rfl rfl ?_
              rw [f5]
              refine ev_callVI dX3_readNumber_169 kv_X3_96 (k_fail τ 2 _ (by decide) ⟨by omega, by omega⟩) rfl rfl (ci := 3) rfl rfl ⟨by decide, by decide⟩ (Nat.le_of_ble_eq_true rfl) ?_
              refine ev_w (fun hR => ?_)
              refine ev_if_eq (tgt := 179) dX3_readNumber_172 (by decide) (by first | exact hR.1 _ _ | exact hR0.1 _ _ | assumption | exact ⟨by omega, by omega⟩ | exact ⟨by simp [wr_at]; omega, by simp [wr_at]; omega⟩ | exact b2_R _ | exact band_R _ _ | exact bor_R _ _ | exact bshl_R _ _ | exact bshr_R _ _ | exact bxor_R _ _ | exact bs_R (by omega) | decide) (fun h_172 => ?_) (fun h_172 => ?_)
              · refine ev_iconst dX3_readNumber_179 ?_
                refine ev_ireturn dX3_readNumber_180 ?_
                first
                  | exact absurd rfl h_172
                  | (refine ⟨0, rfl, Or.inl ⟨rfl, 2, a, ?_, hτ.1.fail 2 a⟩⟩
                     rw [hnum, if_neg (by omega), if_neg]
                     rintro ⟨z1, z2, z3⟩
                     rw [show min (j - a) 3 = j - a by omega] at *
                     omega)
                  | (refine ⟨1, rfl, Or.inr ⟨rfl, dv (fun j : Nat => σ.1 2 j) a (j - a), a, j, ?_, ?_⟩⟩
                     · rw [show min (j - a) 3 = j - a by omega] at *
                       rw [hnum, if_neg (by omega), if_pos ⟨by omega, by omega, by omega⟩]
                     · rw [show min (j - a) 3 = j - a by omega] at hτ
                       exact hτ)
              · refine ev_iconst dX3_readNumber_175 ?_
                refine ev_goto (tgt := 180) dX3_readNumber_176 (by decide) ?_
                refine ev_ireturn dX3_readNumber_180 ?_
                first
                  | exact absurd rfl h_172
                  | (refine ⟨0, rfl, Or.inl ⟨rfl, 2, a, ?_, hτ.1.fail 2 a⟩⟩
                     rw [hnum, if_neg (by omega), if_neg]
                     rintro ⟨z1, z2, z3⟩
                     rw [show min (j - a) 3 = j - a by omega] at *
                     omega)
                  | (refine ⟨1, rfl, Or.inr ⟨rfl, dv (fun j : Nat => σ.1 2 j) a (j - a), a, j, ?_, ?_⟩⟩
                     · rw [show min (j - a) 3 = j - a by omega] at *
                       rw [hnum, if_neg (by omega), if_pos ⟨by omega, by omega, by omega⟩]
                     · rw [show min (j - a) 3 = j - a by omega] at hτ
                       exact hτ)
            · refine ev_aload_n dX3_readNumber_147 rfl ?_
              refine ev_getI (kz := 6) dX3_readNumber_148 fl_X3_31 rfl rfl rfl ?_
              rw [f6]
              refine ev_iload_n dX3_readNumber_151 rfl ?_
              refine ev_icmp_lt (tgt := 163) dX3_readNumber_152 (by decide) (by first | exact hR.1 _ _ | exact hR0.1 _ _ | assumption | exact ⟨by omega, by omega⟩ | exact ⟨by simp [wr_at]; omega, by simp [wr_at]; omega⟩ | exact b2_R _ | exact band_R _ _ | exact bor_R _ _ | exact bshl_R _ _ | exact bshr_R _ _ | exact bxor_R _ _ | exact bs_R (by omega) | decide) (by first | exact hR.1 _ _ | exact hR0.1 _ _ | assumption | exact ⟨by omega, by omega⟩ | exact ⟨by simp [wr_at]; omega, by simp [wr_at]; omega⟩ | exact b2_R _ | exact band_R _ _ | exact bor_R _ _ | exact bshl_R _ _ | exact bshr_R _ _ | exact bxor_R _ _ | exact bs_R (by omega) | decide) (fun h_152 => ?_) (fun h_152 => ?_)
              · refine ev_aload_n dX3_readNumber_163 rfl ?_
                refine ev_iconst dX3_readNumber_164 ?_
                refine ev_aload_n dX3_readNumber_165 rfl ?_
                refine ev_getI (kz := 5) dX3_readNumber_166 fl_X3_28 rfl rfl rfl ?_
                rw [f5]
                refine ev_callVI dX3_readNumber_169 kv_X3_96 (k_fail τ 2 _ (by decide) ⟨by omega, by omega⟩) rfl rfl (ci := 3) rfl rfl ⟨by decide, by decide⟩ (Nat.le_of_ble_eq_true rfl) ?_
                refine ev_w (fun hR => ?_)
                refine ev_if_eq (tgt := 179) dX3_readNumber_172 (by decide) (by first | exact hR.1 _ _ | exact hR0.1 _ _ | assumption | exact ⟨by omega, by omega⟩ | exact ⟨by simp [wr_at]; omega, by simp [wr_at]; omega⟩ | exact b2_R _ | exact band_R _ _ | exact bor_R _ _ | exact bshl_R _ _ | exact bshr_R _ _ | exact bxor_R _ _ | exact bs_R (by omega) | decide) (fun h_172 => ?_) (fun h_172 => ?_)
                · refine ev_iconst dX3_readNumber_179 ?_
                  refine ev_ireturn dX3_readNumber_180 ?_
                  first
                    | exact absurd rfl h_172
                    | (refine ⟨0, rfl, Or.inl ⟨rfl, 2, a, ?_, hτ.1.fail 2 a⟩⟩
                       rw [hnum, if_neg (by omega), if_neg]
                       rintro ⟨z1, z2, z3⟩
                       rw [show min (j - a) 3 = j - a by omega] at *
                       omega)
                    | (refine ⟨1, rfl, Or.inr ⟨rfl, dv (fun j : Nat => σ.1 2 j) a (j - a), a, j, ?_, ?_⟩⟩
                       · rw [show min (j - a) 3 = j - a by omega] at *
                         rw [hnum, if_neg (by omega), if_pos ⟨by omega, by omega, by omega⟩]
                       · rw [show min (j - a) 3 = j - a by omega] at hτ
                         exact hτ)
                · refine ev_iconst dX3_readNumber_175 ?_
                  refine ev_goto (tgt := 180) dX3_readNumber_176 (by decide) ?_
                  refine ev_ireturn dX3_readNumber_180 ?_
                  first
                    | exact absurd rfl h_172
                    | (refine ⟨0, rfl, Or.inl ⟨rfl, 2, a, ?_, hτ.1.fail 2 a⟩⟩
                       rw [hnum, if_neg (by omega), if_neg]
                       rintro ⟨z1, z2, z3⟩
                       rw [show min (j - a) 3 = j - a by omega] at *
                       omega)
                    | (refine ⟨1, rfl, Or.inr ⟨rfl, dv (fun j : Nat => σ.1 2 j) a (j - a), a, j, ?_, ?_⟩⟩
                       · rw [show min (j - a) 3 = j - a by omega] at *
                         rw [hnum, if_neg (by omega), if_pos ⟨by omega, by omega, by omega⟩]
                       · rw [show min (j - a) 3 = j - a by omega] at hτ
                         exact hτ)
              · refine ev_aload_n dX3_readNumber_155 rfl ?_
                refine ev_getI (kz := 6) dX3_readNumber_156 fl_X3_31 rfl rfl rfl ?_
                rw [f6]
                refine ev_iload_n dX3_readNumber_159 rfl ?_
                refine ev_icmp_le (tgt := 175) dX3_readNumber_160 (by decide) (by first | exact hR.1 _ _ | exact hR0.1 _ _ | assumption | exact ⟨by omega, by omega⟩ | exact ⟨by simp [wr_at]; omega, by simp [wr_at]; omega⟩ | exact b2_R _ | exact band_R _ _ | exact bor_R _ _ | exact bshl_R _ _ | exact bshr_R _ _ | exact bxor_R _ _ | exact bs_R (by omega) | decide) (by first | exact hR.1 _ _ | exact hR0.1 _ _ | assumption | exact ⟨by omega, by omega⟩ | exact ⟨by simp [wr_at]; omega, by simp [wr_at]; omega⟩ | exact b2_R _ | exact band_R _ _ | exact bor_R _ _ | exact bshl_R _ _ | exact bshr_R _ _ | exact bxor_R _ _ | exact bs_R (by omega) | decide) (fun h_160 => ?_) (fun h_160 => ?_)
                · refine ev_iconst dX3_readNumber_175 ?_
                  refine ev_goto (tgt := 180) dX3_readNumber_176 (by decide) ?_
                  refine ev_ireturn dX3_readNumber_180 ?_
                  first
                    | exact absurd rfl h_172
                    | (refine ⟨0, rfl, Or.inl ⟨rfl, 2, a, ?_, hτ.1.fail 2 a⟩⟩
                       rw [hnum, if_neg (by omega), if_neg]
                       rintro ⟨z1, z2, z3⟩
                       rw [show min (j - a) 3 = j - a by omega] at *
                       omega)
                    | (refine ⟨1, rfl, Or.inr ⟨rfl, dv (fun j : Nat => σ.1 2 j) a (j - a), a, j, ?_, ?_⟩⟩
                       · rw [show min (j - a) 3 = j - a by omega] at *
                         rw [hnum, if_neg (by omega), if_pos ⟨by omega, by omega, by omega⟩]
                       · rw [show min (j - a) 3 = j - a by omega] at hτ
                         exact hτ)
                · refine ev_aload_n dX3_readNumber_163 rfl ?_
                  refine ev_iconst dX3_readNumber_164 ?_
                  refine ev_aload_n dX3_readNumber_165 rfl ?_
                  refine ev_getI (kz := 5) dX3_readNumber_166 fl_X3_28 rfl rfl rfl ?_
                  rw [f5]
                  refine ev_callVI dX3_readNumber_169 kv_X3_96 (k_fail τ 2 _ (by decide) ⟨by omega, by omega⟩) rfl rfl (ci := 3) rfl rfl ⟨by decide, by decide⟩ (Nat.le_of_ble_eq_true rfl) ?_
                  refine ev_w (fun hR => ?_)
                  refine ev_if_eq (tgt := 179) dX3_readNumber_172 (by decide) (by first | exact hR.1 _ _ | exact hR0.1 _ _ | assumption | exact ⟨by omega, by omega⟩ | exact ⟨by simp [wr_at]; omega, by simp [wr_at]; omega⟩ | exact b2_R _ | exact band_R _ _ | exact bor_R _ _ | exact bshl_R _ _ | exact bshr_R _ _ | exact bxor_R _ _ | exact bs_R (by omega) | decide) (fun h_172 => ?_) (fun h_172 => ?_)
                  · refine ev_iconst dX3_readNumber_179 ?_
                    refine ev_ireturn dX3_readNumber_180 ?_
                    first
                      | exact absurd rfl h_172
                      | (refine ⟨0, rfl, Or.inl ⟨rfl, 2, a, ?_, hτ.1.fail 2 a⟩⟩
                         rw [hnum, if_neg (by omega), if_neg]
                         rintro ⟨z1, z2, z3⟩
                         rw [show min (j - a) 3 = j - a by omega] at *
                         omega)
                      | (refine ⟨1, rfl, Or.inr ⟨rfl, dv (fun j : Nat => σ.1 2 j) a (j - a), a, j, ?_, ?_⟩⟩
                         · rw [show min (j - a) 3 = j - a by omega] at *
                           rw [hnum, if_neg (by omega), if_pos ⟨by omega, by omega, by omega⟩]
                         · rw [show min (j - a) 3 = j - a by omega] at hτ
                           exact hτ)
                  · refine ev_iconst dX3_readNumber_175 ?_
                    refine ev_goto (tgt := 180) dX3_readNumber_176 (by decide) ?_
                    refine ev_ireturn dX3_readNumber_180 ?_
                    first
                      | exact absurd rfl h_172
                      | (refine ⟨0, rfl, Or.inl ⟨rfl, 2, a, ?_, hτ.1.fail 2 a⟩⟩
                         rw [hnum, if_neg (by omega), if_neg]
                         rintro ⟨z1, z2, z3⟩
                         rw [show min (j - a) 3 = j - a by omega] at *
                         omega)
                      | (refine ⟨1, rfl, Or.inr ⟨rfl, dv (fun j : Nat => σ.1 2 j) a (j - a), a, j, ?_, ?_⟩⟩
                         · rw [show min (j - a) 3 = j - a by omega] at *
                           rw [hnum, if_neg (by omega), if_pos ⟨by omega, by omega, by omega⟩]
                         · rw [show min (j - a) 3 = j - a by omega] at hτ
                           exact hτ)
          · refine ev_aload_n dX3_readNumber_124 rfl ?_
            refine ev_iconst dX3_readNumber_125 ?_
            refine ev_aload_n dX3_readNumber_126 rfl ?_
            refine ev_getI (kz := 5) dX3_readNumber_127 fl_X3_28 rfl rfl rfl ?_
            rw [f5]
            refine ev_callVI dX3_readNumber_130 kv_X3_96 (k_fail τ 1 _ (by decide) ⟨by omega, by omega⟩) rfl rfl (ci := 3) rfl rfl ⟨by decide, by decide⟩ (Nat.le_of_ble_eq_true rfl) ?_
            refine ev_w (fun hR => ?_)
            refine ev_ireturn dX3_readNumber_133 ?_
            refine ⟨0, rfl, Or.inl ⟨rfl, 1, a, ?_, hτ.1.fail 1 a⟩⟩
            rw [hnum, if_pos (by omega)]
        · refine ev_aload_n dX3_readNumber_56 rfl ?_
          refine ev_aload_n dX3_readNumber_57 rfl ?_
          refine ev_getI (kz := 4) dX3_readNumber_58 fl_X3_25 rfl rfl rfl ?_
          rw [f1]
          refine ev_aload_n dX3_readNumber_61 rfl ?_
          refine ev_getI (kz := 5) dX3_readNumber_62 fl_X3_28 rfl rfl rfl ?_
          rw [f5]
          refine ev_isub dX3_readNumber_65 ?_
          refine ev_iconst dX3_readNumber_66 ?_
          refine ev_icmp_ge (tgt := 93) dX3_readNumber_67 (by decide) (by first | exact hR.1 _ _ | exact hR0.1 _ _ | assumption | exact ⟨by omega, by omega⟩ | exact ⟨by simp [wr_at]; omega, by simp [wr_at]; omega⟩ | exact b2_R _ | exact band_R _ _ | exact bor_R _ _ | exact bshl_R _ _ | exact bshr_R _ _ | exact bxor_R _ _ | exact bs_R (by omega) | decide) (by first | exact hR.1 _ _ | exact hR0.1 _ _ | assumption | exact ⟨by omega, by omega⟩ | exact ⟨by simp [wr_at]; omega, by simp [wr_at]; omega⟩ | exact b2_R _ | exact band_R _ _ | exact bor_R _ _ | exact bshl_R _ _ | exact bshr_R _ _ | exact bxor_R _ _ | exact bs_R (by omega) | decide) (fun h_67 => ?_) (fun h_67 => ?_)
          · refine ev_aload_n dX3_readNumber_93 rfl ?_
            refine ev_getI (kz := 6) dX3_readNumber_94 fl_X3_31 rfl rfl rfl ?_
            try rw [f6]
            refine ev_putI (kz := 6) dX3_readNumber_97 fp_X3_31 rfl rfl rfl (by first | exact hR.1 _ _ | exact hR0.1 _ _ | assumption | exact ⟨by omega, by omega⟩ | exact ⟨by simp [wr_at]; omega, by simp [wr_at]; omega⟩ | exact b2_R _ | exact band_R _ _ | exact bor_R _ _ | exact bshl_R _ _ | exact bshr_R _ _ | exact bxor_R _ _ | exact bs_R (by omega) | decide) ?_
            refine ev_w (fun hR => ?_)
            refine ev_aload_n dX3_readNumber_100 rfl ?_
            refine ev_dup dX3_readNumber_101 rfl ?_
            refine ev_getI (kz := 4) dX3_readNumber_102 fl_X3_25 rfl rfl rfl ?_
            rw [wr_nek _ (by decide), f1]
            refine ev_iconst dX3_readNumber_105 ?_
            refine ev_iadd dX3_readNumber_106 ?_
            refine ev_putI (kz := 4) dX3_readNumber_107 fp_X3_25 rfl rfl rfl (by first | exact hR.1 _ _ | exact hR0.1 _ _ | assumption | exact ⟨by omega, by omega⟩ | exact ⟨by simp [wr_at]; omega, by simp [wr_at]; omega⟩ | exact b2_R _ | exact band_R _ _ | exact bor_R _ _ | exact bshl_R _ _ | exact bshr_R _ _ | exact bxor_R _ _ | exact bs_R (by omega) | decide) ?_
            refine ev_w (fun hR => ?_)
            refine ev_goto (tgt := 17) dX3_readNumber_110 (by decide) ?_
            by_cases h3 : (j : Int) - a < 3
            · first
                | exact absurd h3 (by omega)
                | (refine ih (by omega) (by omega) ?_ _ ?_
                   · rw [← hsk]
                     exact (scan_go (by omega) (decide_eq_true (show 48 ≤ σ.1 2 (j : Nat) ∧ σ.1 2 (j : Nat) ≤ 57 from ⟨by omega, by omega⟩))).symm
                   · have e9 : ((j : Int) + 1) = ((j + 1 : Nat) : Int) := rfl
                     rw [e9]
                     have ed : dv (fun j : Nat => σ.1 2 j) a (min (j - a) 3) * 10 + σ.1 2 (j : Nat) - 48 = dv (fun j : Nat => σ.1 2 j) a (min (j + 1 - a) 3) := by
                       obtain ⟨k, rfl⟩ : ∃ k, j = a + k := ⟨j - a, by omega⟩
                       rw [show min (a + k + 1 - a) 3 = k + 1 by omega, show min (a + k - a) 3 = k by omega, dv]
                     rw [ed]
                     exact hτ.put _ _)
            · first
                | exact absurd h3 (by omega)
                | (refine ih (by omega) (by omega) ?_ _ ?_
                   · rw [← hsk]
                     exact (scan_go (by omega) (decide_eq_true (show 48 ≤ σ.1 2 (j : Nat) ∧ σ.1 2 (j : Nat) ≤ 57 from ⟨by omega, by omega⟩))).symm
                   · have e9 : ((j : Int) + 1) = ((j + 1 : Nat) : Int) := rfl
                     rw [e9]
                     have ed : dv (fun j : Nat => σ.1 2 j) a (min (j - a) 3) = dv (fun j : Nat => σ.1 2 j) a (min (j + 1 - a) 3) := by
                       rw [show min (j + 1 - a) 3 = 3 by omega, show min (j - a) 3 = 3 by omega]
                     rw [ed]
                     exact hτ.put _ _)
          · refine ev_aload_n dX3_readNumber_70 rfl ?_
            refine ev_getI (kz := 6) dX3_readNumber_71 fl_X3_31 rfl rfl rfl ?_
            rw [f6]
            refine ev_bipush dX3_readNumber_74 (by decide) ?_
            refine ev_imul dX3_readNumber_76 ?_
            refine ev_aload_n dX3_readNumber_77 rfl ?_
            refine ev_getR (r := 2) dX3_readNumber_78 fl_X3_9 rfl rfl rfl ?_
            refine ev_aload_n dX3_readNumber_81 rfl ?_
            refine ev_getI (kz := 4) dX3_readNumber_82 fl_X3_25 rfl rfl rfl ?_
            rw [f1]
            refine ev_baload dX3_readNumber_85 rfl (by first | omega | (simp [wr_at]; omega) | (simp [wr_at, *]; omega)) (by first | omega | (simp [wr_at]; omega) | (simp [wr_at, *]; omega)) (by decide) ?_
            rw [fc]
            refine ev_iadd dX3_readNumber_86 ?_
            refine ev_bipush dX3_readNumber_87 (by decide) ?_
            refine ev_isub dX3_readNumber_89 ?_
            refine ev_goto (tgt := 97) dX3_readNumber_90 (by decide) ?_
            try rw [f6]
            refine ev_putI (kz := 6) dX3_readNumber_97 fp_X3_31 rfl rfl rfl (by first | exact hR.1 _ _ | exact hR0.1 _ _ | assumption | exact ⟨by omega, by omega⟩ | exact ⟨by simp [wr_at]; omega, by simp [wr_at]; omega⟩ | exact b2_R _ | exact band_R _ _ | exact bor_R _ _ | exact bshl_R _ _ | exact bshr_R _ _ | exact bxor_R _ _ | exact bs_R (by omega) | decide) ?_
            refine ev_w (fun hR => ?_)
            refine ev_aload_n dX3_readNumber_100 rfl ?_
            refine ev_dup dX3_readNumber_101 rfl ?_
            refine ev_getI (kz := 4) dX3_readNumber_102 fl_X3_25 rfl rfl rfl ?_
            rw [wr_nek _ (by decide), f1]
            refine ev_iconst dX3_readNumber_105 ?_
            refine ev_iadd dX3_readNumber_106 ?_
            refine ev_putI (kz := 4) dX3_readNumber_107 fp_X3_25 rfl rfl rfl (by first | exact hR.1 _ _ | exact hR0.1 _ _ | assumption | exact ⟨by omega, by omega⟩ | exact ⟨by simp [wr_at]; omega, by simp [wr_at]; omega⟩ | exact b2_R _ | exact band_R _ _ | exact bor_R _ _ | exact bshl_R _ _ | exact bshr_R _ _ | exact bxor_R _ _ | exact bs_R (by omega) | decide) ?_
            refine ev_w (fun hR => ?_)
            refine ev_goto (tgt := 17) dX3_readNumber_110 (by decide) ?_
            by_cases h3 : (j : Int) - a < 3
            · first
                | exact absurd h3 (by omega)
                | (refine ih (by omega) (by omega) ?_ _ ?_
                   · rw [← hsk]
                     exact (scan_go (by omega) (decide_eq_true (show 48 ≤ σ.1 2 (j : Nat) ∧ σ.1 2 (j : Nat) ≤ 57 from ⟨by omega, by omega⟩))).symm
                   · have e9 : ((j : Int) + 1) = ((j + 1 : Nat) : Int) := rfl
                     rw [e9]
                     have ed : dv (fun j : Nat => σ.1 2 j) a (min (j - a) 3) * 10 + σ.1 2 (j : Nat) - 48 = dv (fun j : Nat => σ.1 2 j) a (min (j + 1 - a) 3) := by
                       obtain ⟨k, rfl⟩ : ∃ k, j = a + k := ⟨j - a, by omega⟩
                       rw [show min (a + k + 1 - a) 3 = k + 1 by omega, show min (a + k - a) 3 = k by omega, dv]
                     rw [ed]
                     exact hτ.put _ _)
            · first
                | exact absurd h3 (by omega)
                | (refine ih (by omega) (by omega) ?_ _ ?_
                   · rw [← hsk]
                     exact (scan_go (by omega) (decide_eq_true (show 48 ≤ σ.1 2 (j : Nat) ∧ σ.1 2 (j : Nat) ≤ 57 from ⟨by omega, by omega⟩))).symm
                   · have e9 : ((j : Int) + 1) = ((j + 1 : Nat) : Int) := rfl
                     rw [e9]
                     have ed : dv (fun j : Nat => σ.1 2 j) a (min (j - a) 3) = dv (fun j : Nat => σ.1 2 j) a (min (j + 1 - a) 3) := by
                       rw [show min (j + 1 - a) 3 = 3 by omega, show min (j - a) 3 = 3 by omega]
                     rw [ed]
                     exact hτ.put _ _)
  refine ev_aload_n dX3_readNumber_0 rfl ?_
  refine ev_callVV dX3_readNumber_1 kv_X3_47 ((by have q := k_skip σ L i hL hL5 hi hiL; rw [ha] at q; exact q)) rfl rfl (ci := 3) rfl rfl ⟨by decide, by decide⟩ (Nat.le_of_ble_eq_true rfl) ?_
  refine ev_w (fun hR => ?_)
  refine ev_aload_n dX3_readNumber_4 rfl ?_
  refine ev_aload_n dX3_readNumber_5 rfl ?_
  refine ev_getI (kz := 4) dX3_readNumber_6 fl_X3_25 rfl rfl rfl ?_
  rw [e1]
  refine ev_putI (kz := 5) dX3_readNumber_9 fp_X3_28 rfl rfl rfl (by first | exact hR.1 _ _ | exact hR0.1 _ _ | assumption | exact ⟨by omega, by omega⟩ | exact ⟨by simp [wr_at]; omega, by simp [wr_at]; omega⟩ | exact b2_R _ | exact band_R _ _ | exact bor_R _ _ | exact bshl_R _ _ | exact bshr_R _ _ | exact bxor_R _ _ | exact bs_R (by omega) | decide) ?_
  refine ev_w (fun hR => ?_)
  refine ev_aload_n dX3_readNumber_12 rfl ?_
  refine ev_iconst dX3_readNumber_13 ?_
  refine ev_putI (kz := 6) dX3_readNumber_14 fp_X3_31 rfl rfl rfl (by first | exact hR.1 _ _ | exact hR0.1 _ _ | assumption | exact ⟨by omega, by omega⟩ | exact ⟨by simp [wr_at]; omega, by simp [wr_at]; omega⟩ | exact b2_R _ | exact band_R _ _ | exact bor_R _ _ | exact bshl_R _ _ | exact bshr_R _ _ | exact bxor_R _ _ | exact bs_R (by omega) | decide) ?_
  refine ev_w (fun hR => ?_)
  refine loop a hs2 (Nat.le_refl _) rfl _ ?_
  rw [Nat.sub_self]
  refine ⟨⟨Same.wr (S := S1) (Same.wr (S := S1) (Same.wr (S := S1) Same.rf rfl) rfl) rfl, ?_, ?_, ?_, ?_⟩, wr_eq _ _ _ _⟩
  · rw [wr_nek _ (by decide), wr_nek _ (by decide)]; exact e2
  · rw [wr_nek _ (by decide), wr_nek _ (by decide), wr_nek _ (by decide)]
  · rw [wr_nek _ (by decide), wr_nek _ (by decide)]; exact e1
  · rw [wr_nek _ (by decide), wr_eq]
abbrev wrd (c : Nat → Int) (a e i : Nat) : Prop := e = a + sL i ∧ ∀ k, k < sL i → c (a + k) = sB i k
theorem k_isWord (σ : Mem) (a e i : Nat) (hi : i < 8) (ha : σ.1 1 5 = a) (he : σ.1 1 4 = e) (hae : a ≤ e) (he5 : e ≤ 500) : Con yX3_isWord cX3_isWord 3 (some .boolean) 6 154 [.ref 1, .ref (1000 + i)] σ (AnsI (b2 (wrd (fun j : Nat => σ.1 2 j) a e i)) σ) := by
  refine con_of (by decide) rfl (Nat.le_of_ble_eq_true rfl) (ok_Z rfl (b2_01 _)) ?_
  refine ev_w (fun hR => ?_)
  have hR0 := hR
  have hl := sL_R i hi
  have loop : e = a + sL i → ∀ k : Nat, k ≤ sL i → (∀ q, q < k → σ.1 2 ((a + q : Nat) : Int) = sB i q) → Ev RX3 cX3_isWord 3 6 154 (AnsI (b2 (wrd (fun j : Nat => σ.1 2 j) a e i)) σ) 20 [some (.ref 1), some (.ref (1000 + i)), some (.int (iI (k : Nat)))] [] σ := by
    intro hel
    refine for_up (sL i) (fun k hk ih => ?_)
    intro hq
    refine ev_w (fun hR => ?_)
    refine ev_iload_n dX3_isWord_20 rfl ?_
    refine ev_aload_n dX3_isWord_21 rfl ?_
    refine ev_callK hi rfl dX3_isWord_22 kv_X3_174 (k_slen σ i hi) rfl rfl ⟨by decide, by decide⟩ (Nat.le_of_ble_eq_true rfl) ?_
    rintro v_22 τ_22 ⟨rfl, rfl⟩
    refine ev_w (fun hR => ?_)
    refine ev_icmp_ge (tgt := 55) dX3_isWord_25 (by decide) (by first | exact hR.1 _ _ | exact hR0.1 _ _ | assumption | exact ⟨by omega, by omega⟩ | exact ⟨by simp [wr_at]; omega, by simp [wr_at]; omega⟩ | exact b2_R _ | exact band_R _ _ | exact bor_R _ _ | exact bshl_R _ _ | exact bshr_R _ _ | exact bxor_R _ _ | exact bs_R (by omega) | decide) (by first | exact hR.1 _ _ | exact hR0.1 _ _ | assumption | exact ⟨by omega, by omega⟩ | exact ⟨by simp [wr_at]; omega, by simp [wr_at]; omega⟩ | exact b2_R _ | exact band_R _ _ | exact bor_R _ _ | exact bshl_R _ _ | exact bshr_R _ _ | exact bxor_R _ _ | exact bs_R (by omega) | decide) (fun h_25 => ?_) (fun h_25 => ?_)
    · refine ev_iconst dX3_isWord_55 ?_
      refine ev_ireturn dX3_isWord_56 ?_
      obtain rfl : k = sL i := by omega
      rw [b2_t ⟨hel, hq⟩]
      exact ⟨rfl, rfl⟩
    · refine ev_aload_n dX3_isWord_28 rfl ?_
      refine ev_getR (r := 2) dX3_isWord_29 fl_X3_9 rfl rfl rfl ?_
      refine ev_aload_n dX3_isWord_32 rfl ?_
      refine ev_getI (kz := 5) dX3_isWord_33 fl_X3_28 rfl rfl rfl ?_
      rw [ha]
      refine ev_iload_n dX3_isWord_36 rfl ?_
      refine ev_iadd dX3_isWord_37 ?_
      refine ev_baload dX3_isWord_38 rfl (by first | omega | (simp [wr_at]; omega) | (simp [wr_at, *]; omega)) (by first | omega | (simp [wr_at]; omega) | (simp [wr_at, *]; omega)) (by decide) ?_
      have hB := sB_and i hi k (by omega)
      refine ev_aload_n dX3_isWord_39 rfl ?_
      refine ev_iload_n dX3_isWord_40 rfl ?_
      refine ev_callK hi rfl dX3_isWord_41 kv_X3_178 (k_chr τ_22 i k hi (by omega)) rfl rfl ⟨by decide, by decide⟩ (Nat.le_of_ble_eq_true rfl) ?_
      rintro v_41 τ_41 ⟨rfl, rfl⟩
      refine ev_w (fun hR => ?_)
      refine ev_icmp_eq (tgt := 49) dX3_isWord_44 (by decide) (by first | exact hR.1 _ _ | exact hR0.1 _ _ | assumption | exact ⟨by omega, by omega⟩ | exact ⟨by simp [wr_at]; omega, by simp [wr_at]; omega⟩ | exact b2_R _ | exact band_R _ _ | exact bor_R _ _ | exact bshl_R _ _ | exact bshr_R _ _ | exact bxor_R _ _ | exact bs_R (by omega) | decide) (by first | exact hR.1 _ _ | exact hR0.1 _ _ | assumption | exact ⟨by omega, by omega⟩ | exact ⟨by simp [wr_at]; omega, by simp [wr_at]; omega⟩ | exact b2_R _ | exact band_R _ _ | exact bor_R _ _ | exact bshl_R _ _ | exact bshr_R _ _ | exact bxor_R _ _ | exact bs_R (by omega) | decide) (fun h_44 => ?_) (fun h_44 => ?_)
      · refine ev_iinc dX3_isWord_49 rfl rfl (by decide) rfl ?_
        refine ev_goto (tgt := 20) dX3_isWord_52 (by decide) ?_
        refine ih (by omega) (fun q hq2 => ?_)
        by_cases e9 : q = k
        · subst e9
          exact h_44
        · exact hq q (by omega)
      · refine ev_iconst dX3_isWord_47 ?_
        refine ev_ireturn dX3_isWord_48 ?_
        rw [b2_f (fun z => h_44 (z.2 k (by omega)))]
        exact ⟨rfl, rfl⟩
  refine ev_aload_n dX3_isWord_0 rfl ?_
  refine ev_getI (kz := 4) dX3_isWord_1 fl_X3_25 rfl rfl rfl ?_
  rw [he]
  refine ev_aload_n dX3_isWord_4 rfl ?_
  refine ev_getI (kz := 5) dX3_isWord_5 fl_X3_28 rfl rfl rfl ?_
  rw [ha]
  refine ev_isub dX3_isWord_8 ?_
  refine ev_aload_n dX3_isWord_9 rfl ?_
  refine ev_callK hi rfl dX3_isWord_10 kv_X3_174 (k_slen σ i hi) rfl rfl ⟨by decide, by decide⟩ (Nat.le_of_ble_eq_true rfl) ?_
  rintro v_10 τ_10 ⟨rfl, rfl⟩
  refine ev_w (fun hR => ?_)
  refine ev_icmp_eq (tgt := 18) dX3_isWord_13 (by decide) (by first | exact hR.1 _ _ | exact hR0.1 _ _ | assumption | exact ⟨by omega, by omega⟩ | exact ⟨by simp [wr_at]; omega, by simp [wr_at]; omega⟩ | exact b2_R _ | exact band_R _ _ | exact bor_R _ _ | exact bshl_R _ _ | exact bshr_R _ _ | exact bxor_R _ _ | exact bs_R (by omega) | decide) (by first | exact hR.1 _ _ | exact hR0.1 _ _ | assumption | exact ⟨by omega, by omega⟩ | exact ⟨by simp [wr_at]; omega, by simp [wr_at]; omega⟩ | exact b2_R _ | exact band_R _ _ | exact bor_R _ _ | exact bshl_R _ _ | exact bshr_R _ _ | exact bxor_R _ _ | exact bs_R (by omega) | decide) (fun h_13 => ?_) (fun h_13 => ?_)
  · refine ev_iconst dX3_isWord_18 ?_
    refine ev_istore_n dX3_isWord_19 rfl (by decide) rfl ?_
    exact loop (by omega) 0 (by omega) (fun q hq => absurd hq (by omega))
  · refine ev_iconst dX3_isWord_16 ?_
    refine ev_ireturn dX3_isWord_17 ?_
    rw [b2_f (fun z => by have := z.1; omega)]
    exact ⟨rfl, rfl⟩
def kdK (c : Nat → Int) (a e : Nat) : Int := if wrd c a e 4 then 0 else if wrd c a e 5 then 1 else if wrd c a e 6 then 2 else if wrd c a e 7 then 3 else -1
def wdK (c : Nat → Int) (a e : Nat) : Int := if wrd c a e 0 then 0 else if wrd c a e 1 then 1 else if wrd c a e 2 then 2 else if wrd c a e 3 then 3 else -1
theorem kdK_R (c : Nat → Int) (a e : Nat) : -1 ≤ kdK c a e ∧ kdK c a e ≤ 3 := by
  unfold kdK
  repeat' (first | decide | split)
theorem wdK_R (c : Nat → Int) (a e : Nat) : -1 ≤ wdK c a e ∧ wdK c a e ≤ 3 := by
  unfold wdK
  repeat' (first | decide | split)
theorem k_kindOf (σ : Mem) (a e : Nat) (ha : σ.1 1 5 = a) (he : σ.1 1 4 = e) (hae : a ≤ e) (he5 : e ≤ 500) : Con yX3_kindOfWord cX3_kindOfWord 1 (some .int) 7 176 [.ref 1] σ (AnsI (kdK (fun j : Nat => σ.1 2 j) a e) σ) := by
  refine con_of (by decide) rfl (Nat.le_of_ble_eq_true rfl) (ok_I rfl) ?_
  refine ev_w (fun hR => ?_)
  have hR0 := hR
  refine ev_aload_n dX3_kindOfWord_0 rfl ?_
  refine ev_ldcs (i := 4) (by decide) rfl rfl dX3_kindOfWord_1 ?_
  refine ev_callVI dX3_kindOfWord_3 kv_X3_55 (k_isWord σ a e 4 (by decide) ha he hae he5) rfl rfl (ci := 3) rfl rfl ⟨by decide, by decide⟩ (Nat.le_of_ble_eq_true rfl) ?_
  refine ev_w (fun hR => ?_)
  refine ev_if_eq (tgt := 11) dX3_kindOfWord_6 (by decide) (by first | exact hR.1 _ _ | exact hR0.1 _ _ | assumption | exact ⟨by omega, by omega⟩ | exact ⟨by simp [wr_at]; omega, by simp [wr_at]; omega⟩ | exact b2_R _ | exact band_R _ _ | exact bor_R _ _ | exact bshl_R _ _ | exact bshr_R _ _ | exact bxor_R _ _ | exact bs_R (by omega) | decide) (fun h_6 => ?_) (fun h_6 => ?_)
  · refine ev_aload_n dX3_kindOfWord_11 rfl ?_
    refine ev_ldcs (i := 5) (by decide) rfl rfl dX3_kindOfWord_12 ?_
    refine ev_callVI dX3_kindOfWord_14 kv_X3_55 (k_isWord σ a e 5 (by decide) ha he hae he5) rfl rfl (ci := 3) rfl rfl ⟨by decide, by decide⟩ (Nat.le_of_ble_eq_true rfl) ?_
    refine ev_w (fun hR => ?_)
    refine ev_if_eq (tgt := 22) dX3_kindOfWord_17 (by decide) (by first | exact hR.1 _ _ | exact hR0.1 _ _ | assumption | exact ⟨by omega, by omega⟩ | exact ⟨by simp [wr_at]; omega, by simp [wr_at]; omega⟩ | exact b2_R _ | exact band_R _ _ | exact bor_R _ _ | exact bshl_R _ _ | exact bshr_R _ _ | exact bxor_R _ _ | exact bs_R (by omega) | decide) (fun h_17 => ?_) (fun h_17 => ?_)
    · refine ev_aload_n dX3_kindOfWord_22 rfl ?_
      refine ev_ldcs (i := 6) (by decide) rfl rfl dX3_kindOfWord_23 ?_
      refine ev_callVI dX3_kindOfWord_25 kv_X3_55 (k_isWord σ a e 6 (by decide) ha he hae he5) rfl rfl (ci := 3) rfl rfl ⟨by decide, by decide⟩ (Nat.le_of_ble_eq_true rfl) ?_
      refine ev_w (fun hR => ?_)
      refine ev_if_eq (tgt := 33) dX3_kindOfWord_28 (by decide) (by first | exact hR.1 _ _ | exact hR0.1 _ _ | assumption | exact ⟨by omega, by omega⟩ | exact ⟨by simp [wr_at]; omega, by simp [wr_at]; omega⟩ | exact b2_R _ | exact band_R _ _ | exact bor_R _ _ | exact bshl_R _ _ | exact bshr_R _ _ | exact bxor_R _ _ | exact bs_R (by omega) | decide) (fun h_28 => ?_) (fun h_28 => ?_)
      · refine ev_aload_n dX3_kindOfWord_33 rfl ?_
        refine ev_ldcs (i := 7) (by decide) rfl rfl dX3_kindOfWord_34 ?_
        refine ev_callVI dX3_kindOfWord_36 kv_X3_55 (k_isWord σ a e 7 (by decide) ha he hae he5) rfl rfl (ci := 3) rfl rfl ⟨by decide, by decide⟩ (Nat.le_of_ble_eq_true rfl) ?_
        refine ev_w (fun hR => ?_)
        refine ev_if_eq (tgt := 46) dX3_kindOfWord_39 (by decide) (by first | exact hR.1 _ _ | exact hR0.1 _ _ | assumption | exact ⟨by omega, by omega⟩ | exact ⟨by simp [wr_at]; omega, by simp [wr_at]; omega⟩ | exact b2_R _ | exact band_R _ _ | exact bor_R _ _ | exact bshl_R _ _ | exact bshr_R _ _ | exact bxor_R _ _ | exact bs_R (by omega) | decide) (fun h_39 => ?_) (fun h_39 => ?_)
        · refine ev_iconst dX3_kindOfWord_46 ?_
          refine ev_ireturn dX3_kindOfWord_47 ?_
          first
            | (unfold kdK
               rw [if_neg (b2_eq h_6), if_neg (b2_eq h_17), if_neg (b2_eq h_28), if_pos (b2_ne h_39)]
               exact ⟨rfl, rfl⟩)
            | (unfold kdK
               rw [if_neg (b2_eq h_6), if_neg (b2_eq h_17), if_neg (b2_eq h_28), if_neg (b2_eq h_39)]
               exact ⟨rfl, rfl⟩)
        · refine ev_iconst dX3_kindOfWord_42 ?_
          refine ev_goto (tgt := 47) dX3_kindOfWord_43 (by decide) ?_
          refine ev_ireturn dX3_kindOfWord_47 ?_
          first
            | (unfold kdK
               rw [if_neg (b2_eq h_6), if_neg (b2_eq h_17), if_neg (b2_eq h_28), if_pos (b2_ne h_39)]
               exact ⟨rfl, rfl⟩)
            | (unfold kdK
               rw [if_neg (b2_eq h_6), if_neg (b2_eq h_17), if_neg (b2_eq h_28), if_neg (b2_eq h_39)]
               exact ⟨rfl, rfl⟩)
      · refine ev_iconst dX3_kindOfWord_31 ?_
        refine ev_ireturn dX3_kindOfWord_32 ?_
        unfold kdK
        rw [if_neg (b2_eq h_6), if_neg (b2_eq h_17), if_pos (b2_ne h_28)]
        exact ⟨rfl, rfl⟩
    · refine ev_iconst dX3_kindOfWord_20 ?_
      refine ev_ireturn dX3_kindOfWord_21 ?_
      unfold kdK
      rw [if_neg (b2_eq h_6), if_pos (b2_ne h_17)]
      exact ⟨rfl, rfl⟩
  · refine ev_iconst dX3_kindOfWord_9 ?_
    refine ev_ireturn dX3_kindOfWord_10 ?_
    unfold kdK
    rw [if_pos (b2_ne h_6)]
    exact ⟨rfl, rfl⟩
/-- a kind's word: a fault, or the kind, where it begins, where it ends -/
def kndR (c : Nat → Int) (L i : Nat) : (Int × Nat) ⊕ (Int × Nat × Nat) := if kdK c (sk c L i) (scan (isA c) L (sk c L i)) = -1 then .inl (1, sk c L i) else .inr (kdK c (sk c L i) (scan (isA c) L (sk c L i)), sk c L i, scan (isA c) L (sk c L i))
theorem k_readKind (σ : Mem) (L i : Nat) (hL : σ.1 1 1 = L) (hL5 : L ≤ 500) (hi : σ.1 1 4 = i) (hiL : i ≤ L)  : Con yX3_readKind cX3_readKind 1 (some .boolean) 8 196 [.ref 1] σ (AnsQ (NumQ σ L (kndR (fun j : Nat => σ.1 2 j) L i))) := by
  refine con_of (by decide) rfl (Nat.le_of_ble_eq_true rfl) (ok_QZ rfl (fun z τ h => h.z)) ?_
  refine ev_w (fun hR => ?_)
  have hR0 := hR
  have hs2 : (sk (fun j : Nat => σ.1 2 j) L i) ≤ L := scan_le hiL
  have hs3 : (sk (fun j : Nat => σ.1 2 j) L i) ≤ (scan (isA (fun j : Nat => σ.1 2 j)) L (sk (fun j : Nat => σ.1 2 j) L i)) := scan_ge _ _ _
  have hs4 : (scan (isA (fun j : Nat => σ.1 2 j)) L (sk (fun j : Nat => σ.1 2 j) L i)) ≤ L := scan_le hs2
  refine ev_aload_n dX3_readKind_0 rfl ?_
  refine ev_callVP dX3_readKind_1 kv_X3_50 (k_letters σ L i hL hL5 hi hiL) rfl rfl (ci := 3) rfl rfl ⟨by decide, by decide⟩ (Nat.le_of_ble_eq_true rfl) ?_
  rintro v_1 τ_1 ⟨rfl, hA⟩
  refine ev_w (fun hR => ?_)
  obtain ⟨g1, g2, g3, g4, g5⟩ := id hA
  have hc : (fun j : Nat => τ_1.1 2 j) = (fun j : Nat => σ.1 2 j) := funext fun j => g1.at (by unfold S1; decide : ¬ S1 2) j
  have hkR := kdK_R (fun j : Nat => σ.1 2 j) (sk (fun j : Nat => σ.1 2 j) L i) (scan (isA (fun j : Nat => σ.1 2 j)) L (sk (fun j : Nat => σ.1 2 j) L i))
  refine ev_aload_n dX3_readKind_4 rfl ?_
  refine ev_aload_n dX3_readKind_5 rfl ?_
  refine ev_callVI dX3_readKind_6 kv_X3_162 ((by have q := k_kindOf τ_1 (sk (fun j : Nat => σ.1 2 j) L i) (scan (isA (fun j : Nat => σ.1 2 j)) L (sk (fun j : Nat => σ.1 2 j) L i)) g5 g4 hs3 (by omega); rw [hc] at q; exact q)) rfl rfl (ci := 3) rfl rfl ⟨by decide, by decide⟩ (Nat.le_of_ble_eq_true rfl) ?_
  refine ev_w (fun hR => ?_)
  refine ev_putI (kz := 6) dX3_readKind_9 fp_X3_31 rfl rfl rfl (by first | exact hR.1 _ _ | exact hR0.1 _ _ | assumption | exact ⟨by omega, by omega⟩ | exact ⟨by simp [wr_at]; omega, by simp [wr_at]; omega⟩ | exact b2_R _ | exact band_R _ _ | exact bor_R _ _ | exact bshl_R _ _ | exact bshr_R _ _ | exact bxor_R _ _ | exact bs_R (by omega) | decide) ?_
  refine ev_w (fun hR => ?_)
  refine ev_aload_n dX3_readKind_12 rfl ?_
  refine ev_getI (kz := 6) dX3_readKind_13 fl_X3_31 rfl rfl rfl ?_
  rw [wr_eq]
  refine ev_iconst dX3_readKind_16 ?_
  refine ev_icmp_ne (tgt := 32) dX3_readKind_17 (by decide) (by first | exact hR.1 _ _ | exact hR0.1 _ _ | assumption | exact ⟨by omega, by omega⟩ | exact ⟨by simp [wr_at]; omega, by simp [wr_at]; omega⟩ | exact b2_R _ | exact band_R _ _ | exact bor_R _ _ | exact bshl_R _ _ | exact bshr_R _ _ | exact bxor_R _ _ | exact bs_R (by omega) | decide) (by first | exact hR.1 _ _ | exact hR0.1 _ _ | assumption | exact ⟨by omega, by omega⟩ | exact ⟨by simp [wr_at]; omega, by simp [wr_at]; omega⟩ | exact b2_R _ | exact band_R _ _ | exact bor_R _ _ | exact bshl_R _ _ | exact bshr_R _ _ | exact bxor_R _ _ | exact bs_R (by omega) | decide) (fun h_17 => ?_) (fun h_17 => ?_)
  · refine ev_iconst dX3_readKind_32 ?_
    refine ev_goto (tgt := 37) dX3_readKind_33 (by decide) ?_
    refine ev_ireturn dX3_readKind_37 ?_
    have hA2 : RdA σ (wr τ_1 1 6 (kdK (fun j : Nat => σ.1 2 j) (sk (fun j : Nat => σ.1 2 j) L i) (scan (isA (fun j : Nat => σ.1 2 j)) L (sk (fun j : Nat => σ.1 2 j) L i)))) L (sk (fun j : Nat => σ.1 2 j) L i) (scan (isA (fun j : Nat => σ.1 2 j)) L (sk (fun j : Nat => σ.1 2 j) L i)) := by
      refine ⟨Same.wr (S := S1) g1 rfl, ?_, ?_, ?_, ?_⟩
      · rw [wr_nek _ (by decide)]; exact g2
      · rw [wr_nek _ (by decide)]; exact g3
      · rw [wr_nek _ (by decide)]; exact g4
      · rw [wr_nek _ (by decide)]; exact g5
    first
      | exact absurd rfl h_29
      | (refine ⟨0, rfl, Or.inl ⟨rfl, 1, _, ?_, hA2.fail 1 _⟩⟩
         unfold kndR
         rw [if_pos (by omega)])
      | (refine ⟨1, rfl, Or.inr ⟨rfl, _, _, _, ?_, hA2, wr_eq _ _ _ _⟩⟩
         unfold kndR
         rw [if_neg (by omega)])
  · refine ev_aload_n dX3_readKind_20 rfl ?_
    refine ev_iconst dX3_readKind_21 ?_
    refine ev_aload_n dX3_readKind_22 rfl ?_
    refine ev_getI (kz := 5) dX3_readKind_23 fl_X3_28 rfl rfl rfl ?_
    rw [wr_nek _ (by decide), g5]
    refine ev_callVI dX3_readKind_26 kv_X3_96 (k_fail _ 1 _ (by decide) ⟨by omega, by omega⟩) rfl rfl (ci := 3) rfl rfl ⟨by decide, by decide⟩ (Nat.le_of_ble_eq_true rfl) ?_
    refine ev_w (fun hR => ?_)
    refine ev_if_eq (tgt := 36) dX3_readKind_29 (by decide) (by first | exact hR.1 _ _ | exact hR0.1 _ _ | assumption | exact ⟨by omega, by omega⟩ | exact ⟨by simp [wr_at]; omega, by simp [wr_at]; omega⟩ | exact b2_R _ | exact band_R _ _ | exact bor_R _ _ | exact bshl_R _ _ | exact bshr_R _ _ | exact bxor_R _ _ | exact bs_R (by omega) | decide) (fun h_29 => ?_) (fun h_29 => ?_)
    · refine ev_iconst dX3_readKind_36 ?_
      refine ev_ireturn dX3_readKind_37 ?_
      have hA2 : RdA σ (wr τ_1 1 6 (kdK (fun j : Nat => σ.1 2 j) (sk (fun j : Nat => σ.1 2 j) L i) (scan (isA (fun j : Nat => σ.1 2 j)) L (sk (fun j : Nat => σ.1 2 j) L i)))) L (sk (fun j : Nat => σ.1 2 j) L i) (scan (isA (fun j : Nat => σ.1 2 j)) L (sk (fun j : Nat => σ.1 2 j) L i)) := by
        refine ⟨Same.wr (S := S1) g1 rfl, ?_, ?_, ?_, ?_⟩
        · rw [wr_nek _ (by decide)]; exact g2
        · rw [wr_nek _ (by decide)]; exact g3
        · rw [wr_nek _ (by decide)]; exact g4
        · rw [wr_nek _ (by decide)]; exact g5
      first
        | exact absurd rfl h_29
        | (refine ⟨0, rfl, Or.inl ⟨rfl, 1, _, ?_, hA2.fail 1 _⟩⟩
           unfold kndR
           rw [if_pos (by omega)])
        | (refine ⟨1, rfl, Or.inr ⟨rfl, _, _, _, ?_, hA2, wr_eq _ _ _ _⟩⟩
           unfold kndR
           rw [if_neg (by omega)])
    · refine ev_iconst dX3_readKind_32 ?_
      refine ev_goto (tgt := 37) dX3_readKind_33 (by decide) ?_
      refine ev_ireturn dX3_readKind_37 ?_
      have hA2 : RdA σ (wr τ_1 1 6 (kdK (fun j : Nat => σ.1 2 j) (sk (fun j : Nat => σ.1 2 j) L i) (scan (isA (fun j : Nat => σ.1 2 j)) L (sk (fun j : Nat => σ.1 2 j) L i)))) L (sk (fun j : Nat => σ.1 2 j) L i) (scan (isA (fun j : Nat => σ.1 2 j)) L (sk (fun j : Nat => σ.1 2 j) L i)) := by
        refine ⟨Same.wr (S := S1) g1 rfl, ?_, ?_, ?_, ?_⟩
        · rw [wr_nek _ (by decide)]; exact g2
        · rw [wr_nek _ (by decide)]; exact g3
        · rw [wr_nek _ (by decide)]; exact g4
        · rw [wr_nek _ (by decide)]; exact g5
      first
        | exact absurd rfl h_29
        | (refine ⟨0, rfl, Or.inl ⟨rfl, 1, _, ?_, hA2.fail 1 _⟩⟩
           unfold kndR
           rw [if_pos (by omega)])
        | (refine ⟨1, rfl, Or.inr ⟨rfl, _, _, _, ?_, hA2, wr_eq _ _ _ _⟩⟩
           unfold kndR
           rw [if_neg (by omega)])
