theorem MBk.rch {μ ν σ : Mem} {k : Nat} (h : MBk μ σ k) (hs : Same s123 μ ν) : MBk ν σ k := by
  refine ⟨by rw [hs.at (by unfold s123; decide)]; exact h.1, ?_⟩
  rw [hs.1 129 (by unfold s123; decide), hs.1 130 (by unfold s123; decide), hs.1 131 (by unfold s123; decide)]
  exact h.2
set_option maxHeartbeats 4000000 in
theorem m_couldBe (μ σ : Mem) (P n nr nb nl w wt : Nat) (f t : Nat → Nat) (hM : MRp μ σ P n nr nb nl w wt f t) (k : Nat) (hBk : BookOk σ n nb k) (hMB : MBk μ σ k) (b p : Nat) (m : Int) (hb : b < nb) (hp : p < n) (hm0 : 0 ≤ m) (hm1 : m ≤ 9999) : Con yX8_couldBe cX8_couldBe 7 (some .boolean) 6 147 [.ref 79, .int (iI b), .int (iI p), .int (iI m)] μ (AnsIP (bC (couldZ (dst σ P n nr nl w wt f t b 0 1) (fun i => σ.1 (P + 9) i) (fun i => σ.1 66 i) (fun i => σ.1 67 i) (fun i => σ.1 68 i) k b p m)) (fun ν => Same s123 μ ν)) := by
  refine con_of (by decide) rfl (Nat.le_of_ble_eq_true rfl) (ok_ZP rfl (bC_01 _)) ?_
  refine ev_w (fun hR => ?_)
  have hR0 := hR
  obtain ⟨hPO, hMP, hwc⟩ := id hM
  obtain ⟨hPR, ⟨hnb, hnb4⟩, ⟨hnl, hnl4⟩, hpo, hro, hbo, hlo⟩ := id hPO
  obtain ⟨hP, hn, hn8, hnr, hnr12, hft⟩ := id hPR
  obtain ⟨⟨cn, cr, cb, cl⟩, mp, mr, mbo, ml⟩ := id hMP
  obtain ⟨hk, hk20, hbk⟩ := id hBk
  obtain ⟨mk0, mkr⟩ := id hMB
  have fin : ∀ la nx : Int, (lastU (fun i => σ.1 66 i) (fun i => σ.1 68 i) b m k) = la → (nextA (fun i => σ.1 66 i) (fun i => σ.1 68 i) b m k) = nx → ∀ x6, Ev RX8 cX8_couldBe 7 6 147 (AnsIP (bC (couldZ (dst σ P n nr nl w wt f t b 0 1) (fun i => σ.1 (P + 9) i) (fun i => σ.1 66 i) (fun i => σ.1 67 i) (fun i => σ.1 68 i) k b p m)) (fun ν => Same s123 μ ν)) 122 [some (.ref 79), some (.int (iI b)), some (.int (iI p)), some (.int (iI m)), some (.int (iI la)), some (.int (iI nx)), x6] [] μ := by
    intro la nx hL hN x6
    refine ev_w (fun hR => ?_)
    have hl := lastU_R (fun i => σ.1 66 i) (fun i => σ.1 68 i) b m k
    have ha := nextA_R (fun i => σ.1 66 i) (fun i => σ.1 68 i) b m k
    rw [hL] at hl
    rw [hN] at ha
    have hhm := (hbo b hb).1
    have e87 : μ.1 87 (b : Int) = σ.1 (P + 9) b := (mbo b hb).1
    have hF : ∃ F : Nat, F < n ∧ F = frm (fun i => σ.1 (P + 9) i) (fun i => σ.1 67 i) b la ∧ (la = -1 → μ.1 87 (b : Int) = F) ∧ (la ≠ -1 → μ.1 130 la = F) := by
      by_cases e : la = -1
      · exact ⟨(σ.1 (P + 9) b).toNat, by omega, by unfold frm; rw [if_pos e], fun _ => by omega, fun z => absurd e z⟩
      · obtain ⟨j, rfl⟩ := Int.eq_ofNat_of_zero_le (show 0 ≤ la by omega)
        have q := (hbk j (by omega)).2.1
        have q2 := (mkr j (by omega)).2.1
        refine ⟨(σ.1 67 j).toNat, by omega, ?_, fun z => absurd z e, fun _ => by rw [q2]; omega⟩
        unfold frm
        rw [if_neg e]
        rfl
    obtain ⟨F, hFn, hFe, hF1, hF2⟩ := hF
    have hsn : (la = -1 → snc (fun i => σ.1 68 i) la = 0) ∧ (la ≠ -1 → μ.1 131 la = snc (fun i => σ.1 68 i) la) ∧ 0 ≤ snc (fun i => σ.1 68 i) la ∧ snc (fun i => σ.1 68 i) la ≤ 9999 := by
      unfold snc
      by_cases e : la = -1
      · rw [if_pos e]; exact ⟨fun _ => rfl, fun z => absurd e z, by decide, by decide⟩
      · rw [if_neg e]
        obtain ⟨j, rfl⟩ := Int.eq_ofNat_of_zero_le (show 0 ≤ la by omega)
        have q := (hbk j (by omega)).2.2
        have q2 := (mkr j (by omega)).2.2
        exact ⟨fun z => absurd z e, fun _ => q2, q.1, q.2⟩
    have hcz : couldZ (dst σ P n nr nl w wt f t b 0 1) (fun i => σ.1 (P + 9) i) (fun i => σ.1 66 i) (fun i => σ.1 67 i) (fun i => σ.1 68 i) k b p m ↔ dst σ P n nr nl w wt f t b 0 1 F p ≤ m - snc (fun i => σ.1 68 i) la ∧ (nx = -1 ∨ dst σ P n nr nl w wt f t b 0 1 p (σ.1 67 (nx.toNat : Nat)).toNat ≤ σ.1 68 (nx.toNat : Nat) - m) := by
      unfold couldZ
      rw [hL, hN, hFe]
    generalize hS9 : snc (fun i => σ.1 68 i) la = S9 at *
    refine ev_aload_n dX8_couldBe_122 rfl ?_
    refine ev_iload_n dX8_couldBe_123 rfl ?_
    refine ev_iload dX8_couldBe_124 rfl ?_
    refine ev_if_ge (tgt := 138) dX8_couldBe_126 (by decide) (by first | exact hR.1 _ _ | exact hR0.1 _ _ | assumption | exact ⟨by omega, by omega⟩ | exact ⟨by simp [wr_at]; omega, by simp [wr_at]; omega⟩ | exact b2_R _ | exact bC_R _ | exact band_R _ _ | exact bor_R _ _ | exact bshl_R _ _ | exact bshr_R _ _ | exact bxor_R _ _ | exact bs_R (by omega) | decide) (fun h_126 => ?_) (fun h_126 => ?_)
    · refine ev_aload_n dX8_couldBe_138 rfl ?_
      refine ev_getR (r := 130) dX8_couldBe_139 fl_X8_165 rfl rfl rfl ?_
      refine ev_iload dX8_couldBe_142 rfl ?_
      refine ev_iaload dX8_couldBe_144 rfl (by first | omega | (simp [wr_at]; omega) | (simp [wr_at, *]; omega)) (by first | omega | (simp [wr_at]; omega) | (simp [wr_at, *]; omega)) (by decide) ?_
      first
        | rw [hF1 (by omega)]
        | rw [hF2 (by omega)]
      refine ev_iload_n dX8_couldBe_145 rfl ?_
      refine ev_iload dX8_couldBe_146 rfl ?_
      refine ev_if_ge (tgt := 155) dX8_couldBe_148 (by decide) (by first | exact hR.1 _ _ | exact hR0.1 _ _ | assumption | exact ⟨by omega, by omega⟩ | exact ⟨by simp [wr_at]; omega, by simp [wr_at]; omega⟩ | exact b2_R _ | exact bC_R _ | exact band_R _ _ | exact bor_R _ _ | exact bshl_R _ _ | exact bshr_R _ _ | exact bxor_R _ _ | exact bs_R (by omega) | decide) (fun h_148 => ?_) (fun h_148 => ?_)
      · refine ev_iload_n dX8_couldBe_155 rfl ?_
        refine ev_aload_n dX8_couldBe_156 rfl ?_
        refine ev_getR (r := 131) dX8_couldBe_157 fl_X8_168 rfl rfl rfl ?_
        refine ev_iload dX8_couldBe_160 rfl ?_
        refine ev_iaload dX8_couldBe_162 rfl (by first | omega | (simp [wr_at]; omega) | (simp [wr_at, *]; omega)) (by first | omega | (simp [wr_at]; omega) | (simp [wr_at, *]; omega)) (by decide) ?_
        rw [hsn.2.1 (by omega)]
        refine ev_isub dX8_couldBe_163 ?_
        refine ev_callVP dX8_couldBe_164 kv_X8_456 (m_canCome μ σ P n nr nb nl w wt f t hM b F p hb hFn hp _ (by omega)) rfl rfl (ci := 8) rfl rfl ⟨by decide, by decide⟩ (Nat.le_of_ble_eq_true rfl) ?_
        rintro v_164 τ_164 ⟨rfl, hq_164⟩
        refine ev_w (fun hR => ?_)
        refine ev_istore dX8_couldBe_167 rfl (by decide) rfl ?_
        refine ev_iload dX8_couldBe_169 rfl ?_
        refine ev_if_eq (tgt := 208) dX8_couldBe_171 (by decide) (by first | exact hR.1 _ _ | exact hR0.1 _ _ | assumption | exact ⟨by omega, by omega⟩ | exact ⟨by simp [wr_at]; omega, by simp [wr_at]; omega⟩ | exact b2_R _ | exact bC_R _ | exact band_R _ _ | exact bor_R _ _ | exact bshl_R _ _ | exact bshr_R _ _ | exact bxor_R _ _ | exact bs_R (by omega) | decide) (fun h_171 => ?_) (fun h_171 => ?_)
        · refine ev_iconst dX8_couldBe_208 ?_
          refine ev_ireturn dX8_couldBe_209 ?_
          first
            | (exfalso; omega)
            | (rw [bC_f (fun z => by have := b2_eq h_171; have := (hcz.mp z).1; omega)]; exact ⟨rfl, hq_164⟩)
            | (rw [bC_t (hcz.mpr ⟨by have := b2_ne h_171; omega, Or.inl (by omega)⟩)]; exact ⟨rfl, hq_164⟩)
            | (rw [bC_f (fun z => by
                 rcases (hcz.mp z).2 with y | y
                 · omega
                 · have y1 := b2_eq h_201
                   rw [show ((j : Int)).toNat = j from rfl, hG] at y
                   exact y1 y)]; exact ⟨rfl, hq_164.tr hq_198⟩)
            | (rw [bC_t (hcz.mpr ⟨by have := b2_ne h_171; omega, Or.inr (by
                 have y1 := b2_ne h_201
                 rw [show ((j : Int)).toNat = j from rfl, hG]
                 exact y1)⟩)]; exact ⟨rfl, hq_164.tr hq_198⟩)
        · refine ev_iload dX8_couldBe_174 rfl ?_
          refine ev_if_lt (tgt := 204) dX8_couldBe_176 (by decide) (by first | exact hR.1 _ _ | exact hR0.1 _ _ | assumption | exact ⟨by omega, by omega⟩ | exact ⟨by simp [wr_at]; omega, by simp [wr_at]; omega⟩ | exact b2_R _ | exact bC_R _ | exact band_R _ _ | exact bor_R _ _ | exact bshl_R _ _ | exact bshr_R _ _ | exact bxor_R _ _ | exact bs_R (by omega) | decide) (fun h_176 => ?_) (fun h_176 => ?_)
          · refine ev_iconst dX8_couldBe_204 ?_
            refine ev_goto (tgt := 209) dX8_couldBe_205 (by decide) ?_
            refine ev_ireturn dX8_couldBe_209 ?_
            first
              | (exfalso; omega)
              | (rw [bC_f (fun z => by have := b2_eq h_171; have := (hcz.mp z).1; omega)]; exact ⟨rfl, hq_164⟩)
              | (rw [bC_t (hcz.mpr ⟨by have := b2_ne h_171; omega, Or.inl (by omega)⟩)]; exact ⟨rfl, hq_164⟩)
              | (rw [bC_f (fun z => by
                   rcases (hcz.mp z).2 with y | y
                   · omega
                   · have y1 := b2_eq h_201
                     rw [show ((j : Int)).toNat = j from rfl, hG] at y
                     exact y1 y)]; exact ⟨rfl, hq_164.tr hq_198⟩)
              | (rw [bC_t (hcz.mpr ⟨by have := b2_ne h_171; omega, Or.inr (by
                   have y1 := b2_ne h_201
                   rw [show ((j : Int)).toNat = j from rfl, hG]
                   exact y1)⟩)]; exact ⟨rfl, hq_164.tr hq_198⟩)
          · obtain ⟨j, rfl⟩ := Int.eq_ofNat_of_zero_le (show 0 ≤ nx by omega)
            have qj := hbk j (by omega)
            have qm := (hMB.rch hq_164).2 j (by omega)
            obtain ⟨G, hG⟩ := Int.eq_ofNat_of_zero_le qj.2.1.1
            have hrp2 := hM.rch hq_164
            refine ev_aload_n dX8_couldBe_179 rfl ?_
            refine ev_iload_n dX8_couldBe_180 rfl ?_
            refine ev_iload_n dX8_couldBe_181 rfl ?_
            refine ev_aload_n dX8_couldBe_182 rfl ?_
            refine ev_getR (r := 130) dX8_couldBe_183 fl_X8_165 rfl rfl rfl ?_
            refine ev_iload dX8_couldBe_186 rfl ?_
            refine ev_iaload dX8_couldBe_188 rfl (by first | omega | (simp [wr_at]; omega) | (simp [wr_at, *]; omega)) (by first | omega | (simp [wr_at]; omega) | (simp [wr_at, *]; omega)) (by decide) ?_
            rw [qm.2.1, hG]
            refine ev_aload_n dX8_couldBe_189 rfl ?_
            refine ev_getR (r := 131) dX8_couldBe_190 fl_X8_168 rfl rfl rfl ?_
            refine ev_iload dX8_couldBe_193 rfl ?_
            refine ev_iaload dX8_couldBe_195 rfl (by first | omega | (simp [wr_at]; omega) | (simp [wr_at, *]; omega)) (by first | omega | (simp [wr_at]; omega) | (simp [wr_at, *]; omega)) (by decide) ?_
            rw [qm.2.2]
            refine ev_iload_n dX8_couldBe_196 rfl ?_
            refine ev_isub dX8_couldBe_197 ?_
            refine ev_callVP dX8_couldBe_198 kv_X8_456 (m_canCome _ σ P n nr nb nl w wt f t hrp2 b p G hb hp (by omega) _ (by omega)) rfl rfl (ci := 8) rfl rfl ⟨by decide, by decide⟩ (Nat.le_of_ble_eq_true rfl) ?_
            rintro v_198 τ_198 ⟨rfl, hq_198⟩
            refine ev_w (fun hR => ?_)
            refine ev_if_eq (tgt := 208) dX8_couldBe_201 (by decide) (by first | exact hR.1 _ _ | exact hR0.1 _ _ | assumption | exact ⟨by omega, by omega⟩ | exact ⟨by simp [wr_at]; omega, by simp [wr_at]; omega⟩ | exact b2_R _ | exact bC_R _ | exact band_R _ _ | exact bor_R _ _ | exact bshl_R _ _ | exact bshr_R _ _ | exact bxor_R _ _ | exact bs_R (by omega) | decide) (fun h_201 => ?_) (fun h_201 => ?_)
            · refine ev_iconst dX8_couldBe_208 ?_
              refine ev_ireturn dX8_couldBe_209 ?_
              first
                | (exfalso; omega)
                | (rw [bC_f (fun z => by have := b2_eq h_171; have := (hcz.mp z).1; omega)]; exact ⟨rfl, hq_164⟩)
                | (rw [bC_t (hcz.mpr ⟨by have := b2_ne h_171; omega, Or.inl (by omega)⟩)]; exact ⟨rfl, hq_164⟩)
                | (rw [bC_f (fun z => by
                     rcases (hcz.mp z).2 with y | y
                     · omega
                     · have y1 := b2_eq h_201
                       rw [show ((j : Int)).toNat = j from rfl, hG] at y
                       exact y1 y)]; exact ⟨rfl, hq_164.tr hq_198⟩)
                | (rw [bC_t (hcz.mpr ⟨by have := b2_ne h_171; omega, Or.inr (by
                     have y1 := b2_ne h_201
                     rw [show ((j : Int)).toNat = j from rfl, hG]
                     exact y1)⟩)]; exact ⟨rfl, hq_164.tr hq_198⟩)
            · refine ev_iconst dX8_couldBe_204 ?_
              refine ev_goto (tgt := 209) dX8_couldBe_205 (by decide) ?_
              refine ev_ireturn dX8_couldBe_209 ?_
              first
                | (exfalso; omega)
                | (rw [bC_f (fun z => by have := b2_eq h_171; have := (hcz.mp z).1; omega)]; exact ⟨rfl, hq_164⟩)
                | (rw [bC_t (hcz.mpr ⟨by have := b2_ne h_171; omega, Or.inl (by omega)⟩)]; exact ⟨rfl, hq_164⟩)
                | (rw [bC_f (fun z => by
                     rcases (hcz.mp z).2 with y | y
                     · omega
                     · have y1 := b2_eq h_201
                       rw [show ((j : Int)).toNat = j from rfl, hG] at y
                       exact y1 y)]; exact ⟨rfl, hq_164.tr hq_198⟩)
                | (rw [bC_t (hcz.mpr ⟨by have := b2_ne h_171; omega, Or.inr (by
                     have y1 := b2_ne h_201
                     rw [show ((j : Int)).toNat = j from rfl, hG]
                     exact y1)⟩)]; exact ⟨rfl, hq_164.tr hq_198⟩)
      · refine ev_iload_n dX8_couldBe_151 rfl ?_
        refine ev_goto (tgt := 164) dX8_couldBe_152 (by decide) ?_
        refine ev_callVP dX8_couldBe_164 kv_X8_456 (m_canCome μ σ P n nr nb nl w wt f t hM b F p hb hFn hp _ (by omega)) rfl rfl (ci := 8) rfl rfl ⟨by decide, by decide⟩ (Nat.le_of_ble_eq_true rfl) ?_
        rintro v_164 τ_164 ⟨rfl, hq_164⟩
        refine ev_w (fun hR => ?_)
        refine ev_istore dX8_couldBe_167 rfl (by decide) rfl ?_
        refine ev_iload dX8_couldBe_169 rfl ?_
        refine ev_if_eq (tgt := 208) dX8_couldBe_171 (by decide) (by first | exact hR.1 _ _ | exact hR0.1 _ _ | assumption | exact ⟨by omega, by omega⟩ | exact ⟨by simp [wr_at]; omega, by simp [wr_at]; omega⟩ | exact b2_R _ | exact bC_R _ | exact band_R _ _ | exact bor_R _ _ | exact bshl_R _ _ | exact bshr_R _ _ | exact bxor_R _ _ | exact bs_R (by omega) | decide) (fun h_171 => ?_) (fun h_171 => ?_)
        · refine ev_iconst dX8_couldBe_208 ?_
          refine ev_ireturn dX8_couldBe_209 ?_
          first
            | (exfalso; omega)
            | (rw [bC_f (fun z => by have := b2_eq h_171; have := (hcz.mp z).1; omega)]; exact ⟨rfl, hq_164⟩)
            | (rw [bC_t (hcz.mpr ⟨by have := b2_ne h_171; omega, Or.inl (by omega)⟩)]; exact ⟨rfl, hq_164⟩)
            | (rw [bC_f (fun z => by
                 rcases (hcz.mp z).2 with y | y
                 · omega
                 · have y1 := b2_eq h_201
                   rw [show ((j : Int)).toNat = j from rfl, hG] at y
                   exact y1 y)]; exact ⟨rfl, hq_164.tr hq_198⟩)
            | (rw [bC_t (hcz.mpr ⟨by have := b2_ne h_171; omega, Or.inr (by
                 have y1 := b2_ne h_201
                 rw [show ((j : Int)).toNat = j from rfl, hG]
                 exact y1)⟩)]; exact ⟨rfl, hq_164.tr hq_198⟩)
        · refine ev_iload dX8_couldBe_174 rfl ?_
          refine ev_if_lt (tgt := 204) dX8_couldBe_176 (by decide) (by first | exact hR.1 _ _ | exact hR0.1 _ _ | assumption | exact ⟨by omega, by omega⟩ | exact ⟨by simp [wr_at]; omega, by simp [wr_at]; omega⟩ | exact b2_R _ | exact bC_R _ | exact band_R _ _ | exact bor_R _ _ | exact bshl_R _ _ | exact bshr_R _ _ | exact bxor_R _ _ | exact bs_R (by omega) | decide) (fun h_176 => ?_) (fun h_176 => ?_)
          · refine ev_iconst dX8_couldBe_204 ?_
            refine ev_goto (tgt := 209) dX8_couldBe_205 (by decide) ?_
            refine ev_ireturn dX8_couldBe_209 ?_
            first
              | (exfalso; omega)
              | (rw [bC_f (fun z => by have := b2_eq h_171; have := (hcz.mp z).1; omega)]; exact ⟨rfl, hq_164⟩)
              | (rw [bC_t (hcz.mpr ⟨by have := b2_ne h_171; omega, Or.inl (by omega)⟩)]; exact ⟨rfl, hq_164⟩)
              | (rw [bC_f (fun z => by
                   rcases (hcz.mp z).2 with y | y
                   · omega
                   · have y1 := b2_eq h_201
                     rw [show ((j : Int)).toNat = j from rfl, hG] at y
                     exact y1 y)]; exact ⟨rfl, hq_164.tr hq_198⟩)
              | (rw [bC_t (hcz.mpr ⟨by have := b2_ne h_171; omega, Or.inr (by
                   have y1 := b2_ne h_201
                   rw [show ((j : Int)).toNat = j from rfl, hG]
                   exact y1)⟩)]; exact ⟨rfl, hq_164.tr hq_198⟩)
          · obtain ⟨j, rfl⟩ := Int.eq_ofNat_of_zero_le (show 0 ≤ nx by omega)
            have qj := hbk j (by omega)
            have qm := (hMB.rch hq_164).2 j (by omega)
            obtain ⟨G, hG⟩ := Int.eq_ofNat_of_zero_le qj.2.1.1
            have hrp2 := hM.rch hq_164
            refine ev_aload_n dX8_couldBe_179 rfl ?_
            refine ev_iload_n dX8_couldBe_180 rfl ?_
            refine ev_iload_n dX8_couldBe_181 rfl ?_
            refine ev_aload_n dX8_couldBe_182 rfl ?_
            refine ev_getR (r := 130) dX8_couldBe_183 fl_X8_165 rfl rfl rfl ?_
            refine ev_iload dX8_couldBe_186 rfl ?_
            refine ev_iaload dX8_couldBe_188 rfl (by first | omega | (simp [wr_at]; omega) | (simp [wr_at, *]; omega)) (by first | omega | (simp [wr_at]; omega) | (simp [wr_at, *]; omega)) (by decide) ?_
            rw [qm.2.1, hG]
            refine ev_aload_n dX8_couldBe_189 rfl ?_
            refine ev_getR (r := 131) dX8_couldBe_190 fl_X8_168 rfl rfl rfl ?_
            refine ev_iload dX8_couldBe_193 rfl ?_
            refine ev_iaload dX8_couldBe_195 rfl (by first | omega | (simp [wr_at]; omega) | (simp [wr_at, *]; omega)) (by first | omega | (simp [wr_at]; omega) | (simp [wr_at, *]; omega)) (by decide) ?_
            rw [qm.2.2]
            refine ev_iload_n dX8_couldBe_196 rfl ?_
            refine ev_isub dX8_couldBe_197 ?_
            refine ev_callVP dX8_couldBe_198 kv_X8_456 (m_canCome _ σ P n nr nb nl w wt f t hrp2 b p G hb hp (by omega) _ (by omega)) rfl rfl (ci := 8) rfl rfl ⟨by decide, by decide⟩ (Nat.le_of_ble_eq_true rfl) ?_
            rintro v_198 τ_198 ⟨rfl, hq_198⟩
            refine ev_w (fun hR => ?_)
            refine ev_if_eq (tgt := 208) dX8_couldBe_201 (by decide) (by first | exact hR.1 _ _ | exact hR0.1 _ _ | assumption | exact ⟨by omega, by omega⟩ | exact ⟨by simp [wr_at]; omega, by simp [wr_at]; omega⟩ | exact b2_R _ | exact bC_R _ | exact band_R _ _ | exact bor_R _ _ | exact bshl_R _ _ | exact bshr_R _ _ | exact bxor_R _ _ | exact bs_R (by omega) | decide) (fun h_201 => ?_) (fun h_201 => ?_)
            · refine ev_iconst dX8_couldBe_208 ?_
              refine ev_ireturn dX8_couldBe_209 ?_
              first
                | (exfalso; omega)
                | (rw [bC_f (fun z => by have := b2_eq h_171; have := (hcz.mp z).1; omega)]; exact ⟨rfl, hq_164⟩)
                | (rw [bC_t (hcz.mpr ⟨by have := b2_ne h_171; omega, Or.inl (by omega)⟩)]; exact ⟨rfl, hq_164⟩)
                | (rw [bC_f (fun z => by
                     rcases (hcz.mp z).2 with y | y
                     · omega
                     · have y1 := b2_eq h_201
                       rw [show ((j : Int)).toNat = j from rfl, hG] at y
                       exact y1 y)]; exact ⟨rfl, hq_164.tr hq_198⟩)
                | (rw [bC_t (hcz.mpr ⟨by have := b2_ne h_171; omega, Or.inr (by
                     have y1 := b2_ne h_201
                     rw [show ((j : Int)).toNat = j from rfl, hG]
                     exact y1)⟩)]; exact ⟨rfl, hq_164.tr hq_198⟩)
            · refine ev_iconst dX8_couldBe_204 ?_
              refine ev_goto (tgt := 209) dX8_couldBe_205 (by decide) ?_
              refine ev_ireturn dX8_couldBe_209 ?_
              first
                | (exfalso; omega)
                | (rw [bC_f (fun z => by have := b2_eq h_171; have := (hcz.mp z).1; omega)]; exact ⟨rfl, hq_164⟩)
                | (rw [bC_t (hcz.mpr ⟨by have := b2_ne h_171; omega, Or.inl (by omega)⟩)]; exact ⟨rfl, hq_164⟩)
                | (rw [bC_f (fun z => by
                     rcases (hcz.mp z).2 with y | y
                     · omega
                     · have y1 := b2_eq h_201
                       rw [show ((j : Int)).toNat = j from rfl, hG] at y
                       exact y1 y)]; exact ⟨rfl, hq_164.tr hq_198⟩)
                | (rw [bC_t (hcz.mpr ⟨by have := b2_ne h_171; omega, Or.inr (by
                     have y1 := b2_ne h_201
                     rw [show ((j : Int)).toNat = j from rfl, hG]
                     exact y1)⟩)]; exact ⟨rfl, hq_164.tr hq_198⟩)
    · refine ev_aload_n dX8_couldBe_129 rfl ?_
      refine ev_getR (r := 87) dX8_couldBe_130 fl_X8_31 rfl rfl rfl ?_
      refine ev_iload_n dX8_couldBe_133 rfl ?_
      refine ev_iaload dX8_couldBe_134 rfl (by first | omega | (simp [wr_at]; omega) | (simp [wr_at, *]; omega)) (by first | omega | (simp [wr_at]; omega) | (simp [wr_at, *]; omega)) (by decide) ?_
      refine ev_goto (tgt := 145) dX8_couldBe_135 (by decide) ?_
      first
        | rw [hF1 (by omega)]
        | rw [hF2 (by omega)]
      refine ev_iload_n dX8_couldBe_145 rfl ?_
      refine ev_iload dX8_couldBe_146 rfl ?_
      refine ev_if_ge (tgt := 155) dX8_couldBe_148 (by decide) (by first | exact hR.1 _ _ | exact hR0.1 _ _ | assumption | exact ⟨by omega, by omega⟩ | exact ⟨by simp [wr_at]; omega, by simp [wr_at]; omega⟩ | exact b2_R _ | exact bC_R _ | exact band_R _ _ | exact bor_R _ _ | exact bshl_R _ _ | exact bshr_R _ _ | exact bxor_R _ _ | exact bs_R (by omega) | decide) (fun h_148 => ?_) (fun h_148 => ?_)
      · refine ev_iload_n dX8_couldBe_155 rfl ?_
        refine ev_aload_n dX8_couldBe_156 rfl ?_
        refine ev_getR (r := 131) dX8_couldBe_157 fl_X8_168 rfl rfl rfl ?_
        refine ev_iload dX8_couldBe_160 rfl ?_
        refine ev_iaload dX8_couldBe_162 rfl (by first | omega | (simp [wr_at]; omega) | (simp [wr_at, *]; omega)) (by first | omega | (simp [wr_at]; omega) | (simp [wr_at, *]; omega)) (by decide) ?_
        rw [hsn.2.1 (by omega)]
        refine ev_isub dX8_couldBe_163 ?_
        refine ev_callVP dX8_couldBe_164 kv_X8_456 (m_canCome μ σ P n nr nb nl w wt f t hM b F p hb hFn hp _ (by omega)) rfl rfl (ci := 8) rfl rfl ⟨by decide, by decide⟩ (Nat.le_of_ble_eq_true rfl) ?_
        rintro v_164 τ_164 ⟨rfl, hq_164⟩
        refine ev_w (fun hR => ?_)
        refine ev_istore dX8_couldBe_167 rfl (by decide) rfl ?_
        refine ev_iload dX8_couldBe_169 rfl ?_
        refine ev_if_eq (tgt := 208) dX8_couldBe_171 (by decide) (by first | exact hR.1 _ _ | exact hR0.1 _ _ | assumption | exact ⟨by omega, by omega⟩ | exact ⟨by simp [wr_at]; omega, by simp [wr_at]; omega⟩ | exact b2_R _ | exact bC_R _ | exact band_R _ _ | exact bor_R _ _ | exact bshl_R _ _ | exact bshr_R _ _ | exact bxor_R _ _ | exact bs_R (by omega) | decide) (fun h_171 => ?_) (fun h_171 => ?_)
        · refine ev_iconst dX8_couldBe_208 ?_
          refine ev_ireturn dX8_couldBe_209 ?_
          first
            | (exfalso; omega)
            | (rw [bC_f (fun z => by have := b2_eq h_171; have := (hcz.mp z).1; omega)]; exact ⟨rfl, hq_164⟩)
            | (rw [bC_t (hcz.mpr ⟨by have := b2_ne h_171; omega, Or.inl (by omega)⟩)]; exact ⟨rfl, hq_164⟩)
            | (rw [bC_f (fun z => by
                 rcases (hcz.mp z).2 with y | y
                 · omega
                 · have y1 := b2_eq h_201
                   rw [show ((j : Int)).toNat = j from rfl, hG] at y
                   exact y1 y)]; exact ⟨rfl, hq_164.tr hq_198⟩)
            | (rw [bC_t (hcz.mpr ⟨by have := b2_ne h_171; omega, Or.inr (by
                 have y1 := b2_ne h_201
                 rw [show ((j : Int)).toNat = j from rfl, hG]
                 exact y1)⟩)]; exact ⟨rfl, hq_164.tr hq_198⟩)
        · refine ev_iload dX8_couldBe_174 rfl ?_
          refine ev_if_lt (tgt := 204) dX8_couldBe_176 (by decide) (by first | exact hR.1 _ _ | exact hR0.1 _ _ | assumption | exact ⟨by omega, by omega⟩ | exact ⟨by simp [wr_at]; omega, by simp [wr_at]; omega⟩ | exact b2_R _ | exact bC_R _ | exact band_R _ _ | exact bor_R _ _ | exact bshl_R _ _ | exact bshr_R _ _ | exact bxor_R _ _ | exact bs_R (by omega) | decide) (fun h_176 => ?_) (fun h_176 => ?_)
          · refine ev_iconst dX8_couldBe_204 ?_
            refine ev_goto (tgt := 209) dX8_couldBe_205 (by decide) ?_
            refine ev_ireturn dX8_couldBe_209 ?_
            first
              | (exfalso; omega)
              | (rw [bC_f (fun z => by have := b2_eq h_171; have := (hcz.mp z).1; omega)]; exact ⟨rfl, hq_164⟩)
              | (rw [bC_t (hcz.mpr ⟨by have := b2_ne h_171; omega, Or.inl (by omega)⟩)]; exact ⟨rfl, hq_164⟩)
              | (rw [bC_f (fun z => by
                   rcases (hcz.mp z).2 with y | y
                   · omega
                   · have y1 := b2_eq h_201
                     rw [show ((j : Int)).toNat = j from rfl, hG] at y
                     exact y1 y)]; exact ⟨rfl, hq_164.tr hq_198⟩)
              | (rw [bC_t (hcz.mpr ⟨by have := b2_ne h_171; omega, Or.inr (by
                   have y1 := b2_ne h_201
                   rw [show ((j : Int)).toNat = j from rfl, hG]
                   exact y1)⟩)]; exact ⟨rfl, hq_164.tr hq_198⟩)
          · obtain ⟨j, rfl⟩ := Int.eq_ofNat_of_zero_le (show 0 ≤ nx by omega)
            have qj := hbk j (by omega)
            have qm := (hMB.rch hq_164).2 j (by omega)
            obtain ⟨G, hG⟩ := Int.eq_ofNat_of_zero_le qj.2.1.1
            have hrp2 := hM.rch hq_164
            refine ev_aload_n dX8_couldBe_179 rfl ?_
            refine ev_iload_n dX8_couldBe_180 rfl ?_
            refine ev_iload_n dX8_couldBe_181 rfl ?_
            refine ev_aload_n dX8_couldBe_182 rfl ?_
            refine ev_getR (r := 130) dX8_couldBe_183 fl_X8_165 rfl rfl rfl ?_
            refine ev_iload dX8_couldBe_186 rfl ?_
            refine ev_iaload dX8_couldBe_188 rfl (by first | omega | (simp [wr_at]; omega) | (simp [wr_at, *]; omega)) (by first | omega | (simp [wr_at]; omega) | (simp [wr_at, *]; omega)) (by decide) ?_
            rw [qm.2.1, hG]
            refine ev_aload_n dX8_couldBe_189 rfl ?_
            refine ev_getR (r := 131) dX8_couldBe_190 fl_X8_168 rfl rfl rfl ?_
            refine ev_iload dX8_couldBe_193 rfl ?_
            refine ev_iaload dX8_couldBe_195 rfl (by first | omega | (simp [wr_at]; omega) | (simp [wr_at, *]; omega)) (by first | omega | (simp [wr_at]; omega) | (simp [wr_at, *]; omega)) (by decide) ?_
            rw [qm.2.2]
            refine ev_iload_n dX8_couldBe_196 rfl ?_
            refine ev_isub dX8_couldBe_197 ?_
            refine ev_callVP dX8_couldBe_198 kv_X8_456 (m_canCome _ σ P n nr nb nl w wt f t hrp2 b p G hb hp (by omega) _ (by omega)) rfl rfl (ci := 8) rfl rfl ⟨by decide, by decide⟩ (Nat.le_of_ble_eq_true rfl) ?_
            rintro v_198 τ_198 ⟨rfl, hq_198⟩
            refine ev_w (fun hR => ?_)
            refine ev_if_eq (tgt := 208) dX8_couldBe_201 (by decide) (by first | exact hR.1 _ _ | exact hR0.1 _ _ | assumption | exact ⟨by omega, by omega⟩ | exact ⟨by simp [wr_at]; omega, by simp [wr_at]; omega⟩ | exact b2_R _ | exact bC_R _ | exact band_R _ _ | exact bor_R _ _ | exact bshl_R _ _ | exact bshr_R _ _ | exact bxor_R _ _ | exact bs_R (by omega) | decide) (fun h_201 => ?_) (fun h_201 => ?_)
            · refine ev_iconst dX8_couldBe_208 ?_
              refine ev_ireturn dX8_couldBe_209 ?_
              first
                | (exfalso; omega)
                | (rw [bC_f (fun z => by have := b2_eq h_171; have := (hcz.mp z).1; omega)]; exact ⟨rfl, hq_164⟩)
                | (rw [bC_t (hcz.mpr ⟨by have := b2_ne h_171; omega, Or.inl (by omega)⟩)]; exact ⟨rfl, hq_164⟩)
                | (rw [bC_f (fun z => by
                     rcases (hcz.mp z).2 with y | y
                     · omega
                     · have y1 := b2_eq h_201
                       rw [show ((j : Int)).toNat = j from rfl, hG] at y
                       exact y1 y)]; exact ⟨rfl, hq_164.tr hq_198⟩)
                | (rw [bC_t (hcz.mpr ⟨by have := b2_ne h_171; omega, Or.inr (by
                     have y1 := b2_ne h_201
                     rw [show ((j : Int)).toNat = j from rfl, hG]
                     exact y1)⟩)]; exact ⟨rfl, hq_164.tr hq_198⟩)
            · refine ev_iconst dX8_couldBe_204 ?_
              refine ev_goto (tgt := 209) dX8_couldBe_205 (by decide) ?_
              refine ev_ireturn dX8_couldBe_209 ?_
              first
                | (exfalso; omega)
                | (rw [bC_f (fun z => by have := b2_eq h_171; have := (hcz.mp z).1; omega)]; exact ⟨rfl, hq_164⟩)
                | (rw [bC_t (hcz.mpr ⟨by have := b2_ne h_171; omega, Or.inl (by omega)⟩)]; exact ⟨rfl, hq_164⟩)
                | (rw [bC_f (fun z => by
                     rcases (hcz.mp z).2 with y | y
                     · omega
                     · have y1 := b2_eq h_201
                       rw [show ((j : Int)).toNat = j from rfl, hG] at y
                       exact y1 y)]; exact ⟨rfl, hq_164.tr hq_198⟩)
                | (rw [bC_t (hcz.mpr ⟨by have := b2_ne h_171; omega, Or.inr (by
                     have y1 := b2_ne h_201
                     rw [show ((j : Int)).toNat = j from rfl, hG]
                     exact y1)⟩)]; exact ⟨rfl, hq_164.tr hq_198⟩)
      · refine ev_iload_n dX8_couldBe_151 rfl ?_
        refine ev_goto (tgt := 164) dX8_couldBe_152 (by decide) ?_
        refine ev_callVP dX8_couldBe_164 kv_X8_456 (m_canCome μ σ P n nr nb nl w wt f t hM b F p hb hFn hp _ (by omega)) rfl rfl (ci := 8) rfl rfl ⟨by decide, by decide⟩ (Nat.le_of_ble_eq_true rfl) ?_
        rintro v_164 τ_164 ⟨rfl, hq_164⟩
        refine ev_w (fun hR => ?_)
        refine ev_istore dX8_couldBe_167 rfl (by decide) rfl ?_
        refine ev_iload dX8_couldBe_169 rfl ?_
        refine ev_if_eq (tgt := 208) dX8_couldBe_171 (by decide) (by first | exact hR.1 _ _ | exact hR0.1 _ _ | assumption | exact ⟨by omega, by omega⟩ | exact ⟨by simp [wr_at]; omega, by simp [wr_at]; omega⟩ | exact b2_R _ | exact bC_R _ | exact band_R _ _ | exact bor_R _ _ | exact bshl_R _ _ | exact bshr_R _ _ | exact bxor_R _ _ | exact bs_R (by omega) | decide) (fun h_171 => ?_) (fun h_171 => ?_)
        · refine ev_iconst dX8_couldBe_208 ?_
          refine ev_ireturn dX8_couldBe_209 ?_
          first
            | (exfalso; omega)
            | (rw [bC_f (fun z => by have := b2_eq h_171; have := (hcz.mp z).1; omega)]; exact ⟨rfl, hq_164⟩)
            | (rw [bC_t (hcz.mpr ⟨by have := b2_ne h_171; omega, Or.inl (by omega)⟩)]; exact ⟨rfl, hq_164⟩)
            | (rw [bC_f (fun z => by
                 rcases (hcz.mp z).2 with y | y
                 · omega
                 · have y1 := b2_eq h_201
                   rw [show ((j : Int)).toNat = j from rfl, hG] at y
                   exact y1 y)]; exact ⟨rfl, hq_164.tr hq_198⟩)
            | (rw [bC_t (hcz.mpr ⟨by have := b2_ne h_171; omega, Or.inr (by
                 have y1 := b2_ne h_201
                 rw [show ((j : Int)).toNat = j from rfl, hG]
                 exact y1)⟩)]; exact ⟨rfl, hq_164.tr hq_198⟩)
        · refine ev_iload dX8_couldBe_174 rfl ?_
          refine ev_if_lt (tgt := 204) dX8_couldBe_176 (by decide) (by first | exact hR.1 _ _ | exact hR0.1 _ _ | assumption | exact ⟨by omega, by omega⟩ | exact ⟨by simp [wr_at]; omega, by simp [wr_at]; omega⟩ | exact b2_R _ | exact bC_R _ | exact band_R _ _ | exact bor_R _ _ | exact bshl_R _ _ | exact bshr_R _ _ | exact bxor_R _ _ | exact bs_R (by omega) | decide) (fun h_176 => ?_) (fun h_176 => ?_)
          · refine ev_iconst dX8_couldBe_204 ?_
            refine ev_goto (tgt := 209) dX8_couldBe_205 (by decide) ?_
            refine ev_ireturn dX8_couldBe_209 ?_
            first
              | (exfalso; omega)
              | (rw [bC_f (fun z => by have := b2_eq h_171; have := (hcz.mp z).1; omega)]; exact ⟨rfl, hq_164⟩)
              | (rw [bC_t (hcz.mpr ⟨by have := b2_ne h_171; omega, Or.inl (by omega)⟩)]; exact ⟨rfl, hq_164⟩)
              | (rw [bC_f (fun z => by
                   rcases (hcz.mp z).2 with y | y
                   · omega
                   · have y1 := b2_eq h_201
                     rw [show ((j : Int)).toNat = j from rfl, hG] at y
                     exact y1 y)]; exact ⟨rfl, hq_164.tr hq_198⟩)
              | (rw [bC_t (hcz.mpr ⟨by have := b2_ne h_171; omega, Or.inr (by
                   have y1 := b2_ne h_201
                   rw [show ((j : Int)).toNat = j from rfl, hG]
                   exact y1)⟩)]; exact ⟨rfl, hq_164.tr hq_198⟩)
          · obtain ⟨j, rfl⟩ := Int.eq_ofNat_of_zero_le (show 0 ≤ nx by omega)
            have qj := hbk j (by omega)
            have qm := (hMB.rch hq_164).2 j (by omega)
            obtain ⟨G, hG⟩ := Int.eq_ofNat_of_zero_le qj.2.1.1
            have hrp2 := hM.rch hq_164
            refine ev_aload_n dX8_couldBe_179 rfl ?_
            refine ev_iload_n dX8_couldBe_180 rfl ?_
            refine ev_iload_n dX8_couldBe_181 rfl ?_
            refine ev_aload_n dX8_couldBe_182 rfl ?_
            refine ev_getR (r := 130) dX8_couldBe_183 fl_X8_165 rfl rfl rfl ?_
            refine ev_iload dX8_couldBe_186 rfl ?_
            refine ev_iaload dX8_couldBe_188 rfl (by first | omega | (simp [wr_at]; omega) | (simp [wr_at, *]; omega)) (by first | omega | (simp [wr_at]; omega) | (simp [wr_at, *]; omega)) (by decide) ?_
            rw [qm.2.1, hG]
            refine ev_aload_n dX8_couldBe_189 rfl ?_
            refine ev_getR (r := 131) dX8_couldBe_190 fl_X8_168 rfl rfl rfl ?_
            refine ev_iload dX8_couldBe_193 rfl ?_
            refine ev_iaload dX8_couldBe_195 rfl (by first | omega | (simp [wr_at]; omega) | (simp [wr_at, *]; omega)) (by first | omega | (simp [wr_at]; omega) | (simp [wr_at, *]; omega)) (by decide) ?_
            rw [qm.2.2]
            refine ev_iload_n dX8_couldBe_196 rfl ?_
            refine ev_isub dX8_couldBe_197 ?_
            refine ev_callVP dX8_couldBe_198 kv_X8_456 (m_canCome _ σ P n nr nb nl w wt f t hrp2 b p G hb hp (by omega) _ (by omega)) rfl rfl (ci := 8) rfl rfl ⟨by decide, by decide⟩ (Nat.le_of_ble_eq_true rfl) ?_
            rintro v_198 τ_198 ⟨rfl, hq_198⟩
            refine ev_w (fun hR => ?_)
            refine ev_if_eq (tgt := 208) dX8_couldBe_201 (by decide) (by first | exact hR.1 _ _ | exact hR0.1 _ _ | assumption | exact ⟨by omega, by omega⟩ | exact ⟨by simp [wr_at]; omega, by simp [wr_at]; omega⟩ | exact b2_R _ | exact bC_R _ | exact band_R _ _ | exact bor_R _ _ | exact bshl_R _ _ | exact bshr_R _ _ | exact bxor_R _ _ | exact bs_R (by omega) | decide) (fun h_201 => ?_) (fun h_201 => ?_)
            · refine ev_iconst dX8_couldBe_208 ?_
              refine ev_ireturn dX8_couldBe_209 ?_
              first
                | (exfalso; omega)
                | (rw [bC_f (fun z => by have := b2_eq h_171; have := (hcz.mp z).1; omega)]; exact ⟨rfl, hq_164⟩)
                | (rw [bC_t (hcz.mpr ⟨by have := b2_ne h_171; omega, Or.inl (by omega)⟩)]; exact ⟨rfl, hq_164⟩)
                | (rw [bC_f (fun z => by
                     rcases (hcz.mp z).2 with y | y
                     · omega
                     · have y1 := b2_eq h_201
                       rw [show ((j : Int)).toNat = j from rfl, hG] at y
                       exact y1 y)]; exact ⟨rfl, hq_164.tr hq_198⟩)
                | (rw [bC_t (hcz.mpr ⟨by have := b2_ne h_171; omega, Or.inr (by
                     have y1 := b2_ne h_201
                     rw [show ((j : Int)).toNat = j from rfl, hG]
                     exact y1)⟩)]; exact ⟨rfl, hq_164.tr hq_198⟩)
            · refine ev_iconst dX8_couldBe_204 ?_
              refine ev_goto (tgt := 209) dX8_couldBe_205 (by decide) ?_
              refine ev_ireturn dX8_couldBe_209 ?_
              first
                | (exfalso; omega)
                | (rw [bC_f (fun z => by have := b2_eq h_171; have := (hcz.mp z).1; omega)]; exact ⟨rfl, hq_164⟩)
                | (rw [bC_t (hcz.mpr ⟨by have := b2_ne h_171; omega, Or.inl (by omega)⟩)]; exact ⟨rfl, hq_164⟩)
                | (rw [bC_f (fun z => by
                     rcases (hcz.mp z).2 with y | y
                     · omega
                     · have y1 := b2_eq h_201
                       rw [show ((j : Int)).toNat = j from rfl, hG] at y
                       exact y1 y)]; exact ⟨rfl, hq_164.tr hq_198⟩)
                | (rw [bC_t (hcz.mpr ⟨by have := b2_ne h_171; omega, Or.inr (by
                     have y1 := b2_ne h_201
                     rw [show ((j : Int)).toNat = j from rfl, hG]
                     exact y1)⟩)]; exact ⟨rfl, hq_164.tr hq_198⟩)
  have loop : ∀ i : Nat, i ≤ k → Ev RX8 cX8_couldBe 7 6 147 (AnsIP (bC (couldZ (dst σ P n nr nl w wt f t b 0 1) (fun i => σ.1 (P + 9) i) (fun i => σ.1 66 i) (fun i => σ.1 67 i) (fun i => σ.1 68 i) k b p m)) (fun ν => Same s123 μ ν)) 9 [some (.ref 79), some (.int (iI b)), some (.int (iI p)), some (.int (iI m)), some (.int (iI (lastU (fun i => σ.1 66 i) (fun i => σ.1 68 i) b m i))), some (.int (iI (nextA (fun i => σ.1 66 i) (fun i => σ.1 68 i) b m i))), some (.int (iI (i : Nat)))] [] μ := by
    refine for_up k (fun i hi ih => ?_)
    refine ev_w (fun hR => ?_)
    have hl := lastU_R (fun i => σ.1 66 i) (fun i => σ.1 68 i) b m i
    have ha := nextA_R (fun i => σ.1 66 i) (fun i => σ.1 68 i) b m i
    have eL : lastU (fun i => σ.1 66 i) (fun i => σ.1 68 i) b m (i + 1) = (if σ.1 66 i = b ∧ σ.1 68 i ≤ m ∧ ((lastU (fun i => σ.1 66 i) (fun i => σ.1 68 i) b m i) = -1 ∨ σ.1 68 ((lastU (fun i => σ.1 66 i) (fun i => σ.1 68 i) b m i).toNat : Nat) ≤ σ.1 68 i) then (i : Int) else (lastU (fun i => σ.1 66 i) (fun i => σ.1 68 i) b m i)) := rfl
    have eN : nextA (fun i => σ.1 66 i) (fun i => σ.1 68 i) b m (i + 1) = (if σ.1 66 i = b ∧ ¬ σ.1 68 i ≤ m ∧ ((nextA (fun i => σ.1 66 i) (fun i => σ.1 68 i) b m i) = -1 ∨ σ.1 68 i < σ.1 68 ((nextA (fun i => σ.1 66 i) (fun i => σ.1 68 i) b m i).toNat : Nat)) then (i : Int) else (nextA (fun i => σ.1 66 i) (fun i => σ.1 68 i) b m i)) := rfl
    rw [eL, eN] at ih
    generalize hla : (lastU (fun i => σ.1 66 i) (fun i => σ.1 68 i) b m i) = la at *
    generalize hnx : (nextA (fun i => σ.1 66 i) (fun i => σ.1 68 i) b m i) = nx at *
    refine ev_iload dX8_couldBe_9 rfl ?_
    refine ev_aload_n dX8_couldBe_11 rfl ?_
    refine ev_getI (kz := 68) dX8_couldBe_12 fl_X8_300 rfl rfl rfl ?_
    rw [mk0]
    refine ev_icmp_ge (tgt := 122) dX8_couldBe_15 (by decide) (by first | exact hR.1 _ _ | exact hR0.1 _ _ | assumption | exact ⟨by omega, by omega⟩ | exact ⟨by simp [wr_at]; omega, by simp [wr_at]; omega⟩ | exact b2_R _ | exact bC_R _ | exact band_R _ _ | exact bor_R _ _ | exact bshl_R _ _ | exact bshr_R _ _ | exact bxor_R _ _ | exact bs_R (by omega) | decide) (by first | exact hR.1 _ _ | exact hR0.1 _ _ | assumption | exact ⟨by omega, by omega⟩ | exact ⟨by simp [wr_at]; omega, by simp [wr_at]; omega⟩ | exact b2_R _ | exact bC_R _ | exact band_R _ _ | exact bor_R _ _ | exact bshl_R _ _ | exact bshr_R _ _ | exact bxor_R _ _ | exact bs_R (by omega) | decide) (fun h_15 => ?_) (fun h_15 => ?_)
    · obtain rfl : i = k := by omega
      exact fin la nx hla hnx _
    · have hin : i < k := by omega
      have em := mkr i hin
      have hbi := hbk i hin
      have eLa : 0 ≤ la → μ.1 131 la = σ.1 68 (la.toNat : Nat) := fun h => by
        obtain ⟨j, rfl⟩ := Int.eq_ofNat_of_zero_le h
        exact (mkr j (by omega)).2.2
      have eNx : 0 ≤ nx → μ.1 131 nx = σ.1 68 (nx.toNat : Nat) := fun h => by
        obtain ⟨j, rfl⟩ := Int.eq_ofNat_of_zero_le h
        exact (mkr j (by omega)).2.2
      have hTl := hR.1 131 la
      have hTn := hR.1 131 nx
      refine ev_aload_n dX8_couldBe_18 rfl ?_
      refine ev_getR (r := 129) dX8_couldBe_19 fl_X8_162 rfl rfl rfl ?_
      refine ev_iload dX8_couldBe_22 rfl ?_
      refine ev_iaload dX8_couldBe_24 rfl (by first | omega | (simp [wr_at]; omega) | (simp [wr_at, *]; omega)) (by first | omega | (simp [wr_at]; omega) | (simp [wr_at, *]; omega)) (by decide) ?_
      rw [em.1]
      refine ev_iload_n dX8_couldBe_25 rfl ?_
      refine ev_icmp_ne (tgt := 74) dX8_couldBe_26 (by decide) (by first | exact hR.1 _ _ | exact hR0.1 _ _ | assumption | exact ⟨by omega, by omega⟩ | exact ⟨by simp [wr_at]; omega, by simp [wr_at]; omega⟩ | exact b2_R _ | exact bC_R _ | exact band_R _ _ | exact bor_R _ _ | exact bshl_R _ _ | exact bshr_R _ _ | exact bxor_R _ _ | exact bs_R (by omega) | decide) (by first | exact hR.1 _ _ | exact hR0.1 _ _ | assumption | exact ⟨by omega, by omega⟩ | exact ⟨by simp [wr_at]; omega, by simp [wr_at]; omega⟩ | exact b2_R _ | exact bC_R _ | exact band_R _ _ | exact bor_R _ _ | exact bshl_R _ _ | exact bshr_R _ _ | exact bxor_R _ _ | exact bs_R (by omega) | decide) (fun h_26 => ?_) (fun h_26 => ?_)
      · refine ev_aload_n dX8_couldBe_74 rfl ?_
        refine ev_getR (r := 129) dX8_couldBe_75 fl_X8_162 rfl rfl rfl ?_
        refine ev_iload dX8_couldBe_78 rfl ?_
        refine ev_iaload dX8_couldBe_80 rfl (by first | omega | (simp [wr_at]; omega) | (simp [wr_at, *]; omega)) (by first | omega | (simp [wr_at]; omega) | (simp [wr_at, *]; omega)) (by decide) ?_
        rw [em.1]
        refine ev_iload_n dX8_couldBe_81 rfl ?_
        refine ev_icmp_ne (tgt := 116) dX8_couldBe_82 (by decide) (by first | exact hR.1 _ _ | exact hR0.1 _ _ | assumption | exact ⟨by omega, by omega⟩ | exact ⟨by simp [wr_at]; omega, by simp [wr_at]; omega⟩ | exact b2_R _ | exact bC_R _ | exact band_R _ _ | exact bor_R _ _ | exact bshl_R _ _ | exact bshr_R _ _ | exact bxor_R _ _ | exact bs_R (by omega) | decide) (by first | exact hR.1 _ _ | exact hR0.1 _ _ | assumption | exact ⟨by omega, by omega⟩ | exact ⟨by simp [wr_at]; omega, by simp [wr_at]; omega⟩ | exact b2_R _ | exact bC_R _ | exact band_R _ _ | exact bor_R _ _ | exact bshl_R _ _ | exact bshr_R _ _ | exact bxor_R _ _ | exact bs_R (by omega) | decide) (fun h_82 => ?_) (fun h_82 => ?_)
        · refine ev_iinc dX8_couldBe_116 rfl rfl (by decide) rfl ?_
          refine ev_goto (tgt := 9) dX8_couldBe_119 (by decide) ?_
          have q := ih (by omega)
          first
            | (exfalso; omega)
            | (rw [if_neg (fun z => by omega), if_neg (fun z => by omega)] at q; exact q)
            | (rw [if_pos ⟨by omega, by omega, by omega⟩, if_neg (fun z => by omega)] at q; exact q)
            | (rw [if_neg (fun z => by omega), if_pos ⟨by omega, by omega, by omega⟩] at q; exact q)
        · refine ev_iload dX8_couldBe_85 rfl ?_
          refine ev_if_lt (tgt := 107) dX8_couldBe_87 (by decide) (by first | exact hR.1 _ _ | exact hR0.1 _ _ | assumption | exact ⟨by omega, by omega⟩ | exact ⟨by simp [wr_at]; omega, by simp [wr_at]; omega⟩ | exact b2_R _ | exact bC_R _ | exact band_R _ _ | exact bor_R _ _ | exact bshl_R _ _ | exact bshr_R _ _ | exact bxor_R _ _ | exact bs_R (by omega) | decide) (fun h_87 => ?_) (fun h_87 => ?_)
          · refine ev_iload dX8_couldBe_107 rfl ?_
            refine ev_goto (tgt := 114) dX8_couldBe_109 (by decide) ?_
            refine ev_istore dX8_couldBe_114 rfl (by decide) rfl ?_
            refine ev_iinc dX8_couldBe_116 rfl rfl (by decide) rfl ?_
            refine ev_goto (tgt := 9) dX8_couldBe_119 (by decide) ?_
            have q := ih (by omega)
            first
              | (exfalso; omega)
              | (rw [if_neg (fun z => by omega), if_neg (fun z => by omega)] at q; exact q)
              | (rw [if_pos ⟨by omega, by omega, by omega⟩, if_neg (fun z => by omega)] at q; exact q)
              | (rw [if_neg (fun z => by omega), if_pos ⟨by omega, by omega, by omega⟩] at q; exact q)
          · refine ev_aload_n dX8_couldBe_90 rfl ?_
            refine ev_getR (r := 131) dX8_couldBe_91 fl_X8_168 rfl rfl rfl ?_
            refine ev_iload dX8_couldBe_94 rfl ?_
            refine ev_iaload dX8_couldBe_96 rfl (by first | omega | (simp [wr_at]; omega) | (simp [wr_at, *]; omega)) (by first | omega | (simp [wr_at]; omega) | (simp [wr_at, *]; omega)) (by decide) ?_
            rw [em.2.2]
            refine ev_aload_n dX8_couldBe_97 rfl ?_
            refine ev_getR (r := 131) dX8_couldBe_98 fl_X8_168 rfl rfl rfl ?_
            refine ev_iload dX8_couldBe_101 rfl ?_
            refine ev_iaload dX8_couldBe_103 rfl (by first | omega | (simp [wr_at]; omega) | (simp [wr_at, *]; omega)) (by first | omega | (simp [wr_at]; omega) | (simp [wr_at, *]; omega)) (by decide) ?_
            rw [eNx (by omega)]
            rw [eNx (by omega)] at hTn
            refine ev_icmp_ge (tgt := 112) dX8_couldBe_104 (by decide) (by first | exact hR.1 _ _ | exact hR0.1 _ _ | assumption | exact ⟨by omega, by omega⟩ | exact ⟨by simp [wr_at]; omega, by simp [wr_at]; omega⟩ | exact b2_R _ | exact bC_R _ | exact band_R _ _ | exact bor_R _ _ | exact bshl_R _ _ | exact bshr_R _ _ | exact bxor_R _ _ | exact bs_R (by omega) | decide) (by first | exact hR.1 _ _ | exact hR0.1 _ _ | assumption | exact ⟨by omega, by omega⟩ | exact ⟨by simp [wr_at]; omega, by simp [wr_at]; omega⟩ | exact b2_R _ | exact bC_R _ | exact band_R _ _ | exact bor_R _ _ | exact bshl_R _ _ | exact bshr_R _ _ | exact bxor_R _ _ | exact bs_R (by omega) | decide) (fun h_104 => ?_) (fun h_104 => ?_)
            · refine ev_iload dX8_couldBe_112 rfl ?_
              refine ev_istore dX8_couldBe_114 rfl (by decide) rfl ?_
              refine ev_iinc dX8_couldBe_116 rfl rfl (by decide) rfl ?_
              refine ev_goto (tgt := 9) dX8_couldBe_119 (by decide) ?_
              have q := ih (by omega)
              first
                | (exfalso; omega)
                | (rw [if_neg (fun z => by omega), if_neg (fun z => by omega)] at q; exact q)
                | (rw [if_pos ⟨by omega, by omega, by omega⟩, if_neg (fun z => by omega)] at q; exact q)
                | (rw [if_neg (fun z => by omega), if_pos ⟨by omega, by omega, by omega⟩] at q; exact q)
            · refine ev_iload dX8_couldBe_107 rfl ?_
              refine ev_goto (tgt := 114) dX8_couldBe_109 (by decide) ?_
              refine ev_istore dX8_couldBe_114 rfl (by decide) rfl ?_
              refine ev_iinc dX8_couldBe_116 rfl rfl (by decide) rfl ?_
              refine ev_goto (tgt := 9) dX8_couldBe_119 (by decide) ?_
              have q := ih (by omega)
              first
                | (exfalso; omega)
                | (rw [if_neg (fun z => by omega), if_neg (fun z => by omega)] at q; exact q)
                | (rw [if_pos ⟨by omega, by omega, by omega⟩, if_neg (fun z => by omega)] at q; exact q)
                | (rw [if_neg (fun z => by omega), if_pos ⟨by omega, by omega, by omega⟩] at q; exact q)
      · refine ev_aload_n dX8_couldBe_29 rfl ?_
        refine ev_getR (r := 131) dX8_couldBe_30 fl_X8_168 rfl rfl rfl ?_
        refine ev_iload dX8_couldBe_33 rfl ?_
        refine ev_iaload dX8_couldBe_35 rfl (by first | omega | (simp [wr_at]; omega) | (simp [wr_at, *]; omega)) (by first | omega | (simp [wr_at]; omega) | (simp [wr_at, *]; omega)) (by decide) ?_
        rw [em.2.2]
        refine ev_iload_n dX8_couldBe_36 rfl ?_
        refine ev_icmp_gt (tgt := 74) dX8_couldBe_37 (by decide) (by first | exact hR.1 _ _ | exact hR0.1 _ _ | assumption | exact ⟨by omega, by omega⟩ | exact ⟨by simp [wr_at]; omega, by simp [wr_at]; omega⟩ | exact b2_R _ | exact bC_R _ | exact band_R _ _ | exact bor_R _ _ | exact bshl_R _ _ | exact bshr_R _ _ | exact bxor_R _ _ | exact bs_R (by omega) | decide) (by first | exact hR.1 _ _ | exact hR0.1 _ _ | assumption | exact ⟨by omega, by omega⟩ | exact ⟨by simp [wr_at]; omega, by simp [wr_at]; omega⟩ | exact b2_R _ | exact bC_R _ | exact band_R _ _ | exact bor_R _ _ | exact bshl_R _ _ | exact bshr_R _ _ | exact bxor_R _ _ | exact bs_R (by omega) | decide) (fun h_37 => ?_) (fun h_37 => ?_)
        · refine ev_aload_n dX8_couldBe_74 rfl ?_
          refine ev_getR (r := 129) dX8_couldBe_75 fl_X8_162 rfl rfl rfl ?_
          refine ev_iload dX8_couldBe_78 rfl ?_
          refine ev_iaload dX8_couldBe_80 rfl (by first | omega | (simp [wr_at]; omega) | (simp [wr_at, *]; omega)) (by first | omega | (simp [wr_at]; omega) | (simp [wr_at, *]; omega)) (by decide) ?_
          rw [em.1]
          refine ev_iload_n dX8_couldBe_81 rfl ?_
          refine ev_icmp_ne (tgt := 116) dX8_couldBe_82 (by decide) (by first | exact hR.1 _ _ | exact hR0.1 _ _ | assumption | exact ⟨by omega, by omega⟩ | exact ⟨by simp [wr_at]; omega, by simp [wr_at]; omega⟩ | exact b2_R _ | exact bC_R _ | exact band_R _ _ | exact bor_R _ _ | exact bshl_R _ _ | exact bshr_R _ _ | exact bxor_R _ _ | exact bs_R (by omega) | decide) (by first | exact hR.1 _ _ | exact hR0.1 _ _ | assumption | exact ⟨by omega, by omega⟩ | exact ⟨by simp [wr_at]; omega, by simp [wr_at]; omega⟩ | exact b2_R _ | exact bC_R _ | exact band_R _ _ | exact bor_R _ _ | exact bshl_R _ _ | exact bshr_R _ _ | exact bxor_R _ _ | exact bs_R (by omega) | decide) (fun h_82 => ?_) (fun h_82 => ?_)
          · refine ev_iinc dX8_couldBe_116 rfl rfl (by decide) rfl ?_
            refine ev_goto (tgt := 9) dX8_couldBe_119 (by decide) ?_
            have q := ih (by omega)
            first
              | (exfalso; omega)
              | (rw [if_neg (fun z => by omega), if_neg (fun z => by omega)] at q; exact q)
              | (rw [if_pos ⟨by omega, by omega, by omega⟩, if_neg (fun z => by omega)] at q; exact q)
              | (rw [if_neg (fun z => by omega), if_pos ⟨by omega, by omega, by omega⟩] at q; exact q)
          · refine ev_iload dX8_couldBe_85 rfl ?_
            refine ev_if_lt (tgt := 107) dX8_couldBe_87 (by decide) (by first | exact hR.1 _ _ | exact hR0.1 _ _ | assumption | exact ⟨by omega, by omega⟩ | exact ⟨by simp [wr_at]; omega, by simp [wr_at]; omega⟩ | exact b2_R _ | exact bC_R _ | exact band_R _ _ | exact bor_R _ _ | exact bshl_R _ _ | exact bshr_R _ _ | exact bxor_R _ _ | exact bs_R (by omega) | decide) (fun h_87 => ?_) (fun h_87 => ?_)
            · refine ev_iload dX8_couldBe_107 rfl ?_
              refine ev_goto (tgt := 114) dX8_couldBe_109 (by decide) ?_
              refine ev_istore dX8_couldBe_114 rfl (by decide) rfl ?_
              refine ev_iinc dX8_couldBe_116 rfl rfl (by decide) rfl ?_
              refine ev_goto (tgt := 9) dX8_couldBe_119 (by decide) ?_
              have q := ih (by omega)
              first
                | (exfalso; omega)
                | (rw [if_neg (fun z => by omega), if_neg (fun z => by omega)] at q; exact q)
                | (rw [if_pos ⟨by omega, by omega, by omega⟩, if_neg (fun z => by omega)] at q; exact q)
                | (rw [if_neg (fun z => by omega), if_pos ⟨by omega, by omega, by omega⟩] at q; exact q)
            · refine ev_aload_n dX8_couldBe_90 rfl ?_
              refine ev_getR (r := 131) dX8_couldBe_91 fl_X8_168 rfl rfl rfl ?_
              refine ev_iload dX8_couldBe_94 rfl ?_
              refine ev_iaload dX8_couldBe_96 rfl (by first | omega | (simp [wr_at]; omega) | (simp [wr_at, *]; omega)) (by first | omega | (simp [wr_at]; omega) | (simp [wr_at, *]; omega)) (by decide) ?_
              rw [em.2.2]
              refine ev_aload_n dX8_couldBe_97 rfl ?_
              refine ev_getR (r := 131) dX8_couldBe_98 fl_X8_168 rfl rfl rfl ?_
              refine ev_iload dX8_couldBe_101 rfl ?_
              refine ev_iaload dX8_couldBe_103 rfl (by first | omega | (simp [wr_at]; omega) | (simp [wr_at, *]; omega)) (by first | omega | (simp [wr_at]; omega) | (simp [wr_at, *]; omega)) (by decide) ?_
              rw [eNx (by omega)]
              rw [eNx (by omega)] at hTn
              refine ev_icmp_ge (tgt := 112) dX8_couldBe_104 (by decide) (by first | exact hR.1 _ _ | exact hR0.1 _ _ | assumption | exact ⟨by omega, by omega⟩ | exact ⟨by simp [wr_at]; omega, by simp [wr_at]; omega⟩ | exact b2_R _ | exact bC_R _ | exact band_R _ _ | exact bor_R _ _ | exact bshl_R _ _ | exact bshr_R _ _ | exact bxor_R _ _ | exact bs_R (by omega) | decide) (by first | exact hR.1 _ _ | exact hR0.1 _ _ | assumption | exact ⟨by omega, by omega⟩ | exact ⟨by simp [wr_at]; omega, by simp [wr_at]; omega⟩ | exact b2_R _ | exact bC_R _ | exact band_R _ _ | exact bor_R _ _ | exact bshl_R _ _ | exact bshr_R _ _ | exact bxor_R _ _ | exact bs_R (by omega) | decide) (fun h_104 => ?_) (fun h_104 => ?_)
              · refine ev_iload dX8_couldBe_112 rfl ?_
                refine ev_istore dX8_couldBe_114 rfl (by decide) rfl ?_
                refine ev_iinc dX8_couldBe_116 rfl rfl (by decide) rfl ?_
                refine ev_goto (tgt := 9) dX8_couldBe_119 (by decide) ?_
                have q := ih (by omega)
                first
                  | (exfalso; omega)
                  | (rw [if_neg (fun z => by omega), if_neg (fun z => by omega)] at q; exact q)
                  | (rw [if_pos ⟨by omega, by omega, by omega⟩, if_neg (fun z => by omega)] at q; exact q)
                  | (rw [if_neg (fun z => by omega), if_pos ⟨by omega, by omega, by omega⟩] at q; exact q)
              · refine ev_iload dX8_couldBe_107 rfl ?_
                refine ev_goto (tgt := 114) dX8_couldBe_109 (by decide) ?_
                refine ev_istore dX8_couldBe_114 rfl (by decide) rfl ?_
                refine ev_iinc dX8_couldBe_116 rfl rfl (by decide) rfl ?_
                refine ev_goto (tgt := 9) dX8_couldBe_119 (by decide) ?_
                have q := ih (by omega)
                first
                  | (exfalso; omega)
                  | (rw [if_neg (fun z => by omega), if_neg (fun z => by omega)] at q; exact q)
                  | (rw [if_pos ⟨by omega, by omega, by omega⟩, if_neg (fun z => by omega)] at q; exact q)
                  | (rw [if_neg (fun z => by omega), if_pos ⟨by omega, by omega, by omega⟩] at q; exact q)
        · refine ev_iload dX8_couldBe_40 rfl ?_
          refine ev_if_lt (tgt := 62) dX8_couldBe_42 (by decide) (by first | exact hR.1 _ _ | exact hR0.1 _ _ | assumption | exact ⟨by omega, by omega⟩ | exact ⟨by simp [wr_at]; omega, by simp [wr_at]; omega⟩ | exact b2_R _ | exact bC_R _ | exact band_R _ _ | exact bor_R _ _ | exact bshl_R _ _ | exact bshr_R _ _ | exact bxor_R _ _ | exact bs_R (by omega) | decide) (fun h_42 => ?_) (fun h_42 => ?_)
          · refine ev_iload dX8_couldBe_62 rfl ?_
            refine ev_goto (tgt := 69) dX8_couldBe_64 (by decide) ?_
            refine ev_istore dX8_couldBe_69 rfl (by decide) rfl ?_
            refine ev_goto (tgt := 116) dX8_couldBe_71 (by decide) ?_
            refine ev_iinc dX8_couldBe_116 rfl rfl (by decide) rfl ?_
            refine ev_goto (tgt := 9) dX8_couldBe_119 (by decide) ?_
            have q := ih (by omega)
            first
              | (exfalso; omega)
              | (rw [if_neg (fun z => by omega), if_neg (fun z => by omega)] at q; exact q)
              | (rw [if_pos ⟨by omega, by omega, by omega⟩, if_neg (fun z => by omega)] at q; exact q)
              | (rw [if_neg (fun z => by omega), if_pos ⟨by omega, by omega, by omega⟩] at q; exact q)
          · refine ev_aload_n dX8_couldBe_45 rfl ?_
            refine ev_getR (r := 131) dX8_couldBe_46 fl_X8_168 rfl rfl rfl ?_
            refine ev_iload dX8_couldBe_49 rfl ?_
            refine ev_iaload dX8_couldBe_51 rfl (by first | omega | (simp [wr_at]; omega) | (simp [wr_at, *]; omega)) (by first | omega | (simp [wr_at]; omega) | (simp [wr_at, *]; omega)) (by decide) ?_
            rw [em.2.2]
            refine ev_aload_n dX8_couldBe_52 rfl ?_
            refine ev_getR (r := 131) dX8_couldBe_53 fl_X8_168 rfl rfl rfl ?_
            refine ev_iload dX8_couldBe_56 rfl ?_
            refine ev_iaload dX8_couldBe_58 rfl (by first | omega | (simp [wr_at]; omega) | (simp [wr_at, *]; omega)) (by first | omega | (simp [wr_at]; omega) | (simp [wr_at, *]; omega)) (by decide) ?_
            rw [eLa (by omega)]
            rw [eLa (by omega)] at hTl
            refine ev_icmp_lt (tgt := 67) dX8_couldBe_59 (by decide) (by first | exact hR.1 _ _ | exact hR0.1 _ _ | assumption | exact ⟨by omega, by omega⟩ | exact ⟨by simp [wr_at]; omega, by simp [wr_at]; omega⟩ | exact b2_R _ | exact bC_R _ | exact band_R _ _ | exact bor_R _ _ | exact bshl_R _ _ | exact bshr_R _ _ | exact bxor_R _ _ | exact bs_R (by omega) | decide) (by first | exact hR.1 _ _ | exact hR0.1 _ _ | assumption | exact ⟨by omega, by omega⟩ | exact ⟨by simp [wr_at]; omega, by simp [wr_at]; omega⟩ | exact b2_R _ | exact bC_R _ | exact band_R _ _ | exact bor_R _ _ | exact bshl_R _ _ | exact bshr_R _ _ | exact bxor_R _ _ | exact bs_R (by omega) | decide) (fun h_59 => ?_) (fun h_59 => ?_)
            · refine ev_iload dX8_couldBe_67 rfl ?_
              refine ev_istore dX8_couldBe_69 rfl (by decide) rfl ?_
              refine ev_goto (tgt := 116) dX8_couldBe_71 (by decide) ?_
              refine ev_iinc dX8_couldBe_116 rfl rfl (by decide) rfl ?_
              refine ev_goto (tgt := 9) dX8_couldBe_119 (by decide) ?_
              have q := ih (by omega)
              first
                | (exfalso; omega)
                | (rw [if_neg (fun z => by omega), if_neg (fun z => by omega)] at q; exact q)
                | (rw [if_pos ⟨by omega, by omega, by omega⟩, if_neg (fun z => by omega)] at q; exact q)
                | (rw [if_neg (fun z => by omega), if_pos ⟨by omega, by omega, by omega⟩] at q; exact q)
            · refine ev_iload dX8_couldBe_62 rfl ?_
              refine ev_goto (tgt := 69) dX8_couldBe_64 (by decide) ?_
              refine ev_istore dX8_couldBe_69 rfl (by decide) rfl ?_
              refine ev_goto (tgt := 116) dX8_couldBe_71 (by decide) ?_
              refine ev_iinc dX8_couldBe_116 rfl rfl (by decide) rfl ?_
              refine ev_goto (tgt := 9) dX8_couldBe_119 (by decide) ?_
              have q := ih (by omega)
              first
                | (exfalso; omega)
                | (rw [if_neg (fun z => by omega), if_neg (fun z => by omega)] at q; exact q)
                | (rw [if_pos ⟨by omega, by omega, by omega⟩, if_neg (fun z => by omega)] at q; exact q)
                | (rw [if_neg (fun z => by omega), if_pos ⟨by omega, by omega, by omega⟩] at q; exact q)
  refine ev_iconst dX8_couldBe_0 ?_
  refine ev_istore dX8_couldBe_1 rfl (by decide) rfl ?_
  refine ev_iconst dX8_couldBe_3 ?_
  refine ev_istore dX8_couldBe_4 rfl (by decide) rfl ?_
  refine ev_iconst dX8_couldBe_6 ?_
  refine ev_istore dX8_couldBe_7 rfl (by decide) rfl ?_
  exact loop 0 (by omega)
