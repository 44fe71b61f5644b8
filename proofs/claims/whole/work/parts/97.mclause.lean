/-- what a clause answers and leaves -/
def BodC (μ : Mem) (R : BRes) (z : Int) (ν : Mem) : Prop := (∃ (f : Int) (w : Nat), R = .inl (f, w) ∧ z = f ∧ 0 < f ∧ f ≤ 4 ∧ RS μ ν ∧ ν.1 79 37 = w) ∨ ∃ (d : PD) (e : Nat), R = .inr (d, e) ∧ z = 0 ∧ SoFr μ ν d e
theorem BodM.to {μ ν ν9 : Mem} {R : BRes} {z : Int} (hr : RS μ ν) (h37 : ν.1 79 37 = μ.1 79 37) (h : BodM ν R z ν9) : BodM μ R z ν9 := by
  rcases h with ⟨f, w, h1, h2, h3, h4, h5, h6⟩ | ⟨d, e, h1, h2, h3⟩
  · exact Or.inl ⟨f, w, h1, h2, h3, h4, hr.tr h5, h6⟩
  · exact Or.inr ⟨d, e, h1, h2, hr.tr h3.1, h3.2.1.trans h37, h3.2.2⟩
set_option maxHeartbeats 8000000 in
theorem m_takeClause (μ : Mem) (c : Nat → Int) (L i : Nat) (d : PD) (hT : TX μ c L) (hiL : i ≤ L) (hS : SoFr μ μ d i) (hK : PDok d)  : Con yX8_takeClause cX8_takeClause 5 (some .int) 5 119 [.ref 79] μ (AnsQ (BodC μ (clsR c L d i))) := by
  refine con_of (by decide) rfl (Nat.le_of_ble_eq_true rfl) (ok_Q rfl) ?_
  refine ev_w (fun hR => ?_)
  have hR0 := hR
  have hL5 := hT.2.1
  obtain ⟨k0, k1, k2, k3, kp, kr, kb, kl⟩ := id hK
  have hc0 : ∀ {ν e}, SoFr μ ν d e → ν.1 79 43 = d.1 0 ∧ ν.1 79 47 = d.1 1 ∧ ν.1 79 52 = d.1 2 ∧ ν.1 79 56 = d.1 3 := fun {ν e} h => ⟨h.2.2.2.1 0 (by decide), h.2.2.2.1 1 (by decide), h.2.2.2.1 2 (by decide), h.2.2.2.1 3 (by decide)⟩
  have htx : ∀ {ν e}, SoFr μ ν d e → TX ν c L := fun {ν e} h => hT.rs h.1
  obtain ⟨a, ha⟩ : ∃ a, sk c L i = a := ⟨_, rfl⟩
  obtain ⟨e, he⟩ : ∃ e, scan (isA c) L a = e := ⟨_, rfl⟩
  have haL : a ≤ L := by rw [← ha]; exact scan_le hiL
  have hae : a ≤ e := by rw [← he]; exact scan_ge _ _ _
  have heL : e ≤ L := by rw [← he]; exact scan_le haL
  have hlet : ∀ j, a ≤ j → j < e → isA c j = true := fun j h1 h2 => scan_in h1 (by rw [he]; exact h2)
  have hk0 := wrd_iff (c := c) (i := 0) (by decide) hae hlet
  have hk1 := wrd_iff (c := c) (i := 1) (by decide) hae hlet
  have hk2 := wrd_iff (c := c) (i := 2) (by decide) hae hlet
  have hk3 := wrd_iff (c := c) (i := 3) (by decide) hae hlet
  rw [show cwv 0 = 326192 from rfl] at hk0
  rw [show cwv 1 = 365666 from rfl] at hk1
  rw [show cwv 2 = 1888 from rfl] at hk2
  rw [show cwv 3 = 247162 from rfl] at hk3
  have hwR := wv_R (c := c) (a := a) (e - a) (fun k hk => of_decide_eq_true (hlet (a + k) (by omega) (by omega)))
  have hcls : clsR c L d i = if wrd c a e 0 then (if d.1 0 < 8 then endR c L (poleR c L d e) else .inl (3, a)) else if wrd c a e 1 then (if d.1 1 < 12 then endR c L (ropeR c L d e) else .inl (3, a)) else if wrd c a e 2 then (if d.1 2 < 4 then endR c L (boyR c L d e) else .inl (3, a)) else if wrd c a e 3 then (if d.1 3 < 4 then endR c L (loadR c L d e) else .inl (3, a)) else .inl (1, a) := by
    unfold clsR
    rw [ha, he]
  have hw9 := m_readWord μ c L i hT hS.2.2.1 hiL
  rw [ha, he] at hw9
  generalize hwv : wv c a (e - a) = w9 at *
  have tail : ∀ (R : BRes) (zb : Int) ν (y1 y2 y3 : Int), BodM μ R zb ν → clsR c L d i = endR c L R → (∀ d9 e9, R = .inr (d9, e9) → e9 ≤ L) → Ev RX8 cX8_takeClause 5 5 119 (AnsQ (BodC μ (clsR c L d i))) 271 [some (.ref 79), some (.int (iI y1)), some (.int (iI y2)), some (.int (iI y3)), none] [.int (iI zb)] ν := by
    intro R zb ν y1 y2 y3 hB hcl hRe
    refine ev_w (fun hR => ?_)
    rcases hB with ⟨f, w, rfl, rfl, f0, f4, hrs, hw⟩ | ⟨d9, e9, rfl, rfl, hS9⟩
    · refine ev_istore dX8_takeClause_271 rfl (by decide) rfl ?_
      refine ev_iload dX8_takeClause_273 rfl ?_
      refine ev_if_ne (tgt := 297) dX8_takeClause_275 (by decide) (by first | exact hR.1 _ _ | exact hR0.1 _ _ | assumption | exact ⟨by omega, by omega⟩ | exact ⟨by simp [wr_at]; omega, by simp [wr_at]; omega⟩ | exact b2_R _ | exact bC_R _ | exact band_R _ _ | exact bor_R _ _ | exact bshl_R _ _ | exact bshr_R _ _ | exact bxor_R _ _ | exact bs_R (by omega) | decide) (fun h_275 => ?_) (fun h_275 => ?_)
      · refine ev_aload_n dX8_takeClause_297 rfl ?_
        refine ev_dup dX8_takeClause_298 rfl ?_
        refine ev_getI (kz := 38) dX8_takeClause_299 fl_X8_211 rfl rfl rfl ?_
        refine ev_iconst dX8_takeClause_302 ?_
        refine ev_iadd dX8_takeClause_303 ?_
        refine ev_putI (kz := 38) dX8_takeClause_304 fp_X8_211 rfl rfl rfl ⟨by have := hw.2; omega, by have := hw.2; omega⟩ ?_
        refine ev_w (fun hR => ?_)
        refine ev_iload dX8_takeClause_307 rfl ?_
        refine ev_ireturn dX8_takeClause_309 ?_
        refine ⟨_, rfl, Or.inl ⟨_, w, ?_, rfl, f0, f4, hrs.wf _ (by unfold PF; omega), ?_⟩⟩
        · rw [hcl]; rfl
        · rw [wr_nek _ (by decide)]; exact hw.1
      · exfalso; omega
    · have hTn := hT.rs hS9.1
      have heL9 := hRe d9 e9 rfl
      have hh := m_here ν c L e9 hTn hS9.2.2.1 heL9
      obtain ⟨s9, hs9⟩ : ∃ s9, sk c L e9 = s9 := ⟨_, rfl⟩
      have hsL : s9 ≤ L := by rw [← hs9]; exact scan_le heL9
      have hher : herV ν c L e9 = if s9 < L then ν.1 107 (s9 : Int) else -1 := by unfold herV; rw [hs9]
      rw [hs9] at hh
      have hend : endR c L (.inr (d9, e9)) = if s9 < L ∧ c s9 = 59 then .inr (d9, s9 + 1) else .inl (1, s9) := by
        show (if sk c L e9 < L ∧ c (sk c L e9) = 59 then _ else _) = _
        rw [hs9]
      have hhR : -1 ≤ herV ν c L e9 ∧ herV ν c L e9 ≤ 255 := by
        rw [hher]
        split
        next q => have t := hTn.2.2 s9 q; omega
        next => omega
      have hiff : herV ν c L e9 = 59 ↔ s9 < L ∧ c s9 = 59 := by
        rw [hher]
        split
        next q =>
          have t := hTn.2.2 s9 q
          rw [← t.2.2]
          constructor
          · intro y; exact ⟨q, (sg_e t.1 t.2.1 (by decide) (by decide)).mpr y⟩
          · intro y; exact (sg_e t.1 t.2.1 (by decide) (by decide)).mp y.2
        next q =>
          constructor
          · intro y; omega
          · intro y; exact absurd y.1 q
      generalize hhv : herV ν c L e9 = hv at *
      refine ev_istore dX8_takeClause_271 rfl (by decide) rfl ?_
      refine ev_iload dX8_takeClause_273 rfl ?_
      refine ev_if_ne (tgt := 297) dX8_takeClause_275 (by decide) (by first | exact hR.1 _ _ | exact hR0.1 _ _ | assumption | exact ⟨by omega, by omega⟩ | exact ⟨by simp [wr_at]; omega, by simp [wr_at]; omega⟩ | exact b2_R _ | exact bC_R _ | exact band_R _ _ | exact bor_R _ _ | exact bshl_R _ _ | exact bshr_R _ _ | exact bxor_R _ _ | exact bs_R (by omega) | decide) (fun h_275 => ?_) (fun h_275 => ?_)
      · exfalso; omega
      · refine ev_aload_n dX8_takeClause_278 rfl ?_
        refine ev_callVI dX8_takeClause_279 kv_X8_214 (hh) rfl rfl (ci := 8) rfl rfl ⟨by decide, by decide⟩ (Nat.le_of_ble_eq_true rfl) ?_
        refine ev_w (fun hR => ?_)
        refine ev_bipush dX8_takeClause_282 (by decide) ?_
        refine ev_icmp_eq (tgt := 297) dX8_takeClause_284 (by decide) ⟨by omega, by omega⟩ (by decide) (fun h_284 => ?_) (fun h_284 => ?_)
        · refine ev_aload_n dX8_takeClause_297 rfl ?_
          refine ev_dup dX8_takeClause_298 rfl ?_
          refine ev_getI (kz := 38) dX8_takeClause_299 fl_X8_211 rfl rfl rfl ?_
          rw [wr_eq]
          refine ev_iconst dX8_takeClause_302 ?_
          refine ev_iadd dX8_takeClause_303 ?_
          refine ev_putI (kz := 38) dX8_takeClause_304 fp_X8_211 rfl rfl rfl (by first | exact hR.1 _ _ | exact hR0.1 _ _ | assumption | exact ⟨by omega, by omega⟩ | exact ⟨by simp [wr_at]; omega, by simp [wr_at]; omega⟩ | exact b2_R _ | exact bC_R _ | exact band_R _ _ | exact bor_R _ _ | exact bshl_R _ _ | exact bshr_R _ _ | exact bxor_R _ _ | exact bs_R (by omega) | decide) ?_
          refine ev_w (fun hR => ?_)
          refine ev_iload dX8_takeClause_307 rfl ?_
          refine ev_ireturn dX8_takeClause_309 ?_
          refine ⟨0, rfl, Or.inr ⟨d9, s9 + 1, ?_, rfl, (hS9.1.wf _ (by unfold PF; omega)).wf _ (by unfold PF; omega), ?_, ?_, ?_⟩⟩
          · rw [hcl, hend, if_pos (hiff.mp h_284)]
          · rw [wr_nek _ (by decide), wr_nek _ (by decide)]; exact hS9.2.1
          · rw [wr_eq]; rfl
          · refine ⟨fun k hk => ?_, fun j hj p hp => ?_⟩
            · have := fM_R k
              rw [wr_nek _ (by omega), wr_nek _ (by omega)]
              exact hS9.2.2.2.1 k hk
            · have hm := mM_R hj
              rw [wr_nec _ (by omega), wr_nec _ (by omega)]
              exact hS9.2.2.2.2 j hj p hp
        · refine ev_aload_n dX8_takeClause_287 rfl ?_
          refine ev_iconst dX8_takeClause_288 ?_
          refine ev_aload_n dX8_takeClause_289 rfl ?_
          refine ev_getI (kz := 38) dX8_takeClause_290 fl_X8_211 rfl rfl rfl ?_
          rw [wr_eq]
          refine ev_callVI dX8_takeClause_293 kv_X8_241 (m_fails _ 1 (s9 : Int) (by decide) ⟨by omega, by omega⟩) rfl rfl (ci := 8) rfl rfl ⟨by decide, by decide⟩ (Nat.le_of_ble_eq_true rfl) ?_
          refine ev_w (fun hR => ?_)
          refine ev_ireturn dX8_takeClause_296 ?_
          refine ⟨1, rfl, Or.inl ⟨1, s9, ?_, rfl, by decide, by decide, (hS9.1.wf _ (by unfold PF; omega)).wf _ (by unfold PF; omega), wr_eq _ _ _ _⟩⟩
          rw [hcl, hend, if_neg (fun y => h_284 (hiff.mpr y))]
  have body : ∀ ν, WdA μ ν a e → ∀ (y1 z : Int), z = wdK c a e → Ev RX8 cX8_takeClause 5 5 119 (AnsQ (BodC μ (clsR c L d i))) 118 [some (.ref 79), some (.int (iI y1)), some (.int (iI z)), none, none] [] ν := by
    intro ν hwa y1 z hz
    refine ev_w (fun hR => ?_)
    have hS1 : SoFr μ ν d a := ⟨hwa.rs, hwa.2.1 _ (by decide) (by decide), hwa.2.2.1, fun k hk => by
      have := fM_R k
      rw [hwa.2.1 _ (by omega) (by omega)]
      exact hS.2.2.2.1 k hk, fun j hj p hp => by
      have hm := mM_R hj
      rw [hwa.1 _ (by omega)]
      exact hS.2.2.2.2 j hj p hp⟩
    have hS2 : SoFr μ (wr ν 79 38 (e : Int)) d e := ⟨hS1.1.wf _ (by unfold PF; omega), by rw [wr_nek _ (by decide)]; exact hS1.2.1, wr_eq _ _ _ _, fun k hk => by
      have := fM_R k
      rw [wr_nek _ (by omega)]
      exact hS1.2.2.2.1 k hk, fun j hj p hp => by
      have hm := mM_R hj
      rw [wr_nec _ (by omega)]
      exact hS1.2.2.2.2 j hj p hp⟩
    have hS3 : SoFr (wr ν 79 38 (e : Int)) (wr ν 79 38 (e : Int)) d e := ⟨RS.rf, rfl, hS2.2.2⟩
    have hT2 := hT.rs hS2.1
    have hzc : (z = 0 ∧ wrd c a e 0) ∨ (z = 1 ∧ ¬ wrd c a e 0 ∧ wrd c a e 1) ∨ (z = 2 ∧ ¬ wrd c a e 0 ∧ ¬ wrd c a e 1 ∧ wrd c a e 2) ∨ (z = 3 ∧ ¬ wrd c a e 0 ∧ ¬ wrd c a e 1 ∧ ¬ wrd c a e 2 ∧ wrd c a e 3) ∨ (z = -1 ∧ ¬ wrd c a e 0 ∧ ¬ wrd c a e 1 ∧ ¬ wrd c a e 2 ∧ ¬ wrd c a e 3) := by
      rw [hz]
      unfold wdK
      by_cases q0 : wrd c a e 0
      · exact Or.inl ⟨by rw [if_pos q0], q0⟩
      · by_cases q1 : wrd c a e 1
        · exact Or.inr (Or.inl ⟨by rw [if_neg q0, if_pos q1], q0, q1⟩)
        · by_cases q2 : wrd c a e 2
          · exact Or.inr (Or.inr (Or.inl ⟨by rw [if_neg q0, if_neg q1, if_pos q2], q0, q1, q2⟩))
          · by_cases q3 : wrd c a e 3
            · exact Or.inr (Or.inr (Or.inr (Or.inl ⟨by rw [if_neg q0, if_neg q1, if_neg q2, if_pos q3], q0, q1, q2, q3⟩)))
            · exact Or.inr (Or.inr (Or.inr (Or.inr ⟨by rw [if_neg q0, if_neg q1, if_neg q2, if_neg q3], q0, q1, q2, q3⟩)))
    rcases hzc with ⟨rfl, q0⟩ | ⟨rfl, q0, q1⟩ | ⟨rfl, q0, q1, q2⟩ | ⟨rfl, q0, q1, q2, q3⟩ | ⟨rfl, q0, q1, q2, q3⟩
    · refine ev_iload_n dX8_takeClause_118 rfl ?_
      refine ev_if_ge (tgt := 132) dX8_takeClause_119 (by decide) (by first | exact hR.1 _ _ | exact hR0.1 _ _ | assumption | exact ⟨by omega, by omega⟩ | exact ⟨by simp [wr_at]; omega, by simp [wr_at]; omega⟩ | exact b2_R _ | exact bC_R _ | exact band_R _ _ | exact bor_R _ _ | exact bshl_R _ _ | exact bshr_R _ _ | exact bxor_R _ _ | exact bs_R (by omega) | decide) (fun h_119 => ?_) (fun h_119 => ?_)
      · refine ev_iload_n dX8_takeClause_132 rfl ?_
        refine ev_if_ne (tgt := 153) dX8_takeClause_133 (by decide) (by first | exact hR.1 _ _ | exact hR0.1 _ _ | assumption | exact ⟨by omega, by omega⟩ | exact ⟨by simp [wr_at]; omega, by simp [wr_at]; omega⟩ | exact b2_R _ | exact bC_R _ | exact band_R _ _ | exact bor_R _ _ | exact bshl_R _ _ | exact bshr_R _ _ | exact bxor_R _ _ | exact bs_R (by omega) | decide) (fun h_133 => ?_) (fun h_133 => ?_)
        · exfalso; omega
        · refine ev_aload_n dX8_takeClause_136 rfl ?_
          refine ev_getI (kz := 43) dX8_takeClause_137 fl_X8_254 rfl rfl rfl ?_
          rw [(hc0 hS1).1]
          refine ev_bipush dX8_takeClause_140 (by decide) ?_
          refine ev_icmp_ne (tgt := 149) dX8_takeClause_142 (by decide) (by first | exact hR.1 _ _ | exact hR0.1 _ _ | assumption | exact ⟨by omega, by omega⟩ | exact ⟨by simp [wr_at]; omega, by simp [wr_at]; omega⟩ | exact b2_R _ | exact bC_R _ | exact band_R _ _ | exact bor_R _ _ | exact bshl_R _ _ | exact bshr_R _ _ | exact bxor_R _ _ | exact bs_R (by omega) | decide) (by first | exact hR.1 _ _ | exact hR0.1 _ _ | assumption | exact ⟨by omega, by omega⟩ | exact ⟨by simp [wr_at]; omega, by simp [wr_at]; omega⟩ | exact b2_R _ | exact bC_R _ | exact band_R _ _ | exact bor_R _ _ | exact bshl_R _ _ | exact bshr_R _ _ | exact bxor_R _ _ | exact bs_R (by omega) | decide) (fun h_142 => ?_) (fun h_142 => ?_)
          · refine ev_iconst dX8_takeClause_149 ?_
            refine ev_goto (tgt := 209) dX8_takeClause_150 (by decide) ?_
            refine ev_istore_n dX8_takeClause_209 rfl (by decide) rfl ?_
            refine ev_iload_n dX8_takeClause_210 rfl ?_
            refine ev_if_eq (tgt := 224) dX8_takeClause_211 (by decide) (by first | exact hR.1 _ _ | exact hR0.1 _ _ | assumption | exact ⟨by omega, by omega⟩ | exact ⟨by simp [wr_at]; omega, by simp [wr_at]; omega⟩ | exact b2_R _ | exact bC_R _ | exact band_R _ _ | exact bor_R _ _ | exact bshl_R _ _ | exact bshr_R _ _ | exact bxor_R _ _ | exact bs_R (by omega) | decide) (fun h_211 => ?_) (fun h_211 => ?_)
            · refine ev_aload_n dX8_takeClause_224 rfl ?_
              refine ev_aload_n dX8_takeClause_225 rfl ?_
              refine ev_getI (kz := 40) dX8_takeClause_226 fl_X8_222 rfl rfl rfl ?_
              rw [hwa.2.2.2]
              refine ev_putI (kz := 38) dX8_takeClause_229 fp_X8_211 rfl rfl rfl (by first | exact hR.1 _ _ | exact hR0.1 _ _ | assumption | exact ⟨by omega, by omega⟩ | exact ⟨by simp [wr_at]; omega, by simp [wr_at]; omega⟩ | exact b2_R _ | exact bC_R _ | exact band_R _ _ | exact bor_R _ _ | exact bshl_R _ _ | exact bshr_R _ _ | exact bxor_R _ _ | exact bs_R (by omega) | decide) ?_
              refine ev_w (fun hR => ?_)
              refine ev_iload_n dX8_takeClause_232 rfl ?_
              refine ev_if_ne (tgt := 243) dX8_takeClause_233 (by decide) (by first | exact hR.1 _ _ | exact hR0.1 _ _ | assumption | exact ⟨by omega, by omega⟩ | exact ⟨by simp [wr_at]; omega, by simp [wr_at]; omega⟩ | exact b2_R _ | exact bC_R _ | exact band_R _ _ | exact bor_R _ _ | exact bshl_R _ _ | exact bshr_R _ _ | exact bxor_R _ _ | exact bs_R (by omega) | decide) (fun h_233 => ?_) (fun h_233 => ?_)
              · exfalso; omega
              · refine ev_aload_n dX8_takeClause_236 rfl ?_
                refine ev_callVP dX8_takeClause_237 kv_X8_285 (m_takePole _ c L e d hT2 heL hS3 hK (by omega)) rfl rfl (ci := 8) rfl rfl ⟨by decide, by decide⟩ (Nat.le_of_ble_eq_true rfl) ?_
                rintro v_237 τ_237 ⟨z_237, rfl, hq_237⟩
                refine ev_w (fun hR => ?_)
                refine ev_goto (tgt := 271) dX8_takeClause_240 (by decide) ?_
                first
                  | (exfalso; omega)
                  | (refine tail (poleR c L d e) _ _ y1 0 0 (BodM.to hS2.1 hS2.2.1 hq_237) ?_ (fun d9 e9 h9 => (poleR_ok hK (by omega) h9 heL).2.2)
                     rw [hcls, if_pos q0, if_pos (by omega)])
            · refine ev_aload_n dX8_takeClause_214 rfl ?_
              refine ev_iconst dX8_takeClause_215 ?_
              refine ev_aload_n dX8_takeClause_216 rfl ?_
              refine ev_getI (kz := 38) dX8_takeClause_217 fl_X8_211 rfl rfl rfl ?_
              rw [hwa.2.2.1]
              refine ev_callVI dX8_takeClause_220 kv_X8_241 (m_fails _ 3 (a : Int) (by decide) ⟨by omega, by omega⟩) rfl rfl (ci := 8) rfl rfl ⟨by decide, by decide⟩ (Nat.le_of_ble_eq_true rfl) ?_
              refine ev_w (fun hR => ?_)
              refine ev_ireturn dX8_takeClause_223 ?_
              first
                | (exfalso; omega)
                | (refine ⟨3, rfl, Or.inl ⟨3, a, ?_, rfl, by decide, by decide, hS1.1.wf _ (by unfold PF; omega), wr_eq _ _ _ _⟩⟩
                   rw [hcls, if_pos q0, if_neg (by omega)])
          · refine ev_iconst dX8_takeClause_145 ?_
            refine ev_goto (tgt := 209) dX8_takeClause_146 (by decide) ?_
            refine ev_istore_n dX8_takeClause_209 rfl (by decide) rfl ?_
            refine ev_iload_n dX8_takeClause_210 rfl ?_
            refine ev_if_eq (tgt := 224) dX8_takeClause_211 (by decide) (by first | exact hR.1 _ _ | exact hR0.1 _ _ | assumption | exact ⟨by omega, by omega⟩ | exact ⟨by simp [wr_at]; omega, by simp [wr_at]; omega⟩ | exact b2_R _ | exact bC_R _ | exact band_R _ _ | exact bor_R _ _ | exact bshl_R _ _ | exact bshr_R _ _ | exact bxor_R _ _ | exact bs_R (by omega) | decide) (fun h_211 => ?_) (fun h_211 => ?_)
            · refine ev_aload_n dX8_takeClause_224 rfl ?_
              refine ev_aload_n dX8_takeClause_225 rfl ?_
              refine ev_getI (kz := 40) dX8_takeClause_226 fl_X8_222 rfl rfl rfl ?_
              rw [hwa.2.2.2]
              refine ev_putI (kz := 38) dX8_takeClause_229 fp_X8_211 rfl rfl rfl (by first | exact hR.1 _ _ | exact hR0.1 _ _ | assumption | exact ⟨by omega, by omega⟩ | exact ⟨by simp [wr_at]; omega, by simp [wr_at]; omega⟩ | exact b2_R _ | exact bC_R _ | exact band_R _ _ | exact bor_R _ _ | exact bshl_R _ _ | exact bshr_R _ _ | exact bxor_R _ _ | exact bs_R (by omega) | decide) ?_
              refine ev_w (fun hR => ?_)
              refine ev_iload_n dX8_takeClause_232 rfl ?_
              refine ev_if_ne (tgt := 243) dX8_takeClause_233 (by decide) (by first | exact hR.1 _ _ | exact hR0.1 _ _ | assumption | exact ⟨by omega, by omega⟩ | exact ⟨by simp [wr_at]; omega, by simp [wr_at]; omega⟩ | exact b2_R _ | exact bC_R _ | exact band_R _ _ | exact bor_R _ _ | exact bshl_R _ _ | exact bshr_R _ _ | exact bxor_R _ _ | exact bs_R (by omega) | decide) (fun h_233 => ?_) (fun h_233 => ?_)
              · exfalso; omega
              · refine ev_aload_n dX8_takeClause_236 rfl ?_
                refine ev_callVP dX8_takeClause_237 kv_X8_285 (m_takePole _ c L e d hT2 heL hS3 hK (by omega)) rfl rfl (ci := 8) rfl rfl ⟨by decide, by decide⟩ (Nat.le_of_ble_eq_true rfl) ?_
                rintro v_237 τ_237 ⟨z_237, rfl, hq_237⟩
                refine ev_w (fun hR => ?_)
                refine ev_goto (tgt := 271) dX8_takeClause_240 (by decide) ?_
                first
                  | (exfalso; omega)
                  | (refine tail (poleR c L d e) _ _ y1 0 0 (BodM.to hS2.1 hS2.2.1 hq_237) ?_ (fun d9 e9 h9 => (poleR_ok hK (by omega) h9 heL).2.2)
                     rw [hcls, if_pos q0, if_pos (by omega)])
            · refine ev_aload_n dX8_takeClause_214 rfl ?_
              refine ev_iconst dX8_takeClause_215 ?_
              refine ev_aload_n dX8_takeClause_216 rfl ?_
              refine ev_getI (kz := 38) dX8_takeClause_217 fl_X8_211 rfl rfl rfl ?_
              rw [hwa.2.2.1]
              refine ev_callVI dX8_takeClause_220 kv_X8_241 (m_fails _ 3 (a : Int) (by decide) ⟨by omega, by omega⟩) rfl rfl (ci := 8) rfl rfl ⟨by decide, by decide⟩ (Nat.le_of_ble_eq_true rfl) ?_
              refine ev_w (fun hR => ?_)
              refine ev_ireturn dX8_takeClause_223 ?_
              first
                | (exfalso; omega)
                | (refine ⟨3, rfl, Or.inl ⟨3, a, ?_, rfl, by decide, by decide, hS1.1.wf _ (by unfold PF; omega), wr_eq _ _ _ _⟩⟩
                   rw [hcls, if_pos q0, if_neg (by omega)])
      · exfalso; omega
    · refine ev_iload_n dX8_takeClause_118 rfl ?_
      refine ev_if_ge (tgt := 132) dX8_takeClause_119 (by decide) (by first | exact hR.1 _ _ | exact hR0.1 _ _ | assumption | exact ⟨by omega, by omega⟩ | exact ⟨by simp [wr_at]; omega, by simp [wr_at]; omega⟩ | exact b2_R _ | exact bC_R _ | exact band_R _ _ | exact bor_R _ _ | exact bshl_R _ _ | exact bshr_R _ _ | exact bxor_R _ _ | exact bs_R (by omega) | decide) (fun h_119 => ?_) (fun h_119 => ?_)
      · refine ev_iload_n dX8_takeClause_132 rfl ?_
        refine ev_if_ne (tgt := 153) dX8_takeClause_133 (by decide) (by first | exact hR.1 _ _ | exact hR0.1 _ _ | assumption | exact ⟨by omega, by omega⟩ | exact ⟨by simp [wr_at]; omega, by simp [wr_at]; omega⟩ | exact b2_R _ | exact bC_R _ | exact band_R _ _ | exact bor_R _ _ | exact bshl_R _ _ | exact bshr_R _ _ | exact bxor_R _ _ | exact bs_R (by omega) | decide) (fun h_133 => ?_) (fun h_133 => ?_)
        · refine ev_iload_n dX8_takeClause_153 rfl ?_
          refine ev_iconst dX8_takeClause_154 ?_
          refine ev_icmp_ne (tgt := 175) dX8_takeClause_155 (by decide) (by first | exact hR.1 _ _ | exact hR0.1 _ _ | assumption | exact ⟨by omega, by omega⟩ | exact ⟨by simp [wr_at]; omega, by simp [wr_at]; omega⟩ | exact b2_R _ | exact bC_R _ | exact band_R _ _ | exact bor_R _ _ | exact bshl_R _ _ | exact bshr_R _ _ | exact bxor_R _ _ | exact bs_R (by omega) | decide) (by first | exact hR.1 _ _ | exact hR0.1 _ _ | assumption | exact ⟨by omega, by omega⟩ | exact ⟨by simp [wr_at]; omega, by simp [wr_at]; omega⟩ | exact b2_R _ | exact bC_R _ | exact band_R _ _ | exact bor_R _ _ | exact bshl_R _ _ | exact bshr_R _ _ | exact bxor_R _ _ | exact bs_R (by omega) | decide) (fun h_155 => ?_) (fun h_155 => ?_)
          · exfalso; omega
          · refine ev_aload_n dX8_takeClause_158 rfl ?_
            refine ev_getI (kz := 47) dX8_takeClause_159 fl_X8_261 rfl rfl rfl ?_
            rw [(hc0 hS1).2.1]
            refine ev_bipush dX8_takeClause_162 (by decide) ?_
            refine ev_icmp_ne (tgt := 171) dX8_takeClause_164 (by decide) (by first | exact hR.1 _ _ | exact hR0.1 _ _ | assumption | exact ⟨by omega, by omega⟩ | exact ⟨by simp [wr_at]; omega, by simp [wr_at]; omega⟩ | exact b2_R _ | exact bC_R _ | exact band_R _ _ | exact bor_R _ _ | exact bshl_R _ _ | exact bshr_R _ _ | exact bxor_R _ _ | exact bs_R (by omega) | decide) (by first | exact hR.1 _ _ | exact hR0.1 _ _ | assumption | exact ⟨by omega, by omega⟩ | exact ⟨by simp [wr_at]; omega, by simp [wr_at]; omega⟩ | exact b2_R _ | exact bC_R _ | exact band_R _ _ | exact bor_R _ _ | exact bshl_R _ _ | exact bshr_R _ _ | exact bxor_R _ _ | exact bs_R (by omega) | decide) (fun h_164 => ?_) (fun h_164 => ?_)
            · refine ev_iconst dX8_takeClause_171 ?_
              refine ev_goto (tgt := 209) dX8_takeClause_172 (by decide) ?_
              refine ev_istore_n dX8_takeClause_209 rfl (by decide) rfl ?_
              refine ev_iload_n dX8_takeClause_210 rfl ?_
              refine ev_if_eq (tgt := 224) dX8_takeClause_211 (by decide) (by first | exact hR.1 _ _ | exact hR0.1 _ _ | assumption | exact ⟨by omega, by omega⟩ | exact ⟨by simp [wr_at]; omega, by simp [wr_at]; omega⟩ | exact b2_R _ | exact bC_R _ | exact band_R _ _ | exact bor_R _ _ | exact bshl_R _ _ | exact bshr_R _ _ | exact bxor_R _ _ | exact bs_R (by omega) | decide) (fun h_211 => ?_) (fun h_211 => ?_)
              · refine ev_aload_n dX8_takeClause_224 rfl ?_
                refine ev_aload_n dX8_takeClause_225 rfl ?_
                refine ev_getI (kz := 40) dX8_takeClause_226 fl_X8_222 rfl rfl rfl ?_
                rw [hwa.2.2.2]
                refine ev_putI (kz := 38) dX8_takeClause_229 fp_X8_211 rfl rfl rfl (by first | exact hR.1 _ _ | exact hR0.1 _ _ | assumption | exact ⟨by omega, by omega⟩ | exact ⟨by simp [wr_at]; omega, by simp [wr_at]; omega⟩ | exact b2_R _ | exact bC_R _ | exact band_R _ _ | exact bor_R _ _ | exact bshl_R _ _ | exact bshr_R _ _ | exact bxor_R _ _ | exact bs_R (by omega) | decide) ?_
                refine ev_w (fun hR => ?_)
                refine ev_iload_n dX8_takeClause_232 rfl ?_
                refine ev_if_ne (tgt := 243) dX8_takeClause_233 (by decide) (by first | exact hR.1 _ _ | exact hR0.1 _ _ | assumption | exact ⟨by omega, by omega⟩ | exact ⟨by simp [wr_at]; omega, by simp [wr_at]; omega⟩ | exact b2_R _ | exact bC_R _ | exact band_R _ _ | exact bor_R _ _ | exact bshl_R _ _ | exact bshr_R _ _ | exact bxor_R _ _ | exact bs_R (by omega) | decide) (fun h_233 => ?_) (fun h_233 => ?_)
                · refine ev_iload_n dX8_takeClause_243 rfl ?_
                  refine ev_iconst dX8_takeClause_244 ?_
                  refine ev_icmp_ne (tgt := 255) dX8_takeClause_245 (by decide) (by first | exact hR.1 _ _ | exact hR0.1 _ _ | assumption | exact ⟨by omega, by omega⟩ | exact ⟨by simp [wr_at]; omega, by simp [wr_at]; omega⟩ | exact b2_R _ | exact bC_R _ | exact band_R _ _ | exact bor_R _ _ | exact bshl_R _ _ | exact bshr_R _ _ | exact bxor_R _ _ | exact bs_R (by omega) | decide) (by first | exact hR.1 _ _ | exact hR0.1 _ _ | assumption | exact ⟨by omega, by omega⟩ | exact ⟨by simp [wr_at]; omega, by simp [wr_at]; omega⟩ | exact b2_R _ | exact bC_R _ | exact band_R _ _ | exact bor_R _ _ | exact bshl_R _ _ | exact bshr_R _ _ | exact bxor_R _ _ | exact bs_R (by omega) | decide) (fun h_245 => ?_) (fun h_245 => ?_)
                  · exfalso; omega
                  · refine ev_aload_n dX8_takeClause_248 rfl ?_
                    refine ev_callVP dX8_takeClause_249 kv_X8_288 (m_takeRope _ c L e d hT2 heL hS3 hK (by omega)) rfl rfl (ci := 8) rfl rfl ⟨by decide, by decide⟩ (Nat.le_of_ble_eq_true rfl) ?_
                    rintro v_249 τ_249 ⟨z_249, rfl, hq_249⟩
                    refine ev_w (fun hR => ?_)
                    refine ev_goto (tgt := 271) dX8_takeClause_252 (by decide) ?_
                    first
                      | (exfalso; omega)
                      | (refine tail (ropeR c L d e) _ _ y1 1 0 (BodM.to hS2.1 hS2.2.1 hq_249) ?_ (fun d9 e9 h9 => (ropeR_ok hK (by omega) h9 heL).2.2)
                         rw [hcls, if_neg q0, if_pos q1, if_pos (by omega)])
                · exfalso; omega
              · refine ev_aload_n dX8_takeClause_214 rfl ?_
                refine ev_iconst dX8_takeClause_215 ?_
                refine ev_aload_n dX8_takeClause_216 rfl ?_
                refine ev_getI (kz := 38) dX8_takeClause_217 fl_X8_211 rfl rfl rfl ?_
                rw [hwa.2.2.1]
                refine ev_callVI dX8_takeClause_220 kv_X8_241 (m_fails _ 3 (a : Int) (by decide) ⟨by omega, by omega⟩) rfl rfl (ci := 8) rfl rfl ⟨by decide, by decide⟩ (Nat.le_of_ble_eq_true rfl) ?_
                refine ev_w (fun hR => ?_)
                refine ev_ireturn dX8_takeClause_223 ?_
                first
                  | (exfalso; omega)
                  | (refine ⟨3, rfl, Or.inl ⟨3, a, ?_, rfl, by decide, by decide, hS1.1.wf _ (by unfold PF; omega), wr_eq _ _ _ _⟩⟩
                     rw [hcls, if_neg q0, if_pos q1, if_neg (by omega)])
            · refine ev_iconst dX8_takeClause_167 ?_
              refine ev_goto (tgt := 209) dX8_takeClause_168 (by decide) ?_
              refine ev_istore_n dX8_takeClause_209 rfl (by decide) rfl ?_
              refine ev_iload_n dX8_takeClause_210 rfl ?_
              refine ev_if_eq (tgt := 224) dX8_takeClause_211 (by decide) (by first | exact hR.1 _ _ | exact hR0.1 _ _ | assumption | exact ⟨by omega, by omega⟩ | exact ⟨by simp [wr_at]; omega, by simp [wr_at]; omega⟩ | exact b2_R _ | exact bC_R _ | exact band_R _ _ | exact bor_R _ _ | exact bshl_R _ _ | exact bshr_R _ _ | exact bxor_R _ _ | exact bs_R (by omega) | decide) (fun h_211 => ?_) (fun h_211 => ?_)
              · refine ev_aload_n dX8_takeClause_224 rfl ?_
                refine ev_aload_n dX8_takeClause_225 rfl ?_
                refine ev_getI (kz := 40) dX8_takeClause_226 fl_X8_222 rfl rfl rfl ?_
                rw [hwa.2.2.2]
                refine ev_putI (kz := 38) dX8_takeClause_229 fp_X8_211 rfl rfl rfl (by first | exact hR.1 _ _ | exact hR0.1 _ _ | assumption | exact ⟨by omega, by omega⟩ | exact ⟨by simp [wr_at]; omega, by simp [wr_at]; omega⟩ | exact b2_R _ | exact bC_R _ | exact band_R _ _ | exact bor_R _ _ | exact bshl_R _ _ | exact bshr_R _ _ | exact bxor_R _ _ | exact bs_R (by omega) | decide) ?_
                refine ev_w (fun hR => ?_)
                refine ev_iload_n dX8_takeClause_232 rfl ?_
                refine ev_if_ne (tgt := 243) dX8_takeClause_233 (by decide) (by first | exact hR.1 _ _ | exact hR0.1 _ _ | assumption | exact ⟨by omega, by omega⟩ | exact ⟨by simp [wr_at]; omega, by simp [wr_at]; omega⟩ | exact b2_R _ | exact bC_R _ | exact band_R _ _ | exact bor_R _ _ | exact bshl_R _ _ | exact bshr_R _ _ | exact bxor_R _ _ | exact bs_R (by omega) | decide) (fun h_233 => ?_) (fun h_233 => ?_)
                · refine ev_iload_n dX8_takeClause_243 rfl ?_
                  refine ev_iconst dX8_takeClause_244 ?_
                  refine ev_icmp_ne (tgt := 255) dX8_takeClause_245 (by decide) (by first | exact hR.1 _ _ | exact hR0.1 _ _ | assumption | exact ⟨by omega, by omega⟩ | exact ⟨by simp [wr_at]; omega, by simp [wr_at]; omega⟩ | exact b2_R _ | exact bC_R _ | exact band_R _ _ | exact bor_R _ _ | exact bshl_R _ _ | exact bshr_R _ _ | exact bxor_R _ _ | exact bs_R (by omega) | decide) (by first | exact hR.1 _ _ | exact hR0.1 _ _ | assumption | exact ⟨by omega, by omega⟩ | exact ⟨by simp [wr_at]; omega, by simp [wr_at]; omega⟩ | exact b2_R _ | exact bC_R _ | exact band_R _ _ | exact bor_R _ _ | exact bshl_R _ _ | exact bshr_R _ _ | exact bxor_R _ _ | exact bs_R (by omega) | decide) (fun h_245 => ?_) (fun h_245 => ?_)
                  · exfalso; omega
                  · refine ev_aload_n dX8_takeClause_248 rfl ?_
                    refine ev_callVP dX8_takeClause_249 kv_X8_288 (m_takeRope _ c L e d hT2 heL hS3 hK (by omega)) rfl rfl (ci := 8) rfl rfl ⟨by decide, by decide⟩ (Nat.le_of_ble_eq_true rfl) ?_
                    rintro v_249 τ_249 ⟨z_249, rfl, hq_249⟩
                    refine ev_w (fun hR => ?_)
                    refine ev_goto (tgt := 271) dX8_takeClause_252 (by decide) ?_
                    first
                      | (exfalso; omega)
                      | (refine tail (ropeR c L d e) _ _ y1 1 0 (BodM.to hS2.1 hS2.2.1 hq_249) ?_ (fun d9 e9 h9 => (ropeR_ok hK (by omega) h9 heL).2.2)
                         rw [hcls, if_neg q0, if_pos q1, if_pos (by omega)])
                · exfalso; omega
              · refine ev_aload_n dX8_takeClause_214 rfl ?_
                refine ev_iconst dX8_takeClause_215 ?_
                refine ev_aload_n dX8_takeClause_216 rfl ?_
                refine ev_getI (kz := 38) dX8_takeClause_217 fl_X8_211 rfl rfl rfl ?_
                rw [hwa.2.2.1]
                refine ev_callVI dX8_takeClause_220 kv_X8_241 (m_fails _ 3 (a : Int) (by decide) ⟨by omega, by omega⟩) rfl rfl (ci := 8) rfl rfl ⟨by decide, by decide⟩ (Nat.le_of_ble_eq_true rfl) ?_
                refine ev_w (fun hR => ?_)
                refine ev_ireturn dX8_takeClause_223 ?_
                first
                  | (exfalso; omega)
                  | (refine ⟨3, rfl, Or.inl ⟨3, a, ?_, rfl, by decide, by decide, hS1.1.wf _ (by unfold PF; omega), wr_eq _ _ _ _⟩⟩
                     rw [hcls, if_neg q0, if_pos q1, if_neg (by omega)])
        · exfalso; omega
      · exfalso; omega
    · refine ev_iload_n dX8_takeClause_118 rfl ?_
      refine ev_if_ge (tgt := 132) dX8_takeClause_119 (by decide) (by first | exact hR.1 _ _ | exact hR0.1 _ _ | assumption | exact ⟨by omega, by omega⟩ | exact ⟨by simp [wr_at]; omega, by simp [wr_at]; omega⟩ | exact b2_R _ | exact bC_R _ | exact band_R _ _ | exact bor_R _ _ | exact bshl_R _ _ | exact bshr_R _ _ | exact bxor_R _ _ | exact bs_R (by omega) | decide) (fun h_119 => ?_) (fun h_119 => ?_)
      · refine ev_iload_n dX8_takeClause_132 rfl ?_
        refine ev_if_ne (tgt := 153) dX8_takeClause_133 (by decide) (by first | exact hR.1 _ _ | exact hR0.1 _ _ | assumption | exact ⟨by omega, by omega⟩ | exact ⟨by simp [wr_at]; omega, by simp [wr_at]; omega⟩ | exact b2_R _ | exact bC_R _ | exact band_R _ _ | exact bor_R _ _ | exact bshl_R _ _ | exact bshr_R _ _ | exact bxor_R _ _ | exact bs_R (by omega) | decide) (fun h_133 => ?_) (fun h_133 => ?_)
        · refine ev_iload_n dX8_takeClause_153 rfl ?_
          refine ev_iconst dX8_takeClause_154 ?_
          refine ev_icmp_ne (tgt := 175) dX8_takeClause_155 (by decide) (by first | exact hR.1 _ _ | exact hR0.1 _ _ | assumption | exact ⟨by omega, by omega⟩ | exact ⟨by simp [wr_at]; omega, by simp [wr_at]; omega⟩ | exact b2_R _ | exact bC_R _ | exact band_R _ _ | exact bor_R _ _ | exact bshl_R _ _ | exact bshr_R _ _ | exact bxor_R _ _ | exact bs_R (by omega) | decide) (by first | exact hR.1 _ _ | exact hR0.1 _ _ | assumption | exact ⟨by omega, by omega⟩ | exact ⟨by simp [wr_at]; omega, by simp [wr_at]; omega⟩ | exact b2_R _ | exact bC_R _ | exact band_R _ _ | exact bor_R _ _ | exact bshl_R _ _ | exact bshr_R _ _ | exact bxor_R _ _ | exact bs_R (by omega) | decide) (fun h_155 => ?_) (fun h_155 => ?_)
          · refine ev_iload_n dX8_takeClause_175 rfl ?_
            refine ev_iconst dX8_takeClause_176 ?_
            refine ev_icmp_ne (tgt := 196) dX8_takeClause_177 (by decide) (by first | exact hR.1 _ _ | exact hR0.1 _ _ | assumption | exact ⟨by omega, by omega⟩ | exact ⟨by simp [wr_at]; omega, by simp [wr_at]; omega⟩ | exact b2_R _ | exact bC_R _ | exact band_R _ _ | exact bor_R _ _ | exact bshl_R _ _ | exact bshr_R _ _ | exact bxor_R _ _ | exact bs_R (by omega) | decide) (by first | exact hR.1 _ _ | exact hR0.1 _ _ | assumption | exact ⟨by omega, by omega⟩ | exact ⟨by simp [wr_at]; omega, by simp [wr_at]; omega⟩ | exact b2_R _ | exact bC_R _ | exact band_R _ _ | exact bor_R _ _ | exact bshl_R _ _ | exact bshr_R _ _ | exact bxor_R _ _ | exact bs_R (by omega) | decide) (fun h_177 => ?_) (fun h_177 => ?_)
            · exfalso; omega
            · refine ev_aload_n dX8_takeClause_180 rfl ?_
              refine ev_getI (kz := 52) dX8_takeClause_181 fl_X8_268 rfl rfl rfl ?_
              rw [(hc0 hS1).2.2.1]
              refine ev_iconst dX8_takeClause_184 ?_
              refine ev_icmp_ne (tgt := 192) dX8_takeClause_185 (by decide) (by first | exact hR.1 _ _ | exact hR0.1 _ _ | assumption | exact ⟨by omega, by omega⟩ | exact ⟨by simp [wr_at]; omega, by simp [wr_at]; omega⟩ | exact b2_R _ | exact bC_R _ | exact band_R _ _ | exact bor_R _ _ | exact bshl_R _ _ | exact bshr_R _ _ | exact bxor_R _ _ | exact bs_R (by omega) | decide) (by first | exact hR.1 _ _ | exact hR0.1 _ _ | assumption | exact ⟨by omega, by omega⟩ | exact ⟨by simp [wr_at]; omega, by simp [wr_at]; omega⟩ | exact b2_R _ | exact bC_R _ | exact band_R _ _ | exact bor_R _ _ | exact bshl_R _ _ | exact bshr_R _ _ | exact bxor_R _ _ | exact bs_R (by omega) | decide) (fun h_185 => ?_) (fun h_185 => ?_)
              · refine ev_iconst dX8_takeClause_192 ?_
                refine ev_goto (tgt := 209) dX8_takeClause_193 (by decide) ?_
                refine ev_istore_n dX8_takeClause_209 rfl (by decide) rfl ?_
                refine ev_iload_n dX8_takeClause_210 rfl ?_
                refine ev_if_eq (tgt := 224) dX8_takeClause_211 (by decide) (by first | exact hR.1 _ _ | exact hR0.1 _ _ | assumption | exact ⟨by omega, by omega⟩ | exact ⟨by simp [wr_at]; omega, by simp [wr_at]; omega⟩ | exact b2_R _ | exact bC_R _ | exact band_R _ _ | exact bor_R _ _ | exact bshl_R _ _ | exact bshr_R _ _ | exact bxor_R _ _ | exact bs_R (by omega) | decide) (fun h_211 => ?_) (fun h_211 => ?_)
                · refine ev_aload_n dX8_takeClause_224 rfl ?_
                  refine ev_aload_n dX8_takeClause_225 rfl ?_
                  refine ev_getI (kz := 40) dX8_takeClause_226 fl_X8_222 rfl rfl rfl ?_
                  rw [hwa.2.2.2]
                  refine ev_putI (kz := 38) dX8_takeClause_229 fp_X8_211 rfl rfl rfl (by first | exact hR.1 _ _ | exact hR0.1 _ _ | assumption | exact ⟨by omega, by omega⟩ | exact ⟨by simp [wr_at]; omega, by simp [wr_at]; omega⟩ | exact b2_R _ | exact bC_R _ | exact band_R _ _ | exact bor_R _ _ | exact bshl_R _ _ | exact bshr_R _ _ | exact bxor_R _ _ | exact bs_R (by omega) | decide) ?_
                  refine ev_w (fun hR => ?_)
                  refine ev_iload_n dX8_takeClause_232 rfl ?_
                  refine ev_if_ne (tgt := 243) dX8_takeClause_233 (by decide) (by first | exact hR.1 _ _ | exact hR0.1 _ _ | assumption | exact ⟨by omega, by omega⟩ | exact ⟨by simp [wr_at]; omega, by simp [wr_at]; omega⟩ | exact b2_R _ | exact bC_R _ | exact band_R _ _ | exact bor_R _ _ | exact bshl_R _ _ | exact bshr_R _ _ | exact bxor_R _ _ | exact bs_R (by omega) | decide) (fun h_233 => ?_) (fun h_233 => ?_)
                  · refine ev_iload_n dX8_takeClause_243 rfl ?_
                    refine ev_iconst dX8_takeClause_244 ?_
                    refine ev_icmp_ne (tgt := 255) dX8_takeClause_245 (by decide) (by first | exact hR.1 _ _ | exact hR0.1 _ _ | assumption | exact ⟨by omega, by omega⟩ | exact ⟨by simp [wr_at]; omega, by simp [wr_at]; omega⟩ | exact b2_R _ | exact bC_R _ | exact band_R _ _ | exact bor_R _ _ | exact bshl_R _ _ | exact bshr_R _ _ | exact bxor_R _ _ | exact bs_R (by omega) | decide) (by first | exact hR.1 _ _ | exact hR0.1 _ _ | assumption | exact ⟨by omega, by omega⟩ | exact ⟨by simp [wr_at]; omega, by simp [wr_at]; omega⟩ | exact b2_R _ | exact bC_R _ | exact band_R _ _ | exact bor_R _ _ | exact bshl_R _ _ | exact bshr_R _ _ | exact bxor_R _ _ | exact bs_R (by omega) | decide) (fun h_245 => ?_) (fun h_245 => ?_)
                    · refine ev_iload_n dX8_takeClause_255 rfl ?_
                      refine ev_iconst dX8_takeClause_256 ?_
                      refine ev_icmp_ne (tgt := 267) dX8_takeClause_257 (by decide) (by first | exact hR.1 _ _ | exact hR0.1 _ _ | assumption | exact ⟨by omega, by omega⟩ | exact ⟨by simp [wr_at]; omega, by simp [wr_at]; omega⟩ | exact b2_R _ | exact bC_R _ | exact band_R _ _ | exact bor_R _ _ | exact bshl_R _ _ | exact bshr_R _ _ | exact bxor_R _ _ | exact bs_R (by omega) | decide) (by first | exact hR.1 _ _ | exact hR0.1 _ _ | assumption | exact ⟨by omega, by omega⟩ | exact ⟨by simp [wr_at]; omega, by simp [wr_at]; omega⟩ | exact b2_R _ | exact bC_R _ | exact band_R _ _ | exact bor_R _ _ | exact bshl_R _ _ | exact bshr_R _ _ | exact bxor_R _ _ | exact bs_R (by omega) | decide) (fun h_257 => ?_) (fun h_257 => ?_)
                      · exfalso; omega
                      · refine ev_aload_n dX8_takeClause_260 rfl ?_
                        refine ev_callVP dX8_takeClause_261 kv_X8_291 (m_takeBoy _ c L e d hT2 heL hS3 hK (by omega)) rfl rfl (ci := 8) rfl rfl ⟨by decide, by decide⟩ (Nat.le_of_ble_eq_true rfl) ?_
                        rintro v_261 τ_261 ⟨z_261, rfl, hq_261⟩
                        refine ev_w (fun hR => ?_)
                        refine ev_goto (tgt := 271) dX8_takeClause_264 (by decide) ?_
                        first
                          | (exfalso; omega)
                          | (refine tail (boyR c L d e) _ _ y1 2 0 (BodM.to hS2.1 hS2.2.1 hq_261) ?_ (fun d9 e9 h9 => (boyR_ok hK (by omega) h9 heL).2.2)
                             rw [hcls, if_neg q0, if_neg q1, if_pos q2, if_pos (by omega)])
                    · exfalso; omega
                  · exfalso; omega
                · refine ev_aload_n dX8_takeClause_214 rfl ?_
                  refine ev_iconst dX8_takeClause_215 ?_
                  refine ev_aload_n dX8_takeClause_216 rfl ?_
                  refine ev_getI (kz := 38) dX8_takeClause_217 fl_X8_211 rfl rfl rfl ?_
                  rw [hwa.2.2.1]
                  refine ev_callVI dX8_takeClause_220 kv_X8_241 (m_fails _ 3 (a : Int) (by decide) ⟨by omega, by omega⟩) rfl rfl (ci := 8) rfl rfl ⟨by decide, by decide⟩ (Nat.le_of_ble_eq_true rfl) ?_
                  refine ev_w (fun hR => ?_)
                  refine ev_ireturn dX8_takeClause_223 ?_
                  first
                    | (exfalso; omega)
                    | (refine ⟨3, rfl, Or.inl ⟨3, a, ?_, rfl, by decide, by decide, hS1.1.wf _ (by unfold PF; omega), wr_eq _ _ _ _⟩⟩
                       rw [hcls, if_neg q0, if_neg q1, if_pos q2, if_neg (by omega)])
              · refine ev_iconst dX8_takeClause_188 ?_
                refine ev_goto (tgt := 209) dX8_takeClause_189 (by decide) ?_
                refine ev_istore_n dX8_takeClause_209 rfl (by decide) rfl ?_
                refine ev_iload_n dX8_takeClause_210 rfl ?_
                refine ev_if_eq (tgt := 224) dX8_takeClause_211 (by decide) (by first | exact hR.1 _ _ | exact hR0.1 _ _ | assumption | exact ⟨by omega, by omega⟩ | exact ⟨by simp [wr_at]; omega, by simp [wr_at]; omega⟩ | exact b2_R _ | exact bC_R _ | exact band_R _ _ | exact bor_R _ _ | exact bshl_R _ _ | exact bshr_R _ _ | exact bxor_R _ _ | exact bs_R (by omega) | decide) (fun h_211 => ?_) (fun h_211 => ?_)
                · refine ev_aload_n dX8_takeClause_224 rfl ?_
                  refine ev_aload_n dX8_takeClause_225 rfl ?_
                  refine ev_getI (kz := 40) dX8_takeClause_226 fl_X8_222 rfl rfl rfl ?_
                  rw [hwa.2.2.2]
                  refine ev_putI (kz := 38) dX8_takeClause_229 fp_X8_211 rfl rfl rfl (by first | exact hR.1 _ _ | exact hR0.1 _ _ | assumption | exact ⟨by omega, by omega⟩ | exact ⟨by simp [wr_at]; omega, by simp [wr_at]; omega⟩ | exact b2_R _ | exact bC_R _ | exact band_R _ _ | exact bor_R _ _ | exact bshl_R _ _ | exact bshr_R _ _ | exact bxor_R _ _ | exact bs_R (by omega) | decide) ?_
                  refine ev_w (fun hR => ?_)
                  refine ev_iload_n dX8_takeClause_232 rfl ?_
                  refine ev_if_ne (tgt := 243) dX8_takeClause_233 (by decide) (by first | exact hR.1 _ _ | exact hR0.1 _ _ | assumption | exact ⟨by omega, by omega⟩ | exact ⟨by simp [wr_at]; omega, by simp [wr_at]; omega⟩ | exact b2_R _ | exact bC_R _ | exact band_R _ _ | exact bor_R _ _ | exact bshl_R _ _ | exact bshr_R _ _ | exact bxor_R _ _ | exact bs_R (by omega) | decide) (fun h_233 => ?_) (fun h_233 => ?_)
                  · refine ev_iload_n dX8_takeClause_243 rfl ?_
                    refine ev_iconst dX8_takeClause_244 ?_
                    refine ev_icmp_ne (tgt := 255) dX8_takeClause_245 (by decide) (by first | exact hR.1 _ _ | exact hR0.1 _ _ | assumption | exact ⟨by omega, by omega⟩ | exact ⟨by simp [wr_at]; omega, by simp [wr_at]; omega⟩ | exact b2_R _ | exact bC_R _ | exact band_R _ _ | exact bor_R _ _ | exact bshl_R _ _ | exact bshr_R _ _ | exact bxor_R _ _ | exact bs_R (by omega) | decide) (by first | exact hR.1 _ _ | exact hR0.1 _ _ | assumption | exact ⟨by omega, by omega⟩ | exact ⟨by simp [wr_at]; omega, by simp [wr_at]; omega⟩ | exact b2_R _ | exact bC_R _ | exact band_R _ _ | exact bor_R _ _ | exact bshl_R _ _ | exact bshr_R _ _ | exact bxor_R _ _ | exact bs_R (by omega) | decide) (fun h_245 => ?_) (fun h_245 => ?_)
                    · refine ev_iload_n dX8_takeClause_255 rfl ?_
                      refine ev_iconst dX8_takeClause_256 ?_
                      refine ev_icmp_ne (tgt := 267) dX8_takeClause_257 (by decide) (by first | exact hR.1 _ _ | exact hR0.1 _ _ | assumption | exact ⟨by omega, by omega⟩ | exact ⟨by simp [wr_at]; omega, by simp [wr_at]; omega⟩ | exact b2_R _ | exact bC_R _ | exact band_R _ _ | exact bor_R _ _ | exact bshl_R _ _ | exact bshr_R _ _ | exact bxor_R _ _ | exact bs_R (by omega) | decide) (by first | exact hR.1 _ _ | exact hR0.1 _ _ | assumption | exact ⟨by omega, by omega⟩ | exact ⟨by simp [wr_at]; omega, by simp [wr_at]; omega⟩ | exact b2_R _ | exact bC_R _ | exact band_R _ _ | exact bor_R _ _ | exact bshl_R _ _ | exact bshr_R _ _ | exact bxor_R _ _ | exact bs_R (by omega) | decide) (fun h_257 => ?_) (fun h_257 => ?_)
                      · exfalso; omega
                      · refine ev_aload_n dX8_takeClause_260 rfl ?_
                        refine ev_callVP dX8_takeClause_261 kv_X8_291 (m_takeBoy _ c L e d hT2 heL hS3 hK (by omega)) rfl rfl (ci := 8) rfl rfl ⟨by decide, by decide⟩ (Nat.le_of_ble_eq_true rfl) ?_
                        rintro v_261 τ_261 ⟨z_261, rfl, hq_261⟩
                        refine ev_w (fun hR => ?_)
                        refine ev_goto (tgt := 271) dX8_takeClause_264 (by decide) ?_
                        first
                          | (exfalso; omega)
                          | (refine tail (boyR c L d e) _ _ y1 2 0 (BodM.to hS2.1 hS2.2.1 hq_261) ?_ (fun d9 e9 h9 => (boyR_ok hK (by omega) h9 heL).2.2)
                             rw [hcls, if_neg q0, if_neg q1, if_pos q2, if_pos (by omega)])
                    · exfalso; omega
                  · exfalso; omega
                · refine ev_aload_n dX8_takeClause_214 rfl ?_
                  refine ev_iconst dX8_takeClause_215 ?_
                  refine ev_aload_n dX8_takeClause_216 rfl ?_
                  refine ev_getI (kz := 38) dX8_takeClause_217 fl_X8_211 rfl rfl rfl ?_
                  rw [hwa.2.2.1]
                  refine ev_callVI dX8_takeClause_220 kv_X8_241 (m_fails _ 3 (a : Int) (by decide) ⟨by omega, by omega⟩) rfl rfl (ci := 8) rfl rfl ⟨by decide, by decide⟩ (Nat.le_of_ble_eq_true rfl) ?_
                  refine ev_w (fun hR => ?_)
                  refine ev_ireturn dX8_takeClause_223 ?_
                  first
                    | (exfalso; omega)
                    | (refine ⟨3, rfl, Or.inl ⟨3, a, ?_, rfl, by decide, by decide, hS1.1.wf _ (by unfold PF; omega), wr_eq _ _ _ _⟩⟩
                       rw [hcls, if_neg q0, if_neg q1, if_pos q2, if_neg (by omega)])
          · exfalso; omega
        · exfalso; omega
      · exfalso; omega
    · refine ev_iload_n dX8_takeClause_118 rfl ?_
      refine ev_if_ge (tgt := 132) dX8_takeClause_119 (by decide) (by first | exact hR.1 _ _ | exact hR0.1 _ _ | assumption | exact ⟨by omega, by omega⟩ | exact ⟨by simp [wr_at]; omega, by simp [wr_at]; omega⟩ | exact b2_R _ | exact bC_R _ | exact band_R _ _ | exact bor_R _ _ | exact bshl_R _ _ | exact bshr_R _ _ | exact bxor_R _ _ | exact bs_R (by omega) | decide) (fun h_119 => ?_) (fun h_119 => ?_)
      · refine ev_iload_n dX8_takeClause_132 rfl ?_
        refine ev_if_ne (tgt := 153) dX8_takeClause_133 (by decide) (by first | exact hR.1 _ _ | exact hR0.1 _ _ | assumption | exact ⟨by omega, by omega⟩ | exact ⟨by simp [wr_at]; omega, by simp [wr_at]; omega⟩ | exact b2_R _ | exact bC_R _ | exact band_R _ _ | exact bor_R _ _ | exact bshl_R _ _ | exact bshr_R _ _ | exact bxor_R _ _ | exact bs_R (by omega) | decide) (fun h_133 => ?_) (fun h_133 => ?_)
        · refine ev_iload_n dX8_takeClause_153 rfl ?_
          refine ev_iconst dX8_takeClause_154 ?_
          refine ev_icmp_ne (tgt := 175) dX8_takeClause_155 (by decide) (by first | exact hR.1 _ _ | exact hR0.1 _ _ | assumption | exact ⟨by omega, by omega⟩ | exact ⟨by simp [wr_at]; omega, by simp [wr_at]; omega⟩ | exact b2_R _ | exact bC_R _ | exact band_R _ _ | exact bor_R _ _ | exact bshl_R _ _ | exact bshr_R _ _ | exact bxor_R _ _ | exact bs_R (by omega) | decide) (by first | exact hR.1 _ _ | exact hR0.1 _ _ | assumption | exact ⟨by omega, by omega⟩ | exact ⟨by simp [wr_at]; omega, by simp [wr_at]; omega⟩ | exact b2_R _ | exact bC_R _ | exact band_R _ _ | exact bor_R _ _ | exact bshl_R _ _ | exact bshr_R _ _ | exact bxor_R _ _ | exact bs_R (by omega) | decide) (fun h_155 => ?_) (fun h_155 => ?_)
          · refine ev_iload_n dX8_takeClause_175 rfl ?_
            refine ev_iconst dX8_takeClause_176 ?_
            refine ev_icmp_ne (tgt := 196) dX8_takeClause_177 (by decide) (by first | exact hR.1 _ _ | exact hR0.1 _ _ | assumption | exact ⟨by omega, by omega⟩ | exact ⟨by simp [wr_at]; omega, by simp [wr_at]; omega⟩ | exact b2_R _ | exact bC_R _ | exact band_R _ _ | exact bor_R _ _ | exact bshl_R _ _ | exact bshr_R _ _ | exact bxor_R _ _ | exact bs_R (by omega) | decide) (by first | exact hR.1 _ _ | exact hR0.1 _ _ | assumption | exact ⟨by omega, by omega⟩ | exact ⟨by simp [wr_at]; omega, by simp [wr_at]; omega⟩ | exact b2_R _ | exact bC_R _ | exact band_R _ _ | exact bor_R _ _ | exact bshl_R _ _ | exact bshr_R _ _ | exact bxor_R _ _ | exact bs_R (by omega) | decide) (fun h_177 => ?_) (fun h_177 => ?_)
            · refine ev_aload_n dX8_takeClause_196 rfl ?_
              refine ev_getI (kz := 56) dX8_takeClause_197 fl_X8_271 rfl rfl rfl ?_
              rw [(hc0 hS1).2.2.2]
              refine ev_iconst dX8_takeClause_200 ?_
              refine ev_icmp_ne (tgt := 208) dX8_takeClause_201 (by decide) (by first | exact hR.1 _ _ | exact hR0.1 _ _ | assumption | exact ⟨by omega, by omega⟩ | exact ⟨by simp [wr_at]; omega, by simp [wr_at]; omega⟩ | exact b2_R _ | exact bC_R _ | exact band_R _ _ | exact bor_R _ _ | exact bshl_R _ _ | exact bshr_R _ _ | exact bxor_R _ _ | exact bs_R (by omega) | decide) (by first | exact hR.1 _ _ | exact hR0.1 _ _ | assumption | exact ⟨by omega, by omega⟩ | exact ⟨by simp [wr_at]; omega, by simp [wr_at]; omega⟩ | exact b2_R _ | exact bC_R _ | exact band_R _ _ | exact bor_R _ _ | exact bshl_R _ _ | exact bshr_R _ _ | exact bxor_R _ _ | exact bs_R (by omega) | decide) (fun h_201 => ?_) (fun h_201 => ?_)
              · refine ev_iconst dX8_takeClause_208 ?_
                refine ev_istore_n dX8_takeClause_209 rfl (by decide) rfl ?_
                refine ev_iload_n dX8_takeClause_210 rfl ?_
                refine ev_if_eq (tgt := 224) dX8_takeClause_211 (by decide) (by first | exact hR.1 _ _ | exact hR0.1 _ _ | assumption | exact ⟨by omega, by omega⟩ | exact ⟨by simp [wr_at]; omega, by simp [wr_at]; omega⟩ | exact b2_R _ | exact bC_R _ | exact band_R _ _ | exact bor_R _ _ | exact bshl_R _ _ | exact bshr_R _ _ | exact bxor_R _ _ | exact bs_R (by omega) | decide) (fun h_211 => ?_) (fun h_211 => ?_)
                · refine ev_aload_n dX8_takeClause_224 rfl ?_
                  refine ev_aload_n dX8_takeClause_225 rfl ?_
                  refine ev_getI (kz := 40) dX8_takeClause_226 fl_X8_222 rfl rfl rfl ?_
                  rw [hwa.2.2.2]
                  refine ev_putI (kz := 38) dX8_takeClause_229 fp_X8_211 rfl rfl rfl (by first | exact hR.1 _ _ | exact hR0.1 _ _ | assumption | exact ⟨by omega, by omega⟩ | exact ⟨by simp [wr_at]; omega, by simp [wr_at]; omega⟩ | exact b2_R _ | exact bC_R _ | exact band_R _ _ | exact bor_R _ _ | exact bshl_R _ _ | exact bshr_R _ _ | exact bxor_R _ _ | exact bs_R (by omega) | decide) ?_
                  refine ev_w (fun hR => ?_)
                  refine ev_iload_n dX8_takeClause_232 rfl ?_
                  refine ev_if_ne (tgt := 243) dX8_takeClause_233 (by decide) (by first | exact hR.1 _ _ | exact hR0.1 _ _ | assumption | exact ⟨by omega, by omega⟩ | exact ⟨by simp [wr_at]; omega, by simp [wr_at]; omega⟩ | exact b2_R _ | exact bC_R _ | exact band_R _ _ | exact bor_R _ _ | exact bshl_R _ _ | exact bshr_R _ _ | exact bxor_R _ _ | exact bs_R (by omega) | decide) (fun h_233 => ?_) (fun h_233 => ?_)
                  · refine ev_iload_n dX8_takeClause_243 rfl ?_
                    refine ev_iconst dX8_takeClause_244 ?_
                    refine ev_icmp_ne (tgt := 255) dX8_takeClause_245 (by decide) (by first | exact hR.1 _ _ | exact hR0.1 _ _ | assumption | exact ⟨by omega, by omega⟩ | exact ⟨by simp [wr_at]; omega, by simp [wr_at]; omega⟩ | exact b2_R _ | exact bC_R _ | exact band_R _ _ | exact bor_R _ _ | exact bshl_R _ _ | exact bshr_R _ _ | exact bxor_R _ _ | exact bs_R (by omega) | decide) (by first | exact hR.1 _ _ | exact hR0.1 _ _ | assumption | exact ⟨by omega, by omega⟩ | exact ⟨by simp [wr_at]; omega, by simp [wr_at]; omega⟩ | exact b2_R _ | exact bC_R _ | exact band_R _ _ | exact bor_R _ _ | exact bshl_R _ _ | exact bshr_R _ _ | exact bxor_R _ _ | exact bs_R (by omega) | decide) (fun h_245 => ?_) (fun h_245 => ?_)
                    · refine ev_iload_n dX8_takeClause_255 rfl ?_
                      refine ev_iconst dX8_takeClause_256 ?_
                      refine ev_icmp_ne (tgt := 267) dX8_takeClause_257 (by decide) (by first | exact hR.1 _ _ | exact hR0.1 _ _ | assumption | exact ⟨by omega, by omega⟩ | exact ⟨by simp [wr_at]; omega, by simp [wr_at]; omega⟩ | exact b2_R _ | exact bC_R _ | exact band_R _ _ | exact bor_R _ _ | exact bshl_R _ _ | exact bshr_R _ _ | exact bxor_R _ _ | exact bs_R (by omega) | decide) (by first | exact hR.1 _ _ | exact hR0.1 _ _ | assumption | exact ⟨by omega, by omega⟩ | exact ⟨by simp [wr_at]; omega, by simp [wr_at]; omega⟩ | exact b2_R _ | exact bC_R _ | exact band_R _ _ | exact bor_R _ _ | exact bshl_R _ _ | exact bshr_R _ _ | exact bxor_R _ _ | exact bs_R (by omega) | decide) (fun h_257 => ?_) (fun h_257 => ?_)
                      · refine ev_aload_n dX8_takeClause_267 rfl ?_
                        refine ev_callVP dX8_takeClause_268 kv_X8_294 (m_takeLoad _ c L e d hT2 heL hS3 hK (by omega)) rfl rfl (ci := 8) rfl rfl ⟨by decide, by decide⟩ (Nat.le_of_ble_eq_true rfl) ?_
                        rintro v_268 τ_268 ⟨z_268, rfl, hq_268⟩
                        refine ev_w (fun hR => ?_)
                        first
                          | (exfalso; omega)
                          | (refine tail (loadR c L d e) _ _ y1 3 0 (BodM.to hS2.1 hS2.2.1 hq_268) ?_ (fun d9 e9 h9 => (loadR_ok hK (by omega) h9 heL).2.2)
                             rw [hcls, if_neg q0, if_neg q1, if_neg q2, if_pos q3, if_pos (by omega)])
                      · exfalso; omega
                    · exfalso; omega
                  · exfalso; omega
                · refine ev_aload_n dX8_takeClause_214 rfl ?_
                  refine ev_iconst dX8_takeClause_215 ?_
                  refine ev_aload_n dX8_takeClause_216 rfl ?_
                  refine ev_getI (kz := 38) dX8_takeClause_217 fl_X8_211 rfl rfl rfl ?_
                  rw [hwa.2.2.1]
                  refine ev_callVI dX8_takeClause_220 kv_X8_241 (m_fails _ 3 (a : Int) (by decide) ⟨by omega, by omega⟩) rfl rfl (ci := 8) rfl rfl ⟨by decide, by decide⟩ (Nat.le_of_ble_eq_true rfl) ?_
                  refine ev_w (fun hR => ?_)
                  refine ev_ireturn dX8_takeClause_223 ?_
                  first
                    | (exfalso; omega)
                    | (refine ⟨3, rfl, Or.inl ⟨3, a, ?_, rfl, by decide, by decide, hS1.1.wf _ (by unfold PF; omega), wr_eq _ _ _ _⟩⟩
                       rw [hcls, if_neg q0, if_neg q1, if_neg q2, if_pos q3, if_neg (by omega)])
              · refine ev_iconst dX8_takeClause_204 ?_
                refine ev_goto (tgt := 209) dX8_takeClause_205 (by decide) ?_
                refine ev_istore_n dX8_takeClause_209 rfl (by decide) rfl ?_
                refine ev_iload_n dX8_takeClause_210 rfl ?_
                refine ev_if_eq (tgt := 224) dX8_takeClause_211 (by decide) (by first | exact hR.1 _ _ | exact hR0.1 _ _ | assumption | exact ⟨by omega, by omega⟩ | exact ⟨by simp [wr_at]; omega, by simp [wr_at]; omega⟩ | exact b2_R _ | exact bC_R _ | exact band_R _ _ | exact bor_R _ _ | exact bshl_R _ _ | exact bshr_R _ _ | exact bxor_R _ _ | exact bs_R (by omega) | decide) (fun h_211 => ?_) (fun h_211 => ?_)
                · refine ev_aload_n dX8_takeClause_224 rfl ?_
                  refine ev_aload_n dX8_takeClause_225 rfl ?_
                  refine ev_getI (kz := 40) dX8_takeClause_226 fl_X8_222 rfl rfl rfl ?_
                  rw [hwa.2.2.2]
                  refine ev_putI (kz := 38) dX8_takeClause_229 fp_X8_211 rfl rfl rfl (by first | exact hR.1 _ _ | exact hR0.1 _ _ | assumption | exact ⟨by omega, by omega⟩ | exact ⟨by simp [wr_at]; omega, by simp [wr_at]; omega⟩ | exact b2_R _ | exact bC_R _ | exact band_R _ _ | exact bor_R _ _ | exact bshl_R _ _ | exact bshr_R _ _ | exact bxor_R _ _ | exact bs_R (by omega) | decide) ?_
                  refine ev_w (fun hR => ?_)
                  refine ev_iload_n dX8_takeClause_232 rfl ?_
                  refine ev_if_ne (tgt := 243) dX8_takeClause_233 (by decide) (by first | exact hR.1 _ _ | exact hR0.1 _ _ | assumption | exact ⟨by omega, by omega⟩ | exact ⟨by simp [wr_at]; omega, by simp [wr_at]; omega⟩ | exact b2_R _ | exact bC_R _ | exact band_R _ _ | exact bor_R _ _ | exact bshl_R _ _ | exact bshr_R _ _ | exact bxor_R _ _ | exact bs_R (by omega) | decide) (fun h_233 => ?_) (fun h_233 => ?_)
                  · refine ev_iload_n dX8_takeClause_243 rfl ?_
                    refine ev_iconst dX8_takeClause_244 ?_
                    refine ev_icmp_ne (tgt := 255) dX8_takeClause_245 (by decide) (by first | exact hR.1 _ _ | exact hR0.1 _ _ | assumption | exact ⟨by omega, by omega⟩ | exact ⟨by simp [wr_at]; omega, by simp [wr_at]; omega⟩ | exact b2_R _ | exact bC_R _ | exact band_R _ _ | exact bor_R _ _ | exact bshl_R _ _ | exact bshr_R _ _ | exact bxor_R _ _ | exact bs_R (by omega) | decide) (by first | exact hR.1 _ _ | exact hR0.1 _ _ | assumption | exact ⟨by omega, by omega⟩ | exact ⟨by simp [wr_at]; omega, by simp [wr_at]; omega⟩ | exact b2_R _ | exact bC_R _ | exact band_R _ _ | exact bor_R _ _ | exact bshl_R _ _ | exact bshr_R _ _ | exact bxor_R _ _ | exact bs_R (by omega) | decide) (fun h_245 => ?_) (fun h_245 => ?_)
                    · refine ev_iload_n dX8_takeClause_255 rfl ?_
                      refine ev_iconst dX8_takeClause_256 ?_
                      refine ev_icmp_ne (tgt := 267) dX8_takeClause_257 (by decide) (by first | exact hR.1 _ _ | exact hR0.1 _ _ | assumption | exact ⟨by omega, by omega⟩ | exact ⟨by simp [wr_at]; omega, by simp [wr_at]; omega⟩ | exact b2_R _ | exact bC_R _ | exact band_R _ _ | exact bor_R _ _ | exact bshl_R _ _ | exact bshr_R _ _ | exact bxor_R _ _ | exact bs_R (by omega) | decide) (by first | exact hR.1 _ _ | exact hR0.1 _ _ | assumption | exact ⟨by omega, by omega⟩ | exact ⟨by simp [wr_at]; omega, by simp [wr_at]; omega⟩ | exact b2_R _ | exact bC_R _ | exact band_R _ _ | exact bor_R _ _ | exact bshl_R _ _ | exact bshr_R _ _ | exact bxor_R _ _ | exact bs_R (by omega) | decide) (fun h_257 => ?_) (fun h_257 => ?_)
                      · refine ev_aload_n dX8_takeClause_267 rfl ?_
                        refine ev_callVP dX8_takeClause_268 kv_X8_294 (m_takeLoad _ c L e d hT2 heL hS3 hK (by omega)) rfl rfl (ci := 8) rfl rfl ⟨by decide, by decide⟩ (Nat.le_of_ble_eq_true rfl) ?_
                        rintro v_268 τ_268 ⟨z_268, rfl, hq_268⟩
                        refine ev_w (fun hR => ?_)
                        first
                          | (exfalso; omega)
                          | (refine tail (loadR c L d e) _ _ y1 3 0 (BodM.to hS2.1 hS2.2.1 hq_268) ?_ (fun d9 e9 h9 => (loadR_ok hK (by omega) h9 heL).2.2)
                             rw [hcls, if_neg q0, if_neg q1, if_neg q2, if_pos q3, if_pos (by omega)])
                      · exfalso; omega
                    · exfalso; omega
                  · exfalso; omega
                · refine ev_aload_n dX8_takeClause_214 rfl ?_
                  refine ev_iconst dX8_takeClause_215 ?_
                  refine ev_aload_n dX8_takeClause_216 rfl ?_
                  refine ev_getI (kz := 38) dX8_takeClause_217 fl_X8_211 rfl rfl rfl ?_
                  rw [hwa.2.2.1]
                  refine ev_callVI dX8_takeClause_220 kv_X8_241 (m_fails _ 3 (a : Int) (by decide) ⟨by omega, by omega⟩) rfl rfl (ci := 8) rfl rfl ⟨by decide, by decide⟩ (Nat.le_of_ble_eq_true rfl) ?_
                  refine ev_w (fun hR => ?_)
                  refine ev_ireturn dX8_takeClause_223 ?_
                  first
                    | (exfalso; omega)
                    | (refine ⟨3, rfl, Or.inl ⟨3, a, ?_, rfl, by decide, by decide, hS1.1.wf _ (by unfold PF; omega), wr_eq _ _ _ _⟩⟩
                       rw [hcls, if_neg q0, if_neg q1, if_neg q2, if_pos q3, if_neg (by omega)])
            · exfalso; omega
          · exfalso; omega
        · exfalso; omega
      · exfalso; omega
    · refine ev_iload_n dX8_takeClause_118 rfl ?_
      refine ev_if_ge (tgt := 132) dX8_takeClause_119 (by decide) (by first | exact hR.1 _ _ | exact hR0.1 _ _ | assumption | exact ⟨by omega, by omega⟩ | exact ⟨by simp [wr_at]; omega, by simp [wr_at]; omega⟩ | exact b2_R _ | exact bC_R _ | exact band_R _ _ | exact bor_R _ _ | exact bshl_R _ _ | exact bshr_R _ _ | exact bxor_R _ _ | exact bs_R (by omega) | decide) (fun h_119 => ?_) (fun h_119 => ?_)
      · exfalso; omega
      · refine ev_aload_n dX8_takeClause_122 rfl ?_
        refine ev_iconst dX8_takeClause_123 ?_
        refine ev_aload_n dX8_takeClause_124 rfl ?_
        refine ev_getI (kz := 38) dX8_takeClause_125 fl_X8_211 rfl rfl rfl ?_
        rw [hwa.2.2.1]
        refine ev_callVI dX8_takeClause_128 kv_X8_241 (m_fails _ 1 (a : Int) (by decide) ⟨by omega, by omega⟩) rfl rfl (ci := 8) rfl rfl ⟨by decide, by decide⟩ (Nat.le_of_ble_eq_true rfl) ?_
        refine ev_w (fun hR => ?_)
        refine ev_ireturn dX8_takeClause_131 ?_
        refine ⟨1, rfl, Or.inl ⟨1, a, ?_, rfl, by decide, by decide, hS1.1.wf _ (by unfold PF; omega), wr_eq _ _ _ _⟩⟩
        rw [hcls, if_neg q0, if_neg q1, if_neg q2, if_neg q3]
  refine ev_aload_n dX8_takeClause_0 rfl ?_
  refine ev_callVP dX8_takeClause_1 kv_X8_274 (hw9) rfl rfl (ci := 8) rfl rfl ⟨by decide, by decide⟩ (Nat.le_of_ble_eq_true rfl) ?_
  rintro v_1 τ_1 ⟨rfl, hq_1⟩
  refine ev_w (fun hR => ?_)
  refine ev_aload_n dX8_takeClause_4 rfl ?_
  refine ev_getJ dX8_takeClause_5 fl_X8_218 rfl rfl ?_
  rw [hq_1.2]
  refine ev_bipush dX8_takeClause_8 (by decide) ?_
  refine ev_bipush dX8_takeClause_10 (by decide) ?_
  refine ev_bipush dX8_takeClause_12 (by decide) ?_
  refine ev_callSL dX8_takeClause_14 ks_X8_277 (m_code2 _ 112 111 108 12081 (by decide) (by decide) (by decide) (by decide)) rfl rfl ⟨by decide, by decide⟩ (Nat.le_of_ble_eq_true rfl) ?_
  refine ev_w (fun hR => ?_)
  refine ev_bipush dX8_takeClause_17 (by decide) ?_
  refine ev_iconst dX8_takeClause_19 ?_
  refine ev_callSL dX8_takeClause_20 ks_X8_281 (m_longer2 _ 12081 101 0 326192 (by decide) (by decide) (by decide)) rfl rfl ⟨by decide, by decide⟩ (Nat.le_of_ble_eq_true rfl) ?_
  refine ev_w (fun hR => ?_)
  refine ev_lcmp dX8_takeClause_23 ⟨by omega, by omega⟩ ⟨by omega, by omega⟩ ?_
  refine ev_if_ne (tgt := 31) dX8_takeClause_24 (by decide) (cmpz_R _ _) (fun h_24 => ?_) (fun h_24 => ?_)
  · refine ev_aload_n dX8_takeClause_31 rfl ?_
    refine ev_getJ dX8_takeClause_32 fl_X8_218 rfl rfl ?_
    rw [hq_1.2]
    refine ev_bipush dX8_takeClause_35 (by decide) ?_
    refine ev_bipush dX8_takeClause_37 (by decide) ?_
    refine ev_bipush dX8_takeClause_39 (by decide) ?_
    refine ev_callSL dX8_takeClause_41 ks_X8_277 (m_code2 _ 114 111 112 13543 (by decide) (by decide) (by decide) (by decide)) rfl rfl ⟨by decide, by decide⟩ (Nat.le_of_ble_eq_true rfl) ?_
    refine ev_w (fun hR => ?_)
    refine ev_bipush dX8_takeClause_44 (by decide) ?_
    refine ev_iconst dX8_takeClause_46 ?_
    refine ev_callSL dX8_takeClause_47 ks_X8_281 (m_longer2 _ 13543 101 0 365666 (by decide) (by decide) (by decide)) rfl rfl ⟨by decide, by decide⟩ (Nat.le_of_ble_eq_true rfl) ?_
    refine ev_w (fun hR => ?_)
    refine ev_lcmp dX8_takeClause_50 ⟨by omega, by omega⟩ ⟨by omega, by omega⟩ ?_
    refine ev_if_ne (tgt := 58) dX8_takeClause_51 (by decide) (cmpz_R _ _) (fun h_51 => ?_) (fun h_51 => ?_)
    · refine ev_iconst dX8_takeClause_58 ?_
      refine ev_istore_n dX8_takeClause_59 rfl (by decide) rfl ?_
      refine ev_iload_n dX8_takeClause_60 rfl ?_
      refine ev_if_lt (tgt := 68) dX8_takeClause_61 (by decide) (by first | exact hR.1 _ _ | exact hR0.1 _ _ | assumption | exact ⟨by omega, by omega⟩ | exact ⟨by simp [wr_at]; omega, by simp [wr_at]; omega⟩ | exact b2_R _ | exact bC_R _ | exact band_R _ _ | exact bor_R _ _ | exact bshl_R _ _ | exact bshr_R _ _ | exact bxor_R _ _ | exact bs_R (by omega) | decide) (fun h_61 => ?_) (fun h_61 => ?_)
      · refine ev_aload_n dX8_takeClause_68 rfl ?_
        refine ev_getJ dX8_takeClause_69 fl_X8_218 rfl rfl ?_
        rw [hq_1.2]
        refine ev_bipush dX8_takeClause_72 (by decide) ?_
        refine ev_bipush dX8_takeClause_74 (by decide) ?_
        refine ev_bipush dX8_takeClause_76 (by decide) ?_
        refine ev_callSL dX8_takeClause_78 ks_X8_277 (m_code2 _ 98 111 121 1888 (by decide) (by decide) (by decide) (by decide)) rfl rfl ⟨by decide, by decide⟩ (Nat.le_of_ble_eq_true rfl) ?_
        refine ev_w (fun hR => ?_)
        refine ev_lcmp dX8_takeClause_81 ⟨by omega, by omega⟩ ⟨by omega, by omega⟩ ?_
        refine ev_if_ne (tgt := 89) dX8_takeClause_82 (by decide) (cmpz_R _ _) (fun h_82 => ?_) (fun h_82 => ?_)
        · refine ev_aload_n dX8_takeClause_89 rfl ?_
          refine ev_getJ dX8_takeClause_90 fl_X8_218 rfl rfl ?_
          rw [hq_1.2]
          refine ev_bipush dX8_takeClause_93 (by decide) ?_
          refine ev_bipush dX8_takeClause_95 (by decide) ?_
          refine ev_bipush dX8_takeClause_97 (by decide) ?_
          refine ev_callSL dX8_takeClause_99 ks_X8_277 (m_code2 _ 108 111 97 9154 (by decide) (by decide) (by decide) (by decide)) rfl rfl ⟨by decide, by decide⟩ (Nat.le_of_ble_eq_true rfl) ?_
          refine ev_w (fun hR => ?_)
          refine ev_bipush dX8_takeClause_102 (by decide) ?_
          refine ev_iconst dX8_takeClause_104 ?_
          refine ev_callSL dX8_takeClause_105 ks_X8_281 (m_longer2 _ 9154 100 0 247162 (by decide) (by decide) (by decide)) rfl rfl ⟨by decide, by decide⟩ (Nat.le_of_ble_eq_true rfl) ?_
          refine ev_w (fun hR => ?_)
          refine ev_lcmp dX8_takeClause_108 ⟨by omega, by omega⟩ ⟨by omega, by omega⟩ ?_
          refine ev_if_ne (tgt := 116) dX8_takeClause_109 (by decide) (cmpz_R _ _) (fun h_109 => ?_) (fun h_109 => ?_)
          · refine ev_iconst dX8_takeClause_116 ?_
            refine ev_istore_n dX8_takeClause_117 rfl (by decide) rfl ?_
            refine body _ hq_1.1 _ _ ?_
            unfold wdK
            have c0 := cmpz_eq (a := w9) (b := 326192)
            have c1 := cmpz_eq (a := w9) (b := 365666)
            have c2 := cmpz_eq (a := w9) (b := 1888)
            have c3 := cmpz_eq (a := w9) (b := 247162)
            first
              | (exfalso; omega)
              | (rw [if_pos (hk0.mpr (c0.mp (by omega)))])
              | (rw [if_neg (fun y => h_24 (c0.mpr (hk0.mp y))), if_pos (hk1.mpr (c1.mp (by omega)))])
              | (rw [if_neg (fun y => h_24 (c0.mpr (hk0.mp y))), if_neg (fun y => h_51 (c1.mpr (hk1.mp y))), if_pos (hk2.mpr (c2.mp (by omega)))])
              | (rw [if_neg (fun y => h_24 (c0.mpr (hk0.mp y))), if_neg (fun y => h_51 (c1.mpr (hk1.mp y))), if_neg (fun y => h_82 (c2.mpr (hk2.mp y))), if_pos (hk3.mpr (c3.mp (by omega)))])
              | (rw [if_neg (fun y => h_24 (c0.mpr (hk0.mp y))), if_neg (fun y => h_51 (c1.mpr (hk1.mp y))), if_neg (fun y => h_82 (c2.mpr (hk2.mp y))), if_neg (fun y => h_109 (c3.mpr (hk3.mp y)))])
          · refine ev_iconst dX8_takeClause_112 ?_
            refine ev_goto (tgt := 117) dX8_takeClause_113 (by decide) ?_
            refine ev_istore_n dX8_takeClause_117 rfl (by decide) rfl ?_
            refine body _ hq_1.1 _ _ ?_
            unfold wdK
            have c0 := cmpz_eq (a := w9) (b := 326192)
            have c1 := cmpz_eq (a := w9) (b := 365666)
            have c2 := cmpz_eq (a := w9) (b := 1888)
            have c3 := cmpz_eq (a := w9) (b := 247162)
            first
              | (exfalso; omega)
              | (rw [if_pos (hk0.mpr (c0.mp (by omega)))])
              | (rw [if_neg (fun y => h_24 (c0.mpr (hk0.mp y))), if_pos (hk1.mpr (c1.mp (by omega)))])
              | (rw [if_neg (fun y => h_24 (c0.mpr (hk0.mp y))), if_neg (fun y => h_51 (c1.mpr (hk1.mp y))), if_pos (hk2.mpr (c2.mp (by omega)))])
              | (rw [if_neg (fun y => h_24 (c0.mpr (hk0.mp y))), if_neg (fun y => h_51 (c1.mpr (hk1.mp y))), if_neg (fun y => h_82 (c2.mpr (hk2.mp y))), if_pos (hk3.mpr (c3.mp (by omega)))])
              | (rw [if_neg (fun y => h_24 (c0.mpr (hk0.mp y))), if_neg (fun y => h_51 (c1.mpr (hk1.mp y))), if_neg (fun y => h_82 (c2.mpr (hk2.mp y))), if_neg (fun y => h_109 (c3.mpr (hk3.mp y)))])
        · refine ev_iconst dX8_takeClause_85 ?_
          refine ev_goto (tgt := 117) dX8_takeClause_86 (by decide) ?_
          refine ev_istore_n dX8_takeClause_117 rfl (by decide) rfl ?_
          refine body _ hq_1.1 _ _ ?_
          unfold wdK
          have c0 := cmpz_eq (a := w9) (b := 326192)
          have c1 := cmpz_eq (a := w9) (b := 365666)
          have c2 := cmpz_eq (a := w9) (b := 1888)
          have c3 := cmpz_eq (a := w9) (b := 247162)
          first
            | (exfalso; omega)
            | (rw [if_pos (hk0.mpr (c0.mp (by omega)))])
            | (rw [if_neg (fun y => h_24 (c0.mpr (hk0.mp y))), if_pos (hk1.mpr (c1.mp (by omega)))])
            | (rw [if_neg (fun y => h_24 (c0.mpr (hk0.mp y))), if_neg (fun y => h_51 (c1.mpr (hk1.mp y))), if_pos (hk2.mpr (c2.mp (by omega)))])
            | (rw [if_neg (fun y => h_24 (c0.mpr (hk0.mp y))), if_neg (fun y => h_51 (c1.mpr (hk1.mp y))), if_neg (fun y => h_82 (c2.mpr (hk2.mp y))), if_pos (hk3.mpr (c3.mp (by omega)))])
            | (rw [if_neg (fun y => h_24 (c0.mpr (hk0.mp y))), if_neg (fun y => h_51 (c1.mpr (hk1.mp y))), if_neg (fun y => h_82 (c2.mpr (hk2.mp y))), if_neg (fun y => h_109 (c3.mpr (hk3.mp y)))])
      · refine ev_iload_n dX8_takeClause_64 rfl ?_
        refine ev_goto (tgt := 117) dX8_takeClause_65 (by decide) ?_
        refine ev_istore_n dX8_takeClause_117 rfl (by decide) rfl ?_
        refine body _ hq_1.1 _ _ ?_
        unfold wdK
        have c0 := cmpz_eq (a := w9) (b := 326192)
        have c1 := cmpz_eq (a := w9) (b := 365666)
        have c2 := cmpz_eq (a := w9) (b := 1888)
        have c3 := cmpz_eq (a := w9) (b := 247162)
        first
          | (exfalso; omega)
          | (rw [if_pos (hk0.mpr (c0.mp (by omega)))])
          | (rw [if_neg (fun y => h_24 (c0.mpr (hk0.mp y))), if_pos (hk1.mpr (c1.mp (by omega)))])
          | (rw [if_neg (fun y => h_24 (c0.mpr (hk0.mp y))), if_neg (fun y => h_51 (c1.mpr (hk1.mp y))), if_pos (hk2.mpr (c2.mp (by omega)))])
          | (rw [if_neg (fun y => h_24 (c0.mpr (hk0.mp y))), if_neg (fun y => h_51 (c1.mpr (hk1.mp y))), if_neg (fun y => h_82 (c2.mpr (hk2.mp y))), if_pos (hk3.mpr (c3.mp (by omega)))])
          | (rw [if_neg (fun y => h_24 (c0.mpr (hk0.mp y))), if_neg (fun y => h_51 (c1.mpr (hk1.mp y))), if_neg (fun y => h_82 (c2.mpr (hk2.mp y))), if_neg (fun y => h_109 (c3.mpr (hk3.mp y)))])
    · refine ev_iconst dX8_takeClause_54 ?_
      refine ev_goto (tgt := 59) dX8_takeClause_55 (by decide) ?_
      refine ev_istore_n dX8_takeClause_59 rfl (by decide) rfl ?_
      refine ev_iload_n dX8_takeClause_60 rfl ?_
      refine ev_if_lt (tgt := 68) dX8_takeClause_61 (by decide) (by first | exact hR.1 _ _ | exact hR0.1 _ _ | assumption | exact ⟨by omega, by omega⟩ | exact ⟨by simp [wr_at]; omega, by simp [wr_at]; omega⟩ | exact b2_R _ | exact bC_R _ | exact band_R _ _ | exact bor_R _ _ | exact bshl_R _ _ | exact bshr_R _ _ | exact bxor_R _ _ | exact bs_R (by omega) | decide) (fun h_61 => ?_) (fun h_61 => ?_)
      · refine ev_aload_n dX8_takeClause_68 rfl ?_
        refine ev_getJ dX8_takeClause_69 fl_X8_218 rfl rfl ?_
        rw [hq_1.2]
        refine ev_bipush dX8_takeClause_72 (by decide) ?_
        refine ev_bipush dX8_takeClause_74 (by decide) ?_
        refine ev_bipush dX8_takeClause_76 (by decide) ?_
        refine ev_callSL dX8_takeClause_78 ks_X8_277 (m_code2 _ 98 111 121 1888 (by decide) (by decide) (by decide) (by decide)) rfl rfl ⟨by decide, by decide⟩ (Nat.le_of_ble_eq_true rfl) ?_
        refine ev_w (fun hR => ?_)
        refine ev_lcmp dX8_takeClause_81 ⟨by omega, by omega⟩ ⟨by omega, by omega⟩ ?_
        refine ev_if_ne (tgt := 89) dX8_takeClause_82 (by decide) (cmpz_R _ _) (fun h_82 => ?_) (fun h_82 => ?_)
        · refine ev_aload_n dX8_takeClause_89 rfl ?_
          refine ev_getJ dX8_takeClause_90 fl_X8_218 rfl rfl ?_
          rw [hq_1.2]
          refine ev_bipush dX8_takeClause_93 (by decide) ?_
          refine ev_bipush dX8_takeClause_95 (by decide) ?_
          refine ev_bipush dX8_takeClause_97 (by decide) ?_
          refine ev_callSL dX8_takeClause_99 ks_X8_277 (m_code2 _ 108 111 97 9154 (by decide) (by decide) (by decide) (by decide)) rfl rfl ⟨by decide, by decide⟩ (Nat.le_of_ble_eq_true rfl) ?_
          refine ev_w (fun hR => ?_)
          refine ev_bipush dX8_takeClause_102 (by decide) ?_
          refine ev_iconst dX8_takeClause_104 ?_
          refine ev_callSL dX8_takeClause_105 ks_X8_281 (m_longer2 _ 9154 100 0 247162 (by decide) (by decide) (by decide)) rfl rfl ⟨by decide, by decide⟩ (Nat.le_of_ble_eq_true rfl) ?_
          refine ev_w (fun hR => ?_)
          refine ev_lcmp dX8_takeClause_108 ⟨by omega, by omega⟩ ⟨by omega, by omega⟩ ?_
          refine ev_if_ne (tgt := 116) dX8_takeClause_109 (by decide) (cmpz_R _ _) (fun h_109 => ?_) (fun h_109 => ?_)
          · refine ev_iconst dX8_takeClause_116 ?_
            refine ev_istore_n dX8_takeClause_117 rfl (by decide) rfl ?_
            refine body _ hq_1.1 _ _ ?_
            unfold wdK
            have c0 := cmpz_eq (a := w9) (b := 326192)
            have c1 := cmpz_eq (a := w9) (b := 365666)
            have c2 := cmpz_eq (a := w9) (b := 1888)
            have c3 := cmpz_eq (a := w9) (b := 247162)
            first
              | (exfalso; omega)
              | (rw [if_pos (hk0.mpr (c0.mp (by omega)))])
              | (rw [if_neg (fun y => h_24 (c0.mpr (hk0.mp y))), if_pos (hk1.mpr (c1.mp (by omega)))])
              | (rw [if_neg (fun y => h_24 (c0.mpr (hk0.mp y))), if_neg (fun y => h_51 (c1.mpr (hk1.mp y))), if_pos (hk2.mpr (c2.mp (by omega)))])
              | (rw [if_neg (fun y => h_24 (c0.mpr (hk0.mp y))), if_neg (fun y => h_51 (c1.mpr (hk1.mp y))), if_neg (fun y => h_82 (c2.mpr (hk2.mp y))), if_pos (hk3.mpr (c3.mp (by omega)))])
              | (rw [if_neg (fun y => h_24 (c0.mpr (hk0.mp y))), if_neg (fun y => h_51 (c1.mpr (hk1.mp y))), if_neg (fun y => h_82 (c2.mpr (hk2.mp y))), if_neg (fun y => h_109 (c3.mpr (hk3.mp y)))])
          · refine ev_iconst dX8_takeClause_112 ?_
            refine ev_goto (tgt := 117) dX8_takeClause_113 (by decide) ?_
            refine ev_istore_n dX8_takeClause_117 rfl (by decide) rfl ?_
            refine body _ hq_1.1 _ _ ?_
            unfold wdK
            have c0 := cmpz_eq (a := w9) (b := 326192)
            have c1 := cmpz_eq (a := w9) (b := 365666)
            have c2 := cmpz_eq (a := w9) (b := 1888)
            have c3 := cmpz_eq (a := w9) (b := 247162)
            first
              | (exfalso; omega)
              | (rw [if_pos (hk0.mpr (c0.mp (by omega)))])
              | (rw [if_neg (fun y => h_24 (c0.mpr (hk0.mp y))), if_pos (hk1.mpr (c1.mp (by omega)))])
              | (rw [if_neg (fun y => h_24 (c0.mpr (hk0.mp y))), if_neg (fun y => h_51 (c1.mpr (hk1.mp y))), if_pos (hk2.mpr (c2.mp (by omega)))])
              | (rw [if_neg (fun y => h_24 (c0.mpr (hk0.mp y))), if_neg (fun y => h_51 (c1.mpr (hk1.mp y))), if_neg (fun y => h_82 (c2.mpr (hk2.mp y))), if_pos (hk3.mpr (c3.mp (by omega)))])
              | (rw [if_neg (fun y => h_24 (c0.mpr (hk0.mp y))), if_neg (fun y => h_51 (c1.mpr (hk1.mp y))), if_neg (fun y => h_82 (c2.mpr (hk2.mp y))), if_neg (fun y => h_109 (c3.mpr (hk3.mp y)))])
        · refine ev_iconst dX8_takeClause_85 ?_
          refine ev_goto (tgt := 117) dX8_takeClause_86 (by decide) ?_
          refine ev_istore_n dX8_takeClause_117 rfl (by decide) rfl ?_
          refine body _ hq_1.1 _ _ ?_
          unfold wdK
          have c0 := cmpz_eq (a := w9) (b := 326192)
          have c1 := cmpz_eq (a := w9) (b := 365666)
          have c2 := cmpz_eq (a := w9) (b := 1888)
          have c3 := cmpz_eq (a := w9) (b := 247162)
          first
            | (exfalso; omega)
            | (rw [if_pos (hk0.mpr (c0.mp (by omega)))])
            | (rw [if_neg (fun y => h_24 (c0.mpr (hk0.mp y))), if_pos (hk1.mpr (c1.mp (by omega)))])
            | (rw [if_neg (fun y => h_24 (c0.mpr (hk0.mp y))), if_neg (fun y => h_51 (c1.mpr (hk1.mp y))), if_pos (hk2.mpr (c2.mp (by omega)))])
            | (rw [if_neg (fun y => h_24 (c0.mpr (hk0.mp y))), if_neg (fun y => h_51 (c1.mpr (hk1.mp y))), if_neg (fun y => h_82 (c2.mpr (hk2.mp y))), if_pos (hk3.mpr (c3.mp (by omega)))])
            | (rw [if_neg (fun y => h_24 (c0.mpr (hk0.mp y))), if_neg (fun y => h_51 (c1.mpr (hk1.mp y))), if_neg (fun y => h_82 (c2.mpr (hk2.mp y))), if_neg (fun y => h_109 (c3.mpr (hk3.mp y)))])
      · refine ev_iload_n dX8_takeClause_64 rfl ?_
        refine ev_goto (tgt := 117) dX8_takeClause_65 (by decide) ?_
        refine ev_istore_n dX8_takeClause_117 rfl (by decide) rfl ?_
        refine body _ hq_1.1 _ _ ?_
        unfold wdK
        have c0 := cmpz_eq (a := w9) (b := 326192)
        have c1 := cmpz_eq (a := w9) (b := 365666)
        have c2 := cmpz_eq (a := w9) (b := 1888)
        have c3 := cmpz_eq (a := w9) (b := 247162)
        first
          | (exfalso; omega)
          | (rw [if_pos (hk0.mpr (c0.mp (by omega)))])
          | (rw [if_neg (fun y => h_24 (c0.mpr (hk0.mp y))), if_pos (hk1.mpr (c1.mp (by omega)))])
          | (rw [if_neg (fun y => h_24 (c0.mpr (hk0.mp y))), if_neg (fun y => h_51 (c1.mpr (hk1.mp y))), if_pos (hk2.mpr (c2.mp (by omega)))])
          | (rw [if_neg (fun y => h_24 (c0.mpr (hk0.mp y))), if_neg (fun y => h_51 (c1.mpr (hk1.mp y))), if_neg (fun y => h_82 (c2.mpr (hk2.mp y))), if_pos (hk3.mpr (c3.mp (by omega)))])
          | (rw [if_neg (fun y => h_24 (c0.mpr (hk0.mp y))), if_neg (fun y => h_51 (c1.mpr (hk1.mp y))), if_neg (fun y => h_82 (c2.mpr (hk2.mp y))), if_neg (fun y => h_109 (c3.mpr (hk3.mp y)))])
  · refine ev_iconst dX8_takeClause_27 ?_
    refine ev_goto (tgt := 59) dX8_takeClause_28 (by decide) ?_
    refine ev_istore_n dX8_takeClause_59 rfl (by decide) rfl ?_
    refine ev_iload_n dX8_takeClause_60 rfl ?_
    refine ev_if_lt (tgt := 68) dX8_takeClause_61 (by decide) (by first | exact hR.1 _ _ | exact hR0.1 _ _ | assumption | exact ⟨by omega, by omega⟩ | exact ⟨by simp [wr_at]; omega, by simp [wr_at]; omega⟩ | exact b2_R _ | exact bC_R _ | exact band_R _ _ | exact bor_R _ _ | exact bshl_R _ _ | exact bshr_R _ _ | exact bxor_R _ _ | exact bs_R (by omega) | decide) (fun h_61 => ?_) (fun h_61 => ?_)
    · refine ev_aload_n dX8_takeClause_68 rfl ?_
      refine ev_getJ dX8_takeClause_69 fl_X8_218 rfl rfl ?_
      rw [hq_1.2]
      refine ev_bipush dX8_takeClause_72 (by decide) ?_
      refine ev_bipush dX8_takeClause_74 (by decide) ?_
      refine ev_bipush dX8_takeClause_76 (by decide) ?_
      refine ev_callSL dX8_takeClause_78 ks_X8_277 (m_code2 _ 98 111 121 1888 (by decide) (by decide) (by decide) (by decide)) rfl rfl ⟨by decide, by decide⟩ (Nat.le_of_ble_eq_true rfl) ?_
      refine ev_w (fun hR => ?_)
      refine ev_lcmp dX8_takeClause_81 ⟨by omega, by omega⟩ ⟨by omega, by omega⟩ ?_
      refine ev_if_ne (tgt := 89) dX8_takeClause_82 (by decide) (cmpz_R _ _) (fun h_82 => ?_) (fun h_82 => ?_)
      · refine ev_aload_n dX8_takeClause_89 rfl ?_
        refine ev_getJ dX8_takeClause_90 fl_X8_218 rfl rfl ?_
        rw [hq_1.2]
        refine ev_bipush dX8_takeClause_93 (by decide) ?_
        refine ev_bipush dX8_takeClause_95 (by decide) ?_
        refine ev_bipush dX8_takeClause_97 (by decide) ?_
        refine ev_callSL dX8_takeClause_99 ks_X8_277 (m_code2 _ 108 111 97 9154 (by decide) (by decide) (by decide) (by decide)) rfl rfl ⟨by decide, by decide⟩ (Nat.le_of_ble_eq_true rfl) ?_
        refine ev_w (fun hR => ?_)
        refine ev_bipush dX8_takeClause_102 (by decide) ?_
        refine ev_iconst dX8_takeClause_104 ?_
        refine ev_callSL dX8_takeClause_105 ks_X8_281 (m_longer2 _ 9154 100 0 247162 (by decide) (by decide) (by decide)) rfl rfl ⟨by decide, by decide⟩ (Nat.le_of_ble_eq_true rfl) ?_
        refine ev_w (fun hR => ?_)
        refine ev_lcmp dX8_takeClause_108 ⟨by omega, by omega⟩ ⟨by omega, by omega⟩ ?_
        refine ev_if_ne (tgt := 116) dX8_takeClause_109 (by decide) (cmpz_R _ _) (fun h_109 => ?_) (fun h_109 => ?_)
        · refine ev_iconst dX8_takeClause_116 ?_
          refine ev_istore_n dX8_takeClause_117 rfl (by decide) rfl ?_
          refine body _ hq_1.1 _ _ ?_
          unfold wdK
          have c0 := cmpz_eq (a := w9) (b := 326192)
          have c1 := cmpz_eq (a := w9) (b := 365666)
          have c2 := cmpz_eq (a := w9) (b := 1888)
          have c3 := cmpz_eq (a := w9) (b := 247162)
          first
            | (exfalso; omega)
            | (rw [if_pos (hk0.mpr (c0.mp (by omega)))])
            | (rw [if_neg (fun y => h_24 (c0.mpr (hk0.mp y))), if_pos (hk1.mpr (c1.mp (by omega)))])
            | (rw [if_neg (fun y => h_24 (c0.mpr (hk0.mp y))), if_neg (fun y => h_51 (c1.mpr (hk1.mp y))), if_pos (hk2.mpr (c2.mp (by omega)))])
            | (rw [if_neg (fun y => h_24 (c0.mpr (hk0.mp y))), if_neg (fun y => h_51 (c1.mpr (hk1.mp y))), if_neg (fun y => h_82 (c2.mpr (hk2.mp y))), if_pos (hk3.mpr (c3.mp (by omega)))])
            | (rw [if_neg (fun y => h_24 (c0.mpr (hk0.mp y))), if_neg (fun y => h_51 (c1.mpr (hk1.mp y))), if_neg (fun y => h_82 (c2.mpr (hk2.mp y))), if_neg (fun y => h_109 (c3.mpr (hk3.mp y)))])
        · refine ev_iconst dX8_takeClause_112 ?_
          refine ev_goto (tgt := 117) dX8_takeClause_113 (by decide) ?_
          refine ev_istore_n dX8_takeClause_117 rfl (by decide) rfl ?_
          refine body _ hq_1.1 _ _ ?_
          unfold wdK
          have c0 := cmpz_eq (a := w9) (b := 326192)
          have c1 := cmpz_eq (a := w9) (b := 365666)
          have c2 := cmpz_eq (a := w9) (b := 1888)
          have c3 := cmpz_eq (a := w9) (b := 247162)
          first
            | (exfalso; omega)
            | (rw [if_pos (hk0.mpr (c0.mp (by omega)))])
            | (rw [if_neg (fun y => h_24 (c0.mpr (hk0.mp y))), if_pos (hk1.mpr (c1.mp (by omega)))])
            | (rw [if_neg (fun y => h_24 (c0.mpr (hk0.mp y))), if_neg (fun y => h_51 (c1.mpr (hk1.mp y))), if_pos (hk2.mpr (c2.mp (by omega)))])
            | (rw [if_neg (fun y => h_24 (c0.mpr (hk0.mp y))), if_neg (fun y => h_51 (c1.mpr (hk1.mp y))), if_neg (fun y => h_82 (c2.mpr (hk2.mp y))), if_pos (hk3.mpr (c3.mp (by omega)))])
            | (rw [if_neg (fun y => h_24 (c0.mpr (hk0.mp y))), if_neg (fun y => h_51 (c1.mpr (hk1.mp y))), if_neg (fun y => h_82 (c2.mpr (hk2.mp y))), if_neg (fun y => h_109 (c3.mpr (hk3.mp y)))])
      · refine ev_iconst dX8_takeClause_85 ?_
        refine ev_goto (tgt := 117) dX8_takeClause_86 (by decide) ?_
        refine ev_istore_n dX8_takeClause_117 rfl (by decide) rfl ?_
        refine body _ hq_1.1 _ _ ?_
        unfold wdK
        have c0 := cmpz_eq (a := w9) (b := 326192)
        have c1 := cmpz_eq (a := w9) (b := 365666)
        have c2 := cmpz_eq (a := w9) (b := 1888)
        have c3 := cmpz_eq (a := w9) (b := 247162)
        first
          | (exfalso; omega)
          | (rw [if_pos (hk0.mpr (c0.mp (by omega)))])
          | (rw [if_neg (fun y => h_24 (c0.mpr (hk0.mp y))), if_pos (hk1.mpr (c1.mp (by omega)))])
          | (rw [if_neg (fun y => h_24 (c0.mpr (hk0.mp y))), if_neg (fun y => h_51 (c1.mpr (hk1.mp y))), if_pos (hk2.mpr (c2.mp (by omega)))])
          | (rw [if_neg (fun y => h_24 (c0.mpr (hk0.mp y))), if_neg (fun y => h_51 (c1.mpr (hk1.mp y))), if_neg (fun y => h_82 (c2.mpr (hk2.mp y))), if_pos (hk3.mpr (c3.mp (by omega)))])
          | (rw [if_neg (fun y => h_24 (c0.mpr (hk0.mp y))), if_neg (fun y => h_51 (c1.mpr (hk1.mp y))), if_neg (fun y => h_82 (c2.mpr (hk2.mp y))), if_neg (fun y => h_109 (c3.mpr (hk3.mp y)))])
    · refine ev_iload_n dX8_takeClause_64 rfl ?_
      refine ev_goto (tgt := 117) dX8_takeClause_65 (by decide) ?_
      refine ev_istore_n dX8_takeClause_117 rfl (by decide) rfl ?_
      refine body _ hq_1.1 _ _ ?_
      unfold wdK
      have c0 := cmpz_eq (a := w9) (b := 326192)
      have c1 := cmpz_eq (a := w9) (b := 365666)
      have c2 := cmpz_eq (a := w9) (b := 1888)
      have c3 := cmpz_eq (a := w9) (b := 247162)
      first
        | (exfalso; omega)
        | (rw [if_pos (hk0.mpr (c0.mp (by omega)))])
        | (rw [if_neg (fun y => h_24 (c0.mpr (hk0.mp y))), if_pos (hk1.mpr (c1.mp (by omega)))])
        | (rw [if_neg (fun y => h_24 (c0.mpr (hk0.mp y))), if_neg (fun y => h_51 (c1.mpr (hk1.mp y))), if_pos (hk2.mpr (c2.mp (by omega)))])
        | (rw [if_neg (fun y => h_24 (c0.mpr (hk0.mp y))), if_neg (fun y => h_51 (c1.mpr (hk1.mp y))), if_neg (fun y => h_82 (c2.mpr (hk2.mp y))), if_pos (hk3.mpr (c3.mp (by omega)))])
        | (rw [if_neg (fun y => h_24 (c0.mpr (hk0.mp y))), if_neg (fun y => h_51 (c1.mpr (hk1.mp y))), if_neg (fun y => h_82 (c2.mpr (hk2.mp y))), if_neg (fun y => h_109 (c3.mpr (hk3.mp y)))])
