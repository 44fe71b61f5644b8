def sM (c : Nat) : Prop := c = 69 ∨ c = 70 ∨ c = 71
theorem minZ_same {σ τ : Mem} {P nl w wt r b s : Nat} {dry : Int} {S : Nat → Prop} (hs : Same S σ τ) (hn : ∀ k, k ≤ 16 → ¬ S (P + k)) : minZ τ P nl w wt r b s dry = minZ σ P nl w wt r b s dry := by
  unfold minZ lbs anyK
  rw [hs.1 _ (hn 10 (by omega)), hs.1 _ (hn 14 (by omega)), hs.1 _ (hn 8 (by omega)), hs.1 _ (hn 7 (by omega)), hs.1 _ (hn 16 (by omega)), hs.1 _ (hn 11 (by omega))]
theorem edg_congr {f t : Nat → Nat} {c c' : Nat → Int} : ∀ r, (∀ i, i < r → c i = c' i) → edg f t c r = edg f t c' r := by
  intro r
  induction r with
  | zero => intro _; funext p q; rfl
  | succ r ih =>
    intro h
    funext p q
    rw [edg, edg, ih (fun i hi => h i (by omega)), h r (by omega)]
/-- the fewest minutes of boy b with the loads of s, from pole to pole; 1000000 where there is no way -/
def dst (σ : Mem) (P n nr nl w wt : Nat) (f t : Nat → Nat) (b s : Nat) (dry : Int) : Nat → Nat → Int := fwN (edg f t (fun r => minZ σ P nl w wt r b s dry) nr) n
theorem PlanOk.min {σ : Mem} {P n nr nb nl : Nat} {f t : Nat → Nat} (h : PlanOk σ P n nr nb nl f t) {w wt r b s : Nat} {dry : Int} (hr : r < nr) (hb : b < nb) : minZ σ P nl w wt r b s dry = -1 ∨ (1 ≤ minZ σ P nl w wt r b s dry ∧ minZ σ P nl w wt r b s dry ≤ 400) := by
  have a := h.2.2.2.2.1 r hr
  have c := h.2.2.2.2.2.1 b hb
  unfold minZ
  split
  · exact Or.inr (minF_R a.1.1 a.1.2 c.2.2.1 c.2.2.2)
  · exact Or.inl rfl
theorem PlanOk.ne {σ : Mem} {P n nr nb nl : Nat} {f t : Nat → Nat} (h : PlanOk σ P n nr nb nl f t) : ∀ r, r < nr → f r ≠ t r := fun r hr => (h.1.2.2.2.2.2 r hr).2.2.2.2
theorem dst_ok {σ : Mem} {P n nr nb nl : Nat} {f t : Nat → Nat} (h : PlanOk σ P n nr nb nl f t) {w wt b s : Nat} {dry : Int} (hb : b < nb) : okD n (dst σ P n nr nl w wt f t b s dry) := by
  refine fwN_ok (fun p q _ _ => ?_) n (Nat.le_refl _)
  refine edg_ok (nr := nr) (fun r hr => ?_) nr (Nat.le_refl _) p q
  have := h.min (w := w) (wt := wt) (s := s) (dry := dry) hr hb
  omega
theorem dst_same {σ τ : Mem} {P n nr nl w wt : Nat} {f t : Nat → Nat} {S : Nat → Prop} (hs : Same S σ τ) (hn : ∀ k, k ≤ 16 → ¬ S (P + k)) {b s : Nat} {dry : Int} : dst τ P n nr nl w wt f t b s dry = dst σ P n nr nl w wt f t b s dry := by
  unfold dst
  rw [show (fun r => minZ τ P nl w wt r b s dry) = (fun r => minZ σ P nl w wt r b s dry) from funext fun r => minZ_same hs hn]
theorem k_spreadMinutes (σ : Mem) (P n nr nb nl w wt : Nat) (f t : Nat → Nat) (hPO : PlanOk σ P n nr nb nl f t) (hPI : PlIs σ P) (hBt : Bits σ w wt) (b s : Nat) (dry : Int) (hb : b < nb) (hs : s < 2 ^ 31) (hdr : dry = 0 ∨ dry = 1) : Con yX7_spreadMinutes cX7_spreadMinutes 5 none 4 93 [.ref 0, .int (iI b), .int (iI s), .int (iI dry)] σ (AnsVP (fun τ => Same sM σ τ ∧ τ.1 69 2 = n ∧ ∀ p q, p < n → q < n → mat τ p q = dst σ P n nr nl w wt f t b s dry p q)) := by
  refine con_of (by decide) rfl (Nat.le_of_ble_eq_true rfl) (ok_VP rfl) ?_
  refine ev_w (fun hR => ?_)
  have hR0 := hR
  obtain ⟨hPR, ⟨hnb, hnb4⟩, ⟨hnl, hnl4⟩, hpo, hro, hbo, hlo⟩ := id hPO
  obtain ⟨hP, hn, hn8, hnr, hnr12, hft⟩ := id hPR
  obtain ⟨hw, hw2, hwt, hwt2⟩ := id hBt
  have hpl := hPI.q
  have nP : ∀ k, k ≤ 16 → ¬ sM (P + k) := fun k hk h => by unfold sM at h; omega
  have nP0 : ¬ sM P := nP 0 (by omega)
  have n0 : ¬ sM 0 := by unfold sM; omega
  have n37 : ¬ sM 37 := by unfold sM; omega
  have loop : ∀ r : Nat, r ≤ nr → ∀ τ : Mem, Same sM σ τ → (∀ i : Nat, i < r → τ.1 70 i = minZ σ P nl w wt i b s dry) → Ev RX7 cX7_spreadMinutes 5 4 93 (AnsVP (fun τ => Same sM σ τ ∧ τ.1 69 2 = n ∧ ∀ p q, p < n → q < n → mat τ p q = dst σ P n nr nl w wt f t b s dry p q)) 3 [some (.ref 0), some (.int (iI b)), some (.int (iI s)), some (.int (iI dry)), some (.int (iI (r : Nat)))] [] τ := by
    refine for_up nr (fun r hr ih τ hS hc => ?_)
    refine ev_w (fun hR => ?_)
    have hPO2 := hPO.same hS nP
    have hPI2 : PlIs τ P := by unfold PlIs; rw [hS.at n0]; exact hPI
    have hpl2 := hPI2.q
    have hBt2 : Bits τ w wt := by unfold Bits; rw [hS.at n37, hS.at n37]; exact hBt
    refine ev_iload dX7_spreadMinutes_3 rfl ?_
    refine ev_aload_n dX7_spreadMinutes_5 rfl ?_
    refine ev_getQ (r := P) dX7_spreadMinutes_6 fl_X7_19 rfl rfl hpl2 ?_
    refine ev_getI (kz := 1) dX7_spreadMinutes_9 fl_X7_98 (plO hP) rfl rfl ?_
    rw [hS.at nP0, hnr]
    refine ev_icmp_ge (tgt := 40) dX7_spreadMinutes_12 (by decide) (by first | exact hR.1 _ _ | exact hR0.1 _ _ | assumption | exact ⟨by omega, by omega⟩ | exact ⟨by simp [wr_at]; omega, by simp [wr_at]; omega⟩ | exact b2_R _ | exact band_R _ _ | exact bor_R _ _ | exact bshl_R _ _ | exact bshr_R _ _ | exact bxor_R _ _ | exact bs_R (by omega) | decide) (by first | exact hR.1 _ _ | exact hR0.1 _ _ | assumption | exact ⟨by omega, by omega⟩ | exact ⟨by simp [wr_at]; omega, by simp [wr_at]; omega⟩ | exact b2_R _ | exact band_R _ _ | exact bor_R _ _ | exact bshl_R _ _ | exact bshr_R _ _ | exact bxor_R _ _ | exact bs_R (by omega) | decide) (fun h_12 => ?_) (fun h_12 => ?_)
    · refine ev_aload_n dX7_spreadMinutes_40 rfl ?_
      refine ev_getR (r := 69) dX7_spreadMinutes_41 fl_X7_51 rfl rfl rfl ?_
      refine ev_aload_n dX7_spreadMinutes_44 rfl ?_
      refine ev_getQ (r := P) dX7_spreadMinutes_45 fl_X7_19 rfl rfl hpl2 ?_
      refine ev_callVP dX7_spreadMinutes_48 kv_X7_341 (k_spread τ P n nr f t hPO2.1 (fun i hi => by have := hPO.min (w := w) (wt := wt) (s := s) (dry := dry) hi hb; show τ.1 70 i = -1 ∨ (0 ≤ τ.1 70 i ∧ τ.1 70 i ≤ 1000000); rw [hc i (by omega)]; omega)) rfl rfl (ci := 6) rfl rfl ⟨by decide, by decide⟩ (Nat.le_of_ble_eq_true rfl) ?_
      rintro v_48 τ_48 ⟨rfl, hS2, hn2, hm2⟩
      refine ev_w (fun hR => ?_)
      refine ev_return dX7_spreadMinutes_51 ?_
      obtain rfl : r = nr := by omega
      refine ⟨rfl, hS.tr (hS2.mono (fun c h => h.elim Or.inl (fun z => Or.inr (Or.inr z)))), hn2, fun p q hp hq => ?_⟩
      rw [hm2 p q hp hq, dst, edg_congr r hc]
    · refine ev_aload_n dX7_spreadMinutes_15 rfl ?_
      refine ev_getR (r := 69) dX7_spreadMinutes_16 fl_X7_51 rfl rfl rfl ?_
      refine ev_getR (r := 70) dX7_spreadMinutes_19 fl_X7_338 rfl rfl rfl ?_
      refine ev_iload dX7_spreadMinutes_22 rfl ?_
      refine ev_aload_n dX7_spreadMinutes_24 rfl ?_
      refine ev_iload dX7_spreadMinutes_25 rfl ?_
      refine ev_iload_n dX7_spreadMinutes_27 rfl ?_
      refine ev_iload_n dX7_spreadMinutes_28 rfl ?_
      refine ev_iload_n dX7_spreadMinutes_29 rfl ?_
      refine ev_callVI dX7_spreadMinutes_30 kv_X7_220 (k_minutesOn τ P n nr nb nl w wt f t hPO2 hPI2 hBt2 r b s dry (by omega) hb hs hdr) rfl rfl (ci := 7) rfl rfl ⟨by decide, by decide⟩ (Nat.le_of_ble_eq_true rfl) ?_
      refine ev_w (fun hR => ?_)
      rw [minZ_same hS nP]
      have hm := hPO.min (w := w) (wt := wt) (s := s) (dry := dry) (r := r) (b := b) (by omega) hb
      refine ev_iastore dX7_spreadMinutes_33 rfl (by first | omega | (simp [wr_at]; omega) | (simp [wr_at, *]; omega)) (by first | omega | (simp [wr_at]; omega) | (simp [wr_at, *]; omega)) (by decide) (by first | exact hR.1 _ _ | exact hR0.1 _ _ | assumption | exact ⟨by omega, by omega⟩ | exact ⟨by simp [wr_at]; omega, by simp [wr_at]; omega⟩ | exact b2_R _ | exact band_R _ _ | exact bor_R _ _ | exact bshl_R _ _ | exact bshr_R _ _ | exact bxor_R _ _ | exact bs_R (by omega) | decide) ?_
      refine ev_w (fun hR => ?_)
      refine ev_iinc dX7_spreadMinutes_34 rfl rfl (by decide) rfl ?_
      refine ev_goto (tgt := 3) dX7_spreadMinutes_37 (by decide) ?_
      refine ih (by omega) _ (hS.wr (Or.inr (Or.inl rfl))) (fun i hi => ?_)
      by_cases e : i = r
      · subst e; rw [wr_eq]
      · rw [wr_nek _ (by omega)]; exact hc i (by omega)
  refine ev_iconst dX7_spreadMinutes_0 ?_
  refine ev_istore dX7_spreadMinutes_1 rfl (by decide) rfl ?_
  exact loop 0 (by omega) σ Same.rf (fun i hi => by omega)
theorem k_minutesBetween (σ : Mem) (P n nr nb nl w wt : Nat) (f t : Nat → Nat) (hPO : PlanOk σ P n nr nb nl f t) (hPI : PlIs σ P) (hBt : Bits σ w wt) (b p q : Nat) (dry : Int) (hb : b < nb) (hp : p < n) (hq : q < n) (hdr : dry = 0 ∨ dry = 1) : Con yX7_minutesBetween cX7_minutesBetween 5 (some .int) 5 117 [.ref 0, .int (iI b), .int (iI p), .int (iI q), .int (iI dry)] σ (AnsIP (dst σ P n nr nl w wt f t b 0 dry p q) (fun τ => Same sM σ τ)) := by
  refine con_of (by decide) rfl (Nat.le_of_ble_eq_true rfl) (ok_IP rfl) ?_
  refine ev_w (fun hR => ?_)
  have hR0 := hR
  obtain ⟨hPR, ⟨hnb, hnb4⟩, ⟨hnl, hnl4⟩, hpo, hro, hbo, hlo⟩ := id hPO
  obtain ⟨hP, hn, hn8, hnr, hnr12, hft⟩ := id hPR
  obtain ⟨hw, hw2, hwt, hwt2⟩ := id hBt
  have hpl := hPI.q
  refine ev_aload_n dX7_minutesBetween_0 rfl ?_
  refine ev_iload_n dX7_minutesBetween_1 rfl ?_
  refine ev_iconst dX7_minutesBetween_2 ?_
  refine ev_iload dX7_minutesBetween_3 rfl ?_
  refine ev_callVP dX7_minutesBetween_5 kv_X7_344 (k_spreadMinutes σ P n nr nb nl w wt f t hPO hPI hBt b 0 dry hb (by decide) hdr) rfl rfl (ci := 7) rfl rfl ⟨by decide, by decide⟩ (Nat.le_of_ble_eq_true rfl) ?_
  rintro v_5 τ_5 ⟨rfl, hS2, hn2, hm2⟩
  refine ev_w (fun hR => ?_)
  refine ev_aload_n dX7_minutesBetween_8 rfl ?_
  refine ev_getR (r := 69) dX7_minutesBetween_9 fl_X7_51 rfl rfl rfl ?_
  refine ev_iload_n dX7_minutesBetween_12 rfl ?_
  refine ev_iload_n dX7_minutesBetween_13 rfl ?_
  refine ev_callVI dX7_minutesBetween_14 kv_X7_348 (k_between τ_5 p q (by omega) (by omega) (by omega) (by omega)) rfl rfl (ci := 6) rfl rfl ⟨by decide, by decide⟩ (Nat.le_of_ble_eq_true rfl) ?_
  refine ev_w (fun hR => ?_)
  refine ev_ireturn dX7_minutesBetween_17 ?_
  exact ⟨by rw [← hm2 p q hp hq]; rfl, hS2⟩
theorem k_throwOdds (σ : Mem) (P n nr nb nl w wt : Nat) (f t : Nat → Nat) (hPO : PlanOk σ P n nr nb nl f t) (hPI : PlIs σ P) (hBt : Bits σ w wt) (p q : Nat) (wd : Int) (hp : p < n) (hq : q < n) (h0 : 0 ≤ wd) (h1 : wd ≤ 99) : Con yX7_throwOdds cX7_throwOdds 4 (some .int) 2 43 [.ref 0, .int (iI p), .int (iI q), .int (iI wd)] σ (AnsI (max 0 (100 - apartZ σ (P + 1) (P + 2) p q - wd)) σ) := by
  refine con_of (by decide) rfl (Nat.le_of_ble_eq_true rfl) (ok_I rfl) ?_
  refine ev_w (fun hR => ?_)
  have hR0 := hR
  obtain ⟨hPR, ⟨hnb, hnb4⟩, ⟨hnl, hnl4⟩, hpo, hro, hbo, hlo⟩ := id hPO
  obtain ⟨hP, hn, hn8, hnr, hnr12, hft⟩ := id hPR
  obtain ⟨hw, hw2, hwt, hwt2⟩ := id hBt
  have hpl := hPI.q
  have a1 := hpo p hp
  have a2 := hpo q hq
  have hap : 0 ≤ apartZ σ (P + 1) (P + 2) p q ∧ apartZ σ (P + 1) (P + 2) p q ≤ 198 := by
    unfold apartZ absz
    split <;> split <;> omega
  refine ev_iconst dX7_throwOdds_0 ?_
  refine ev_bipush dX7_throwOdds_1 (by decide) ?_
  refine ev_aload_n dX7_throwOdds_3 rfl ?_
  refine ev_getQ (r := P) dX7_throwOdds_4 fl_X7_19 rfl rfl hpl ?_
  refine ev_iload_n dX7_throwOdds_7 rfl ?_
  refine ev_iload_n dX7_throwOdds_8 rfl ?_
  refine ev_callVI dX7_throwOdds_9 kv_X7_385 (k_feetApart σ P p q hP (by omega) (by omega) (by omega) (by omega) ⟨by omega, by omega⟩ ⟨by omega, by omega⟩) rfl (plO hP) (ci := 2) rfl rfl ⟨by decide, by decide⟩ (Nat.le_of_ble_eq_true rfl) ?_
  refine ev_w (fun hR => ?_)
  refine ev_isub dX7_throwOdds_12 ?_
  refine ev_iload_n dX7_throwOdds_13 rfl ?_
  refine ev_isub dX7_throwOdds_14 ?_
  refine ev_mmax dX7_throwOdds_15 ks_X7_324 (by first | exact hR.1 _ _ | exact hR0.1 _ _ | assumption | exact ⟨by omega, by omega⟩ | exact ⟨by simp [wr_at]; omega, by simp [wr_at]; omega⟩ | exact b2_R _ | exact band_R _ _ | exact bor_R _ _ | exact bshl_R _ _ | exact bshr_R _ _ | exact bxor_R _ _ | exact bs_R (by omega) | decide) (by first | exact hR.1 _ _ | exact hR0.1 _ _ | assumption | exact ⟨by omega, by omega⟩ | exact ⟨by simp [wr_at]; omega, by simp [wr_at]; omega⟩ | exact b2_R _ | exact band_R _ _ | exact bor_R _ _ | exact bshl_R _ _ | exact bshr_R _ _ | exact bxor_R _ _ | exact bs_R (by omega) | decide) (by decide) (by decide) (Nat.le_of_ble_eq_true rfl) ?_
  refine ev_ireturn dX7_throwOdds_18 ?_
  exact ⟨rfl, rfl⟩
theorem k_roundOf (σ : Mem) (b s e : Nat) (hb : b < 4) (hs : s < 16) (he : σ.1 39 b = e) (he8 : e < 8) : Con yX7_roundOf cX7_roundOf 3 (some .int) 1 23 [.ref 0, .int (iI b), .int (iI s)] σ (AnsI (if s = 0 then 0 else σ.1 41 b + restA σ s 0 e) σ) := by
  refine con_of (by decide) rfl (Nat.le_of_ble_eq_true rfl) (ok_I rfl) ?_
  refine ev_w (fun hR => ?_)
  have hR0 := hR
  refine ev_iload_n dX7_roundOf_0 rfl ?_
  refine ev_if_ne (tgt := 6) dX7_roundOf_1 (by decide) (by first | exact hR.1 _ _ | exact hR0.1 _ _ | assumption | exact ⟨by omega, by omega⟩ | exact ⟨by simp [wr_at]; omega, by simp [wr_at]; omega⟩ | exact b2_R _ | exact band_R _ _ | exact bor_R _ _ | exact bshl_R _ _ | exact bshr_R _ _ | exact bxor_R _ _ | exact bs_R (by omega) | decide) (fun h_1 => ?_) (fun h_1 => ?_)
  · refine ev_aload_n dX7_roundOf_6 rfl ?_
    refine ev_getR (r := 37) dX7_roundOf_7 fl_X7_29 rfl rfl rfl ?_
    refine ev_getR (r := 41) dX7_roundOf_10 fl_X7_183 rfl rfl rfl ?_
    refine ev_iload_n dX7_roundOf_13 rfl ?_
    refine ev_iaload dX7_roundOf_14 rfl (by first | omega | (simp [wr_at]; omega) | (simp [wr_at, *]; omega)) (by first | omega | (simp [wr_at]; omega) | (simp [wr_at, *]; omega)) (by decide) ?_
    refine ev_aload_n dX7_roundOf_15 rfl ?_
    refine ev_getR (r := 72) dX7_roundOf_16 fl_X7_58 rfl rfl rfl ?_
    refine ev_iload_n dX7_roundOf_19 rfl ?_
    refine ev_iconst dX7_roundOf_20 ?_
    refine ev_aload_n dX7_roundOf_21 rfl ?_
    refine ev_getR (r := 37) dX7_roundOf_22 fl_X7_29 rfl rfl rfl ?_
    refine ev_getR (r := 39) dX7_roundOf_25 fl_X7_177 rfl rfl rfl ?_
    refine ev_iload_n dX7_roundOf_28 rfl ?_
    refine ev_iaload dX7_roundOf_29 rfl (by first | omega | (simp [wr_at]; omega) | (simp [wr_at, *]; omega)) (by first | omega | (simp [wr_at]; omega) | (simp [wr_at, *]; omega)) (by decide) ?_
    rw [he]
    refine ev_callVI dX7_roundOf_30 kv_X7_370 (k_rest σ s 0 e hs (by decide) he8) rfl rfl (ci := 4) rfl rfl ⟨by decide, by decide⟩ (Nat.le_of_ble_eq_true rfl) ?_
    refine ev_w (fun hR => ?_)
    refine ev_iadd dX7_roundOf_33 ?_
    refine ev_ireturn dX7_roundOf_34 ?_
    exact ⟨by rw [if_neg (by omega)], rfl⟩
  · refine ev_iconst dX7_roundOf_4 ?_
    refine ev_ireturn dX7_roundOf_5 ?_
    exact ⟨by rw [if_pos (by omega)], rfl⟩
theorem k_isJoinedAtOnce (σ : Mem) (P n nr nb nl w wt : Nat) (f t : Nat → Nat) (hPO : PlanOk σ P n nr nb nl f t) (hPI : PlIs σ P) (hBt : Bits σ w wt) (p q : Nat) (hp : p < n) (hq : q < n) : Con yX7_isJoinedAtOnce cX7_isJoinedAtOnce 3 (some .boolean) 0 0 [.ref 0, .int (iI p), .int (iI q)] σ (AnsI (@b2 (∃ r, r < nr ∧ w.testBit r = true ∧ (f r = p ∨ t r = p) ∧ (f r = q ∨ t r = q)) (Classical.propDecidable _)) σ) := by
  refine con_of (by decide) rfl (Nat.le_of_ble_eq_true rfl) (ok_Z rfl (@b2_01 _ (Classical.propDecidable _))) ?_
  refine ev_w (fun hR => ?_)
  have hR0 := hR
  obtain ⟨hPR, ⟨hnb, hnb4⟩, ⟨hnl, hnl4⟩, hpo, hro, hbo, hlo⟩ := id hPO
  obtain ⟨hP, hn, hn8, hnr, hnr12, hft⟩ := id hPR
  obtain ⟨hw, hw2, hwt, hwt2⟩ := id hBt
  have hpl := hPI.q
  have a1 := (hpo p hp).2.2.2
  have a2 := (hpo q hq).2.2.2
  have l1 := bs_lt (fun r => decide (f r = p ∨ t r = p)) nr
  have l2 := bs_lt (fun r => decide (f r = q ∨ t r = q)) nr
  have l3 : 2 ^ nr ≤ 2 ^ 12 := Nat.pow_le_pow_right (by decide) hnr12
  have hX : (bs (fun r => decide (f r = p ∨ t r = p)) nr &&& bs (fun r => decide (f r = q ∨ t r = q)) nr) &&& w = 0 ↔ ¬ ∃ r, r < nr ∧ w.testBit r = true ∧ (f r = p ∨ t r = p) ∧ (f r = q ∨ t r = q) := by
    constructor
    · rintro h ⟨r, h1, h2, h3, h4⟩
      have e := congrArg (fun z => z.testBit r) h
      simp only [Nat.testBit_and, bs_test, Nat.zero_testBit] at e
      simp [h1, h2, h3, h4] at e
    · intro h
      apply Nat.eq_of_testBit_eq
      intro r
      rw [Nat.testBit_and, Nat.testBit_and, bs_test, bs_test, Nat.zero_testBit]
      cases hb : ((decide (r < nr) && decide (f r = p ∨ t r = p)) && (decide (r < nr) && decide (f r = q ∨ t r = q))) && w.testBit r
      · rfl
      · exfalso
        simp only [Bool.and_eq_true, decide_eq_true_eq] at hb
        exact h ⟨r, hb.1.1.1, hb.2, hb.1.1.2, hb.1.2.2⟩
  have l4 : (bs (fun r => decide (f r = p ∨ t r = p)) nr &&& bs (fun r => decide (f r = q ∨ t r = q)) nr) &&& w ≤ w := Nat.and_le_right
  refine ev_aload_n dX7_isJoinedAtOnce_0 rfl ?_
  refine ev_getQ (r := P) dX7_isJoinedAtOnce_1 fl_X7_19 rfl rfl hpl ?_
  refine ev_getR (r := P + 4) dX7_isJoinedAtOnce_4 fl_X7_373 (plO hP) rfl rfl ?_
  refine ev_iload_n dX7_isJoinedAtOnce_7 rfl ?_
  refine ev_iaload dX7_isJoinedAtOnce_8 (plA4 hP) (by first | omega | (simp [wr_at]; omega) | (simp [wr_at, *]; omega)) (by first | omega | (simp [wr_at]; omega) | (simp [wr_at, *]; omega)) (by decide) ?_
  rw [a1]
  refine ev_aload_n dX7_isJoinedAtOnce_9 rfl ?_
  refine ev_getQ (r := P) dX7_isJoinedAtOnce_10 fl_X7_19 rfl rfl hpl ?_
  refine ev_getR (r := P + 4) dX7_isJoinedAtOnce_13 fl_X7_373 (plO hP) rfl rfl ?_
  refine ev_iload_n dX7_isJoinedAtOnce_16 rfl ?_
  refine ev_iaload dX7_isJoinedAtOnce_17 (plA4 hP) (by first | omega | (simp [wr_at]; omega) | (simp [wr_at, *]; omega)) (by first | omega | (simp [wr_at]; omega) | (simp [wr_at, *]; omega)) (by decide) ?_
  rw [a2]
  refine ev_iand dX7_isJoinedAtOnce_18 ?_
  rw [band_nat _ _ (by omega)]
  refine ev_aload_n dX7_isJoinedAtOnce_19 rfl ?_
  refine ev_getR (r := 37) dX7_isJoinedAtOnce_20 fl_X7_29 rfl rfl rfl ?_
  refine ev_getI (kz := 3) dX7_isJoinedAtOnce_23 fl_X7_119 rfl rfl rfl ?_
  rw [hw]
  refine ev_iand dX7_isJoinedAtOnce_26 ?_
  rw [band_nat _ _ (Nat.lt_of_le_of_lt Nat.and_le_left (by omega))]
  refine ev_if_eq (tgt := 34) dX7_isJoinedAtOnce_27 (by decide) (by first | exact hR.1 _ _ | exact hR0.1 _ _ | assumption | exact ⟨by omega, by omega⟩ | exact ⟨by simp [wr_at]; omega, by simp [wr_at]; omega⟩ | exact b2_R _ | exact band_R _ _ | exact bor_R _ _ | exact bshl_R _ _ | exact bshr_R _ _ | exact bxor_R _ _ | exact bs_R (by omega) | decide) (fun h_27 => ?_) (fun h_27 => ?_)
  · refine ev_iconst dX7_isJoinedAtOnce_34 ?_
    refine ev_ireturn dX7_isJoinedAtOnce_35 ?_
    first
      | (have q := hX.mp (by omega); exact ⟨by rw [@b2_f _ (Classical.propDecidable _) q], rfl⟩)
      | (have q : ∃ r, r < nr ∧ w.testBit r = true ∧ (f r = p ∨ t r = p) ∧ (f r = q ∨ t r = q) := Decidable.byContradiction (dec := Classical.propDecidable _) (fun z => h_27 (by have := hX.mpr z; omega)); exact ⟨by rw [@b2_t _ (Classical.propDecidable _) q], rfl⟩)
  · refine ev_iconst dX7_isJoinedAtOnce_30 ?_
    refine ev_goto (tgt := 35) dX7_isJoinedAtOnce_31 (by decide) ?_
    refine ev_ireturn dX7_isJoinedAtOnce_35 ?_
    first
      | (have q := hX.mp (by omega); exact ⟨by rw [@b2_f _ (Classical.propDecidable _) q], rfl⟩)
      | (have q : ∃ r, r < nr ∧ w.testBit r = true ∧ (f r = p ∨ t r = p) ∧ (f r = q ∨ t r = q) := Decidable.byContradiction (dec := Classical.propDecidable _) (fun z => h_27 (by have := hX.mpr z; omega)); exact ⟨by rw [@b2_t _ (Classical.propDecidable _) q], rfl⟩)
