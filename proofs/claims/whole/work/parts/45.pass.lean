def wN (σ : Mem) : Nat := (σ.1 37 3).toNat
def pmL (σ : Mem) (P nb nl : Nat) : Nat → Mem
  | 0 => σ
  | b + 1 => if (pmL σ P nb nl b).1 40 b ≠ -1 then movM (pmL σ P nb nl b) P nb nl (wN (pmL σ P nb nl b)) (dvN (pmL σ P nb nl b)) b else pmL σ P nb nl b
def pmM (σ : Mem) (P nb nl : Nat) : Mem := pmL (wr σ 37 0 (σ.1 37 0 + 1)) P nb nl nb
theorem PlIs.same {σ τ : Mem} {P : Nat} {S : Nat → Prop} (h : PlIs σ P) (hs : Same S σ τ) (h0 : ¬ S 0) : PlIs τ P := by unfold PlIs; rw [hs.at h0]; exact h
theorem DynOk.w {σ : Mem} {P n nr nb nl mb w wt dv : Nat} (h : DynOk σ P n nr nb nl mb w wt dv) : wN σ = w ∧ dvN σ = dv := by
  have h1 := h.2.2.2.1.1
  have h2 := h.2.2.2.2.2.1.1
  unfold wN dvN
  omega
theorem pmL_ok {σ : Mem} {P n nr nb nl mb w wt dv : Nat} {f t : Nat → Nat} (hPO : PlanOk σ P n nr nb nl f t) (hDy : DynOk σ P n nr nb nl mb w wt dv) : ∀ b, b ≤ nb → (∃ w' dv', DynOk (pmL σ P nb nl b) P n nr nb nl mb w' wt dv') ∧ Same sN σ (pmL σ P nb nl b) := by
  intro b
  induction b with
  | zero => intro _; exact ⟨⟨w, dv, hDy⟩, Same.rf⟩
  | succ b ih =>
    intro hb
    obtain ⟨⟨w1, dv1, h1⟩, h2⟩ := ih (by omega)
    rw [pmL]
    split
    next c =>
      have hPO2 := hPO.same h2 (fun k hk q => by unfold sN at q; have := hPO.1.1; omega)
      rw [h1.w.1, h1.w.2]
      exact ⟨mov_ok hPO2 h1 (by omega) c, h2.tr movM_same⟩
    next => exact ⟨⟨w1, dv1, h1⟩, h2⟩
theorem DynOk.tick {σ : Mem} {P n nr nb nl mb w wt dv : Nat} (hP : P = 3 ∨ P = 20) (h : DynOk σ P n nr nb nl mb w wt dv) : DynOk (wr σ 37 0 (σ.1 37 0 + 1)) P n nr nb nl (mb + 1) w wt dv := by
  obtain ⟨d1, d2, d3, d4, d5, d6, d7, d8, d9, d10, d11⟩ := h
  have e : ∀ c k, c ≠ 37 → (wr σ 37 0 (σ.1 37 0 + 1)).1 c k = σ.1 c k := fun c k hc => wr_nec _ hc
  have e7 : ∀ k, k ≠ 0 → (wr σ 37 0 (σ.1 37 0 + 1)).1 37 k = σ.1 37 k := fun k hk => wr_nek _ hk
  refine ⟨by rw [wr_eq]; omega, by rw [e7 _ (by decide)]; exact d2, by rw [e7 _ (by decide)]; exact d3, by rw [e7 _ (by decide)]; exact d4, by rw [e7 _ (by decide)]; exact d5, by rw [e7 _ (by decide)]; exact d6, by rw [e7 _ (by decide)]; exact d7, fun r hr => by rw [e _ _ (by decide)]; exact d8 r hr, fun b hb => by rw [e _ _ (by decide), e _ _ (by decide), e _ _ (by decide)]; exact d9 b hb, fun b c h1 h2 => by rw [e _ _ (by decide), e _ _ (by decide)]; exact d10 b c h1 h2, fun l hl => ?_⟩
  have := d11 l hl
  unfold LoadOk at this ⊢
  rw [e _ _ (by decide), e 43 _ (by decide), e 40 _ (by decide), e 39 _ (by decide), e (P + 13) _ (by omega)]
  exact this
theorem pmM_ok {σ : Mem} {P n nr nb nl mb w wt dv : Nat} {f t : Nat → Nat} (hPO : PlanOk σ P n nr nb nl f t) (hDy : DynOk σ P n nr nb nl mb w wt dv) : (∃ w' dv', DynOk (pmM σ P nb nl) P n nr nb nl (mb + 1) w' wt dv') ∧ Same sN σ (pmM σ P nb nl) := by
  have hs : Same sN σ (wr σ 37 0 (σ.1 37 0 + 1)) := Same.rf.wr (by unfold sN; omega)
  have hPO2 := hPO.same hs (fun k hk q => by unfold sN at q; have := hPO.1.1; omega)
  obtain ⟨h1, h2⟩ := pmL_ok hPO2 (hDy.tick hPO.1.1) nb (Nat.le_refl _)
  exact ⟨h1, hs.tr h2⟩
def passM (σ : Mem) (P nb nl : Nat) : Nat → Mem
  | 0 => σ
  | k + 1 => pmM (passM σ P nb nl k) P nb nl
theorem passM_ok {σ : Mem} {P n nr nb nl mb w wt dv : Nat} {f t : Nat → Nat} (hPO : PlanOk σ P n nr nb nl f t) (hDy : DynOk σ P n nr nb nl mb w wt dv) : ∀ k, (∃ w' dv', DynOk (passM σ P nb nl k) P n nr nb nl (mb + k) w' wt dv') ∧ Same sN σ (passM σ P nb nl k) := by
  intro k
  induction k with
  | zero => exact ⟨⟨w, dv, hDy⟩, Same.rf⟩
  | succ k ih =>
    obtain ⟨⟨w1, dv1, h1⟩, h2⟩ := ih
    have hPO2 := hPO.same h2 (fun k hk q => by unfold sN at q; have := hPO.1.1; omega)
    obtain ⟨h3, h4⟩ := pmM_ok hPO2 h1
    exact ⟨h3, h2.tr h4⟩
theorem k_passMinute (σ : Mem) (P n nr nb nl mb w wt dv : Nat) (f t : Nat → Nat) (hPO : PlanOk σ P n nr nb nl f t) (hPI : PlIs σ P) (hDy : DynOk σ P n nr nb nl mb w wt dv) (hmb : mb ≤ 1000000) : Con yX7_passMinute cX7_passMinute 2 none 4 91 [.ref 0] σ (AnsV (pmM σ P nb nl)) := by
  refine con_of (by decide) rfl (Nat.le_of_ble_eq_true rfl) (ok_V rfl) ?_
  refine ev_w (fun hR => ?_)
  have hR0 := hR
  obtain ⟨hPR, ⟨hnb, hnb4⟩, ⟨hnl, hnl4⟩, hpo, hro, hbo, hlo⟩ := id hPO
  obtain ⟨hP, hn, hn8, hnr, hnr12, hft⟩ := id hPR
  have hpl := hPI.q
  have hs : Same sN σ (wr σ 37 0 (σ.1 37 0 + 1)) := Same.rf.wr (by unfold sN; omega)
  have hPO2 := hPO.same hs (fun k hk q => by unfold sN at q; omega)
  have hD1 := hDy.1
  have hT := hDy.tick hP
  have loop : ∀ b : Nat, b ≤ nb → Ev RX7 cX7_passMinute 2 4 91 (AnsV (pmM σ P nb nl)) 15 [some (.ref 0), some (.int (iI (b : Nat)))] [] (pmL (wr σ 37 0 (σ.1 37 0 + 1)) P nb nl b) := by
    refine for_up nb (fun b hb ih => ?_)
    refine ev_w (fun hR => ?_)
    obtain ⟨⟨w1, dv1, h1⟩, h2⟩ := pmL_ok hPO2 hT b hb
    have hPO3 := hPO2.same h2 (fun k hk q => by unfold sN at q; omega)
    have hPI3 : PlIs (pmL (wr σ 37 0 (σ.1 37 0 + 1)) P nb nl b) P := (hPI.same hs (by unfold sN; omega)).same h2 (by unfold sN; omega)
    have hpl3 := hPI3.q
    refine ev_iload_n dX7_passMinute_15 rfl ?_
    refine ev_aload_n dX7_passMinute_16 rfl ?_
    refine ev_getQ (r := P) dX7_passMinute_17 fl_X7_19 rfl rfl hpl3 ?_
    refine ev_getI (kz := 2) dX7_passMinute_20 fl_X7_101 (plO hP) rfl rfl ?_
    rw [hPO3.2.1.1]
    refine ev_icmp_ge (tgt := 48) dX7_passMinute_23 (by decide) (by first | exact hR.1 _ _ | exact hR0.1 _ _ | assumption | exact ⟨by omega, by omega⟩ | exact ⟨by simp [wr_at]; omega, by simp [wr_at]; omega⟩ | exact b2_R _ | exact bC_R _ | exact band_R _ _ | exact bor_R _ _ | exact bshl_R _ _ | exact bshr_R _ _ | exact bxor_R _ _ | exact bs_R (by omega) | decide) (by first | exact hR.1 _ _ | exact hR0.1 _ _ | assumption | exact ⟨by omega, by omega⟩ | exact ⟨by simp [wr_at]; omega, by simp [wr_at]; omega⟩ | exact b2_R _ | exact bC_R _ | exact band_R _ _ | exact bor_R _ _ | exact bshl_R _ _ | exact bshr_R _ _ | exact bxor_R _ _ | exact bs_R (by omega) | decide) (fun h_23 => ?_) (fun h_23 => ?_)
    · refine ev_return dX7_passMinute_48 ?_
      obtain rfl : b = nb := by omega
      exact ⟨rfl, rfl⟩
    · refine ev_aload_n dX7_passMinute_26 rfl ?_
      refine ev_getR (r := 37) dX7_passMinute_27 fl_X7_29 rfl rfl rfl ?_
      refine ev_iload_n dX7_passMinute_30 rfl ?_
      refine ev_callVI dX7_passMinute_31 kv_X7_174 (k_isOnRope (pmL (wr σ 37 0 (σ.1 37 0 + 1)) P nb nl b) b (by omega) (by omega)) rfl rfl (ci := 5) rfl rfl ⟨by decide, by decide⟩ (Nat.le_of_ble_eq_true rfl) ?_
      refine ev_w (fun hR => ?_)
      refine ev_if_eq (tgt := 42) dX7_passMinute_34 (by decide) (by first | exact hR.1 _ _ | exact hR0.1 _ _ | assumption | exact ⟨by omega, by omega⟩ | exact ⟨by simp [wr_at]; omega, by simp [wr_at]; omega⟩ | exact b2_R _ | exact bC_R _ | exact band_R _ _ | exact bor_R _ _ | exact bshl_R _ _ | exact bshr_R _ _ | exact bxor_R _ _ | exact bs_R (by omega) | decide) (fun h_34 => ?_) (fun h_34 => ?_)
      · refine ev_iinc dX7_passMinute_42 rfl rfl (by decide) rfl ?_
        refine ev_goto (tgt := 15) dX7_passMinute_45 (by decide) ?_
        first
          | (have z := b2_ne h_34
             have e : movM (pmL (wr σ 37 0 (σ.1 37 0 + 1)) P nb nl b) P nb nl w1 dv1 b = pmL (wr σ 37 0 (σ.1 37 0 + 1)) P nb nl (b + 1) := by rw [pmL, if_pos z, h1.w.1, h1.w.2]
             rw [e]
             exact ih (by omega))
          | (have z := b2_eq h_34
             have e : pmL (wr σ 37 0 (σ.1 37 0 + 1)) P nb nl b = pmL (wr σ 37 0 (σ.1 37 0 + 1)) P nb nl (b + 1) := by rw [pmL, if_neg z]
             rw [e]
             exact ih (by omega))
      · refine ev_aload_n dX7_passMinute_37 rfl ?_
        refine ev_iload_n dX7_passMinute_38 rfl ?_
        refine ev_callVV dX7_passMinute_39 kv_X7_329 (k_moveOn (pmL (wr σ 37 0 (σ.1 37 0 + 1)) P nb nl b) P n nr nb nl (mb + 1) w1 wt dv1 b f t hPO3 hPI3 h1 (by omega) (b2_ne h_34)) rfl rfl (ci := 7) rfl rfl ⟨by decide, by decide⟩ (Nat.le_of_ble_eq_true rfl) ?_
        refine ev_w (fun hR => ?_)
        refine ev_iinc dX7_passMinute_42 rfl rfl (by decide) rfl ?_
        refine ev_goto (tgt := 15) dX7_passMinute_45 (by decide) ?_
        first
          | (have z := b2_ne h_34
             have e : movM (pmL (wr σ 37 0 (σ.1 37 0 + 1)) P nb nl b) P nb nl w1 dv1 b = pmL (wr σ 37 0 (σ.1 37 0 + 1)) P nb nl (b + 1) := by rw [pmL, if_pos z, h1.w.1, h1.w.2]
             rw [e]
             exact ih (by omega))
          | (have z := b2_eq h_34
             have e : pmL (wr σ 37 0 (σ.1 37 0 + 1)) P nb nl b = pmL (wr σ 37 0 (σ.1 37 0 + 1)) P nb nl (b + 1) := by rw [pmL, if_neg z]
             rw [e]
             exact ih (by omega))
  refine ev_aload_n dX7_passMinute_0 rfl ?_
  refine ev_getR (r := 37) dX7_passMinute_1 fl_X7_29 rfl rfl rfl ?_
  refine ev_dup dX7_passMinute_4 rfl ?_
  refine ev_getI (kz := 0) dX7_passMinute_5 fl_X7_107 rfl rfl rfl ?_
  refine ev_iconst dX7_passMinute_8 ?_
  refine ev_iadd dX7_passMinute_9 ?_
  refine ev_putI (kz := 0) dX7_passMinute_10 fp_X7_107 rfl rfl rfl (by first | exact hR.1 _ _ | exact hR0.1 _ _ | assumption | exact ⟨by omega, by omega⟩ | exact ⟨by simp [wr_at]; omega, by simp [wr_at]; omega⟩ | exact b2_R _ | exact bC_R _ | exact band_R _ _ | exact bor_R _ _ | exact bshl_R _ _ | exact bshr_R _ _ | exact bxor_R _ _ | exact bs_R (by omega) | decide) ?_
  refine ev_w (fun hR => ?_)
  refine ev_iconst dX7_passMinute_13 ?_
  refine ev_istore_n dX7_passMinute_14 rfl (by decide) rfl ?_
  exact loop 0 (by omega)
theorem k_pass (σ : Mem) (P n nr nb nl mb w wt dv : Nat) (f t : Nat → Nat) (hPO : PlanOk σ P n nr nb nl f t) (hPI : PlIs σ P) (hDy : DynOk σ P n nr nb nl mb w wt dv) (hmb : mb ≤ 900000) (x : Int) (hx : inR x) : Con yX7_pass cX7_pass 3 (some .int) 5 112 [.ref 0, .int (iI x)] σ (fun v τ => if ¬ (1 ≤ x ∧ x ≤ 99) then AnsI (-1000000002) σ v τ else AnsI ((passM σ P nb nl x.toNat).1 37 5) (passM σ P nb nl x.toNat) v τ) := by
  refine con_of (by decide) rfl (Nat.le_of_ble_eq_true rfl) ((fun v τ h => by repeat (first | exact ok_I rfl v τ h | split at h))) ?_
  refine ev_w (fun hR => ?_)
  have hR0 := hR
  obtain ⟨hPR, ⟨hnb, hnb4⟩, ⟨hnl, hnl4⟩, hpo, hro, hbo, hlo⟩ := id hPO
  obtain ⟨hP, hn, hn8, hnr, hnr12, hft⟩ := id hPR
  have hpl := hPI.q
  have loop : ∀ m : Nat, x = m → 1 ≤ m → m ≤ 99 → ∀ k : Nat, k ≤ m → Ev RX7 cX7_pass 3 5 112 (fun v τ => if ¬ (1 ≤ x ∧ x ≤ 99) then AnsI (-1000000002) σ v τ else AnsI ((passM σ P nb nl x.toNat).1 37 5) (passM σ P nb nl x.toNat) v τ) 16 [some (.ref 0), some (.int (iI x)), some (.int (iI (k : Nat)))] [] (passM σ P nb nl k) := by
    intro m hxm hm1 hm2
    subst hxm
    refine for_up m (fun k hk ih => ?_)
    refine ev_w (fun hR => ?_)
    obtain ⟨⟨w1, dv1, h1⟩, h2⟩ := passM_ok hPO hDy k
    have hPO3 := hPO.same h2 (fun k hk q => by unfold sN at q; omega)
    have hPI3 : PlIs (passM σ P nb nl k) P := hPI.same h2 (by unfold sN; omega)
    refine ev_iload_n dX7_pass_16 rfl ?_
    refine ev_iload_n dX7_pass_17 rfl ?_
    refine ev_icmp_ge (tgt := 31) dX7_pass_18 (by decide) (by first | exact hR.1 _ _ | exact hR0.1 _ _ | assumption | exact ⟨by omega, by omega⟩ | exact ⟨by simp [wr_at]; omega, by simp [wr_at]; omega⟩ | exact b2_R _ | exact bC_R _ | exact band_R _ _ | exact bor_R _ _ | exact bshl_R _ _ | exact bshr_R _ _ | exact bxor_R _ _ | exact bs_R (by omega) | decide) (by first | exact hR.1 _ _ | exact hR0.1 _ _ | assumption | exact ⟨by omega, by omega⟩ | exact ⟨by simp [wr_at]; omega, by simp [wr_at]; omega⟩ | exact b2_R _ | exact bC_R _ | exact band_R _ _ | exact bor_R _ _ | exact bshl_R _ _ | exact bshr_R _ _ | exact bxor_R _ _ | exact bs_R (by omega) | decide) (fun h_18 => ?_) (fun h_18 => ?_)
    · refine ev_aload_n dX7_pass_31 rfl ?_
      refine ev_getR (r := 37) dX7_pass_32 fl_X7_29 rfl rfl rfl ?_
      refine ev_getI (kz := 5) dX7_pass_35 fl_X7_113 rfl rfl rfl ?_
      refine ev_ireturn dX7_pass_38 ?_
      obtain rfl : k = m := by omega
      rw [if_neg (c := ¬ (1 ≤ (k : Int) ∧ (k : Int) ≤ 99)) (fun y => y ⟨by omega, by omega⟩)]
      exact ⟨rfl, rfl⟩
    · refine ev_aload_n dX7_pass_21 rfl ?_
      refine ev_callVV dX7_pass_22 kv_X7_234 (k_passMinute (passM σ P nb nl k) P n nr nb nl (mb + k) w1 wt dv1 f t hPO3 hPI3 h1 (by omega)) rfl rfl (ci := 7) rfl rfl ⟨by decide, by decide⟩ (Nat.le_of_ble_eq_true rfl) ?_
      refine ev_w (fun hR => ?_)
      refine ev_iinc dX7_pass_25 rfl rfl (by decide) rfl ?_
      refine ev_goto (tgt := 16) dX7_pass_28 (by decide) ?_
      exact ih (by omega)
  refine ev_iload_n dX7_pass_0 rfl ?_
  refine ev_iconst dX7_pass_1 ?_
  refine ev_icmp_lt (tgt := 11) dX7_pass_2 (by decide) (by first | exact hR.1 _ _ | exact hR0.1 _ _ | assumption | exact ⟨by omega, by omega⟩ | exact ⟨by simp [wr_at]; omega, by simp [wr_at]; omega⟩ | exact b2_R _ | exact bC_R _ | exact band_R _ _ | exact bor_R _ _ | exact bshl_R _ _ | exact bshr_R _ _ | exact bxor_R _ _ | exact bs_R (by omega) | decide) (by first | exact hR.1 _ _ | exact hR0.1 _ _ | assumption | exact ⟨by omega, by omega⟩ | exact ⟨by simp [wr_at]; omega, by simp [wr_at]; omega⟩ | exact b2_R _ | exact bC_R _ | exact band_R _ _ | exact bor_R _ _ | exact bshl_R _ _ | exact bshr_R _ _ | exact bxor_R _ _ | exact bs_R (by omega) | decide) (fun h_2 => ?_) (fun h_2 => ?_)
  · refine ev_ldc (z := -1000000002) dX7_pass_11 kc_X7_73 (by decide) ?_
    refine ev_ireturn dX7_pass_13 ?_
    rw [if_pos (by omega)]
    exact ⟨rfl, rfl⟩
  · refine ev_iload_n dX7_pass_5 rfl ?_
    refine ev_bipush dX7_pass_6 (by decide) ?_
    refine ev_icmp_le (tgt := 14) dX7_pass_8 (by decide) (by first | exact hR.1 _ _ | exact hR0.1 _ _ | assumption | exact ⟨by omega, by omega⟩ | exact ⟨by simp [wr_at]; omega, by simp [wr_at]; omega⟩ | exact b2_R _ | exact bC_R _ | exact band_R _ _ | exact bor_R _ _ | exact bshl_R _ _ | exact bshr_R _ _ | exact bxor_R _ _ | exact bs_R (by omega) | decide) (by first | exact hR.1 _ _ | exact hR0.1 _ _ | assumption | exact ⟨by omega, by omega⟩ | exact ⟨by simp [wr_at]; omega, by simp [wr_at]; omega⟩ | exact b2_R _ | exact bC_R _ | exact band_R _ _ | exact bor_R _ _ | exact bshl_R _ _ | exact bshr_R _ _ | exact bxor_R _ _ | exact bs_R (by omega) | decide) (fun h_8 => ?_) (fun h_8 => ?_)
    · refine ev_iconst dX7_pass_14 ?_
      refine ev_istore_n dX7_pass_15 rfl (by decide) rfl ?_
      obtain ⟨m, hm⟩ : ∃ m : Nat, x = m := ⟨x.toNat, by omega⟩
      exact loop m hm (by omega) (by omega) 0 (by omega)
    · refine ev_ldc (z := -1000000002) dX7_pass_11 kc_X7_73 (by decide) ?_
      refine ev_ireturn dX7_pass_13 ?_
      rw [if_pos (by omega)]
      exact ⟨rfl, rfl⟩
def keepM (σ : Mem) (i kp : Nat) : Mem := wr (copyM σ (imgId i) 37) 0 5 (kp ||| 2 ^ i : Nat)
theorem cpy_c {σ : Mem} {c0 c1 c : Nat} {a b m : Int} (h : c ≠ c1) (k : Int) : (cpyM σ c0 c1 a b m).1 c k = σ.1 c k := by rw [cpyM_at, if_neg (fun q => h q.1)]
theorem copyM_same {σ : Mem} {t o : Nat} : Same (fun c => t ≤ c ∧ c ≤ t + 8) σ (copyM σ t o) := by
  refine ⟨fun c hc => ?_, rfl⟩
  funext k
  unfold copyM copyM0
  rw [cpy_c (by omega), cpy_c (by omega), cpy_c (by omega), cpy_c (by omega), cpy_c (by omega), cpy_c (by omega), cpy_c (by omega), cpy_c (by omega), wr_nec _ (by omega), wr_nec _ (by omega), wr_nec _ (by omega), wr_nec _ (by omega), wr_nec _ (by omega), wr_nec _ (by omega), wr_nec _ (by omega)]
theorem k_keep (σ : Mem) (kp : Nat) (hkp : σ.1 0 5 = kp) (hkp2 : kp < 4) (x : Int) (hx : inR x) : Con yX7_keep cX7_keep 2 (some .int) 2 69 [.ref 0, .int (iI x)] σ (fun v τ => if ¬ (0 ≤ x ∧ x < 2) then AnsI (-1000000001) σ v τ else AnsI 1 (keepM σ x.toNat kp) v τ) := by
  refine con_of (by decide) rfl (Nat.le_of_ble_eq_true rfl) ((fun v τ h => by repeat (first | exact ok_I rfl v τ h | split at h))) ?_
  refine ev_w (fun hR => ?_)
  have hR0 := hR
  refine ev_iload_n dX7_keep_0 rfl ?_
  refine ev_if_lt (tgt := 9) dX7_keep_1 (by decide) (by first | exact hR.1 _ _ | exact hR0.1 _ _ | assumption | exact ⟨by omega, by omega⟩ | exact ⟨by simp [wr_at]; omega, by simp [wr_at]; omega⟩ | exact b2_R _ | exact bC_R _ | exact band_R _ _ | exact bor_R _ _ | exact bshl_R _ _ | exact bshr_R _ _ | exact bxor_R _ _ | exact bs_R (by omega) | decide) (fun h_1 => ?_) (fun h_1 => ?_)
  · refine ev_ldc (z := -1000000001) dX7_keep_9 kc_X7_126 (by decide) ?_
    refine ev_ireturn dX7_keep_11 ?_
    rw [if_pos (by omega)]
    exact ⟨rfl, rfl⟩
  · refine ev_iload_n dX7_keep_4 rfl ?_
    refine ev_iconst dX7_keep_5 ?_
    refine ev_icmp_lt (tgt := 12) dX7_keep_6 (by decide) (by first | exact hR.1 _ _ | exact hR0.1 _ _ | assumption | exact ⟨by omega, by omega⟩ | exact ⟨by simp [wr_at]; omega, by simp [wr_at]; omega⟩ | exact b2_R _ | exact bC_R _ | exact band_R _ _ | exact bor_R _ _ | exact bshl_R _ _ | exact bshr_R _ _ | exact bxor_R _ _ | exact bs_R (by omega) | decide) (by first | exact hR.1 _ _ | exact hR0.1 _ _ | assumption | exact ⟨by omega, by omega⟩ | exact ⟨by simp [wr_at]; omega, by simp [wr_at]; omega⟩ | exact b2_R _ | exact bC_R _ | exact band_R _ _ | exact bor_R _ _ | exact bshl_R _ _ | exact bshr_R _ _ | exact bxor_R _ _ | exact bs_R (by omega) | decide) (fun h_6 => ?_) (fun h_6 => ?_)
    · obtain ⟨i, rfl⟩ : ∃ i : Nat, x = i := ⟨x.toNat, by omega⟩
      have ht : imgId i = 37 ∨ imgId i = 47 ∨ imgId i = 56 := by unfold imgId; omega
      have hne : 37 ≠ imgId i := by unfold imgId; omega
      have hp2 : 2 ^ i < 2 ^ 2 := Nat.pow_lt_pow_right (by decide) (by omega)
      have hol := Nat.or_lt_two_pow (n := 2) hkp2 hp2
      have hif : ¬ ¬ (0 ≤ (i : Int) ∧ (i : Int) < 2) := fun y => y ⟨by omega, by omega⟩
      refine ev_aload_n dX7_keep_12 rfl ?_
      refine ev_getR (r := 46) dX7_keep_13 fl_X7_33 rfl rfl rfl ?_
      refine ev_iload_n dX7_keep_16 rfl ?_
      refine ev_aaload dX7_keep_17 (by first | omega | (simp [wr_at]; omega) | (simp [wr_at, *]; omega)) (by first | omega | (simp [wr_at]; omega) | (simp [wr_at, *]; omega)) ?_
      rw [show ((i : Int)).toNat = i from rfl]
      refine ev_aload_n dX7_keep_18 rfl ?_
      refine ev_getR (r := 37) dX7_keep_19 fl_X7_29 rfl rfl rfl ?_
      refine ev_callVV dX7_keep_22 kv_X7_311 (k_copy σ (imgId i) 37 ht (Or.inl rfl) hne) rfl (stO ht) (ci := 5) rfl rfl ⟨by decide, by decide⟩ (Nat.le_of_ble_eq_true rfl) ?_
      refine ev_w (fun hR => ?_)
      refine ev_aload_n dX7_keep_25 rfl ?_
      refine ev_dup dX7_keep_26 rfl ?_
      refine ev_getI (kz := 5) dX7_keep_27 fl_X7_37 rfl rfl rfl ?_
      rw [copyM_same.at (by unfold imgId; omega), hkp]
      refine ev_iconst dX7_keep_30 ?_
      refine ev_iload_n dX7_keep_31 rfl ?_
      refine ev_ishl dX7_keep_32 ?_
      refine ev_ior dX7_keep_33 ?_
      rw [bshl1 i (by omega), bor_nat kp _ (by omega) (by omega)]
      refine ev_putI (kz := 5) dX7_keep_34 fp_X7_37 rfl rfl rfl (by first | exact hR.1 _ _ | exact hR0.1 _ _ | assumption | exact ⟨by omega, by omega⟩ | exact ⟨by simp [wr_at]; omega, by simp [wr_at]; omega⟩ | exact b2_R _ | exact bC_R _ | exact band_R _ _ | exact bor_R _ _ | exact bshl_R _ _ | exact bshr_R _ _ | exact bxor_R _ _ | exact bs_R (by omega) | decide) ?_
      refine ev_w (fun hR => ?_)
      refine ev_iconst dX7_keep_37 ?_
      refine ev_ireturn dX7_keep_38 ?_
      rw [if_neg hif]
      exact ⟨rfl, rfl⟩
    · refine ev_ldc (z := -1000000001) dX7_keep_9 kc_X7_126 (by decide) ?_
      refine ev_ireturn dX7_keep_11 ?_
      rw [if_pos (by omega)]
      exact ⟨rfl, rfl⟩
theorem k_goBack (σ : Mem) (kp : Nat) (hkp : σ.1 0 5 = kp) (hkp2 : kp < 4) (x : Int) (hx : inR x) : Con yX7_goBack cX7_goBack 2 (some .int) 2 69 [.ref 0, .int (iI x)] σ (fun v τ => if ¬ (0 ≤ x ∧ x < 2) then AnsI (-1000000001) σ v τ else if ¬ kp.testBit x.toNat = true then AnsI (-1000000003) σ v τ else AnsI 1 (copyM σ 37 (imgId x.toNat)) v τ) := by
  refine con_of (by decide) rfl (Nat.le_of_ble_eq_true rfl) ((fun v τ h => by repeat (first | exact ok_I rfl v τ h | split at h))) ?_
  refine ev_w (fun hR => ?_)
  have hR0 := hR
  refine ev_iload_n dX7_goBack_0 rfl ?_
  refine ev_if_lt (tgt := 9) dX7_goBack_1 (by decide) (by first | exact hR.1 _ _ | exact hR0.1 _ _ | assumption | exact ⟨by omega, by omega⟩ | exact ⟨by simp [wr_at]; omega, by simp [wr_at]; omega⟩ | exact b2_R _ | exact bC_R _ | exact band_R _ _ | exact bor_R _ _ | exact bshl_R _ _ | exact bshr_R _ _ | exact bxor_R _ _ | exact bs_R (by omega) | decide) (fun h_1 => ?_) (fun h_1 => ?_)
  · refine ev_ldc (z := -1000000001) dX7_goBack_9 kc_X7_126 (by decide) ?_
    refine ev_ireturn dX7_goBack_11 ?_
    rw [if_pos (by omega)]
    exact ⟨rfl, rfl⟩
  · refine ev_iload_n dX7_goBack_4 rfl ?_
    refine ev_iconst dX7_goBack_5 ?_
    refine ev_icmp_lt (tgt := 12) dX7_goBack_6 (by decide) (by first | exact hR.1 _ _ | exact hR0.1 _ _ | assumption | exact ⟨by omega, by omega⟩ | exact ⟨by simp [wr_at]; omega, by simp [wr_at]; omega⟩ | exact b2_R _ | exact bC_R _ | exact band_R _ _ | exact bor_R _ _ | exact bshl_R _ _ | exact bshr_R _ _ | exact bxor_R _ _ | exact bs_R (by omega) | decide) (by first | exact hR.1 _ _ | exact hR0.1 _ _ | assumption | exact ⟨by omega, by omega⟩ | exact ⟨by simp [wr_at]; omega, by simp [wr_at]; omega⟩ | exact b2_R _ | exact bC_R _ | exact band_R _ _ | exact bor_R _ _ | exact bshl_R _ _ | exact bshr_R _ _ | exact bxor_R _ _ | exact bs_R (by omega) | decide) (fun h_6 => ?_) (fun h_6 => ?_)
    · obtain ⟨i, rfl⟩ : ∃ i : Nat, x = i := ⟨x.toNat, by omega⟩
      have ho : imgId i = 37 ∨ imgId i = 47 ∨ imgId i = 56 := by unfold imgId; omega
      have hne : imgId i ≠ 37 := by unfold imgId; omega
      have hif : ¬ ¬ (0 ≤ (i : Int) ∧ (i : Int) < 2) := fun y => y ⟨by omega, by omega⟩
      refine ev_aload_n dX7_goBack_12 rfl ?_
      refine ev_getI (kz := 5) dX7_goBack_13 fl_X7_37 rfl rfl rfl ?_
      rw [hkp]
      refine ev_iload_n dX7_goBack_16 rfl ?_
      refine ev_callSI dX7_goBack_17 ks_X7_237 (k_has σ kp i (by omega) (by omega)) rfl rfl ⟨by decide, by decide⟩ (Nat.le_of_ble_eq_true rfl) ?_
      refine ev_w (fun hR => ?_)
      refine ev_if_ne (tgt := 26) dX7_goBack_20 (by decide) (by first | exact hR.1 _ _ | exact hR0.1 _ _ | assumption | exact ⟨by omega, by omega⟩ | exact ⟨by simp [wr_at]; omega, by simp [wr_at]; omega⟩ | exact b2_R _ | exact bC_R _ | exact band_R _ _ | exact bor_R _ _ | exact bshl_R _ _ | exact bshr_R _ _ | exact bxor_R _ _ | exact bs_R (by omega) | decide) (fun h_20 => ?_) (fun h_20 => ?_)
      · refine ev_aload_n dX7_goBack_26 rfl ?_
        refine ev_getR (r := 37) dX7_goBack_27 fl_X7_29 rfl rfl rfl ?_
        refine ev_aload_n dX7_goBack_30 rfl ?_
        refine ev_getR (r := 46) dX7_goBack_31 fl_X7_33 rfl rfl rfl ?_
        refine ev_iload_n dX7_goBack_34 rfl ?_
        refine ev_aaload dX7_goBack_35 (by first | omega | (simp [wr_at]; omega) | (simp [wr_at, *]; omega)) (by first | omega | (simp [wr_at]; omega) | (simp [wr_at, *]; omega)) ?_
        rw [show ((i : Int)).toNat = i from rfl]
        refine ev_callVV dX7_goBack_36 kv_X7_311 (k_copy σ 37 (imgId i) (Or.inl rfl) ho hne) rfl rfl (ci := 5) rfl rfl ⟨by decide, by decide⟩ (Nat.le_of_ble_eq_true rfl) ?_
        refine ev_w (fun hR => ?_)
        refine ev_iconst dX7_goBack_39 ?_
        refine ev_ireturn dX7_goBack_40 ?_
        have z : kp.testBit ((i : Int)).toNat = true := b2_ne h_20
        rw [if_neg hif, if_neg (fun y => y z)]
        exact ⟨rfl, rfl⟩
      · refine ev_ldc (z := -1000000003) dX7_goBack_23 kc_X7_216 (by decide) ?_
        refine ev_ireturn dX7_goBack_25 ?_
        have z : ¬ kp.testBit ((i : Int)).toNat = true := b2_eq (by omega : b2 (kp.testBit i = true) = 0)
        rw [if_neg hif, if_pos z]
        exact ⟨rfl, rfl⟩
    · refine ev_ldc (z := -1000000001) dX7_goBack_9 kc_X7_126 (by decide) ?_
      refine ev_ireturn dX7_goBack_11 ?_
      rw [if_pos (by omega)]
      exact ⟨rfl, rfl⟩
