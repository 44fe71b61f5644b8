def ringM (σ : Mem) (r : Int) : Mem := if σ.1 37 6 < 200 then wr (wr (wr σ 44 (σ.1 37 6) (σ.1 37 0)) 45 (σ.1 37 6) r) 37 6 (σ.1 37 6 + 1) else σ
theorem k_addRing (σ : Mem) (r : Int) (hr : inR r) (h0 : 0 ≤ σ.1 37 6) : Con yX5_addRing cX5_addRing 2 none 0 0 [.ref 37, .int (iI r)] σ (AnsV (ringM σ r)) := by
  refine con_of (by decide) rfl (Nat.le_of_ble_eq_true rfl) (ok_V rfl) ?_
  refine ev_w (fun hR => ?_)
  have hR0 := hR
  refine ev_aload_n dX5_addRing_0 rfl ?_
  refine ev_getI (kz := 6) dX5_addRing_1 fl_X5_57 rfl rfl rfl ?_
  refine ev_sipush dX5_addRing_4 (by decide) ?_
  refine ev_icmp_ge (tgt := 43) dX5_addRing_7 (by decide) (by first | exact hR.1 _ _ | exact hR0.1 _ _ | assumption | exact ⟨by omega, by omega⟩ | exact ⟨by simp [wr_at]; omega, by simp [wr_at]; omega⟩ | exact b2_R _ | exact band_R _ _ | exact bor_R _ _ | exact bshl_R _ _ | exact bshr_R _ _ | exact bxor_R _ _ | exact bs_R (by omega) | decide) (by first | exact hR.1 _ _ | exact hR0.1 _ _ | assumption | exact ⟨by omega, by omega⟩ | exact ⟨by simp [wr_at]; omega, by simp [wr_at]; omega⟩ | exact b2_R _ | exact band_R _ _ | exact bor_R _ _ | exact bshl_R _ _ | exact bshr_R _ _ | exact bxor_R _ _ | exact bs_R (by omega) | decide) (fun h_7 => ?_) (fun h_7 => ?_)
  · refine ev_return dX5_addRing_43 ?_
    first
      | exact ⟨rfl, by rw [ringM, if_neg (by omega)]⟩
      | exact ⟨rfl, by rw [ringM, if_pos (by omega)]; simp [wr_at]⟩
  · refine ev_aload_n dX5_addRing_10 rfl ?_
    refine ev_getR (r := 44) dX5_addRing_11 fl_X5_30 rfl rfl rfl ?_
    refine ev_aload_n dX5_addRing_14 rfl ?_
    refine ev_getI (kz := 6) dX5_addRing_15 fl_X5_57 rfl rfl rfl ?_
    refine ev_aload_n dX5_addRing_18 rfl ?_
    refine ev_getI (kz := 0) dX5_addRing_19 fl_X5_36 rfl rfl rfl ?_
    refine ev_iastore dX5_addRing_22 rfl (by first | omega | (simp [wr_at]; omega) | (simp [wr_at, *]; omega)) (by first | omega | (simp [wr_at]; omega) | (simp [wr_at, *]; omega)) (by decide) (by first | exact hR.1 _ _ | exact hR0.1 _ _ | assumption | exact ⟨by omega, by omega⟩ | exact ⟨by simp [wr_at]; omega, by simp [wr_at]; omega⟩ | exact b2_R _ | exact band_R _ _ | exact bor_R _ _ | exact bshl_R _ _ | exact bshr_R _ _ | exact bxor_R _ _ | exact bs_R (by omega) | decide) ?_
    refine ev_w (fun hR => ?_)
    refine ev_aload_n dX5_addRing_23 rfl ?_
    refine ev_getR (r := 45) dX5_addRing_24 fl_X5_33 rfl rfl rfl ?_
    refine ev_aload_n dX5_addRing_27 rfl ?_
    refine ev_getI (kz := 6) dX5_addRing_28 fl_X5_57 rfl rfl rfl ?_
    refine ev_iload_n dX5_addRing_31 rfl ?_
    refine ev_iastore dX5_addRing_32 rfl (by first | omega | (simp [wr_at]; omega) | (simp [wr_at, *]; omega)) (by first | omega | (simp [wr_at]; omega) | (simp [wr_at, *]; omega)) (by decide) (by first | exact hR.1 _ _ | exact hR0.1 _ _ | assumption | exact ⟨by omega, by omega⟩ | exact ⟨by simp [wr_at]; omega, by simp [wr_at]; omega⟩ | exact b2_R _ | exact band_R _ _ | exact bor_R _ _ | exact bshl_R _ _ | exact bshr_R _ _ | exact bxor_R _ _ | exact bs_R (by omega) | decide) ?_
    refine ev_w (fun hR => ?_)
    refine ev_aload_n dX5_addRing_33 rfl ?_
    refine ev_dup dX5_addRing_34 rfl ?_
    refine ev_getI (kz := 6) dX5_addRing_35 fl_X5_57 rfl rfl rfl ?_
    refine ev_iconst dX5_addRing_38 ?_
    refine ev_iadd dX5_addRing_39 ?_
    refine ev_putI (kz := 6) dX5_addRing_40 fp_X5_57 rfl rfl rfl (by first | exact hR.1 _ _ | exact hR0.1 _ _ | assumption | exact ⟨by omega, by omega⟩ | exact ⟨by simp [wr_at]; omega, by simp [wr_at]; omega⟩ | exact b2_R _ | exact band_R _ _ | exact bor_R _ _ | exact bshl_R _ _ | exact bshr_R _ _ | exact bxor_R _ _ | exact bs_R (by omega) | decide) ?_
    refine ev_w (fun hR => ?_)
    refine ev_return dX5_addRing_43 ?_
    first
      | exact ⟨rfl, by rw [ringM, if_neg (by omega)]⟩
      | exact ⟨rfl, by rw [ringM, if_pos (by omega)]; simp [wr_at]⟩
def wearM (σ : Mem) (r more : Int) (w rn : Nat) : Mem := if σ.1 38 r + more < 100 then wr σ 38 r (σ.1 38 r + more) else wr (wr σ 38 r (σ.1 38 r + more)) 37 3 (andn w (2 ^ rn) : Nat)
theorem k_addWear (σ : Mem) (more : Int) (w rn : Nat) (hr : rn < 12) (hw : σ.1 37 3 = w) (hw2 : w < 4096) (hm : inR (σ.1 38 rn + more)) : Con yX5_addWear cX5_addWear 3 none 0 0 [.ref 37, .int (iI rn), .int (iI more)] σ (AnsV (wearM σ rn more w rn)) := by
  refine con_of (by decide) rfl (Nat.le_of_ble_eq_true rfl) (ok_V rfl) ?_
  refine ev_w (fun hR => ?_)
  have hR0 := hR
  refine ev_aload_n dX5_addWear_0 rfl ?_
  refine ev_getR (r := 38) dX5_addWear_1 fl_X5_9 rfl rfl rfl ?_
  refine ev_iload_n dX5_addWear_4 rfl ?_
  refine ev_dup2 dX5_addWear_5 rfl rfl ?_
  refine ev_iaload dX5_addWear_6 rfl (by first | omega | (simp [wr_at]; omega) | (simp [wr_at, *]; omega)) (by first | omega | (simp [wr_at]; omega) | (simp [wr_at, *]; omega)) (by decide) ?_
  refine ev_iload_n dX5_addWear_7 rfl ?_
  refine ev_iadd dX5_addWear_8 ?_
  refine ev_iastore dX5_addWear_9 rfl (by first | omega | (simp [wr_at]; omega) | (simp [wr_at, *]; omega)) (by first | omega | (simp [wr_at]; omega) | (simp [wr_at, *]; omega)) (by decide) (by first | exact hR.1 _ _ | exact hR0.1 _ _ | assumption | exact ⟨by omega, by omega⟩ | exact ⟨by simp [wr_at]; omega, by simp [wr_at]; omega⟩ | exact b2_R _ | exact band_R _ _ | exact bor_R _ _ | exact bshl_R _ _ | exact bshr_R _ _ | exact bxor_R _ _ | exact bs_R (by omega) | decide) ?_
  refine ev_w (fun hR => ?_)
  refine ev_aload_n dX5_addWear_10 rfl ?_
  refine ev_getR (r := 38) dX5_addWear_11 fl_X5_9 rfl rfl rfl ?_
  refine ev_iload_n dX5_addWear_14 rfl ?_
  refine ev_iaload dX5_addWear_15 rfl (by first | omega | (simp [wr_at]; omega) | (simp [wr_at, *]; omega)) (by first | omega | (simp [wr_at]; omega) | (simp [wr_at, *]; omega)) (by decide) ?_
  refine ev_bipush dX5_addWear_16 (by decide) ?_
  rw [wr_eq]
  refine ev_icmp_lt (tgt := 35) dX5_addWear_18 (by decide) (by first | exact hR.1 _ _ | exact hR0.1 _ _ | assumption | exact ⟨by omega, by omega⟩ | exact ⟨by simp [wr_at]; omega, by simp [wr_at]; omega⟩ | exact b2_R _ | exact band_R _ _ | exact bor_R _ _ | exact bshl_R _ _ | exact bshr_R _ _ | exact bxor_R _ _ | exact bs_R (by omega) | decide) (by first | exact hR.1 _ _ | exact hR0.1 _ _ | assumption | exact ⟨by omega, by omega⟩ | exact ⟨by simp [wr_at]; omega, by simp [wr_at]; omega⟩ | exact b2_R _ | exact band_R _ _ | exact bor_R _ _ | exact bshl_R _ _ | exact bshr_R _ _ | exact bxor_R _ _ | exact bs_R (by omega) | decide) (fun h_18 => ?_) (fun h_18 => ?_)
  · refine ev_return dX5_addWear_35 ?_
    first
      | exact ⟨rfl, by rw [wearM, if_pos (by assumption)]⟩
      | exact ⟨rfl, by rw [wearM, if_neg (by assumption)]⟩
  · refine ev_aload_n dX5_addWear_21 rfl ?_
    refine ev_dup dX5_addWear_22 rfl ?_
    refine ev_getI (kz := 3) dX5_addWear_23 fl_X5_48 rfl rfl rfl ?_
    rw [wr_nec σ (by decide), hw]
    refine ev_iconst dX5_addWear_26 ?_
    refine ev_iload_n dX5_addWear_27 rfl ?_
    refine ev_ishl dX5_addWear_28 ?_
    refine ev_iconst dX5_addWear_29 ?_
    refine ev_ixor dX5_addWear_30 ?_
    refine ev_iand dX5_addWear_31 ?_
    rw [bshl1 rn (by omega), band_not w _ (by omega)]
    have hlt := andn_lt (n := 12) (2 ^ rn) hw2
    refine ev_putI (kz := 3) dX5_addWear_32 fp_X5_48 rfl rfl rfl (by first | exact hR.1 _ _ | exact hR0.1 _ _ | assumption | exact ⟨by omega, by omega⟩ | exact ⟨by simp [wr_at]; omega, by simp [wr_at]; omega⟩ | exact b2_R _ | exact band_R _ _ | exact bor_R _ _ | exact bshl_R _ _ | exact bshr_R _ _ | exact bxor_R _ _ | exact bs_R (by omega) | decide) ?_
    refine ev_w (fun hR => ?_)
    refine ev_return dX5_addWear_35 ?_
    first
      | exact ⟨rfl, by rw [wearM, if_pos (by assumption)]⟩
      | exact ⟨rfl, by rw [wearM, if_neg (by assumption)]⟩
def wetM (σ : Mem) (r w : Nat) (z : Int) : Mem := wr σ 37 4 (if z = 0 then (andn w (2 ^ r) : Nat) else (w ||| 2 ^ r : Nat))
theorem k_setWet (σ : Mem) (z : Int) (w r : Nat) (hr : r < 12) (hw : σ.1 37 4 = w) (hw2 : w < 4096) (hz : inR z) : Con yX5_setWet cX5_setWet 3 none 0 0 [.ref 37, .int (iI r), .int (iI z)] σ (AnsV (wetM σ r w z)) := by
  refine con_of (by decide) rfl (Nat.le_of_ble_eq_true rfl) (ok_V rfl) ?_
  refine ev_w (fun hR => ?_)
  have hR0 := hR
  have hp : 2 ^ r < 2 ^ 12 := Nat.pow_lt_pow_right (by decide) hr
  have hlt := andn_lt (n := 12) (2 ^ r) hw2
  have hlo := Nat.or_lt_two_pow (n := 12) hw2 hp
  refine ev_aload_n dX5_setWet_0 rfl ?_
  refine ev_iload_n dX5_setWet_1 rfl ?_
  refine ev_if_eq (tgt := 16) dX5_setWet_2 (by decide) (by first | exact hR.1 _ _ | exact hR0.1 _ _ | assumption | exact ⟨by omega, by omega⟩ | exact ⟨by simp [wr_at]; omega, by simp [wr_at]; omega⟩ | exact b2_R _ | exact band_R _ _ | exact bor_R _ _ | exact bshl_R _ _ | exact bshr_R _ _ | exact bxor_R _ _ | exact bs_R (by omega) | decide) (fun h_2 => ?_) (fun h_2 => ?_)
  · refine ev_aload_n dX5_setWet_16 rfl ?_
    refine ev_getI (kz := 4) dX5_setWet_17 fl_X5_51 rfl rfl rfl ?_
    rw [hw]
    refine ev_iconst dX5_setWet_20 ?_
    refine ev_iload_n dX5_setWet_21 rfl ?_
    refine ev_ishl dX5_setWet_22 ?_
    refine ev_iconst dX5_setWet_23 ?_
    refine ev_ixor dX5_setWet_24 ?_
    refine ev_iand dX5_setWet_25 ?_
    first
      | rw [bshl1 r (by omega), band_not w _ (by omega)]
      | rw [bshl1 r (by omega), bor_nat _ _ (by omega) (by omega)]
    refine ev_putI (kz := 4) dX5_setWet_26 fp_X5_51 rfl rfl rfl (by first | exact hR.1 _ _ | exact hR0.1 _ _ | assumption | exact ⟨by omega, by omega⟩ | exact ⟨by simp [wr_at]; omega, by simp [wr_at]; omega⟩ | exact b2_R _ | exact band_R _ _ | exact bor_R _ _ | exact bshl_R _ _ | exact bshr_R _ _ | exact bxor_R _ _ | exact bs_R (by omega) | decide) ?_
    refine ev_w (fun hR => ?_)
    refine ev_return dX5_setWet_29 ?_
    first
      | exact ⟨rfl, by rw [wetM, if_pos (by assumption)]⟩
      | exact ⟨rfl, by rw [wetM, if_neg (by assumption)]⟩
  · refine ev_aload_n dX5_setWet_5 rfl ?_
    refine ev_getI (kz := 4) dX5_setWet_6 fl_X5_51 rfl rfl rfl ?_
    rw [hw]
    refine ev_iconst dX5_setWet_9 ?_
    refine ev_iload_n dX5_setWet_10 rfl ?_
    refine ev_ishl dX5_setWet_11 ?_
    refine ev_ior dX5_setWet_12 ?_
    refine ev_goto (tgt := 26) dX5_setWet_13 (by decide) ?_
    first
      | rw [bshl1 r (by omega), band_not w _ (by omega)]
      | rw [bshl1 r (by omega), bor_nat _ _ (by omega) (by omega)]
    refine ev_putI (kz := 4) dX5_setWet_26 fp_X5_51 rfl rfl rfl (by first | exact hR.1 _ _ | exact hR0.1 _ _ | assumption | exact ⟨by omega, by omega⟩ | exact ⟨by simp [wr_at]; omega, by simp [wr_at]; omega⟩ | exact b2_R _ | exact band_R _ _ | exact bor_R _ _ | exact bshl_R _ _ | exact bshr_R _ _ | exact bxor_R _ _ | exact bs_R (by omega) | decide) ?_
    refine ev_w (fun hR => ?_)
    refine ev_return dX5_setWet_29 ?_
    first
      | exact ⟨rfl, by rw [wetM, if_pos (by assumption)]⟩
      | exact ⟨rfl, by rw [wetM, if_neg (by assumption)]⟩
theorem k_draw (σ : Mem) (n : Int) (hn : inR n) (hn0 : 1 ≤ n) (hs : 0 ≤ σ.1 37 2) : Con yX5_draw cX5_draw 2 (some .int) 0 0 [.ref 37, .int (iI n)] σ (AnsI (((nseed (σ.1 37 2)).tdiv 65536).tmod n) (wr σ 37 2 (nseed (σ.1 37 2)))) := by
  refine con_of (by decide) rfl (Nat.le_of_ble_eq_true rfl) (ok_I rfl) ?_
  refine ev_w (fun hR => ?_)
  have hR0 := hR
  have hs2 := hR.1 37 2
  have hns := nseed_R (σ.1 37 2)
  refine ev_aload_n dX5_draw_0 rfl ?_
  refine ev_aload_n dX5_draw_1 rfl ?_
  refine ev_getI (kz := 2) dX5_draw_2 fl_X5_78 rfl rfl rfl ?_
  refine ev_i2l dX5_draw_5 (by first | exact hR.1 _ _ | exact hR0.1 _ _ | assumption | exact ⟨by omega, by omega⟩ | exact ⟨by simp [wr_at]; omega, by simp [wr_at]; omega⟩ | exact b2_R _ | exact band_R _ _ | exact bor_R _ _ | exact bshl_R _ _ | exact bshr_R _ _ | exact bxor_R _ _ | exact bs_R (by omega) | decide) ?_
  refine ev_ldc2 (z := 1103515245) dX5_draw_6 kl_X5_81 (by decide) ?_
  refine ev_lmul dX5_draw_9 ?_
  refine ev_ldc2 (z := 12345) dX5_draw_10 kl_X5_83 (by decide) ?_
  refine ev_ladd dX5_draw_13 ?_
  refine ev_ldc2 (z := 2147483647) dX5_draw_14 kl_X5_85 (by decide) ?_
  refine ev_land dX5_draw_17 ?_
  rw [land31 (by omega)]
  refine ev_l2i dX5_draw_18 ?_
  rw [show (σ.1 37 2 * 1103515245 + 12345) % 2147483648 = nseed (σ.1 37 2) from rfl]
  refine ev_putI (kz := 2) dX5_draw_19 fp_X5_78 rfl rfl rfl (by first | exact hR.1 _ _ | exact hR0.1 _ _ | assumption | exact ⟨by omega, by omega⟩ | exact ⟨by simp [wr_at]; omega, by simp [wr_at]; omega⟩ | exact b2_R _ | exact band_R _ _ | exact bor_R _ _ | exact bshl_R _ _ | exact bshr_R _ _ | exact bxor_R _ _ | exact bs_R (by omega) | decide) ?_
  refine ev_w (fun hR => ?_)
  have e0 := wr_eq σ 37 2 (nseed (σ.1 37 2))
  refine ev_iload_n dX5_draw_22 rfl ?_
  refine ev_iconst dX5_draw_23 ?_
  refine ev_icmp_ge (tgt := 31) dX5_draw_24 (by decide) (by first | exact hR.1 _ _ | exact hR0.1 _ _ | assumption | exact ⟨by omega, by omega⟩ | exact ⟨by simp [wr_at]; omega, by simp [wr_at]; omega⟩ | exact b2_R _ | exact band_R _ _ | exact bor_R _ _ | exact bshl_R _ _ | exact bshr_R _ _ | exact bxor_R _ _ | exact bs_R (by omega) | decide) (by first | exact hR.1 _ _ | exact hR0.1 _ _ | assumption | exact ⟨by omega, by omega⟩ | exact ⟨by simp [wr_at]; omega, by simp [wr_at]; omega⟩ | exact b2_R _ | exact band_R _ _ | exact bor_R _ _ | exact bshl_R _ _ | exact bshr_R _ _ | exact bxor_R _ _ | exact bs_R (by omega) | decide) (fun h_24 => ?_) (fun h_24 => ?_)
  · refine ev_aload_n dX5_draw_31 rfl ?_
    refine ev_getI (kz := 2) dX5_draw_32 fl_X5_78 rfl rfl rfl ?_
    rw [e0]
    refine ev_ldc (z := 65536) dX5_draw_35 kc_X5_87 (by decide) ?_
    refine ev_idiv dX5_draw_37 (by first | exact hR.1 _ _ | exact hR0.1 _ _ | assumption | exact ⟨by omega, by omega⟩ | exact ⟨by simp [wr_at]; omega, by simp [wr_at]; omega⟩ | exact b2_R _ | exact band_R _ _ | exact bor_R _ _ | exact bshl_R _ _ | exact bshr_R _ _ | exact bxor_R _ _ | exact bs_R (by omega) | decide) (by first | exact hR.1 _ _ | exact hR0.1 _ _ | assumption | exact ⟨by omega, by omega⟩ | exact ⟨by simp [wr_at]; omega, by simp [wr_at]; omega⟩ | exact b2_R _ | exact band_R _ _ | exact bor_R _ _ | exact bshl_R _ _ | exact bshr_R _ _ | exact bxor_R _ _ | exact bs_R (by omega) | decide) (by omega) (by omega) ?_
    refine ev_iload_n dX5_draw_38 rfl ?_
    refine ev_irem dX5_draw_39 (by have := Int.tdiv_le_self 65536 hns.1; have := Int.tdiv_nonneg hns.1 (show (0:Int) ≤ 65536 by decide); exact ⟨by omega, by omega⟩) (by have := Int.tdiv_le_self 65536 hns.1; have := Int.tdiv_nonneg hns.1 (show (0:Int) ≤ 65536 by decide); exact ⟨by omega, by omega⟩) (by omega) (by omega) ?_
    refine ev_ireturn dX5_draw_40 ?_
    first
      | omega
      | exact ⟨rfl, rfl⟩
  · refine ev_iconst dX5_draw_27 ?_
    refine ev_goto (tgt := 40) dX5_draw_28 (by decide) ?_
    refine ev_ireturn dX5_draw_40 ?_
    first
      | omega
      | exact ⟨rfl, rfl⟩
def beginM (σ : Mem) (P nr : Nat) : Mem :=
  cpyM (cpyM (fillM (fillM (fillM (fillM (wr (wr (wr (wr (wr (wr σ 37 0 0) 37 1 0) 37 3 ((2 ^ nr : Nat) - 1)) 37 4 0) 37 5 0) 37 6 0) 38 0 12) 40 (-1) 4) 41 0 4) 43 (-1) 4) (P + 9) 39 0 0 4) (P + 12) 42 0 0 4
theorem k_begin (σ : Mem) (P nr : Nat) (hP : P = 3 ∨ P = 20) (hn : σ.1 P 1 = nr) (hnr : nr ≤ 12) : Con yX5_begin cX5_begin 2 none 1 48 [.ref 37, .ref P] σ (AnsV (beginM σ P nr)) := by
  refine con_of (by decide) rfl (Nat.le_of_ble_eq_true rfl) (ok_V rfl) ?_
  refine ev_w (fun hR => ?_)
  have hR0 := hR
  have hp : 2 ^ nr ≤ 2 ^ 12 := Nat.pow_le_pow_right (by decide) hnr
  have hP37 : P ≠ 37 := by omega
  refine ev_aload_n dX5_begin_0 rfl ?_
  refine ev_iconst dX5_begin_1 ?_
  refine ev_putI (kz := 0) dX5_begin_2 fp_X5_36 rfl rfl rfl (by first | exact hR.1 _ _ | exact hR0.1 _ _ | assumption | exact ⟨by omega, by omega⟩ | exact ⟨by simp [wr_at]; omega, by simp [wr_at]; omega⟩ | exact b2_R _ | exact band_R _ _ | exact bor_R _ _ | exact bshl_R _ _ | exact bshr_R _ _ | exact bxor_R _ _ | exact bs_R (by omega) | decide) ?_
  refine ev_w (fun hR => ?_)
  refine ev_aload_n dX5_begin_5 rfl ?_
  refine ev_iconst dX5_begin_6 ?_
  refine ev_putI (kz := 1) dX5_begin_7 fp_X5_40 rfl rfl rfl (by first | exact hR.1 _ _ | exact hR0.1 _ _ | assumption | exact ⟨by omega, by omega⟩ | exact ⟨by simp [wr_at]; omega, by simp [wr_at]; omega⟩ | exact b2_R _ | exact band_R _ _ | exact bor_R _ _ | exact bshl_R _ _ | exact bshr_R _ _ | exact bxor_R _ _ | exact bs_R (by omega) | decide) ?_
  refine ev_w (fun hR => ?_)
  refine ev_aload_n dX5_begin_10 rfl ?_
  refine ev_iconst dX5_begin_11 ?_
  refine ev_aload_n dX5_begin_12 rfl ?_
  refine ev_getI (kz := 1) dX5_begin_13 fl_X5_43 (plO hP) rfl rfl ?_
  rw [wr_nec _ hP37, wr_nec _ hP37, hn]
  refine ev_ishl dX5_begin_16 ?_
  rw [bshl1 nr (by omega)]
  refine ev_iconst dX5_begin_17 ?_
  refine ev_isub dX5_begin_18 ?_
  refine ev_putI (kz := 3) dX5_begin_19 fp_X5_48 rfl rfl rfl (by generalize 2 ^ nr = N at hp; exact ⟨by omega, by omega⟩) ?_
  refine ev_w (fun hR => ?_)
  refine ev_aload_n dX5_begin_22 rfl ?_
  refine ev_iconst dX5_begin_23 ?_
  refine ev_putI (kz := 4) dX5_begin_24 fp_X5_51 rfl rfl rfl (by first | exact hR.1 _ _ | exact hR0.1 _ _ | assumption | exact ⟨by omega, by omega⟩ | exact ⟨by simp [wr_at]; omega, by simp [wr_at]; omega⟩ | exact b2_R _ | exact band_R _ _ | exact bor_R _ _ | exact bshl_R _ _ | exact bshr_R _ _ | exact bxor_R _ _ | exact bs_R (by omega) | decide) ?_
  refine ev_w (fun hR => ?_)
  refine ev_aload_n dX5_begin_27 rfl ?_
  refine ev_iconst dX5_begin_28 ?_
  refine ev_putI (kz := 5) dX5_begin_29 fp_X5_54 rfl rfl rfl (by first | exact hR.1 _ _ | exact hR0.1 _ _ | assumption | exact ⟨by omega, by omega⟩ | exact ⟨by simp [wr_at]; omega, by simp [wr_at]; omega⟩ | exact b2_R _ | exact band_R _ _ | exact bor_R _ _ | exact bshl_R _ _ | exact bshr_R _ _ | exact bxor_R _ _ | exact bs_R (by omega) | decide) ?_
  refine ev_w (fun hR => ?_)
  refine ev_aload_n dX5_begin_32 rfl ?_
  refine ev_iconst dX5_begin_33 ?_
  refine ev_putI (kz := 6) dX5_begin_34 fp_X5_57 rfl rfl rfl (by first | exact hR.1 _ _ | exact hR0.1 _ _ | assumption | exact ⟨by omega, by omega⟩ | exact ⟨by simp [wr_at]; omega, by simp [wr_at]; omega⟩ | exact b2_R _ | exact band_R _ _ | exact bor_R _ _ | exact bshl_R _ _ | exact bshr_R _ _ | exact bxor_R _ _ | exact bs_R (by omega) | decide) ?_
  refine ev_w (fun hR => ?_)
  refine ev_aload_n dX5_begin_37 rfl ?_
  refine ev_getR (r := 38) dX5_begin_38 fl_X5_9 rfl rfl rfl ?_
  refine ev_iconst dX5_begin_41 ?_
  refine ev_callSV dX5_begin_42 ks_X5_60 (k_fill _ 38 12 0 rfl (by decide) (by decide)) rfl rfl ⟨by decide, by decide⟩ (Nat.le_of_ble_eq_true rfl) ?_
  refine ev_w (fun hR => ?_)
  refine ev_aload_n dX5_begin_45 rfl ?_
  refine ev_getR (r := 40) dX5_begin_46 fl_X5_18 rfl rfl rfl ?_
  refine ev_iconst dX5_begin_49 ?_
  refine ev_callSV dX5_begin_50 ks_X5_60 (k_fill _ 40 4 (-1) rfl (by decide) (by decide)) rfl rfl ⟨by decide, by decide⟩ (Nat.le_of_ble_eq_true rfl) ?_
  refine ev_w (fun hR => ?_)
  refine ev_aload_n dX5_begin_53 rfl ?_
  refine ev_getR (r := 41) dX5_begin_54 fl_X5_21 rfl rfl rfl ?_
  refine ev_iconst dX5_begin_57 ?_
  refine ev_callSV dX5_begin_58 ks_X5_60 (k_fill _ 41 4 0 rfl (by decide) (by decide)) rfl rfl ⟨by decide, by decide⟩ (Nat.le_of_ble_eq_true rfl) ?_
  refine ev_w (fun hR => ?_)
  refine ev_aload_n dX5_begin_61 rfl ?_
  refine ev_getR (r := 43) dX5_begin_62 fl_X5_27 rfl rfl rfl ?_
  refine ev_iconst dX5_begin_65 ?_
  refine ev_callSV dX5_begin_66 ks_X5_60 (k_fill _ 43 4 (-1) rfl (by decide) (by decide)) rfl rfl ⟨by decide, by decide⟩ (Nat.le_of_ble_eq_true rfl) ?_
  refine ev_w (fun hR => ?_)
  refine ev_aload_n dX5_begin_69 rfl ?_
  refine ev_getR (r := P + 9) dX5_begin_70 fl_X5_66 (plO hP) rfl rfl ?_
  refine ev_iconst dX5_begin_73 ?_
  refine ev_aload_n dX5_begin_74 rfl ?_
  refine ev_getR (r := 39) dX5_begin_75 fl_X5_15 rfl rfl rfl ?_
  refine ev_iconst dX5_begin_78 ?_
  refine ev_iconst dX5_begin_79 ?_
  refine ev_copy dX5_begin_80 ka_X5_69 (plA9 hP) rfl (by omega) (by omega) (by omega) (by omega) (by omega) (by decide) (by decide) (by decide) (by decide) (Nat.le_of_ble_eq_true rfl) ?_
  refine ev_w (fun hR => ?_)
  refine ev_aload_n dX5_begin_83 rfl ?_
  refine ev_getR (r := P + 12) dX5_begin_84 fl_X5_75 (plO hP) rfl rfl ?_
  refine ev_iconst dX5_begin_87 ?_
  refine ev_aload_n dX5_begin_88 rfl ?_
  refine ev_getR (r := 42) dX5_begin_89 fl_X5_24 rfl rfl rfl ?_
  refine ev_iconst dX5_begin_92 ?_
  refine ev_iconst dX5_begin_93 ?_
  refine ev_copy dX5_begin_94 ka_X5_69 (plA12 hP) rfl (by omega) (by omega) (by omega) (by omega) (by omega) (by decide) (by decide) (by decide) (by decide) (Nat.le_of_ble_eq_true rfl) ?_
  refine ev_w (fun hR => ?_)
  refine ev_return dX5_begin_97 ?_
  exact ⟨rfl, rfl⟩
def copyM0 (σ : Mem) (t o : Nat) : Mem := wr (wr (wr (wr (wr (wr (wr σ t 0 (σ.1 o 0)) t 1 (σ.1 o 1)) t 2 (σ.1 o 2)) t 3 (σ.1 o 3)) t 4 (σ.1 o 4)) t 5 (σ.1 o 5)) t 6 (σ.1 o 6)
def copyM (σ : Mem) (t o : Nat) : Mem := cpyM (cpyM (cpyM (cpyM (cpyM (cpyM (cpyM (cpyM (copyM0 σ t o) (o + 1) (t + 1) 0 0 12) (o + 2) (t + 2) 0 0 4) (o + 3) (t + 3) 0 0 4) (o + 4) (t + 4) 0 0 4) (o + 5) (t + 5) 0 0 4) (o + 6) (t + 6) 0 0 4) (o + 7) (t + 7) 0 0 200) (o + 8) (t + 8) 0 0 200
theorem k_copy (σ : Mem) (t o : Nat) (ht : t = 37 ∨ t = 47 ∨ t = 56) (ho : o = 37 ∨ o = 47 ∨ o = 56) (hne : o ≠ t) : Con yX5_copy cX5_copy 2 none 1 48 [.ref t, .ref o] σ (AnsV (copyM σ t o)) := by
  refine con_of (by decide) rfl (Nat.le_of_ble_eq_true rfl) (ok_V rfl) ?_
  refine ev_w (fun hR => ?_)
  have hR0 := hR
  refine ev_aload_n dX5_copy_0 rfl ?_
  refine ev_aload_n dX5_copy_1 rfl ?_
  refine ev_getI (kz := 0) dX5_copy_2 fl_X5_36 (stO ho) rfl rfl ?_
  refine ev_putI (kz := 0) dX5_copy_5 fp_X5_36 (stO ht) rfl rfl (by first | exact hR.1 _ _ | exact hR0.1 _ _ | assumption | exact ⟨by omega, by omega⟩ | exact ⟨by simp [wr_at]; omega, by simp [wr_at]; omega⟩ | exact b2_R _ | exact band_R _ _ | exact bor_R _ _ | exact bshl_R _ _ | exact bshr_R _ _ | exact bxor_R _ _ | exact bs_R (by omega) | decide) ?_
  refine ev_w (fun hR => ?_)
  refine ev_aload_n dX5_copy_8 rfl ?_
  refine ev_aload_n dX5_copy_9 rfl ?_
  refine ev_getI (kz := 1) dX5_copy_10 fl_X5_40 (stO ho) rfl rfl ?_
  rw [wr_nec _ hne]
  refine ev_putI (kz := 1) dX5_copy_13 fp_X5_40 (stO ht) rfl rfl (by first | exact hR.1 _ _ | exact hR0.1 _ _ | assumption | exact ⟨by omega, by omega⟩ | exact ⟨by simp [wr_at]; omega, by simp [wr_at]; omega⟩ | exact b2_R _ | exact band_R _ _ | exact bor_R _ _ | exact bshl_R _ _ | exact bshr_R _ _ | exact bxor_R _ _ | exact bs_R (by omega) | decide) ?_
  refine ev_w (fun hR => ?_)
  refine ev_aload_n dX5_copy_16 rfl ?_
  refine ev_aload_n dX5_copy_17 rfl ?_
  refine ev_getI (kz := 2) dX5_copy_18 fl_X5_78 (stO ho) rfl rfl ?_
  rw [wr_nec _ hne, wr_nec _ hne]
  refine ev_putI (kz := 2) dX5_copy_21 fp_X5_78 (stO ht) rfl rfl (by first | exact hR.1 _ _ | exact hR0.1 _ _ | assumption | exact ⟨by omega, by omega⟩ | exact ⟨by simp [wr_at]; omega, by simp [wr_at]; omega⟩ | exact b2_R _ | exact band_R _ _ | exact bor_R _ _ | exact bshl_R _ _ | exact bshr_R _ _ | exact bxor_R _ _ | exact bs_R (by omega) | decide) ?_
  refine ev_w (fun hR => ?_)
  refine ev_aload_n dX5_copy_24 rfl ?_
  refine ev_aload_n dX5_copy_25 rfl ?_
  refine ev_getI (kz := 3) dX5_copy_26 fl_X5_48 (stO ho) rfl rfl ?_
  rw [wr_nec _ hne, wr_nec _ hne, wr_nec _ hne]
  refine ev_putI (kz := 3) dX5_copy_29 fp_X5_48 (stO ht) rfl rfl (by first | exact hR.1 _ _ | exact hR0.1 _ _ | assumption | exact ⟨by omega, by omega⟩ | exact ⟨by simp [wr_at]; omega, by simp [wr_at]; omega⟩ | exact b2_R _ | exact band_R _ _ | exact bor_R _ _ | exact bshl_R _ _ | exact bshr_R _ _ | exact bxor_R _ _ | exact bs_R (by omega) | decide) ?_
  refine ev_w (fun hR => ?_)
  refine ev_aload_n dX5_copy_32 rfl ?_
  refine ev_aload_n dX5_copy_33 rfl ?_
  refine ev_getI (kz := 4) dX5_copy_34 fl_X5_51 (stO ho) rfl rfl ?_
  rw [wr_nec _ hne, wr_nec _ hne, wr_nec _ hne, wr_nec _ hne]
  refine ev_putI (kz := 4) dX5_copy_37 fp_X5_51 (stO ht) rfl rfl (by first | exact hR.1 _ _ | exact hR0.1 _ _ | assumption | exact ⟨by omega, by omega⟩ | exact ⟨by simp [wr_at]; omega, by simp [wr_at]; omega⟩ | exact b2_R _ | exact band_R _ _ | exact bor_R _ _ | exact bshl_R _ _ | exact bshr_R _ _ | exact bxor_R _ _ | exact bs_R (by omega) | decide) ?_
  refine ev_w (fun hR => ?_)
  refine ev_aload_n dX5_copy_40 rfl ?_
  refine ev_aload_n dX5_copy_41 rfl ?_
  refine ev_getI (kz := 5) dX5_copy_42 fl_X5_54 (stO ho) rfl rfl ?_
  rw [wr_nec _ hne, wr_nec _ hne, wr_nec _ hne, wr_nec _ hne, wr_nec _ hne]
  refine ev_putI (kz := 5) dX5_copy_45 fp_X5_54 (stO ht) rfl rfl (by first | exact hR.1 _ _ | exact hR0.1 _ _ | assumption | exact ⟨by omega, by omega⟩ | exact ⟨by simp [wr_at]; omega, by simp [wr_at]; omega⟩ | exact b2_R _ | exact band_R _ _ | exact bor_R _ _ | exact bshl_R _ _ | exact bshr_R _ _ | exact bxor_R _ _ | exact bs_R (by omega) | decide) ?_
  refine ev_w (fun hR => ?_)
  refine ev_aload_n dX5_copy_48 rfl ?_
  refine ev_aload_n dX5_copy_49 rfl ?_
  refine ev_getI (kz := 6) dX5_copy_50 fl_X5_57 (stO ho) rfl rfl ?_
  rw [wr_nec _ hne, wr_nec _ hne, wr_nec _ hne, wr_nec _ hne, wr_nec _ hne, wr_nec _ hne]
  refine ev_putI (kz := 6) dX5_copy_53 fp_X5_57 (stO ht) rfl rfl (by first | exact hR.1 _ _ | exact hR0.1 _ _ | assumption | exact ⟨by omega, by omega⟩ | exact ⟨by simp [wr_at]; omega, by simp [wr_at]; omega⟩ | exact b2_R _ | exact band_R _ _ | exact bor_R _ _ | exact bshl_R _ _ | exact bshr_R _ _ | exact bxor_R _ _ | exact bs_R (by omega) | decide) ?_
  refine ev_w (fun hR => ?_)
  refine ev_aload_n dX5_copy_56 rfl ?_
  refine ev_getR (r := o + 1) dX5_copy_57 fl_X5_9 (stO ho) rfl rfl ?_
  refine ev_iconst dX5_copy_60 ?_
  refine ev_aload_n dX5_copy_61 rfl ?_
  refine ev_getR (r := t + 1) dX5_copy_62 fl_X5_9 (stO ht) rfl rfl ?_
  refine ev_iconst dX5_copy_65 ?_
  refine ev_bipush dX5_copy_66 (by decide) ?_
  refine ev_copy dX5_copy_68 ka_X5_69 (stA1 ho) (stA1 ht) (by omega) (by omega) (by omega) (by omega) (by omega) (by decide) (by decide) (by decide) (by decide) (Nat.le_of_ble_eq_true rfl) ?_
  refine ev_w (fun hR => ?_)
  refine ev_aload_n dX5_copy_71 rfl ?_
  refine ev_getR (r := o + 2) dX5_copy_72 fl_X5_15 (stO ho) rfl rfl ?_
  refine ev_iconst dX5_copy_75 ?_
  refine ev_aload_n dX5_copy_76 rfl ?_
  refine ev_getR (r := t + 2) dX5_copy_77 fl_X5_15 (stO ht) rfl rfl ?_
  refine ev_iconst dX5_copy_80 ?_
  refine ev_iconst dX5_copy_81 ?_
  refine ev_copy dX5_copy_82 ka_X5_69 (stA2 ho) (stA2 ht) (by omega) (by omega) (by omega) (by omega) (by omega) (by decide) (by decide) (by decide) (by decide) (Nat.le_of_ble_eq_true rfl) ?_
  refine ev_w (fun hR => ?_)
  refine ev_aload_n dX5_copy_85 rfl ?_
  refine ev_getR (r := o + 3) dX5_copy_86 fl_X5_18 (stO ho) rfl rfl ?_
  refine ev_iconst dX5_copy_89 ?_
  refine ev_aload_n dX5_copy_90 rfl ?_
  refine ev_getR (r := t + 3) dX5_copy_91 fl_X5_18 (stO ht) rfl rfl ?_
  refine ev_iconst dX5_copy_94 ?_
  refine ev_iconst dX5_copy_95 ?_
  refine ev_copy dX5_copy_96 ka_X5_69 (stA3 ho) (stA3 ht) (by omega) (by omega) (by omega) (by omega) (by omega) (by decide) (by decide) (by decide) (by decide) (Nat.le_of_ble_eq_true rfl) ?_
  refine ev_w (fun hR => ?_)
  refine ev_aload_n dX5_copy_99 rfl ?_
  refine ev_getR (r := o + 4) dX5_copy_100 fl_X5_21 (stO ho) rfl rfl ?_
  refine ev_iconst dX5_copy_103 ?_
  refine ev_aload_n dX5_copy_104 rfl ?_
  refine ev_getR (r := t + 4) dX5_copy_105 fl_X5_21 (stO ht) rfl rfl ?_
  refine ev_iconst dX5_copy_108 ?_
  refine ev_iconst dX5_copy_109 ?_
  refine ev_copy dX5_copy_110 ka_X5_69 (stA4 ho) (stA4 ht) (by omega) (by omega) (by omega) (by omega) (by omega) (by decide) (by decide) (by decide) (by decide) (Nat.le_of_ble_eq_true rfl) ?_
  refine ev_w (fun hR => ?_)
  refine ev_aload_n dX5_copy_113 rfl ?_
  refine ev_getR (r := o + 5) dX5_copy_114 fl_X5_24 (stO ho) rfl rfl ?_
  refine ev_iconst dX5_copy_117 ?_
  refine ev_aload_n dX5_copy_118 rfl ?_
  refine ev_getR (r := t + 5) dX5_copy_119 fl_X5_24 (stO ht) rfl rfl ?_
  refine ev_iconst dX5_copy_122 ?_
  refine ev_iconst dX5_copy_123 ?_
  refine ev_copy dX5_copy_124 ka_X5_69 (stA5 ho) (stA5 ht) (by omega) (by omega) (by omega) (by omega) (by omega) (by decide) (by decide) (by decide) (by decide) (Nat.le_of_ble_eq_true rfl) ?_
  refine ev_w (fun hR => ?_)
  refine ev_aload_n dX5_copy_127 rfl ?_
  refine ev_getR (r := o + 6) dX5_copy_128 fl_X5_27 (stO ho) rfl rfl ?_
  refine ev_iconst dX5_copy_131 ?_
  refine ev_aload_n dX5_copy_132 rfl ?_
  refine ev_getR (r := t + 6) dX5_copy_133 fl_X5_27 (stO ht) rfl rfl ?_
  refine ev_iconst dX5_copy_136 ?_
  refine ev_iconst dX5_copy_137 ?_
  refine ev_copy dX5_copy_138 ka_X5_69 (stA6 ho) (stA6 ht) (by omega) (by omega) (by omega) (by omega) (by omega) (by decide) (by decide) (by decide) (by decide) (Nat.le_of_ble_eq_true rfl) ?_
  refine ev_w (fun hR => ?_)
  refine ev_aload_n dX5_copy_141 rfl ?_
  refine ev_getR (r := o + 7) dX5_copy_142 fl_X5_30 (stO ho) rfl rfl ?_
  refine ev_iconst dX5_copy_145 ?_
  refine ev_aload_n dX5_copy_146 rfl ?_
  refine ev_getR (r := t + 7) dX5_copy_147 fl_X5_30 (stO ht) rfl rfl ?_
  refine ev_iconst dX5_copy_150 ?_
  refine ev_sipush dX5_copy_151 (by decide) ?_
  refine ev_copy dX5_copy_154 ka_X5_69 (stA7 ho) (stA7 ht) (by omega) (by omega) (by omega) (by omega) (by omega) (by decide) (by decide) (by decide) (by decide) (Nat.le_of_ble_eq_true rfl) ?_
  refine ev_w (fun hR => ?_)
  refine ev_aload_n dX5_copy_157 rfl ?_
  refine ev_getR (r := o + 8) dX5_copy_158 fl_X5_33 (stO ho) rfl rfl ?_
  refine ev_iconst dX5_copy_161 ?_
  refine ev_aload_n dX5_copy_162 rfl ?_
  refine ev_getR (r := t + 8) dX5_copy_163 fl_X5_33 (stO ht) rfl rfl ?_
  refine ev_iconst dX5_copy_166 ?_
  refine ev_sipush dX5_copy_167 (by decide) ?_
  refine ev_copy dX5_copy_170 ka_X5_69 (stA8 ho) (stA8 ht) (by omega) (by omega) (by omega) (by omega) (by omega) (by decide) (by decide) (by decide) (by decide) (Nat.le_of_ble_eq_true rfl) ?_
  refine ev_w (fun hR => ?_)
  refine ev_return dX5_copy_173 ?_
  exact ⟨rfl, rfl⟩
def clearM (σ : Mem) (P : Nat) : Mem := fillM (wr (wr (wr (wr σ P 0 0) P 1 0) P 2 0) P 3 0) (P + 4) 0 8
theorem k_clear (σ : Mem) (P : Nat) (hP : P = 3 ∨ P = 20) : Con yX2_clear cX2_clear 1 none 1 23 [.ref P] σ (AnsV (clearM σ P)) := by
  refine con_of (by decide) rfl (Nat.le_of_ble_eq_true rfl) (ok_V rfl) ?_
  refine ev_w (fun hR => ?_)
  have hR0 := hR
  refine ev_aload_n dX2_clear_0 rfl ?_
  refine ev_iconst dX2_clear_1 ?_
  refine ev_putI (kz := 0) dX2_clear_2 fp_X2_60 (plO hP) rfl rfl (by first | exact hR.1 _ _ | exact hR0.1 _ _ | assumption | exact ⟨by omega, by omega⟩ | exact ⟨by simp [wr_at]; omega, by simp [wr_at]; omega⟩ | exact b2_R _ | exact band_R _ _ | exact bor_R _ _ | exact bshl_R _ _ | exact bshr_R _ _ | exact bxor_R _ _ | exact bs_R (by omega) | decide) ?_
  refine ev_w (fun hR => ?_)
  refine ev_aload_n dX2_clear_5 rfl ?_
  refine ev_iconst dX2_clear_6 ?_
  refine ev_putI (kz := 1) dX2_clear_7 fp_X2_64 (plO hP) rfl rfl (by first | exact hR.1 _ _ | exact hR0.1 _ _ | assumption | exact ⟨by omega, by omega⟩ | exact ⟨by simp [wr_at]; omega, by simp [wr_at]; omega⟩ | exact b2_R _ | exact band_R _ _ | exact bor_R _ _ | exact bshl_R _ _ | exact bshr_R _ _ | exact bxor_R _ _ | exact bs_R (by omega) | decide) ?_
  refine ev_w (fun hR => ?_)
  refine ev_aload_n dX2_clear_10 rfl ?_
  refine ev_iconst dX2_clear_11 ?_
  refine ev_putI (kz := 2) dX2_clear_12 fp_X2_67 (plO hP) rfl rfl (by first | exact hR.1 _ _ | exact hR0.1 _ _ | assumption | exact ⟨by omega, by omega⟩ | exact ⟨by simp [wr_at]; omega, by simp [wr_at]; omega⟩ | exact b2_R _ | exact band_R _ _ | exact bor_R _ _ | exact bshl_R _ _ | exact bshr_R _ _ | exact bxor_R _ _ | exact bs_R (by omega) | decide) ?_
  refine ev_w (fun hR => ?_)
  refine ev_aload_n dX2_clear_15 rfl ?_
  refine ev_iconst dX2_clear_16 ?_
  refine ev_putI (kz := 3) dX2_clear_17 fp_X2_70 (plO hP) rfl rfl (by first | exact hR.1 _ _ | exact hR0.1 _ _ | assumption | exact ⟨by omega, by omega⟩ | exact ⟨by simp [wr_at]; omega, by simp [wr_at]; omega⟩ | exact b2_R _ | exact band_R _ _ | exact bor_R _ _ | exact bshl_R _ _ | exact bshr_R _ _ | exact bxor_R _ _ | exact bs_R (by omega) | decide) ?_
  refine ev_w (fun hR => ?_)
  refine ev_aload_n dX2_clear_20 rfl ?_
  refine ev_getR (r := P + 4) dX2_clear_21 fl_X2_21 (plO hP) rfl rfl ?_
  refine ev_iconst dX2_clear_24 ?_
  refine ev_callSV dX2_clear_25 ks_X2_73 (k_fill _ (P + 4) 8 0 (plA4 hP) (by decide) (by decide)) rfl rfl ⟨by decide, by decide⟩ (Nat.le_of_ble_eq_true rfl) ?_
  refine ev_w (fun hR => ?_)
  refine ev_return dX2_clear_28 ?_
  exact ⟨rfl, rfl⟩
theorem k_endsOf (σ : Mem) (P f t : Nat) (r : Int) (hP : P = 3 ∨ P = 20) (h0 : 0 ≤ r) (h1 : r < 12) (hf : σ.1 (P + 5) r = f) (ht : σ.1 (P + 6) r = t) (hf8 : f < 8) (ht8 : t < 8) : Con yX2_endsOf cX2_endsOf 2 (some .int) 0 0 [.ref P, .int (iI r)] σ (AnsI (2 ^ f ||| 2 ^ t : Nat) σ) := by
  refine con_of (by decide) rfl (Nat.le_of_ble_eq_true rfl) (ok_I rfl) ?_
  refine ev_w (fun hR => ?_)
  have hR0 := hR
  have hpf : 2 ^ f < 2 ^ 8 := Nat.pow_lt_pow_right (by decide) hf8
  have hpt : 2 ^ t < 2 ^ 8 := Nat.pow_lt_pow_right (by decide) ht8
  refine ev_iconst dX2_endsOf_0 ?_
  refine ev_aload_n dX2_endsOf_1 rfl ?_
  refine ev_getR (r := P + 5) dX2_endsOf_2 fl_X2_24 (plO hP) rfl rfl ?_
  refine ev_iload_n dX2_endsOf_5 rfl ?_
  refine ev_iaload dX2_endsOf_6 (plA5 hP) (by first | omega | (simp [wr_at]; omega) | (simp [wr_at, *]; omega)) (by first | omega | (simp [wr_at]; omega) | (simp [wr_at, *]; omega)) (by decide) ?_
  rw [hf]
  refine ev_ishl dX2_endsOf_7 ?_
  refine ev_iconst dX2_endsOf_8 ?_
  refine ev_aload_n dX2_endsOf_9 rfl ?_
  refine ev_getR (r := P + 6) dX2_endsOf_10 fl_X2_27 (plO hP) rfl rfl ?_
  refine ev_iload_n dX2_endsOf_13 rfl ?_
  refine ev_iaload dX2_endsOf_14 (plA6 hP) (by first | omega | (simp [wr_at]; omega) | (simp [wr_at, *]; omega)) (by first | omega | (simp [wr_at]; omega) | (simp [wr_at, *]; omega)) (by decide) ?_
  rw [ht]
  refine ev_ishl dX2_endsOf_15 ?_
  refine ev_ior dX2_endsOf_16 ?_
  rw [bshl1 f (by omega), bshl1 t (by omega), bor_nat _ _ (by omega) (by omega)]
  refine ev_ireturn dX2_endsOf_17 ?_
  exact ⟨rfl, rfl⟩
def othE (f t p : Int) : Int := if f = p then t else if t = p then f else -1
theorem k_otherEnd (σ : Mem) (P : Nat) (r p : Int) (hP : P = 3 ∨ P = 20) (h0 : 0 ≤ r) (h1 : r < 12) (hp : inR p) : Con yX2_otherEnd cX2_otherEnd 3 (some .int) 0 0 [.ref P, .int (iI r), .int (iI p)] σ (AnsI (othE (σ.1 (P + 5) r) (σ.1 (P + 6) r) p) σ) := by
  refine con_of (by decide) rfl (Nat.le_of_ble_eq_true rfl) (ok_I rfl) ?_
  refine ev_w (fun hR => ?_)
  have hR0 := hR
  refine ev_aload_n dX2_otherEnd_0 rfl ?_
  refine ev_getR (r := P + 5) dX2_otherEnd_1 fl_X2_24 (plO hP) rfl rfl ?_
  refine ev_iload_n dX2_otherEnd_4 rfl ?_
  refine ev_iaload dX2_otherEnd_5 (plA5 hP) (by first | omega | (simp [wr_at]; omega) | (simp [wr_at, *]; omega)) (by first | omega | (simp [wr_at]; omega) | (simp [wr_at, *]; omega)) (by decide) ?_
  refine ev_iload_n dX2_otherEnd_6 rfl ?_
  refine ev_icmp_ne (tgt := 17) dX2_otherEnd_7 (by decide) (by first | exact hR.1 _ _ | exact hR0.1 _ _ | assumption | exact ⟨by omega, by omega⟩ | exact ⟨by simp [wr_at]; omega, by simp [wr_at]; omega⟩ | exact b2_R _ | exact band_R _ _ | exact bor_R _ _ | exact bshl_R _ _ | exact bshr_R _ _ | exact bxor_R _ _ | exact bs_R (by omega) | decide) (by first | exact hR.1 _ _ | exact hR0.1 _ _ | assumption | exact ⟨by omega, by omega⟩ | exact ⟨by simp [wr_at]; omega, by simp [wr_at]; omega⟩ | exact b2_R _ | exact band_R _ _ | exact bor_R _ _ | exact bshl_R _ _ | exact bshr_R _ _ | exact bxor_R _ _ | exact bs_R (by omega) | decide) (fun h_7 => ?_) (fun h_7 => ?_)
  · refine ev_aload_n dX2_otherEnd_17 rfl ?_
    refine ev_getR (r := P + 6) dX2_otherEnd_18 fl_X2_27 (plO hP) rfl rfl ?_
    refine ev_iload_n dX2_otherEnd_21 rfl ?_
    refine ev_iaload dX2_otherEnd_22 (plA6 hP) (by first | omega | (simp [wr_at]; omega) | (simp [wr_at, *]; omega)) (by first | omega | (simp [wr_at]; omega) | (simp [wr_at, *]; omega)) (by decide) ?_
    refine ev_iload_n dX2_otherEnd_23 rfl ?_
    refine ev_icmp_ne (tgt := 36) dX2_otherEnd_24 (by decide) (by first | exact hR.1 _ _ | exact hR0.1 _ _ | assumption | exact ⟨by omega, by omega⟩ | exact ⟨by simp [wr_at]; omega, by simp [wr_at]; omega⟩ | exact b2_R _ | exact band_R _ _ | exact bor_R _ _ | exact bshl_R _ _ | exact bshr_R _ _ | exact bxor_R _ _ | exact bs_R (by omega) | decide) (by first | exact hR.1 _ _ | exact hR0.1 _ _ | assumption | exact ⟨by omega, by omega⟩ | exact ⟨by simp [wr_at]; omega, by simp [wr_at]; omega⟩ | exact b2_R _ | exact band_R _ _ | exact bor_R _ _ | exact bshl_R _ _ | exact bshr_R _ _ | exact bxor_R _ _ | exact bs_R (by omega) | decide) (fun h_24 => ?_) (fun h_24 => ?_)
    · refine ev_iconst dX2_otherEnd_36 ?_
      refine ev_ireturn dX2_otherEnd_37 ?_
      exact ⟨by simp [othE, *], rfl⟩
    · refine ev_aload_n dX2_otherEnd_27 rfl ?_
      refine ev_getR (r := P + 5) dX2_otherEnd_28 fl_X2_24 (plO hP) rfl rfl ?_
      refine ev_iload_n dX2_otherEnd_31 rfl ?_
      refine ev_iaload dX2_otherEnd_32 (plA5 hP) (by first | omega | (simp [wr_at]; omega) | (simp [wr_at, *]; omega)) (by first | omega | (simp [wr_at]; omega) | (simp [wr_at, *]; omega)) (by decide) ?_
      refine ev_goto (tgt := 37) dX2_otherEnd_33 (by decide) ?_
      refine ev_ireturn dX2_otherEnd_37 ?_
      exact ⟨by simp [othE, *], rfl⟩
  · refine ev_aload_n dX2_otherEnd_10 rfl ?_
    refine ev_getR (r := P + 6) dX2_otherEnd_11 fl_X2_27 (plO hP) rfl rfl ?_
    refine ev_iload_n dX2_otherEnd_14 rfl ?_
    refine ev_iaload dX2_otherEnd_15 (plA6 hP) (by first | omega | (simp [wr_at]; omega) | (simp [wr_at, *]; omega)) (by first | omega | (simp [wr_at]; omega) | (simp [wr_at, *]; omega)) (by decide) ?_
    refine ev_ireturn dX2_otherEnd_16 ?_
    exact ⟨by simp [othE, *], rfl⟩
theorem k_boysTold (σ : Mem) (P n : Nat) (p : Int) (hP : P = 3 ∨ P = 20) (hp : inR p) (hn : σ.1 P 2 = n) (hn4 : n ≤ 4) : Con yX2_boysTold cX2_boysTold 4 (some .int) 0 0 [.ref P, .int (iI p)] σ (AnsI (cnt (fun b => decide (σ.1 (P + 9) b = p)) n : Nat) σ) := by
  refine con_of (by decide) rfl (Nat.le_of_ble_eq_true rfl) (ok_I rfl) ?_
  refine ev_w (fun hR => ?_)
  have hR0 := hR
  have loop : ∀ i : Nat, i ≤ n → Ev RX2 cX2_boysTold 4 0 0 (AnsI (cnt (fun b => decide (σ.1 (P + 9) b = p)) n : Nat) σ) 4 [some (.ref P), some (.int (iI p)), some (.int (iI (cnt (fun b => decide (σ.1 (P + 9) b = p)) i : Nat))), some (.int (iI (i : Nat)))] [] σ := by
    refine for_up n (fun i hi ih => ?_)
    refine ev_w (fun hR => ?_)
    refine ev_iload_n dX2_boysTold_4 rfl ?_
    refine ev_aload_n dX2_boysTold_5 rfl ?_
    refine ev_getI (kz := 2) dX2_boysTold_6 fl_X2_67 (plO hP) rfl rfl ?_
    rw [hn]
    refine ev_icmp_ge (tgt := 36) dX2_boysTold_9 (by decide) (by first | exact hR.1 _ _ | exact hR0.1 _ _ | assumption | exact ⟨by omega, by omega⟩ | exact ⟨by simp [wr_at]; omega, by simp [wr_at]; omega⟩ | exact b2_R _ | exact band_R _ _ | exact bor_R _ _ | exact bshl_R _ _ | exact bshr_R _ _ | exact bxor_R _ _ | exact bs_R (by omega) | decide) (by first | exact hR.1 _ _ | exact hR0.1 _ _ | assumption | exact ⟨by omega, by omega⟩ | exact ⟨by simp [wr_at]; omega, by simp [wr_at]; omega⟩ | exact b2_R _ | exact band_R _ _ | exact bor_R _ _ | exact bshl_R _ _ | exact bshr_R _ _ | exact bxor_R _ _ | exact bs_R (by omega) | decide) (fun h_9 => ?_) (fun h_9 => ?_)
    · refine ev_iload_n dX2_boysTold_36 rfl ?_
      refine ev_ireturn dX2_boysTold_37 ?_
      obtain rfl : i = n := by omega
      exact ⟨rfl, rfl⟩
    · refine ev_iload_n dX2_boysTold_12 rfl ?_
      refine ev_aload_n dX2_boysTold_13 rfl ?_
      refine ev_getR (r := P + 9) dX2_boysTold_14 fl_X2_36 (plO hP) rfl rfl ?_
      refine ev_iload_n dX2_boysTold_17 rfl ?_
      refine ev_iaload dX2_boysTold_18 (plA9 hP) (by first | omega | (simp [wr_at]; omega) | (simp [wr_at, *]; omega)) (by first | omega | (simp [wr_at]; omega) | (simp [wr_at, *]; omega)) (by decide) ?_
      refine ev_iload_n dX2_boysTold_19 rfl ?_
      refine ev_icmp_ne (tgt := 27) dX2_boysTold_20 (by decide) (by first | exact hR.1 _ _ | exact hR0.1 _ _ | assumption | exact ⟨by omega, by omega⟩ | exact ⟨by simp [wr_at]; omega, by simp [wr_at]; omega⟩ | exact b2_R _ | exact band_R _ _ | exact bor_R _ _ | exact bshl_R _ _ | exact bshr_R _ _ | exact bxor_R _ _ | exact bs_R (by omega) | decide) (by first | exact hR.1 _ _ | exact hR0.1 _ _ | assumption | exact ⟨by omega, by omega⟩ | exact ⟨by simp [wr_at]; omega, by simp [wr_at]; omega⟩ | exact b2_R _ | exact band_R _ _ | exact bor_R _ _ | exact bshl_R _ _ | exact bshr_R _ _ | exact bxor_R _ _ | exact bs_R (by omega) | decide) (fun h_20 => ?_) (fun h_20 => ?_)
      · refine ev_iconst dX2_boysTold_27 ?_
        refine ev_iadd dX2_boysTold_28 ?_
        refine ev_istore_n dX2_boysTold_29 rfl (by decide) rfl ?_
        refine ev_iinc dX2_boysTold_30 rfl rfl (by decide) rfl ?_
        refine ev_goto (tgt := 4) dX2_boysTold_33 (by decide) ?_
        refine ev_ab ?_ (ih (by omega))
        simp [cnt, *]
      · refine ev_iconst dX2_boysTold_23 ?_
        refine ev_goto (tgt := 28) dX2_boysTold_24 (by decide) ?_
        refine ev_iadd dX2_boysTold_28 ?_
        refine ev_istore_n dX2_boysTold_29 rfl (by decide) rfl ?_
        refine ev_iinc dX2_boysTold_30 rfl rfl (by decide) rfl ?_
        refine ev_goto (tgt := 4) dX2_boysTold_33 (by decide) ?_
        refine ev_ab ?_ (ih (by omega))
        simp [cnt, *]
  refine ev_iconst dX2_boysTold_0 ?_
  refine ev_istore_n dX2_boysTold_1 rfl (by decide) rfl ?_
  refine ev_iconst dX2_boysTold_2 ?_
  refine ev_istore_n dX2_boysTold_3 rfl (by decide) rfl ?_
  exact loop 0 (by omega)
theorem k_poundsOf (σ : Mem) (P n s : Nat) (hP : P = 3 ∨ P = 20) (hs : s < 2 ^ 31) (hn : σ.1 P 3 = n) (hn4 : n ≤ 4) : Con yX2_poundsOf cX2_poundsOf 4 (some .int) 1 21 [.ref P, .int (iI s)] σ (AnsI (sumI (fun l => if s.testBit l then σ.1 (P + 14) l else 0) n) σ) := by
  refine con_of (by decide) rfl (Nat.le_of_ble_eq_true rfl) (ok_I rfl) ?_
  refine ev_w (fun hR => ?_)
  have hR0 := hR
  have loop : ∀ i : Nat, i ≤ n → Ev RX2 cX2_poundsOf 4 1 21 (AnsI (sumI (fun l => if s.testBit l then σ.1 (P + 14) l else 0) n) σ) 4 [some (.ref P), some (.int (iI s)), some (.int (iI (sumI (fun l => if s.testBit l then σ.1 (P + 14) l else 0) i))), some (.int (iI (i : Nat)))] [] σ := by
    refine for_up n (fun i hi ih => ?_)
    refine ev_w (fun hR => ?_)
    refine ev_iload_n dX2_poundsOf_4 rfl ?_
    refine ev_aload_n dX2_poundsOf_5 rfl ?_
    refine ev_getI (kz := 3) dX2_poundsOf_6 fl_X2_70 (plO hP) rfl rfl ?_
    rw [hn]
    refine ev_icmp_ge (tgt := 39) dX2_poundsOf_9 (by decide) (by first | exact hR.1 _ _ | exact hR0.1 _ _ | assumption | exact ⟨by omega, by omega⟩ | exact ⟨by simp [wr_at]; omega, by simp [wr_at]; omega⟩ | exact b2_R _ | exact band_R _ _ | exact bor_R _ _ | exact bshl_R _ _ | exact bshr_R _ _ | exact bxor_R _ _ | exact bs_R (by omega) | decide) (by first | exact hR.1 _ _ | exact hR0.1 _ _ | assumption | exact ⟨by omega, by omega⟩ | exact ⟨by simp [wr_at]; omega, by simp [wr_at]; omega⟩ | exact b2_R _ | exact band_R _ _ | exact bor_R _ _ | exact bshl_R _ _ | exact bshr_R _ _ | exact bxor_R _ _ | exact bs_R (by omega) | decide) (fun h_9 => ?_) (fun h_9 => ?_)
    · refine ev_iload_n dX2_poundsOf_39 rfl ?_
      refine ev_ireturn dX2_poundsOf_40 ?_
      obtain rfl : i = n := by omega
      exact ⟨rfl, rfl⟩
    · refine ev_iload_n dX2_poundsOf_12 rfl ?_
      refine ev_iload_n dX2_poundsOf_13 rfl ?_
      refine ev_iload_n dX2_poundsOf_14 rfl ?_
      refine ev_callNI dX2_poundsOf_15 kn_X2_79 (k_has σ s i hs (by omega)) rfl rfl ⟨by decide, by decide⟩ (Nat.le_of_ble_eq_true rfl) ?_
      refine ev_w (fun hR => ?_)
      refine ev_if_eq (tgt := 30) dX2_poundsOf_18 (by decide) (by first | exact hR.1 _ _ | exact hR0.1 _ _ | assumption | exact ⟨by omega, by omega⟩ | exact ⟨by simp [wr_at]; omega, by simp [wr_at]; omega⟩ | exact b2_R _ | exact band_R _ _ | exact bor_R _ _ | exact bshl_R _ _ | exact bshr_R _ _ | exact bxor_R _ _ | exact bs_R (by omega) | decide) (fun h_18 => ?_) (fun h_18 => ?_)
      · refine ev_iconst dX2_poundsOf_30 ?_
        refine ev_iadd dX2_poundsOf_31 ?_
        refine ev_istore_n dX2_poundsOf_32 rfl (by decide) rfl ?_
        refine ev_iinc dX2_poundsOf_33 rfl rfl (by decide) rfl ?_
        refine ev_goto (tgt := 4) dX2_poundsOf_36 (by decide) ?_
        refine ev_ab ?_ (ih (by omega))
        first
          | (have q := b2_ne h_18; simp [sumI, q])
          | (have q := b2_eq h_18; simp [sumI, q])
      · refine ev_aload_n dX2_poundsOf_21 rfl ?_
        refine ev_getR (r := P + 14) dX2_poundsOf_22 fl_X2_51 (plO hP) rfl rfl ?_
        refine ev_iload_n dX2_poundsOf_25 rfl ?_
        refine ev_iaload dX2_poundsOf_26 (plA14 hP) (by first | omega | (simp [wr_at]; omega) | (simp [wr_at, *]; omega)) (by first | omega | (simp [wr_at]; omega) | (simp [wr_at, *]; omega)) (by decide) ?_
        refine ev_goto (tgt := 31) dX2_poundsOf_27 (by decide) ?_
        refine ev_iadd dX2_poundsOf_31 ?_
        refine ev_istore_n dX2_poundsOf_32 rfl (by decide) rfl ?_
        refine ev_iinc dX2_poundsOf_33 rfl rfl (by decide) rfl ?_
        refine ev_goto (tgt := 4) dX2_poundsOf_36 (by decide) ?_
        refine ev_ab ?_ (ih (by omega))
        first
          | (have q := b2_ne h_18; simp [sumI, q])
          | (have q := b2_eq h_18; simp [sumI, q])
  refine ev_iconst dX2_poundsOf_0 ?_
  refine ev_istore_n dX2_poundsOf_1 rfl (by decide) rfl ?_
  refine ev_iconst dX2_poundsOf_2 ?_
  refine ev_istore_n dX2_poundsOf_3 rfl (by decide) rfl ?_
  exact loop 0 (by omega)
theorem k_anyOfKind (σ : Mem) (P n s : Nat) (kd : Int) (hP : P = 3 ∨ P = 20) (hs : s < 2 ^ 31) (hk : inR kd) (hn : σ.1 P 3 = n) (hn4 : n ≤ 4) : Con yX2_anyOfKind cX2_anyOfKind 4 (some .boolean) 1 21 [.ref P, .int (iI s), .int (iI kd)] σ (AnsI (b2 (anyB (fun l => s.testBit l && decide (σ.1 (P + 16) l = kd)) n = true)) σ) := by
  refine con_of (by decide) rfl (Nat.le_of_ble_eq_true rfl) (ok_Z rfl (b2_01 _)) ?_
  refine ev_w (fun hR => ?_)
  have hR0 := hR
  have loop : ∀ i : Nat, i ≤ n → anyB (fun l => s.testBit l && decide (σ.1 (P + 16) l = kd)) i = false → Ev RX2 cX2_anyOfKind 4 1 21 (AnsI (b2 (anyB (fun l => s.testBit l && decide (σ.1 (P + 16) l = kd)) n = true)) σ) 2 [some (.ref P), some (.int (iI s)), some (.int (iI kd)), some (.int (iI (i : Nat)))] [] σ := by
    refine for_up n (fun i hi ih hb => ?_)
    refine ev_w (fun hR => ?_)
    refine ev_iload_n dX2_anyOfKind_2 rfl ?_
    refine ev_aload_n dX2_anyOfKind_3 rfl ?_
    refine ev_getI (kz := 3) dX2_anyOfKind_4 fl_X2_70 (plO hP) rfl rfl ?_
    rw [hn]
    refine ev_icmp_ge (tgt := 36) dX2_anyOfKind_7 (by decide) (by first | exact hR.1 _ _ | exact hR0.1 _ _ | assumption | exact ⟨by omega, by omega⟩ | exact ⟨by simp [wr_at]; omega, by simp [wr_at]; omega⟩ | exact b2_R _ | exact band_R _ _ | exact bor_R _ _ | exact bshl_R _ _ | exact bshr_R _ _ | exact bxor_R _ _ | exact bs_R (by omega) | decide) (by first | exact hR.1 _ _ | exact hR0.1 _ _ | assumption | exact ⟨by omega, by omega⟩ | exact ⟨by simp [wr_at]; omega, by simp [wr_at]; omega⟩ | exact b2_R _ | exact band_R _ _ | exact bor_R _ _ | exact bshl_R _ _ | exact bshr_R _ _ | exact bxor_R _ _ | exact bs_R (by omega) | decide) (fun h_7 => ?_) (fun h_7 => ?_)
    · refine ev_iconst dX2_anyOfKind_36 ?_
      refine ev_ireturn dX2_anyOfKind_37 ?_
      obtain rfl : i = n := by omega
      exact ⟨by rw [b2_f (by rw [hb]; decide)], rfl⟩
    · refine ev_iload_n dX2_anyOfKind_10 rfl ?_
      refine ev_iload_n dX2_anyOfKind_11 rfl ?_
      refine ev_callNI dX2_anyOfKind_12 kn_X2_79 (k_has σ s i hs (by omega)) rfl rfl ⟨by decide, by decide⟩ (Nat.le_of_ble_eq_true rfl) ?_
      refine ev_w (fun hR => ?_)
      refine ev_if_eq (tgt := 30) dX2_anyOfKind_15 (by decide) (by first | exact hR.1 _ _ | exact hR0.1 _ _ | assumption | exact ⟨by omega, by omega⟩ | exact ⟨by simp [wr_at]; omega, by simp [wr_at]; omega⟩ | exact b2_R _ | exact band_R _ _ | exact bor_R _ _ | exact bshl_R _ _ | exact bshr_R _ _ | exact bxor_R _ _ | exact bs_R (by omega) | decide) (fun h_15 => ?_) (fun h_15 => ?_)
      · refine ev_iinc dX2_anyOfKind_30 rfl rfl (by decide) rfl ?_
        refine ev_goto (tgt := 2) dX2_anyOfKind_33 (by decide) ?_
        refine ih (by omega) ?_
        first
          | (have q := b2_eq h_15; simp [anyB, hb, q])
          | simp [anyB, hb, *]
      · refine ev_aload_n dX2_anyOfKind_18 rfl ?_
        refine ev_getR (r := P + 16) dX2_anyOfKind_19 fl_X2_57 (plO hP) rfl rfl ?_
        refine ev_iload_n dX2_anyOfKind_22 rfl ?_
        refine ev_iaload dX2_anyOfKind_23 (plA16 hP) (by first | omega | (simp [wr_at]; omega) | (simp [wr_at, *]; omega)) (by first | omega | (simp [wr_at]; omega) | (simp [wr_at, *]; omega)) (by decide) ?_
        refine ev_iload_n dX2_anyOfKind_24 rfl ?_
        refine ev_icmp_ne (tgt := 30) dX2_anyOfKind_25 (by decide) (by first | exact hR.1 _ _ | exact hR0.1 _ _ | assumption | exact ⟨by omega, by omega⟩ | exact ⟨by simp [wr_at]; omega, by simp [wr_at]; omega⟩ | exact b2_R _ | exact band_R _ _ | exact bor_R _ _ | exact bshl_R _ _ | exact bshr_R _ _ | exact bxor_R _ _ | exact bs_R (by omega) | decide) (by first | exact hR.1 _ _ | exact hR0.1 _ _ | assumption | exact ⟨by omega, by omega⟩ | exact ⟨by simp [wr_at]; omega, by simp [wr_at]; omega⟩ | exact b2_R _ | exact band_R _ _ | exact bor_R _ _ | exact bshl_R _ _ | exact bshr_R _ _ | exact bxor_R _ _ | exact bs_R (by omega) | decide) (fun h_25 => ?_) (fun h_25 => ?_)
        · refine ev_iinc dX2_anyOfKind_30 rfl rfl (by decide) rfl ?_
          refine ev_goto (tgt := 2) dX2_anyOfKind_33 (by decide) ?_
          refine ih (by omega) ?_
          first
            | (have q := b2_eq h_15; simp [anyB, hb, q])
            | simp [anyB, hb, *]
        · refine ev_iconst dX2_anyOfKind_28 ?_
          refine ev_ireturn dX2_anyOfKind_29 ?_
          have q := b2_ne h_15
          exact ⟨by rw [b2_t (anyB_iff.mpr ⟨i, by omega, by simp [q, *]⟩)], rfl⟩
  refine ev_iconst dX2_anyOfKind_0 ?_
  refine ev_istore_n dX2_anyOfKind_1 rfl (by decide) rfl ?_
  exact loop 0 (by omega) rfl
def apartZ (σ : Mem) (cx cy : Nat) (p q : Int) : Int := absz (σ.1 cx p - σ.1 cx q) + absz (σ.1 cy p - σ.1 cy q)
theorem k_feetApart (σ : Mem) (P : Nat) (p q : Int) (hP : P = 3 ∨ P = 20) (h0 : 0 ≤ p) (h1 : p < 8) (h2 : 0 ≤ q) (h3 : q < 8) (hx : inR (σ.1 (P + 1) p - σ.1 (P + 1) q)) (hy : inR (σ.1 (P + 2) p - σ.1 (P + 2) q)) : Con yX2_feetApart cX2_feetApart 3 (some .int) 1 21 [.ref P, .int (iI p), .int (iI q)] σ (AnsI (apartZ σ (P + 1) (P + 2) p q) σ) := by
  refine con_of (by decide) rfl (Nat.le_of_ble_eq_true rfl) (ok_I rfl) ?_
  refine ev_w (fun hR => ?_)
  have hR0 := hR
  refine ev_aload_n dX2_feetApart_0 rfl ?_
  refine ev_getR (r := P + 1) dX2_feetApart_1 fl_X2_9 (plO hP) rfl rfl ?_
  refine ev_iload_n dX2_feetApart_4 rfl ?_
  refine ev_iaload dX2_feetApart_5 (plA1 hP) (by first | omega | (simp [wr_at]; omega) | (simp [wr_at, *]; omega)) (by first | omega | (simp [wr_at]; omega) | (simp [wr_at, *]; omega)) (by decide) ?_
  refine ev_aload_n dX2_feetApart_6 rfl ?_
  refine ev_getR (r := P + 1) dX2_feetApart_7 fl_X2_9 (plO hP) rfl rfl ?_
  refine ev_iload_n dX2_feetApart_10 rfl ?_
  refine ev_iaload dX2_feetApart_11 (plA1 hP) (by first | omega | (simp [wr_at]; omega) | (simp [wr_at, *]; omega)) (by first | omega | (simp [wr_at]; omega) | (simp [wr_at, *]; omega)) (by decide) ?_
  refine ev_isub dX2_feetApart_12 ?_
  refine ev_mabs dX2_feetApart_13 ks_X2_83 (by first | exact hR.1 _ _ | exact hR0.1 _ _ | assumption | exact ⟨by omega, by omega⟩ | exact ⟨by simp [wr_at]; omega, by simp [wr_at]; omega⟩ | exact b2_R _ | exact band_R _ _ | exact bor_R _ _ | exact bshl_R _ _ | exact bshr_R _ _ | exact bxor_R _ _ | exact bs_R (by omega) | decide) (by decide) (by decide) (Nat.le_of_ble_eq_true rfl) ?_
  refine ev_aload_n dX2_feetApart_16 rfl ?_
  refine ev_getR (r := P + 2) dX2_feetApart_17 fl_X2_15 (plO hP) rfl rfl ?_
  refine ev_iload_n dX2_feetApart_20 rfl ?_
  refine ev_iaload dX2_feetApart_21 (plA2 hP) (by first | omega | (simp [wr_at]; omega) | (simp [wr_at, *]; omega)) (by first | omega | (simp [wr_at]; omega) | (simp [wr_at, *]; omega)) (by decide) ?_
  refine ev_aload_n dX2_feetApart_22 rfl ?_
  refine ev_getR (r := P + 2) dX2_feetApart_23 fl_X2_15 (plO hP) rfl rfl ?_
  refine ev_iload_n dX2_feetApart_26 rfl ?_
  refine ev_iaload dX2_feetApart_27 (plA2 hP) (by first | omega | (simp [wr_at]; omega) | (simp [wr_at, *]; omega)) (by first | omega | (simp [wr_at]; omega) | (simp [wr_at, *]; omega)) (by decide) ?_
  refine ev_isub dX2_feetApart_28 ?_
  refine ev_mabs dX2_feetApart_29 ks_X2_83 (by first | exact hR.1 _ _ | exact hR0.1 _ _ | assumption | exact ⟨by omega, by omega⟩ | exact ⟨by simp [wr_at]; omega, by simp [wr_at]; omega⟩ | exact b2_R _ | exact band_R _ _ | exact bor_R _ _ | exact bshl_R _ _ | exact bshr_R _ _ | exact bxor_R _ _ | exact bs_R (by omega) | decide) (by decide) (by decide) (Nat.le_of_ble_eq_true rfl) ?_
  refine ev_iadd dX2_feetApart_32 ?_
  refine ev_ireturn dX2_feetApart_33 ?_
  exact ⟨rfl, rfl⟩
