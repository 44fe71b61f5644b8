theorem gain_eq {σ τ : Mem} {P l : Nat} (h1 : τ.1 (P + 16) l = σ.1 (P + 16) l) (h2 : τ.1 (P + 15) l = σ.1 (P + 15) l) (h3 : τ.1 37 0 = σ.1 37 0) : gain τ P l = gain σ P l := by
  unfold gain
  rw [h1, h2, h3]
def dlvP (σ : Mem) (P nl b : Nat) : Nat → Bool := fun i => (carS σ nl b).testBit i && decide (σ.1 (P + 13) i = σ.1 39 b)
def wearBy (σ : Mem) (P nl b : Nat) : Int := (σ.1 (P + 10) b + lbs σ (P + 14) nl (carS σ nl b)).tdiv 10 + 1
/-- boy b comes to the end of rope r -/
def arvM (σ : Mem) (P nl w dv b r : Nat) : Mem := wearM (arF (wr σ 40 b (-1)) (dlvP σ P nl b) (gain σ P) dv nl) r (wearBy σ P nl b) w r
theorem wearBy_R {σ : Mem} {P n nr nb nl : Nat} {f t : Nat → Nat} (hPO : PlanOk σ P n nr nb nl f t) {b : Nat} (hb : b < nb) : 1 ≤ wearBy σ P nl b ∧ wearBy σ P nl b ≤ 101 := by
  have a := lbs_R (s := carS σ nl b) (fun l hl => (hPO.2.2.2.2.2.2 l hl).2.2.2.1) hPO.2.2.1.2
  have c := (hPO.2.2.2.2.2.1 b hb).2.1
  unfold wearBy
  rw [Int.tdiv_eq_ediv_of_nonneg (by omega)]
  omega
theorem gain_R {σ : Mem} {P n nr nb nl : Nat} {f t : Nat → Nat} (hPO : PlanOk σ P n nr nb nl f t) {l : Nat} (hl : l < nl) : 0 ≤ gain σ P l ∧ gain σ P l ≤ 999 := by
  have := (hPO.2.2.2.2.2.2 l hl).2.2.2.2.1
  unfold gain
  split <;> omega
theorem gsum_R {σ : Mem} {P n nr nb nl : Nat} {f t : Nat → Nat} (hPO : PlanOk σ P n nr nb nl f t) (p : Nat → Bool) {l : Nat} (hl : l ≤ nl) : 0 ≤ sumI (fun i => if p i then gain σ P i else 0) l ∧ sumI (fun i => if p i then gain σ P i else 0) l ≤ 999 * l := by
  refine sumI_R (fun i hi => ?_)
  have := gain_R hPO (l := i) (by omega)
  show 0 ≤ (if p i then gain σ P i else 0) ∧ (if p i then gain σ P i else 0) ≤ 999
  split <;> omega
theorem k_arrive (σ : Mem) (P n nr nb nl w dv b r : Nat) (f t : Nat → Nat) (hPO : PlanOk σ P n nr nb nl f t) (hPI : PlIs σ P) (hb : b < nb) (hr : r < nr) (hbr : σ.1 40 b = r) (hw : σ.1 37 3 = w) (hw2 : w < 4096) (hdv : σ.1 37 5 = dv) (hdv2 : dv < 2 ^ nl) (hh0 : 0 ≤ σ.1 37 1) (hh1 : σ.1 37 1 ≤ 100000) (hwr0 : 0 ≤ σ.1 38 r) (hwr1 : σ.1 38 r ≤ 1000) : Con yX7_arrive cX7_arrive 6 none 2 44 [.ref 0, .int (iI b)] σ (AnsV (arvM σ P nl w dv b r)) := by
  refine con_of (by decide) rfl (Nat.le_of_ble_eq_true rfl) (ok_V rfl) ?_
  refine ev_w (fun hR => ?_)
  have hR0 := hR
  obtain ⟨hPR, ⟨hnb, hnb4⟩, ⟨hnl, hnl4⟩, hpo, hro, hbo, hlo⟩ := id hPO
  obtain ⟨hP, hn, hn8, hnr, hnr12, hft⟩ := id hPR
  have hpl := hPI.q
  have h2n : 2 ^ nl ≤ 2 ^ 4 := Nat.pow_le_pow_right (by decide) hnl4
  have hcs := carS_lt σ hnl4 (b : Int)
  have hlb := lbs_R (s := carS σ nl b) (fun l hl => (hlo l hl).2.2.2.1) hnl4
  have hbb := (hbo b hb).2.1
  have hwb := wearBy_R hPO hb
  have hdl : ∀ l, l ≤ nl → dv ||| bs (dlvP σ P nl b) l < 16 := fun l hl => by
    have h1 := bs_lt (dlvP σ P nl b) l
    have h2 : 2 ^ l ≤ 2 ^ 4 := Nat.pow_le_pow_right (by decide) (by omega)
    exact Nat.or_lt_two_pow (n := 4) (by omega) (by omega)
  have hgn : ∀ l, gain (arF (wr σ 40 b (-1)) (dlvP σ P nl b) (gain σ P) dv l) P = gain σ P := by
    intro l
    funext i
    refine gain_eq ?_ ?_ ?_
    · rw [arF_c (by omega) (by omega), wr_nec _ (by omega)]
    · rw [arF_c (by omega) (by omega), wr_nec _ (by omega)]
    · rw [arF_37 (by decide) (by decide), wr_nec _ (by decide)]
  have loop : ∀ l : Nat, l ≤ nl → Ev RX7 cX7_arrive 6 2 44 (AnsV (arvM σ P nl w dv b r)) 59 [some (.ref 0), some (.int (iI b)), some (.int (iI r)), some (.int (iI (carS σ nl (b : Int) : Nat))), some (.int (iI (σ.1 (P + 10) b + lbs σ (P + 14) nl (carS σ nl b)))), some (.int (iI (l : Nat)))] [] (arF (wr σ 40 b (-1)) (dlvP σ P nl b) (gain σ P) dv l) := by
    refine for_up nl (fun l hl ih => ?_)
    refine ev_w (fun hR => ?_)
    have hd16 := hdl l hl
    have hplA : ((arF (wr σ 40 b (-1)) (dlvP σ P nl b) (gain σ P) dv l).1 0 1).toNat = P := by rw [arF_c (by decide) (by decide), wr_nec _ (by decide)]; exact hpl
    have eP : ∀ k, k ≤ 16 → ∀ j, (arF (wr σ 40 b (-1)) (dlvP σ P nl b) (gain σ P) dv l).1 (P + k) j = σ.1 (P + k) j := fun k hk j => by rw [arF_c (by omega) (by omega), wr_nec _ (by omega)]
    have eP0 : ∀ j, (arF (wr σ 40 b (-1)) (dlvP σ P nl b) (gain σ P) dv l).1 P j = σ.1 P j := fun j => by rw [arF_c (by omega) (by omega), wr_nec _ (by omega)]
    have e39 : ∀ j, (arF (wr σ 40 b (-1)) (dlvP σ P nl b) (gain σ P) dv l).1 39 j = σ.1 39 j := fun j => by rw [arF_c (by decide) (by decide), wr_nec _ (by decide)]
    have e37 : (arF (wr σ 40 b (-1)) (dlvP σ P nl b) (gain σ P) dv l).1 37 3 = w := by rw [arF_37 (by decide) (by decide), wr_nec _ (by decide)]; exact hw
    have e38 : (arF (wr σ 40 b (-1)) (dlvP σ P nl b) (gain σ P) dv l).1 38 r = σ.1 38 r := by rw [arF_c (by decide) (by decide), wr_nec _ (by decide)]
    have eh : (arF (wr σ 40 b (-1)) (dlvP σ P nl b) (gain σ P) dv l).1 37 1 = σ.1 37 1 + sumI (fun i => if dlvP σ P nl b i then gain σ P i else 0) l := by rw [arF_1, wr_nec _ (by decide)]
    have hsum := gsum_R hPO (dlvP σ P nl b) hl
    refine ev_iload dX7_arrive_59 rfl ?_
    refine ev_aload_n dX7_arrive_61 rfl ?_
    refine ev_getQ (r := P) dX7_arrive_62 fl_X7_19 rfl rfl hplA ?_
    refine ev_getI (kz := 3) dX7_arrive_65 fl_X7_104 (plO hP) rfl rfl ?_
    rw [eP0, hnl]
    refine ev_icmp_ge (tgt := 114) dX7_arrive_68 (by decide) (by first | exact hR.1 _ _ | exact hR0.1 _ _ | assumption | exact ⟨by omega, by omega⟩ | exact ⟨by simp [wr_at]; omega, by simp [wr_at]; omega⟩ | exact b2_R _ | exact bC_R _ | exact band_R _ _ | exact bor_R _ _ | exact bshl_R _ _ | exact bshr_R _ _ | exact bxor_R _ _ | exact bs_R (by omega) | decide) (by first | exact hR.1 _ _ | exact hR0.1 _ _ | assumption | exact ⟨by omega, by omega⟩ | exact ⟨by simp [wr_at]; omega, by simp [wr_at]; omega⟩ | exact b2_R _ | exact bC_R _ | exact band_R _ _ | exact bor_R _ _ | exact bshl_R _ _ | exact bshr_R _ _ | exact bxor_R _ _ | exact bs_R (by omega) | decide) (fun h_68 => ?_) (fun h_68 => ?_)
    · refine ev_aload_n dX7_arrive_114 rfl ?_
      refine ev_getR (r := 37) dX7_arrive_115 fl_X7_29 rfl rfl rfl ?_
      refine ev_iload_n dX7_arrive_118 rfl ?_
      refine ev_iload dX7_arrive_119 rfl ?_
      refine ev_bipush dX7_arrive_121 (by decide) ?_
      refine ev_idiv dX7_arrive_123 (by first | exact hR.1 _ _ | exact hR0.1 _ _ | assumption | exact ⟨by omega, by omega⟩ | exact ⟨by simp [wr_at]; omega, by simp [wr_at]; omega⟩ | exact b2_R _ | exact bC_R _ | exact band_R _ _ | exact bor_R _ _ | exact bshl_R _ _ | exact bshr_R _ _ | exact bxor_R _ _ | exact bs_R (by omega) | decide) (by first | exact hR.1 _ _ | exact hR0.1 _ _ | assumption | exact ⟨by omega, by omega⟩ | exact ⟨by simp [wr_at]; omega, by simp [wr_at]; omega⟩ | exact b2_R _ | exact bC_R _ | exact band_R _ _ | exact bor_R _ _ | exact bshl_R _ _ | exact bshr_R _ _ | exact bxor_R _ _ | exact bs_R (by omega) | decide) (by omega) (by omega) ?_
      refine ev_iconst dX7_arrive_124 ?_
      refine ev_iadd dX7_arrive_125 ?_
      rw [show (σ.1 (P + 10) b + lbs σ (P + 14) nl (carS σ nl b)).tdiv 10 + 1 = wearBy σ P nl b from rfl]
      refine ev_callVV dX7_arrive_126 kv_X7_248 (k_addWear (arF (wr σ 40 b (-1)) (dlvP σ P nl b) (gain σ P) dv l) (wearBy σ P nl b) w r (by omega) e37 hw2 (by rw [e38]; exact ⟨by omega, by omega⟩)) rfl rfl (ci := 5) rfl rfl ⟨by decide, by decide⟩ (Nat.le_of_ble_eq_true rfl) ?_
      refine ev_w (fun hR => ?_)
      refine ev_return dX7_arrive_129 ?_
      obtain rfl : l = nl := by omega
      exact ⟨rfl, rfl⟩
    · refine ev_iload_n dX7_arrive_71 rfl ?_
      refine ev_iload dX7_arrive_72 rfl ?_
      refine ev_callSI dX7_arrive_74 ks_X7_237 (k_has _ (carS σ nl (b : Int)) l (by omega) (by omega)) rfl rfl ⟨by decide, by decide⟩ (Nat.le_of_ble_eq_true rfl) ?_
      refine ev_w (fun hR => ?_)
      refine ev_if_eq (tgt := 108) dX7_arrive_77 (by decide) (by first | exact hR.1 _ _ | exact hR0.1 _ _ | assumption | exact ⟨by omega, by omega⟩ | exact ⟨by simp [wr_at]; omega, by simp [wr_at]; omega⟩ | exact b2_R _ | exact bC_R _ | exact band_R _ _ | exact bor_R _ _ | exact bshl_R _ _ | exact bshr_R _ _ | exact bxor_R _ _ | exact bs_R (by omega) | decide) (fun h_77 => ?_) (fun h_77 => ?_)
      · refine ev_iinc dX7_arrive_108 rfl rfl (by decide) rfl ?_
        refine ev_goto (tgt := 59) dX7_arrive_111 (by decide) ?_
        first
          | (have z1 := b2_ne h_77
             have hp : dlvP σ P nl b l = true := by unfold dlvP; rw [z1, decide_eq_true (by omega)]; rfl
             have e2 : σ.1 37 1 = (wr σ 40 b (-1)).1 37 1 := by rw [wr_nec _ (by decide)]
             rw [hgn, eh, e2, arF_y hp]
             exact ih (by omega))
          | (have z1 := b2_ne h_77
             have hp : dlvP σ P nl b l = false := by unfold dlvP; rw [z1, decide_eq_false (by omega)]; rfl
             rw [← arF_n hp]
             exact ih (by omega))
          | (have z1 := b2_eq h_77
             have hp : dlvP σ P nl b l = false := by unfold dlvP; rw [Bool.eq_false_iff.mpr z1]; rfl
             rw [← arF_n hp]
             exact ih (by omega))
      · refine ev_aload_n dX7_arrive_80 rfl ?_
        refine ev_getQ (r := P) dX7_arrive_81 fl_X7_19 rfl rfl hplA ?_
        refine ev_getR (r := P + 13) dX7_arrive_84 fl_X7_201 (plO hP) rfl rfl ?_
        refine ev_iload dX7_arrive_87 rfl ?_
        refine ev_iaload dX7_arrive_89 (plA13 hP) (by first | omega | (simp [wr_at]; omega) | (simp [wr_at, *]; omega)) (by first | omega | (simp [wr_at]; omega) | (simp [wr_at, *]; omega)) (by decide) ?_
        rw [eP 13 (by omega)]
        refine ev_aload_n dX7_arrive_90 rfl ?_
        refine ev_getR (r := 37) dX7_arrive_91 fl_X7_29 rfl rfl rfl ?_
        refine ev_getR (r := 39) dX7_arrive_94 fl_X7_177 rfl rfl rfl ?_
        refine ev_iload_n dX7_arrive_97 rfl ?_
        refine ev_iaload dX7_arrive_98 rfl (by first | omega | (simp [wr_at]; omega) | (simp [wr_at, *]; omega)) (by first | omega | (simp [wr_at]; omega) | (simp [wr_at, *]; omega)) (by decide) ?_
        rw [e39]
        refine ev_icmp_ne (tgt := 108) dX7_arrive_99 (by decide) (by first | exact hR.1 _ _ | exact hR0.1 _ _ | assumption | exact ⟨by omega, by omega⟩ | exact ⟨by simp [wr_at]; omega, by simp [wr_at]; omega⟩ | exact b2_R _ | exact bC_R _ | exact band_R _ _ | exact bor_R _ _ | exact bshl_R _ _ | exact bshr_R _ _ | exact bxor_R _ _ | exact bs_R (by omega) | decide) (by first | exact hR.1 _ _ | exact hR0.1 _ _ | assumption | exact ⟨by omega, by omega⟩ | exact ⟨by simp [wr_at]; omega, by simp [wr_at]; omega⟩ | exact b2_R _ | exact bC_R _ | exact band_R _ _ | exact bor_R _ _ | exact bshl_R _ _ | exact bshr_R _ _ | exact bxor_R _ _ | exact bs_R (by omega) | decide) (fun h_99 => ?_) (fun h_99 => ?_)
        · refine ev_iinc dX7_arrive_108 rfl rfl (by decide) rfl ?_
          refine ev_goto (tgt := 59) dX7_arrive_111 (by decide) ?_
          first
            | (have z1 := b2_ne h_77
               have hp : dlvP σ P nl b l = true := by unfold dlvP; rw [z1, decide_eq_true (by omega)]; rfl
               have e2 : σ.1 37 1 = (wr σ 40 b (-1)).1 37 1 := by rw [wr_nec _ (by decide)]
               rw [hgn, eh, e2, arF_y hp]
               exact ih (by omega))
            | (have z1 := b2_ne h_77
               have hp : dlvP σ P nl b l = false := by unfold dlvP; rw [z1, decide_eq_false (by omega)]; rfl
               rw [← arF_n hp]
               exact ih (by omega))
            | (have z1 := b2_eq h_77
               have hp : dlvP σ P nl b l = false := by unfold dlvP; rw [Bool.eq_false_iff.mpr z1]; rfl
               rw [← arF_n hp]
               exact ih (by omega))
        · refine ev_aload_n dX7_arrive_102 rfl ?_
          refine ev_iload dX7_arrive_103 rfl ?_
          have hgl := gain_R hPO (l := l) (by omega)
          refine ev_callVV dX7_arrive_105 kv_X7_335 (k_deliver (arF (wr σ 40 b (-1)) (dlvP σ P nl b) (gain σ P) dv l) P l (dv ||| bs (dlvP σ P nl b) l) hP hplA (by omega) (arF_5 _ _ _ _ _) hd16 (by rw [hgn, eh]; exact ⟨by omega, by omega⟩)) rfl rfl (ci := 7) rfl rfl ⟨by decide, by decide⟩ (Nat.le_of_ble_eq_true rfl) ?_
          refine ev_w (fun hR => ?_)
          refine ev_iinc dX7_arrive_108 rfl rfl (by decide) rfl ?_
          refine ev_goto (tgt := 59) dX7_arrive_111 (by decide) ?_
          first
            | (have z1 := b2_ne h_77
               have hp : dlvP σ P nl b l = true := by unfold dlvP; rw [z1, decide_eq_true (by omega)]; rfl
               have e2 : σ.1 37 1 = (wr σ 40 b (-1)).1 37 1 := by rw [wr_nec _ (by decide)]
               rw [hgn, eh, e2, arF_y hp]
               exact ih (by omega))
            | (have z1 := b2_ne h_77
               have hp : dlvP σ P nl b l = false := by unfold dlvP; rw [z1, decide_eq_false (by omega)]; rfl
               rw [← arF_n hp]
               exact ih (by omega))
            | (have z1 := b2_eq h_77
               have hp : dlvP σ P nl b l = false := by unfold dlvP; rw [Bool.eq_false_iff.mpr z1]; rfl
               rw [← arF_n hp]
               exact ih (by omega))
  refine ev_aload_n dX7_arrive_0 rfl ?_
  refine ev_getR (r := 37) dX7_arrive_1 fl_X7_29 rfl rfl rfl ?_
  refine ev_getR (r := 40) dX7_arrive_4 fl_X7_180 rfl rfl rfl ?_
  refine ev_iload_n dX7_arrive_7 rfl ?_
  refine ev_iaload dX7_arrive_8 rfl (by first | omega | (simp [wr_at]; omega) | (simp [wr_at, *]; omega)) (by first | omega | (simp [wr_at]; omega) | (simp [wr_at, *]; omega)) (by decide) ?_
  rw [hbr]
  refine ev_istore_n dX7_arrive_9 rfl (by decide) rfl ?_
  refine ev_aload_n dX7_arrive_10 rfl ?_
  refine ev_getR (r := 37) dX7_arrive_11 fl_X7_29 rfl rfl rfl ?_
  refine ev_iload_n dX7_arrive_14 rfl ?_
  refine ev_aload_n dX7_arrive_15 rfl ?_
  refine ev_getQ (r := P) dX7_arrive_16 fl_X7_19 rfl rfl hpl ?_
  refine ev_getI (kz := 3) dX7_arrive_19 fl_X7_104 (plO hP) rfl rfl ?_
  rw [hnl]
  refine ev_callVI dX7_arrive_22 kv_X7_192 (k_carriedBy σ b nl ⟨by omega, by omega⟩ hnl4) rfl rfl (ci := 5) rfl rfl ⟨by decide, by decide⟩ (Nat.le_of_ble_eq_true rfl) ?_
  refine ev_w (fun hR => ?_)
  rw [show bs (fun l => decide (σ.1 43 l = (b : Int))) nl = carS σ nl b from rfl]
  refine ev_istore_n dX7_arrive_25 rfl (by decide) rfl ?_
  refine ev_aload_n dX7_arrive_26 rfl ?_
  refine ev_getQ (r := P) dX7_arrive_27 fl_X7_19 rfl rfl hpl ?_
  refine ev_getR (r := P + 10) dX7_arrive_30 fl_X7_186 (plO hP) rfl rfl ?_
  refine ev_iload_n dX7_arrive_33 rfl ?_
  refine ev_iaload dX7_arrive_34 (plA10 hP) (by first | omega | (simp [wr_at]; omega) | (simp [wr_at, *]; omega)) (by first | omega | (simp [wr_at]; omega) | (simp [wr_at, *]; omega)) (by decide) ?_
  refine ev_aload_n dX7_arrive_35 rfl ?_
  refine ev_getQ (r := P) dX7_arrive_36 fl_X7_19 rfl rfl hpl ?_
  refine ev_iload_n dX7_arrive_39 rfl ?_
  refine ev_callVI dX7_arrive_40 kv_X7_315 (k_poundsOf σ P nl (carS σ nl (b : Int)) hP (by omega) hnl hnl4) rfl (plO hP) (ci := 2) rfl rfl ⟨by decide, by decide⟩ (Nat.le_of_ble_eq_true rfl) ?_
  refine ev_w (fun hR => ?_)
  rw [show sumI (fun l => if (carS σ nl (b : Int)).testBit l then σ.1 (P + 14) l else 0) nl = lbs σ (P + 14) nl (carS σ nl b) from rfl]
  refine ev_iadd dX7_arrive_43 ?_
  refine ev_istore dX7_arrive_44 rfl (by decide) rfl ?_
  refine ev_aload_n dX7_arrive_46 rfl ?_
  refine ev_getR (r := 37) dX7_arrive_47 fl_X7_29 rfl rfl rfl ?_
  refine ev_getR (r := 40) dX7_arrive_50 fl_X7_180 rfl rfl rfl ?_
  refine ev_iload_n dX7_arrive_53 rfl ?_
  refine ev_iconst dX7_arrive_54 ?_
  refine ev_iastore dX7_arrive_55 rfl (by first | omega | (simp [wr_at]; omega) | (simp [wr_at, *]; omega)) (by first | omega | (simp [wr_at]; omega) | (simp [wr_at, *]; omega)) (by decide) (by first | exact hR.1 _ _ | exact hR0.1 _ _ | assumption | exact ⟨by omega, by omega⟩ | exact ⟨by simp [wr_at]; omega, by simp [wr_at]; omega⟩ | exact b2_R _ | exact bC_R _ | exact band_R _ _ | exact bor_R _ _ | exact bshl_R _ _ | exact bshr_R _ _ | exact bxor_R _ _ | exact bs_R (by omega) | decide) ?_
  refine ev_w (fun hR => ?_)
  refine ev_iconst dX7_arrive_56 ?_
  refine ev_istore dX7_arrive_57 rfl (by decide) rfl ?_
  have h0 : (wr σ 40 b (-1)).1 37 5 = dv := by rw [wr_nec _ (by decide)]; exact hdv
  refine ev_σ (arF_0 (p := dlvP σ P nl b) (g := gain σ P) h0).symm ?_
  exact loop 0 (by omega)
def atS (σ : Mem) (nb : Nat) (p : Int) : Nat := bs (fun i => decide (σ.1 40 i = -1 ∧ σ.1 39 i = p)) nb
def movM (σ : Mem) (P nb nl w dv b : Nat) : Mem := if 0 < σ.1 41 b - 1 then wr σ 41 b (σ.1 41 b - 1) else if σ.1 (P + 3) (σ.1 39 b) ≤ (cnt (atS σ nb (σ.1 39 b)).testBit 12 : Nat) then wr (wr σ 41 b (σ.1 41 b - 1)) 41 b 1 else arvM (wr σ 41 b (σ.1 41 b - 1)) P nl w dv b (σ.1 40 b).toNat
theorem k_moveOn (σ : Mem) (P n nr nb nl mb w wt dv b : Nat) (f t : Nat → Nat) (hPO : PlanOk σ P n nr nb nl f t) (hPI : PlIs σ P) (hDy : DynOk σ P n nr nb nl mb w wt dv) (hb : b < nb) (hbr : σ.1 40 b ≠ -1) : Con yX7_moveOn cX7_moveOn 3 none 3 69 [.ref 0, .int (iI b)] σ (AnsV (movM σ P nb nl w dv b)) := by
  refine con_of (by decide) rfl (Nat.le_of_ble_eq_true rfl) (ok_V rfl) ?_
  refine ev_w (fun hR => ?_)
  have hR0 := hR
  obtain ⟨hPR, ⟨hnb, hnb4⟩, ⟨hnl, hnl4⟩, hpo, hro, hbo, hlo⟩ := id hPO
  obtain ⟨hP, hn, hn8, hnr, hnr12, hft⟩ := id hPR
  have hpl := hPI.q
  obtain ⟨d1, d2, d3, ⟨hw, hw2⟩, ⟨hwt, hwt2⟩, ⟨hdv, hdv2⟩, d7, d8, d9, d10, d11⟩ := id hDy
  have h2r : 2 ^ nr ≤ 2 ^ 12 := Nat.pow_le_pow_right (by decide) hnr12
  have hb9 := d9 b hb
  have hon : 0 ≤ σ.1 40 b ∧ σ.1 40 b < nr ∧ 1 ≤ σ.1 41 b ∧ σ.1 41 b ≤ 400 ∧ w.testBit (σ.1 40 b).toNat = true := hb9.2.resolve_left (fun q => hbr q.1)
  have hsz : Same (fun c => c = 41) σ (wr σ 41 b (σ.1 41 b - 1)) := Same.wr Same.rf rfl
  have hPO1 := hPO.same hsz (fun k hk => by omega)
  have hPI1 : PlIs (wr σ 41 b (σ.1 41 b - 1)) P := by unfold PlIs; rw [wr_nec _ (by decide)]; exact hPI
  have hpl1 := hPI1.q
  obtain ⟨e, he⟩ : ∃ e : Nat, σ.1 39 b = e := ⟨(σ.1 39 b).toNat, by omega⟩
  have hbe := (hpo e (by omega)).2.2.1
  have hcnl := cnt_le dv.testBit 12
  have hat : atS (wr σ 41 b (σ.1 41 b - 1)) nb (e : Int) = atS σ nb (e : Int) := by
    unfold atS
    rw [hsz.1 40 (by decide), hsz.1 39 (by decide)]
  have hat2 : atS σ nb (e : Int) < 16 := by
    have h1 := bs_lt (fun i => decide (σ.1 40 i = -1 ∧ σ.1 39 i = (e : Int))) nb
    have h2 : 2 ^ nb ≤ 2 ^ 4 := Nat.pow_le_pow_right (by decide) hnb4
    unfold atS
    omega
  have hcl := cnt_le (atS σ nb (e : Int)).testBit 12
  obtain ⟨r, hre⟩ : ∃ r : Nat, σ.1 40 b = r := ⟨(σ.1 40 b).toNat, by omega⟩
  have hwr := d8 r (by omega)
  refine ev_aload_n dX7_moveOn_0 rfl ?_
  refine ev_getR (r := 37) dX7_moveOn_1 fl_X7_29 rfl rfl rfl ?_
  refine ev_getR (r := 41) dX7_moveOn_4 fl_X7_183 rfl rfl rfl ?_
  refine ev_iload_n dX7_moveOn_7 rfl ?_
  refine ev_dup2 dX7_moveOn_8 rfl rfl ?_
  refine ev_iaload dX7_moveOn_9 rfl (by first | omega | (simp [wr_at]; omega) | (simp [wr_at, *]; omega)) (by first | omega | (simp [wr_at]; omega) | (simp [wr_at, *]; omega)) (by decide) ?_
  refine ev_iconst dX7_moveOn_10 ?_
  refine ev_isub dX7_moveOn_11 ?_
  refine ev_iastore dX7_moveOn_12 rfl (by first | omega | (simp [wr_at]; omega) | (simp [wr_at, *]; omega)) (by first | omega | (simp [wr_at]; omega) | (simp [wr_at, *]; omega)) (by decide) (by first | exact hR.1 _ _ | exact hR0.1 _ _ | assumption | exact ⟨by omega, by omega⟩ | exact ⟨by simp [wr_at]; omega, by simp [wr_at]; omega⟩ | exact b2_R _ | exact bC_R _ | exact band_R _ _ | exact bor_R _ _ | exact bshl_R _ _ | exact bshr_R _ _ | exact bxor_R _ _ | exact bs_R (by omega) | decide) ?_
  refine ev_w (fun hR => ?_)
  refine ev_aload_n dX7_moveOn_13 rfl ?_
  refine ev_getR (r := 37) dX7_moveOn_14 fl_X7_29 rfl rfl rfl ?_
  refine ev_getR (r := 41) dX7_moveOn_17 fl_X7_183 rfl rfl rfl ?_
  refine ev_iload_n dX7_moveOn_20 rfl ?_
  refine ev_iaload dX7_moveOn_21 rfl (by first | omega | (simp [wr_at]; omega) | (simp [wr_at, *]; omega)) (by first | omega | (simp [wr_at]; omega) | (simp [wr_at, *]; omega)) (by decide) ?_
  rw [wr_eq]
  refine ev_if_le (tgt := 26) dX7_moveOn_22 (by decide) (by first | exact hR.1 _ _ | exact hR0.1 _ _ | assumption | exact ⟨by omega, by omega⟩ | exact ⟨by simp [wr_at]; omega, by simp [wr_at]; omega⟩ | exact b2_R _ | exact bC_R _ | exact band_R _ _ | exact bor_R _ _ | exact bshl_R _ _ | exact bshr_R _ _ | exact bxor_R _ _ | exact bs_R (by omega) | decide) (fun h_22 => ?_) (fun h_22 => ?_)
  · refine ev_aload_n dX7_moveOn_26 rfl ?_
    refine ev_getR (r := 37) dX7_moveOn_27 fl_X7_29 rfl rfl rfl ?_
    refine ev_getR (r := 39) dX7_moveOn_30 fl_X7_177 rfl rfl rfl ?_
    refine ev_iload_n dX7_moveOn_33 rfl ?_
    refine ev_iaload dX7_moveOn_34 rfl (by first | omega | (simp [wr_at]; omega) | (simp [wr_at, *]; omega)) (by first | omega | (simp [wr_at]; omega) | (simp [wr_at, *]; omega)) (by decide) ?_
    rw [wr_nec _ (by decide), he]
    refine ev_istore_n dX7_moveOn_35 rfl (by decide) rfl ?_
    refine ev_aload_n dX7_moveOn_36 rfl ?_
    refine ev_getR (r := 37) dX7_moveOn_37 fl_X7_29 rfl rfl rfl ?_
    refine ev_iload_n dX7_moveOn_40 rfl ?_
    refine ev_aload_n dX7_moveOn_41 rfl ?_
    refine ev_getQ (r := P) dX7_moveOn_42 fl_X7_19 rfl rfl hpl1 ?_
    refine ev_getI (kz := 2) dX7_moveOn_45 fl_X7_101 (plO hP) rfl rfl ?_
    rw [wr_nec _ (by omega), hnb]
    refine ev_callVI dX7_moveOn_48 kv_X7_137 (k_boysAt _ e nb ⟨by omega, by omega⟩ hnb4) rfl rfl (ci := 5) rfl rfl ⟨by decide, by decide⟩ (Nat.le_of_ble_eq_true rfl) ?_
    refine ev_w (fun hR => ?_)
    rw [show bs (fun b_1 => decide ((wr σ 41 b (σ.1 41 b - 1)).1 40 b_1 = -1 ∧ (wr σ 41 b (σ.1 41 b - 1)).1 39 b_1 = (e : Int))) nb = atS (wr σ 41 b (σ.1 41 b - 1)) nb e from rfl, hat]
    refine ev_callSI dX7_moveOn_51 ks_X7_228 (k_bitCount _ (atS σ nb (e : Int)) (by omega)) rfl rfl ⟨by decide, by decide⟩ (Nat.le_of_ble_eq_true rfl) ?_
    refine ev_w (fun hR => ?_)
    refine ev_aload_n dX7_moveOn_54 rfl ?_
    refine ev_getQ (r := P) dX7_moveOn_55 fl_X7_19 rfl rfl hpl1 ?_
    refine ev_getR (r := P + 3) dX7_moveOn_58 fl_X7_134 (plO hP) rfl rfl ?_
    refine ev_iload_n dX7_moveOn_61 rfl ?_
    refine ev_iaload dX7_moveOn_62 (plA3 hP) (by first | omega | (simp [wr_at]; omega) | (simp [wr_at, *]; omega)) (by first | omega | (simp [wr_at]; omega) | (simp [wr_at, *]; omega)) (by decide) ?_
    rw [wr_nec _ (by omega)]
    refine ev_icmp_lt (tgt := 77) dX7_moveOn_63 (by decide) (by first | exact hR.1 _ _ | exact hR0.1 _ _ | assumption | exact ⟨by omega, by omega⟩ | exact ⟨by simp [wr_at]; omega, by simp [wr_at]; omega⟩ | exact b2_R _ | exact bC_R _ | exact band_R _ _ | exact bor_R _ _ | exact bshl_R _ _ | exact bshr_R _ _ | exact bxor_R _ _ | exact bs_R (by omega) | decide) (by first | exact hR.1 _ _ | exact hR0.1 _ _ | assumption | exact ⟨by omega, by omega⟩ | exact ⟨by simp [wr_at]; omega, by simp [wr_at]; omega⟩ | exact b2_R _ | exact bC_R _ | exact band_R _ _ | exact bor_R _ _ | exact bshl_R _ _ | exact bshr_R _ _ | exact bxor_R _ _ | exact bs_R (by omega) | decide) (fun h_63 => ?_) (fun h_63 => ?_)
    · refine ev_aload_n dX7_moveOn_77 rfl ?_
      refine ev_iload_n dX7_moveOn_78 rfl ?_
      refine ev_callVV dX7_moveOn_79 kv_X7_332 (k_arrive (wr σ 41 b (σ.1 41 b - 1)) P n nr nb nl w dv b r f t hPO1 hPI1 hb (by omega) (by rw [wr_nec _ (by decide)]; exact hre) (by rw [wr_nec _ (by decide)]; exact hw) (by omega) (by rw [wr_nec _ (by decide)]; exact hdv) hdv2 (by rw [wr_nec _ (by decide)]; omega) (by rw [wr_nec _ (by decide)]; omega) (by rw [wr_nec _ (by decide)]; omega) (by rw [wr_nec _ (by decide)]; omega)) rfl rfl (ci := 7) rfl rfl ⟨by decide, by decide⟩ (Nat.le_of_ble_eq_true rfl) ?_
      refine ev_w (fun hR => ?_)
      refine ev_return dX7_moveOn_82 ?_
      exact ⟨rfl, by rw [movM, if_neg (by omega), he, if_neg (by omega), hre]; rfl⟩
    · refine ev_aload_n dX7_moveOn_66 rfl ?_
      refine ev_getR (r := 37) dX7_moveOn_67 fl_X7_29 rfl rfl rfl ?_
      refine ev_getR (r := 41) dX7_moveOn_70 fl_X7_183 rfl rfl rfl ?_
      refine ev_iload_n dX7_moveOn_73 rfl ?_
      refine ev_iconst dX7_moveOn_74 ?_
      refine ev_iastore dX7_moveOn_75 rfl (by first | omega | (simp [wr_at]; omega) | (simp [wr_at, *]; omega)) (by first | omega | (simp [wr_at]; omega) | (simp [wr_at, *]; omega)) (by decide) (by first | exact hR.1 _ _ | exact hR0.1 _ _ | assumption | exact ⟨by omega, by omega⟩ | exact ⟨by simp [wr_at]; omega, by simp [wr_at]; omega⟩ | exact b2_R _ | exact bC_R _ | exact band_R _ _ | exact bor_R _ _ | exact bshl_R _ _ | exact bshr_R _ _ | exact bxor_R _ _ | exact bs_R (by omega) | decide) ?_
      refine ev_w (fun hR => ?_)
      refine ev_return dX7_moveOn_76 ?_
      exact ⟨rfl, by rw [movM, if_neg (by omega), he, if_pos (by omega)]⟩
  · refine ev_return dX7_moveOn_25 ?_
    exact ⟨rfl, by rw [movM, if_pos (by omega)]⟩
