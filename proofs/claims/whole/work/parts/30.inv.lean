/-! what holds of the class's plan and of its state -/
def PlanOk (σ : Mem) (P n nr nb nl : Nat) (f t : Nat → Nat) : Prop :=
  PlanR σ P n nr f t ∧ (σ.1 P 2 = nb ∧ nb ≤ 4) ∧ (σ.1 P 3 = nl ∧ nl ≤ 4) ∧
  (∀ p : Nat, p < n → (0 ≤ σ.1 (P + 1) p ∧ σ.1 (P + 1) p ≤ 99) ∧ (0 ≤ σ.1 (P + 2) p ∧ σ.1 (P + 2) p ≤ 99) ∧ (1 ≤ σ.1 (P + 3) p ∧ σ.1 (P + 3) p ≤ 5) ∧ σ.1 (P + 4) p = (bs (fun r => decide (f r = p ∨ t r = p)) nr : Nat)) ∧
  (∀ r : Nat, r < nr → (1 ≤ σ.1 (P + 7) r ∧ σ.1 (P + 7) r ≤ 99) ∧ (1 ≤ σ.1 (P + 8) r ∧ σ.1 (P + 8) r ≤ 999)) ∧
  (∀ b : Nat, b < nb → (0 ≤ σ.1 (P + 9) b ∧ σ.1 (P + 9) b < n) ∧ (1 ≤ σ.1 (P + 10) b ∧ σ.1 (P + 10) b ≤ 200) ∧ (1 ≤ σ.1 (P + 11) b ∧ σ.1 (P + 11) b ≤ 50)) ∧
  (∀ l : Nat, l < nl → (0 ≤ σ.1 (P + 12) l ∧ σ.1 (P + 12) l < n) ∧ (0 ≤ σ.1 (P + 13) l ∧ σ.1 (P + 13) l < n) ∧ σ.1 (P + 12) l ≠ σ.1 (P + 13) l ∧ (0 ≤ σ.1 (P + 14) l ∧ σ.1 (P + 14) l ≤ 200) ∧ (0 ≤ σ.1 (P + 15) l ∧ σ.1 (P + 15) l ≤ 999) ∧ (0 ≤ σ.1 (P + 16) l ∧ σ.1 (P + 16) l ≤ 3))
theorem PlanOk.same {σ τ : Mem} {P n nr nb nl : Nat} {f t : Nat → Nat} {S : Nat → Prop} (h : PlanOk σ P n nr nb nl f t) (hs : Same S σ τ) (hn : ∀ k, k ≤ 16 → ¬ S (P + k)) : PlanOk τ P n nr nb nl f t := by
  obtain ⟨h1, h2, h3, h4, h5, h6, h7⟩ := h
  have e0 : τ.1 P = σ.1 P := hs.1 P (hn 0 (by omega))
  refine ⟨h1.same hs (hn 0 (by omega)) (hn 5 (by omega)) (hn 6 (by omega)), by rw [e0]; exact h2, by rw [e0]; exact h3, ?_, ?_, ?_, ?_⟩
  · rw [hs.1 _ (hn 1 (by omega)), hs.1 _ (hn 2 (by omega)), hs.1 _ (hn 3 (by omega)), hs.1 _ (hn 4 (by omega))]; exact h4
  · rw [hs.1 _ (hn 7 (by omega)), hs.1 _ (hn 8 (by omega))]; exact h5
  · rw [hs.1 _ (hn 9 (by omega)), hs.1 _ (hn 10 (by omega)), hs.1 _ (hn 11 (by omega))]; exact h6
  · rw [hs.1 _ (hn 12 (by omega)), hs.1 _ (hn 13 (by omega)), hs.1 _ (hn 14 (by omega)), hs.1 _ (hn 15 (by omega)), hs.1 _ (hn 16 (by omega))]; exact h7
/-- the plan in use is P -/
def PlIs (σ : Mem) (P : Nat) : Prop := σ.1 0 1 = (P : Int)
theorem PlIs.q {σ : Mem} {P : Nat} (h : PlIs σ P) : (σ.1 0 1).toNat = P := by unfold PlIs at h; omega
/-- which ropes are whole, which are wet -/
def Bits (σ : Mem) (w wt : Nat) : Prop := σ.1 37 3 = w ∧ w < 4096 ∧ σ.1 37 4 = wt ∧ wt < 4096
theorem sumI_R {f : Nat → Int} {n : Nat} {M : Int} (h : ∀ i, i < n → 0 ≤ f i ∧ f i ≤ M) : 0 ≤ sumI f n ∧ sumI f n ≤ M * n := by
  induction n with
  | zero => unfold sumI; omega
  | succ n ih =>
    have h1 := ih (fun i hi => h i (by omega))
    have h2 := h n (by omega)
    have h3 : M * ((n + 1 : Nat) : Int) = M * n + M := by rw [Int.natCast_succ, Int.mul_add, Int.mul_one]
    unfold sumI
    omega
/-- a boy's pounds with the loads of s; a kind among them; may he go; his minutes, or -1 -/
def lbs (σ : Mem) (cw nl s : Nat) : Int := sumI (fun l => if s.testBit l then σ.1 cw l else 0) nl
def anyK (σ : Mem) (ck nl s : Nat) (kd : Int) : Bool := anyB (fun l => s.testBit l && decide (σ.1 ck l = kd)) nl
def mayZ (σ : Mem) (P nl w r b s : Nat) : Prop := w.testBit r = true ∧ σ.1 (P + 10) b + lbs σ (P + 14) nl s ≤ σ.1 (P + 8) r ∧ (20 ≤ σ.1 (P + 7) r ∨ ¬ anyK σ (P + 16) nl s 3 = true)
def lev (m : Int) : Int := m + max 1 (m.tdiv 2)
def min0 (fe pa : Int) : Int := (fe + pa - 1).tdiv pa
def minF (fe pa : Int) (lv wt : Bool) (dry : Int) : Int := if wt = true ∧ dry = 0 then 2 * (if lv = true then lev (min0 fe pa) else min0 fe pa) else (if lv = true then lev (min0 fe pa) else min0 fe pa)
theorem lbs_R {σ : Mem} {cw nl s : Nat} (h : ∀ l : Nat, l < nl → 0 ≤ σ.1 cw l ∧ σ.1 cw l ≤ 200) (hn : nl ≤ 4) : 0 ≤ lbs σ cw nl s ∧ lbs σ cw nl s ≤ 800 := by
  have := sumI_R (f := fun l => if s.testBit l then σ.1 cw l else 0) (n := nl) (M := 200) (fun i hi => by
    have := h i hi
    show 0 ≤ (if s.testBit i then σ.1 cw i else 0) ∧ (if s.testBit i then σ.1 cw i else 0) ≤ 200
    split <;> omega)
  unfold lbs
  omega
theorem min0_R {fe pa : Int} (h1 : 1 ≤ fe) (h2 : fe ≤ 99) (h3 : 1 ≤ pa) (h4 : pa ≤ 50) : 1 ≤ min0 fe pa ∧ min0 fe pa ≤ 99 := by
  unfold min0
  rw [Int.tdiv_eq_ediv_of_nonneg (by omega)]
  refine ⟨?_, ?_⟩
  · have : 1 * pa ≤ fe + pa - 1 := by omega
    exact (Int.le_ediv_iff_mul_le (by omega)).mpr this
  · have : fe + pa - 1 < (99 + 1) * pa := by
      have : 99 * 1 ≤ 99 * pa := Int.mul_le_mul_of_nonneg_left h3 (by decide)
      omega
    have := (Int.ediv_lt_iff_lt_mul (show 0 < pa by omega)).mpr this
    omega
theorem lev_R {m : Int} (h1 : 1 ≤ m) (h2 : m ≤ 99) : 1 ≤ lev m ∧ lev m ≤ 200 := by
  unfold lev
  rw [Int.tdiv_eq_ediv_of_nonneg (by omega)]
  omega
theorem minF_R {fe pa : Int} {lv wt : Bool} {dry : Int} (h1 : 1 ≤ fe) (h2 : fe ≤ 99) (h3 : 1 ≤ pa) (h4 : pa ≤ 50) : 1 ≤ minF fe pa lv wt dry ∧ minF fe pa lv wt dry ≤ 400 := by
  have a1 := min0_R h1 h2 h3 h4
  have a2 := lev_R a1.1 a1.2
  unfold minF
  split <;> split <;> omega
/-- the minutes of boy b on rope r with the loads of s; -1 where he may not go -/
def minZ (σ : Mem) (P nl w wt r b s : Nat) (dry : Int) : Int := if w.testBit r = true ∧ σ.1 (P + 10) b + lbs σ (P + 14) nl s ≤ σ.1 (P + 8) r ∧ (20 ≤ σ.1 (P + 7) r ∨ ¬ anyK σ (P + 16) nl s 3 = true) then minF (σ.1 (P + 7) r) (σ.1 (P + 11) b) (anyK σ (P + 16) nl s 2) (wt.testBit r) dry else -1
theorem k_mayBeGone (σ : Mem) (P n nr nb nl w wt : Nat) (f t : Nat → Nat) (hPO : PlanOk σ P n nr nb nl f t) (hPI : PlIs σ P) (hBt : Bits σ w wt) (r b s : Nat) (hr : r < nr) (hb : b < nb) (hs : s < 2 ^ 31) : Con yX7_mayBeGone cX7_mayBeGone 4 (some .boolean) 2 44 [.ref 0, .int (iI r), .int (iI b), .int (iI s)] σ (AnsI (b2 (w.testBit r = true ∧ σ.1 (P + 10) b + lbs σ (P + 14) nl s ≤ σ.1 (P + 8) r ∧ (20 ≤ σ.1 (P + 7) r ∨ ¬ anyK σ (P + 16) nl s 3 = true))) σ) := by
  refine con_of (by decide) rfl (Nat.le_of_ble_eq_true rfl) (ok_Z rfl (b2_01 _)) ?_
  refine ev_w (fun hR => ?_)
  have hR0 := hR
  obtain ⟨hPR, ⟨hnb, hnb4⟩, ⟨hnl, hnl4⟩, hpo, hro, hbo, hlo⟩ := id hPO
  obtain ⟨hP, hn, hn8, hnr, hnr12, hft⟩ := id hPR
  obtain ⟨hw, hw2, hwt, hwt2⟩ := hBt
  have hpl := hPI.q
  have hlb := lbs_R (s := s) (fun l hl => (hlo l hl).2.2.2.1) hnl4
  have hbb := hbo b hb
  have hrr := hro r hr
  refine ev_aload_n dX7_mayBeGone_0 rfl ?_
  refine ev_getR (r := 37) dX7_mayBeGone_1 fl_X7_29 rfl rfl rfl ?_
  refine ev_getI (kz := 3) dX7_mayBeGone_4 fl_X7_119 rfl rfl rfl ?_
  rw [hw]
  refine ev_iload_n dX7_mayBeGone_7 rfl ?_
  refine ev_callSI dX7_mayBeGone_8 ks_X7_237 (k_has σ w r (by omega) (by omega)) rfl rfl ⟨by decide, by decide⟩ (Nat.le_of_ble_eq_true rfl) ?_
  refine ev_w (fun hR => ?_)
  refine ev_if_eq (tgt := 44) dX7_mayBeGone_11 (by decide) (by first | exact hR.1 _ _ | exact hR0.1 _ _ | assumption | exact ⟨by omega, by omega⟩ | exact ⟨by simp [wr_at]; omega, by simp [wr_at]; omega⟩ | exact b2_R _ | exact band_R _ _ | exact bor_R _ _ | exact bshl_R _ _ | exact bshr_R _ _ | exact bxor_R _ _ | exact bs_R (by omega) | decide) (fun h_11 => ?_) (fun h_11 => ?_)
  · refine ev_iconst dX7_mayBeGone_44 ?_
    refine ev_ireturn dX7_mayBeGone_45 ?_
    first
      | (have q := b2_eq h_11; exact ⟨by rw [b2_f (fun z => q z.1)], rfl⟩)
      | exact ⟨by rw [b2_f (fun z => by omega)], rfl⟩
  · refine ev_aload_n dX7_mayBeGone_14 rfl ?_
    refine ev_getQ (r := P) dX7_mayBeGone_15 fl_X7_19 rfl rfl hpl ?_
    refine ev_getR (r := P + 10) dX7_mayBeGone_18 fl_X7_186 (plO hP) rfl rfl ?_
    refine ev_iload_n dX7_mayBeGone_21 rfl ?_
    refine ev_iaload dX7_mayBeGone_22 (plA10 hP) (by first | omega | (simp [wr_at]; omega) | (simp [wr_at, *]; omega)) (by first | omega | (simp [wr_at]; omega) | (simp [wr_at, *]; omega)) (by decide) ?_
    refine ev_aload_n dX7_mayBeGone_23 rfl ?_
    refine ev_getQ (r := P) dX7_mayBeGone_24 fl_X7_19 rfl rfl hpl ?_
    refine ev_iload_n dX7_mayBeGone_27 rfl ?_
    refine ev_callVI dX7_mayBeGone_28 kv_X7_315 (k_poundsOf σ P nl s hP hs hnl hnl4) rfl (plO hP) (ci := 2) rfl rfl ⟨by decide, by decide⟩ (Nat.le_of_ble_eq_true rfl) ?_
    refine ev_w (fun hR => ?_)
    rw [show sumI (fun l => if s.testBit l then σ.1 (P + 14) l else 0) nl = lbs σ (P + 14) nl s from rfl]
    refine ev_iadd dX7_mayBeGone_31 ?_
    refine ev_aload_n dX7_mayBeGone_32 rfl ?_
    refine ev_getQ (r := P) dX7_mayBeGone_33 fl_X7_19 rfl rfl hpl ?_
    refine ev_getR (r := P + 8) dX7_mayBeGone_36 fl_X7_156 (plO hP) rfl rfl ?_
    refine ev_iload_n dX7_mayBeGone_39 rfl ?_
    refine ev_iaload dX7_mayBeGone_40 (plA8 hP) (by first | omega | (simp [wr_at]; omega) | (simp [wr_at, *]; omega)) (by first | omega | (simp [wr_at]; omega) | (simp [wr_at, *]; omega)) (by decide) ?_
    refine ev_icmp_le (tgt := 46) dX7_mayBeGone_41 (by decide) (by first | exact hR.1 _ _ | exact hR0.1 _ _ | assumption | exact ⟨by omega, by omega⟩ | exact ⟨by simp [wr_at]; omega, by simp [wr_at]; omega⟩ | exact b2_R _ | exact band_R _ _ | exact bor_R _ _ | exact bshl_R _ _ | exact bshr_R _ _ | exact bxor_R _ _ | exact bs_R (by omega) | decide) (by first | exact hR.1 _ _ | exact hR0.1 _ _ | assumption | exact ⟨by omega, by omega⟩ | exact ⟨by simp [wr_at]; omega, by simp [wr_at]; omega⟩ | exact b2_R _ | exact band_R _ _ | exact bor_R _ _ | exact bshl_R _ _ | exact bshr_R _ _ | exact bxor_R _ _ | exact bs_R (by omega) | decide) (fun h_41 => ?_) (fun h_41 => ?_)
    · refine ev_aload_n dX7_mayBeGone_46 rfl ?_
      refine ev_getQ (r := P) dX7_mayBeGone_47 fl_X7_19 rfl rfl hpl ?_
      refine ev_getR (r := P + 7) dX7_mayBeGone_50 fl_X7_153 (plO hP) rfl rfl ?_
      refine ev_iload_n dX7_mayBeGone_53 rfl ?_
      refine ev_iaload dX7_mayBeGone_54 (plA7 hP) (by first | omega | (simp [wr_at]; omega) | (simp [wr_at, *]; omega)) (by first | omega | (simp [wr_at]; omega) | (simp [wr_at, *]; omega)) (by decide) ?_
      refine ev_bipush dX7_mayBeGone_55 (by decide) ?_
      refine ev_icmp_ge (tgt := 72) dX7_mayBeGone_57 (by decide) (by first | exact hR.1 _ _ | exact hR0.1 _ _ | assumption | exact ⟨by omega, by omega⟩ | exact ⟨by simp [wr_at]; omega, by simp [wr_at]; omega⟩ | exact b2_R _ | exact band_R _ _ | exact bor_R _ _ | exact bshl_R _ _ | exact bshr_R _ _ | exact bxor_R _ _ | exact bs_R (by omega) | decide) (by first | exact hR.1 _ _ | exact hR0.1 _ _ | assumption | exact ⟨by omega, by omega⟩ | exact ⟨by simp [wr_at]; omega, by simp [wr_at]; omega⟩ | exact b2_R _ | exact band_R _ _ | exact bor_R _ _ | exact bshl_R _ _ | exact bshr_R _ _ | exact bxor_R _ _ | exact bs_R (by omega) | decide) (fun h_57 => ?_) (fun h_57 => ?_)
      · refine ev_iconst dX7_mayBeGone_72 ?_
        refine ev_goto (tgt := 77) dX7_mayBeGone_73 (by decide) ?_
        refine ev_ireturn dX7_mayBeGone_77 ?_
        have q0 := b2_ne h_11
        first
          | exact ⟨by rw [b2_t ⟨q0, by omega, Or.inl (by omega)⟩], rfl⟩
          | (have q := b2_ne h_69; exact ⟨by rw [b2_f (fun z => z.2.2.elim (fun y => by omega) (fun y => y q))], rfl⟩)
          | (have q := b2_eq (Decidable.not_not.mp h_69); exact ⟨by rw [b2_t ⟨q0, by omega, Or.inr q⟩], rfl⟩)
          | (have q := b2_eq h_69; exact ⟨by rw [b2_t ⟨q0, by omega, Or.inr q⟩], rfl⟩)
      · refine ev_aload_n dX7_mayBeGone_60 rfl ?_
        refine ev_getQ (r := P) dX7_mayBeGone_61 fl_X7_19 rfl rfl hpl ?_
        refine ev_iload_n dX7_mayBeGone_64 rfl ?_
        refine ev_iconst dX7_mayBeGone_65 ?_
        refine ev_callVI dX7_mayBeGone_66 kv_X7_318 (k_anyOfKind σ P nl s 3 hP hs (by decide) hnl hnl4) rfl (plO hP) (ci := 2) rfl rfl ⟨by decide, by decide⟩ (Nat.le_of_ble_eq_true rfl) ?_
        refine ev_w (fun hR => ?_)
        refine ev_if_ne (tgt := 76) dX7_mayBeGone_69 (by decide) (by first | exact hR.1 _ _ | exact hR0.1 _ _ | assumption | exact ⟨by omega, by omega⟩ | exact ⟨by simp [wr_at]; omega, by simp [wr_at]; omega⟩ | exact b2_R _ | exact band_R _ _ | exact bor_R _ _ | exact bshl_R _ _ | exact bshr_R _ _ | exact bxor_R _ _ | exact bs_R (by omega) | decide) (fun h_69 => ?_) (fun h_69 => ?_)
        · refine ev_iconst dX7_mayBeGone_76 ?_
          refine ev_ireturn dX7_mayBeGone_77 ?_
          have q0 := b2_ne h_11
          first
            | exact ⟨by rw [b2_t ⟨q0, by omega, Or.inl (by omega)⟩], rfl⟩
            | (have q := b2_ne h_69; exact ⟨by rw [b2_f (fun z => z.2.2.elim (fun y => by omega) (fun y => y q))], rfl⟩)
            | (have q := b2_eq (Decidable.not_not.mp h_69); exact ⟨by rw [b2_t ⟨q0, by omega, Or.inr q⟩], rfl⟩)
            | (have q := b2_eq h_69; exact ⟨by rw [b2_t ⟨q0, by omega, Or.inr q⟩], rfl⟩)
        · refine ev_iconst dX7_mayBeGone_72 ?_
          refine ev_goto (tgt := 77) dX7_mayBeGone_73 (by decide) ?_
          refine ev_ireturn dX7_mayBeGone_77 ?_
          have q0 := b2_ne h_11
          first
            | exact ⟨by rw [b2_t ⟨q0, by omega, Or.inl (by omega)⟩], rfl⟩
            | (have q := b2_ne h_69; exact ⟨by rw [b2_f (fun z => z.2.2.elim (fun y => by omega) (fun y => y q))], rfl⟩)
            | (have q := b2_eq (Decidable.not_not.mp h_69); exact ⟨by rw [b2_t ⟨q0, by omega, Or.inr q⟩], rfl⟩)
            | (have q := b2_eq h_69; exact ⟨by rw [b2_t ⟨q0, by omega, Or.inr q⟩], rfl⟩)
    · refine ev_iconst dX7_mayBeGone_44 ?_
      refine ev_ireturn dX7_mayBeGone_45 ?_
      first
        | (have q := b2_eq h_11; exact ⟨by rw [b2_f (fun z => q z.1)], rfl⟩)
        | exact ⟨by rw [b2_f (fun z => by omega)], rfl⟩
theorem k_minutesOn (σ : Mem) (P n nr nb nl w wt : Nat) (f t : Nat → Nat) (hPO : PlanOk σ P n nr nb nl f t) (hPI : PlIs σ P) (hBt : Bits σ w wt) (r b s : Nat) (dry : Int) (hr : r < nr) (hb : b < nb) (hs : s < 2 ^ 31) (hdr : dry = 0 ∨ dry = 1) : Con yX7_minutesOn cX7_minutesOn 7 (some .int) 3 67 [.ref 0, .int (iI r), .int (iI b), .int (iI s), .int (iI dry)] σ (AnsI (minZ σ P nl w wt r b s dry) σ) := by
  refine con_of (by decide) rfl (Nat.le_of_ble_eq_true rfl) (ok_I rfl) ?_
  refine ev_w (fun hR => ?_)
  have hR0 := hR
  obtain ⟨hPR, ⟨hnb, hnb4⟩, ⟨hnl, hnl4⟩, hpo, hro, hbo, hlo⟩ := id hPO
  obtain ⟨hP, hn, hn8, hnr, hnr12, hft⟩ := id hPR
  obtain ⟨hw, hw2, hwt, hwt2⟩ := hBt
  have hpl := hPI.q
  have hbb := hbo b hb
  have hrr := hro r hr
  have hm0 := min0_R hrr.1.1 hrr.1.2 hbb.2.2.1 hbb.2.2.2
  have hlv := lev_R hm0.1 hm0.2
  have htd : 0 ≤ (min0 (σ.1 (P + 7) r) (σ.1 (P + 11) b)).tdiv 2 ∧ (min0 (σ.1 (P + 7) r) (σ.1 (P + 11) b)).tdiv 2 ≤ 99 := by rw [Int.tdiv_eq_ediv_of_nonneg (by omega)]; omega
  refine ev_aload_n dX7_minutesOn_0 rfl ?_
  refine ev_getQ (r := P) dX7_minutesOn_1 fl_X7_19 rfl rfl hpl ?_
  refine ev_getR (r := P + 11) dX7_minutesOn_4 fl_X7_189 (plO hP) rfl rfl ?_
  refine ev_iload_n dX7_minutesOn_7 rfl ?_
  refine ev_iaload dX7_minutesOn_8 (plA11 hP) (by first | omega | (simp [wr_at]; omega) | (simp [wr_at, *]; omega)) (by first | omega | (simp [wr_at]; omega) | (simp [wr_at, *]; omega)) (by decide) ?_
  refine ev_istore dX7_minutesOn_9 rfl (by decide) rfl ?_
  refine ev_iload dX7_minutesOn_11 rfl ?_
  refine ev_iconst dX7_minutesOn_13 ?_
  refine ev_icmp_lt (tgt := 27) dX7_minutesOn_14 (by decide) (by first | exact hR.1 _ _ | exact hR0.1 _ _ | assumption | exact ⟨by omega, by omega⟩ | exact ⟨by simp [wr_at]; omega, by simp [wr_at]; omega⟩ | exact b2_R _ | exact band_R _ _ | exact bor_R _ _ | exact bshl_R _ _ | exact bshr_R _ _ | exact bxor_R _ _ | exact bs_R (by omega) | decide) (by first | exact hR.1 _ _ | exact hR0.1 _ _ | assumption | exact ⟨by omega, by omega⟩ | exact ⟨by simp [wr_at]; omega, by simp [wr_at]; omega⟩ | exact b2_R _ | exact band_R _ _ | exact bor_R _ _ | exact bshl_R _ _ | exact bshr_R _ _ | exact bxor_R _ _ | exact bs_R (by omega) | decide) (fun h_14 => ?_) (fun h_14 => ?_)
  · refine ev_iconst dX7_minutesOn_27 ?_
    refine ev_ireturn dX7_minutesOn_28 ?_
    first
      | omega
      | (have q := b2_eq h_24; exact ⟨by rw [minZ, if_neg q], rfl⟩)
      | (have q := b2_eq (Decidable.not_not.mp h_24); exact ⟨by rw [minZ, if_neg q], rfl⟩)
  · refine ev_aload_n dX7_minutesOn_17 rfl ?_
    refine ev_iload_n dX7_minutesOn_18 rfl ?_
    refine ev_iload_n dX7_minutesOn_19 rfl ?_
    refine ev_iload_n dX7_minutesOn_20 rfl ?_
    refine ev_callVI dX7_minutesOn_21 kv_X7_321 (k_mayBeGone σ P n nr nb nl w wt f t hPO hPI ⟨hw, hw2, hwt, hwt2⟩ r b s hr hb hs) rfl rfl (ci := 7) rfl rfl ⟨by decide, by decide⟩ (Nat.le_of_ble_eq_true rfl) ?_
    refine ev_w (fun hR => ?_)
    refine ev_if_ne (tgt := 29) dX7_minutesOn_24 (by decide) (by first | exact hR.1 _ _ | exact hR0.1 _ _ | assumption | exact ⟨by omega, by omega⟩ | exact ⟨by simp [wr_at]; omega, by simp [wr_at]; omega⟩ | exact b2_R _ | exact band_R _ _ | exact bor_R _ _ | exact bshl_R _ _ | exact bshr_R _ _ | exact bxor_R _ _ | exact bs_R (by omega) | decide) (fun h_24 => ?_) (fun h_24 => ?_)
    · refine ev_aload_n dX7_minutesOn_29 rfl ?_
      refine ev_getQ (r := P) dX7_minutesOn_30 fl_X7_19 rfl rfl hpl ?_
      refine ev_getR (r := P + 7) dX7_minutesOn_33 fl_X7_153 (plO hP) rfl rfl ?_
      refine ev_iload_n dX7_minutesOn_36 rfl ?_
      refine ev_iaload dX7_minutesOn_37 (plA7 hP) (by first | omega | (simp [wr_at]; omega) | (simp [wr_at, *]; omega)) (by first | omega | (simp [wr_at]; omega) | (simp [wr_at, *]; omega)) (by decide) ?_
      refine ev_iload dX7_minutesOn_38 rfl ?_
      refine ev_iadd dX7_minutesOn_40 ?_
      refine ev_iconst dX7_minutesOn_41 ?_
      refine ev_isub dX7_minutesOn_42 ?_
      refine ev_iload dX7_minutesOn_43 rfl ?_
      refine ev_idiv dX7_minutesOn_45 (by first | exact hR.1 _ _ | exact hR0.1 _ _ | assumption | exact ⟨by omega, by omega⟩ | exact ⟨by simp [wr_at]; omega, by simp [wr_at]; omega⟩ | exact b2_R _ | exact band_R _ _ | exact bor_R _ _ | exact bshl_R _ _ | exact bshr_R _ _ | exact bxor_R _ _ | exact bs_R (by omega) | decide) (by first | exact hR.1 _ _ | exact hR0.1 _ _ | assumption | exact ⟨by omega, by omega⟩ | exact ⟨by simp [wr_at]; omega, by simp [wr_at]; omega⟩ | exact b2_R _ | exact band_R _ _ | exact bor_R _ _ | exact bshl_R _ _ | exact bshr_R _ _ | exact bxor_R _ _ | exact bs_R (by omega) | decide) (by omega) (by omega) ?_
      rw [show (σ.1 (P + 7) r + σ.1 (P + 11) b - 1).tdiv (σ.1 (P + 11) b) = min0 (σ.1 (P + 7) r) (σ.1 (P + 11) b) from rfl]
      refine ev_istore dX7_minutesOn_46 rfl (by decide) rfl ?_
      refine ev_aload_n dX7_minutesOn_48 rfl ?_
      refine ev_getQ (r := P) dX7_minutesOn_49 fl_X7_19 rfl rfl hpl ?_
      refine ev_iload_n dX7_minutesOn_52 rfl ?_
      refine ev_iconst dX7_minutesOn_53 ?_
      refine ev_callVI dX7_minutesOn_54 kv_X7_318 (k_anyOfKind σ P nl s 2 hP hs (by decide) hnl hnl4) rfl (plO hP) (ci := 2) rfl rfl ⟨by decide, by decide⟩ (Nat.le_of_ble_eq_true rfl) ?_
      refine ev_w (fun hR => ?_)
      refine ev_if_eq (tgt := 73) dX7_minutesOn_57 (by decide) (by first | exact hR.1 _ _ | exact hR0.1 _ _ | assumption | exact ⟨by omega, by omega⟩ | exact ⟨by simp [wr_at]; omega, by simp [wr_at]; omega⟩ | exact b2_R _ | exact band_R _ _ | exact bor_R _ _ | exact bshl_R _ _ | exact bshr_R _ _ | exact bxor_R _ _ | exact bs_R (by omega) | decide) (fun h_57 => ?_) (fun h_57 => ?_)
      · refine ev_aload_n dX7_minutesOn_73 rfl ?_
        refine ev_getR (r := 37) dX7_minutesOn_74 fl_X7_29 rfl rfl rfl ?_
        refine ev_getI (kz := 4) dX7_minutesOn_77 fl_X7_162 rfl rfl rfl ?_
        rw [hwt]
        refine ev_iload_n dX7_minutesOn_80 rfl ?_
        refine ev_callSI dX7_minutesOn_81 ks_X7_237 (k_has σ wt r (by omega) (by omega)) rfl rfl ⟨by decide, by decide⟩ (Nat.le_of_ble_eq_true rfl) ?_
        refine ev_w (fun hR => ?_)
        refine ev_if_eq (tgt := 99) dX7_minutesOn_84 (by decide) (by first | exact hR.1 _ _ | exact hR0.1 _ _ | assumption | exact ⟨by omega, by omega⟩ | exact ⟨by simp [wr_at]; omega, by simp [wr_at]; omega⟩ | exact b2_R _ | exact band_R _ _ | exact bor_R _ _ | exact bshl_R _ _ | exact bshr_R _ _ | exact bxor_R _ _ | exact bs_R (by omega) | decide) (fun h_84 => ?_) (fun h_84 => ?_)
        · refine ev_iload dX7_minutesOn_99 rfl ?_
          refine ev_ireturn dX7_minutesOn_101 ?_
          have q0 := b2_ne h_24
          refine ⟨?_, rfl⟩
          rw [minZ, if_pos q0, minF]
          first
            | (have a : anyK σ (P + 16) nl s 2 = true := b2_ne h_57; have c := b2_ne h_84; rw [if_pos ⟨c, h_89⟩, if_pos a] <;> rfl)
            | (have a : ¬ anyK σ (P + 16) nl s 2 = true := b2_eq h_57; have c := b2_ne h_84; rw [if_pos ⟨c, h_89⟩, if_neg a] <;> rfl)
            | (have a : anyK σ (P + 16) nl s 2 = true := b2_ne h_57; have c := b2_ne h_84; rw [if_neg (fun z => h_89 z.2), if_pos a] <;> rfl)
            | (have a : ¬ anyK σ (P + 16) nl s 2 = true := b2_eq h_57; have c := b2_ne h_84; rw [if_neg (fun z => h_89 z.2), if_neg a] <;> rfl)
            | (have a : anyK σ (P + 16) nl s 2 = true := b2_ne h_57; have c := b2_eq h_84; rw [if_neg (fun z => c z.1), if_pos a] <;> rfl)
            | (have a : ¬ anyK σ (P + 16) nl s 2 = true := b2_eq h_57; have c := b2_eq h_84; rw [if_neg (fun z => c z.1), if_neg a] <;> rfl)
        · refine ev_iload dX7_minutesOn_87 rfl ?_
          refine ev_if_ne (tgt := 99) dX7_minutesOn_89 (by decide) (by first | exact hR.1 _ _ | exact hR0.1 _ _ | assumption | exact ⟨by omega, by omega⟩ | exact ⟨by simp [wr_at]; omega, by simp [wr_at]; omega⟩ | exact b2_R _ | exact band_R _ _ | exact bor_R _ _ | exact bshl_R _ _ | exact bshr_R _ _ | exact bxor_R _ _ | exact bs_R (by omega) | decide) (fun h_89 => ?_) (fun h_89 => ?_)
          · refine ev_iload dX7_minutesOn_99 rfl ?_
            refine ev_ireturn dX7_minutesOn_101 ?_
            have q0 := b2_ne h_24
            refine ⟨?_, rfl⟩
            rw [minZ, if_pos q0, minF]
            first
              | (have a : anyK σ (P + 16) nl s 2 = true := b2_ne h_57; have c := b2_ne h_84; rw [if_pos ⟨c, h_89⟩, if_pos a] <;> rfl)
              | (have a : ¬ anyK σ (P + 16) nl s 2 = true := b2_eq h_57; have c := b2_ne h_84; rw [if_pos ⟨c, h_89⟩, if_neg a] <;> rfl)
              | (have a : anyK σ (P + 16) nl s 2 = true := b2_ne h_57; have c := b2_ne h_84; rw [if_neg (fun z => h_89 z.2), if_pos a] <;> rfl)
              | (have a : ¬ anyK σ (P + 16) nl s 2 = true := b2_eq h_57; have c := b2_ne h_84; rw [if_neg (fun z => h_89 z.2), if_neg a] <;> rfl)
              | (have a : anyK σ (P + 16) nl s 2 = true := b2_ne h_57; have c := b2_eq h_84; rw [if_neg (fun z => c z.1), if_pos a] <;> rfl)
              | (have a : ¬ anyK σ (P + 16) nl s 2 = true := b2_eq h_57; have c := b2_eq h_84; rw [if_neg (fun z => c z.1), if_neg a] <;> rfl)
          · refine ev_iconst dX7_minutesOn_92 ?_
            refine ev_iload dX7_minutesOn_93 rfl ?_
            refine ev_imul dX7_minutesOn_95 ?_
            refine ev_goto (tgt := 101) dX7_minutesOn_96 (by decide) ?_
            refine ev_ireturn dX7_minutesOn_101 ?_
            have q0 := b2_ne h_24
            refine ⟨?_, rfl⟩
            rw [minZ, if_pos q0, minF]
            first
              | (have a : anyK σ (P + 16) nl s 2 = true := b2_ne h_57; have c := b2_ne h_84; rw [if_pos ⟨c, h_89⟩, if_pos a] <;> rfl)
              | (have a : ¬ anyK σ (P + 16) nl s 2 = true := b2_eq h_57; have c := b2_ne h_84; rw [if_pos ⟨c, h_89⟩, if_neg a] <;> rfl)
              | (have a : anyK σ (P + 16) nl s 2 = true := b2_ne h_57; have c := b2_ne h_84; rw [if_neg (fun z => h_89 z.2), if_pos a] <;> rfl)
              | (have a : ¬ anyK σ (P + 16) nl s 2 = true := b2_eq h_57; have c := b2_ne h_84; rw [if_neg (fun z => h_89 z.2), if_neg a] <;> rfl)
              | (have a : anyK σ (P + 16) nl s 2 = true := b2_ne h_57; have c := b2_eq h_84; rw [if_neg (fun z => c z.1), if_pos a] <;> rfl)
              | (have a : ¬ anyK σ (P + 16) nl s 2 = true := b2_eq h_57; have c := b2_eq h_84; rw [if_neg (fun z => c z.1), if_neg a] <;> rfl)
      · refine ev_iload dX7_minutesOn_60 rfl ?_
        refine ev_iconst dX7_minutesOn_62 ?_
        refine ev_iload dX7_minutesOn_63 rfl ?_
        refine ev_iconst dX7_minutesOn_65 ?_
        refine ev_idiv dX7_minutesOn_66 (by first | exact hR.1 _ _ | exact hR0.1 _ _ | assumption | exact ⟨by omega, by omega⟩ | exact ⟨by simp [wr_at]; omega, by simp [wr_at]; omega⟩ | exact b2_R _ | exact band_R _ _ | exact bor_R _ _ | exact bshl_R _ _ | exact bshr_R _ _ | exact bxor_R _ _ | exact bs_R (by omega) | decide) (by first | exact hR.1 _ _ | exact hR0.1 _ _ | assumption | exact ⟨by omega, by omega⟩ | exact ⟨by simp [wr_at]; omega, by simp [wr_at]; omega⟩ | exact b2_R _ | exact band_R _ _ | exact bor_R _ _ | exact bshl_R _ _ | exact bshr_R _ _ | exact bxor_R _ _ | exact bs_R (by omega) | decide) (by omega) (by omega) ?_
        refine ev_mmax dX7_minutesOn_67 ks_X7_324 (by first | exact hR.1 _ _ | exact hR0.1 _ _ | assumption | exact ⟨by omega, by omega⟩ | exact ⟨by simp [wr_at]; omega, by simp [wr_at]; omega⟩ | exact b2_R _ | exact band_R _ _ | exact bor_R _ _ | exact bshl_R _ _ | exact bshr_R _ _ | exact bxor_R _ _ | exact bs_R (by omega) | decide) (by first | exact hR.1 _ _ | exact hR0.1 _ _ | assumption | exact ⟨by omega, by omega⟩ | exact ⟨by simp [wr_at]; omega, by simp [wr_at]; omega⟩ | exact b2_R _ | exact band_R _ _ | exact bor_R _ _ | exact bshl_R _ _ | exact bshr_R _ _ | exact bxor_R _ _ | exact bs_R (by omega) | decide) (by decide) (by decide) (Nat.le_of_ble_eq_true rfl) ?_
        refine ev_iadd dX7_minutesOn_70 ?_
        refine ev_istore dX7_minutesOn_71 rfl (by decide) rfl ?_
        refine ev_aload_n dX7_minutesOn_73 rfl ?_
        refine ev_getR (r := 37) dX7_minutesOn_74 fl_X7_29 rfl rfl rfl ?_
        refine ev_getI (kz := 4) dX7_minutesOn_77 fl_X7_162 rfl rfl rfl ?_
        rw [hwt]
        refine ev_iload_n dX7_minutesOn_80 rfl ?_
        refine ev_callSI dX7_minutesOn_81 ks_X7_237 (k_has σ wt r (by omega) (by omega)) rfl rfl ⟨by decide, by decide⟩ (Nat.le_of_ble_eq_true rfl) ?_
        refine ev_w (fun hR => ?_)
        refine ev_if_eq (tgt := 99) dX7_minutesOn_84 (by decide) (by first | exact hR.1 _ _ | exact hR0.1 _ _ | assumption | exact ⟨by omega, by omega⟩ | exact ⟨by simp [wr_at]; omega, by simp [wr_at]; omega⟩ | exact b2_R _ | exact band_R _ _ | exact bor_R _ _ | exact bshl_R _ _ | exact bshr_R _ _ | exact bxor_R _ _ | exact bs_R (by omega) | decide) (fun h_84 => ?_) (fun h_84 => ?_)
        · refine ev_iload dX7_minutesOn_99 rfl ?_
          refine ev_ireturn dX7_minutesOn_101 ?_
          have q0 := b2_ne h_24
          refine ⟨?_, rfl⟩
          rw [minZ, if_pos q0, minF]
          first
            | (have a : anyK σ (P + 16) nl s 2 = true := b2_ne h_57; have c := b2_ne h_84; rw [if_pos ⟨c, h_89⟩, if_pos a] <;> rfl)
            | (have a : ¬ anyK σ (P + 16) nl s 2 = true := b2_eq h_57; have c := b2_ne h_84; rw [if_pos ⟨c, h_89⟩, if_neg a] <;> rfl)
            | (have a : anyK σ (P + 16) nl s 2 = true := b2_ne h_57; have c := b2_ne h_84; rw [if_neg (fun z => h_89 z.2), if_pos a] <;> rfl)
            | (have a : ¬ anyK σ (P + 16) nl s 2 = true := b2_eq h_57; have c := b2_ne h_84; rw [if_neg (fun z => h_89 z.2), if_neg a] <;> rfl)
            | (have a : anyK σ (P + 16) nl s 2 = true := b2_ne h_57; have c := b2_eq h_84; rw [if_neg (fun z => c z.1), if_pos a] <;> rfl)
            | (have a : ¬ anyK σ (P + 16) nl s 2 = true := b2_eq h_57; have c := b2_eq h_84; rw [if_neg (fun z => c z.1), if_neg a] <;> rfl)
        · refine ev_iload dX7_minutesOn_87 rfl ?_
          refine ev_if_ne (tgt := 99) dX7_minutesOn_89 (by decide) (by first | exact hR.1 _ _ | exact hR0.1 _ _ | assumption | exact ⟨by omega, by omega⟩ | exact ⟨by simp [wr_at]; omega, by simp [wr_at]; omega⟩ | exact b2_R _ | exact band_R _ _ | exact bor_R _ _ | exact bshl_R _ _ | exact bshr_R _ _ | exact bxor_R _ _ | exact bs_R (by omega) | decide) (fun h_89 => ?_) (fun h_89 => ?_)
          · refine ev_iload dX7_minutesOn_99 rfl ?_
            refine ev_ireturn dX7_minutesOn_101 ?_
            have q0 := b2_ne h_24
            refine ⟨?_, rfl⟩
            rw [minZ, if_pos q0, minF]
            first
              | (have a : anyK σ (P + 16) nl s 2 = true := b2_ne h_57; have c := b2_ne h_84; rw [if_pos ⟨c, h_89⟩, if_pos a] <;> rfl)
              | (have a : ¬ anyK σ (P + 16) nl s 2 = true := b2_eq h_57; have c := b2_ne h_84; rw [if_pos ⟨c, h_89⟩, if_neg a] <;> rfl)
              | (have a : anyK σ (P + 16) nl s 2 = true := b2_ne h_57; have c := b2_ne h_84; rw [if_neg (fun z => h_89 z.2), if_pos a] <;> rfl)
              | (have a : ¬ anyK σ (P + 16) nl s 2 = true := b2_eq h_57; have c := b2_ne h_84; rw [if_neg (fun z => h_89 z.2), if_neg a] <;> rfl)
              | (have a : anyK σ (P + 16) nl s 2 = true := b2_ne h_57; have c := b2_eq h_84; rw [if_neg (fun z => c z.1), if_pos a] <;> rfl)
              | (have a : ¬ anyK σ (P + 16) nl s 2 = true := b2_eq h_57; have c := b2_eq h_84; rw [if_neg (fun z => c z.1), if_neg a] <;> rfl)
          · refine ev_iconst dX7_minutesOn_92 ?_
            refine ev_iload dX7_minutesOn_93 rfl ?_
            refine ev_imul dX7_minutesOn_95 ?_
            refine ev_goto (tgt := 101) dX7_minutesOn_96 (by decide) ?_
            refine ev_ireturn dX7_minutesOn_101 ?_
            have q0 := b2_ne h_24
            refine ⟨?_, rfl⟩
            rw [minZ, if_pos q0, minF]
            first
              | (have a : anyK σ (P + 16) nl s 2 = true := b2_ne h_57; have c := b2_ne h_84; rw [if_pos ⟨c, h_89⟩, if_pos a] <;> rfl)
              | (have a : ¬ anyK σ (P + 16) nl s 2 = true := b2_eq h_57; have c := b2_ne h_84; rw [if_pos ⟨c, h_89⟩, if_neg a] <;> rfl)
              | (have a : anyK σ (P + 16) nl s 2 = true := b2_ne h_57; have c := b2_ne h_84; rw [if_neg (fun z => h_89 z.2), if_pos a] <;> rfl)
              | (have a : ¬ anyK σ (P + 16) nl s 2 = true := b2_eq h_57; have c := b2_ne h_84; rw [if_neg (fun z => h_89 z.2), if_neg a] <;> rfl)
              | (have a : anyK σ (P + 16) nl s 2 = true := b2_ne h_57; have c := b2_eq h_84; rw [if_neg (fun z => c z.1), if_pos a] <;> rfl)
              | (have a : ¬ anyK σ (P + 16) nl s 2 = true := b2_eq h_57; have c := b2_eq h_84; rw [if_neg (fun z => c z.1), if_neg a] <;> rfl)
    · refine ev_iconst dX7_minutesOn_27 ?_
      refine ev_ireturn dX7_minutesOn_28 ?_
      first
        | omega
        | (have q := b2_eq h_24; exact ⟨by rw [minZ, if_neg q], rfl⟩)
        | (have q := b2_eq (Decidable.not_not.mp h_24); exact ⟨by rw [minZ, if_neg q], rfl⟩)
