/-! what holds of the state, between calls -/
def LoadOk (σ : Mem) (P n nb dv l : Nat) : Prop := (dv.testBit l = true ∧ σ.1 42 l = -1 ∧ σ.1 43 l = -1) ∨ (dv.testBit l = false ∧ σ.1 43 l = -1 ∧ 0 ≤ σ.1 42 l ∧ σ.1 42 l < n ∧ σ.1 42 l ≠ σ.1 (P + 13) l) ∨ (dv.testBit l = false ∧ σ.1 42 l = -1 ∧ 0 ≤ σ.1 43 l ∧ σ.1 43 l < nb ∧ (σ.1 40 (σ.1 43 l) = -1 → σ.1 39 (σ.1 43 l) ≠ σ.1 (P + 13) l))
def DynOk (σ : Mem) (P n nr nb nl mb w wt dv : Nat) : Prop :=
  (0 ≤ σ.1 37 0 ∧ σ.1 37 0 ≤ mb) ∧ (0 ≤ σ.1 37 1 ∧ σ.1 37 1 ≤ 1000 * (cnt dv.testBit 12 : Nat)) ∧ 0 ≤ σ.1 37 2 ∧ (σ.1 37 3 = w ∧ w < 2 ^ nr) ∧ (σ.1 37 4 = wt ∧ wt < 2 ^ nr) ∧ (σ.1 37 5 = dv ∧ dv < 2 ^ nl) ∧ (0 ≤ σ.1 37 6 ∧ σ.1 37 6 ≤ 200) ∧
  (∀ r : Nat, r < nr → 0 ≤ σ.1 38 r ∧ σ.1 38 r ≤ 1000 ∧ (w.testBit r = true → σ.1 38 r < 100)) ∧
  (∀ b : Nat, b < nb → (0 ≤ σ.1 39 b ∧ σ.1 39 b < n) ∧ ((σ.1 40 b = -1 ∧ σ.1 41 b = 0) ∨ (0 ≤ σ.1 40 b ∧ σ.1 40 b < nr ∧ 1 ≤ σ.1 41 b ∧ σ.1 41 b ≤ 400 ∧ w.testBit (σ.1 40 b).toNat = true))) ∧
  (∀ b c : Nat, b < nb → c < nb → σ.1 40 b = σ.1 40 c → σ.1 40 b ≠ -1 → b = c) ∧
  ∀ l : Nat, l < nl → LoadOk σ P n nb dv l
/-- loads delivered: those below l that p names, each with its gain -/
def arF (σ : Mem) (p : Nat → Bool) (g : Nat → Int) (dv l : Nat) : Mem := (fun c k => if c = 43 ∧ 0 ≤ k ∧ k < l ∧ p k.toNat = true then -1 else if c = 37 ∧ k = 5 then ((dv ||| bs p l : Nat) : Int) else if c = 37 ∧ k = 1 then σ.1 37 1 + sumI (fun i => if p i then g i else 0) l else σ.1 c k, σ.2)
theorem arF_at (σ : Mem) (p : Nat → Bool) (g : Nat → Int) (dv l c : Nat) (k : Int) : (arF σ p g dv l).1 c k = if c = 43 ∧ 0 ≤ k ∧ k < l ∧ p k.toNat = true then -1 else if c = 37 ∧ k = 5 then ((dv ||| bs p l : Nat) : Int) else if c = 37 ∧ k = 1 then σ.1 37 1 + sumI (fun i => if p i then g i else 0) l else σ.1 c k := rfl
theorem arF_c {σ : Mem} {p : Nat → Bool} {g : Nat → Int} {dv l c : Nat} (h1 : c ≠ 43) (h2 : c ≠ 37) (k : Int) : (arF σ p g dv l).1 c k = σ.1 c k := by
  rw [arF_at, if_neg (fun q => h1 q.1), if_neg (fun q => h2 q.1), if_neg (fun q => h2 q.1)]
theorem arF_37 {σ : Mem} {p : Nat → Bool} {g : Nat → Int} {dv l : Nat} {k : Int} (h1 : k ≠ 5) (h2 : k ≠ 1) : (arF σ p g dv l).1 37 k = σ.1 37 k := by
  rw [arF_at, if_neg (by omega), if_neg (fun q => h1 q.2), if_neg (fun q => h2 q.2)]
theorem arF_5 (σ : Mem) (p : Nat → Bool) (g : Nat → Int) (dv l : Nat) : (arF σ p g dv l).1 37 5 = ((dv ||| bs p l : Nat) : Int) := by
  rw [arF_at, if_neg (by omega), if_pos ⟨rfl, rfl⟩]
theorem arF_1 (σ : Mem) (p : Nat → Bool) (g : Nat → Int) (dv l : Nat) : (arF σ p g dv l).1 37 1 = σ.1 37 1 + sumI (fun i => if p i then g i else 0) l := by
  rw [arF_at, if_neg (by omega), if_neg (by omega), if_pos ⟨rfl, rfl⟩]
theorem arF_0 {σ : Mem} {p : Nat → Bool} {g : Nat → Int} {dv : Nat} (h : σ.1 37 5 = dv) : arF σ p g dv 0 = σ := by
  refine Prod.ext (funext fun c => funext fun k => ?_) rfl
  show (arF σ p g dv 0).1 c k = σ.1 c k
  rw [arF_at, if_neg (by omega)]
  by_cases e : c = 37 ∧ k = 5
  · rw [if_pos e, e.1, e.2, h]; simp [bs]
  · rw [if_neg e]
    by_cases e2 : c = 37 ∧ k = 1
    · rw [if_pos e2, e2.1, e2.2]; simp [sumI]
    · rw [if_neg e2]
theorem arF_n {σ : Mem} {p : Nat → Bool} {g : Nat → Int} {dv l : Nat} (h : p l = false) : arF σ p g dv (l + 1) = arF σ p g dv l := by
  refine Prod.ext (funext fun c => funext fun k => ?_) rfl
  show (arF σ p g dv (l + 1)).1 c k = (arF σ p g dv l).1 c k
  rw [arF_at, arF_at, bs_f h]
  have e : (c = 43 ∧ 0 ≤ k ∧ k < ((l + 1 : Nat) : Int) ∧ p k.toNat = true) ↔ (c = 43 ∧ 0 ≤ k ∧ k < (l : Int) ∧ p k.toNat = true) := by
    constructor
    · rintro ⟨a, b, c1, d⟩
      refine ⟨a, b, ?_, d⟩
      by_cases e2 : k.toNat = l
      · rw [e2, h] at d; exact absurd d (by decide)
      · omega
    · rintro ⟨a, b, c1, d⟩; exact ⟨a, b, by omega, d⟩
  by_cases c1 : c = 43 ∧ 0 ≤ k ∧ k < (l : Int) ∧ p k.toNat = true
  · rw [if_pos c1, if_pos (e.mpr c1)]
  · rw [if_neg c1, if_neg (fun q => c1 (e.mp q))]
    rw [show sumI (fun i => if p i then g i else 0) (l + 1) = sumI (fun i => if p i then g i else 0) l by rw [sumI, h]; simp]
theorem arF_y {σ : Mem} {p : Nat → Bool} {g : Nat → Int} {dv l : Nat} (h : p l = true) : wr (wr (wr (arF σ p g dv l) 43 l (-1)) 37 5 ((dv ||| bs p l) ||| 2 ^ l : Nat)) 37 1 (σ.1 37 1 + sumI (fun i => if p i then g i else 0) l + g l) = arF σ p g dv (l + 1) := by
  refine Prod.ext (funext fun c => funext fun k => ?_) rfl
  show (wr (wr (wr (arF σ p g dv l) 43 l (-1)) 37 5 ((dv ||| bs p l) ||| 2 ^ l : Nat)) 37 1 (σ.1 37 1 + sumI (fun i => if p i then g i else 0) l + g l)).1 c k = (arF σ p g dv (l + 1)).1 c k
  rw [wr_at, wr_at, wr_at, arF_at, arF_at]
  by_cases c43 : c = 43
  · subst c43
    rw [if_neg (by omega), if_neg (by omega)]
    by_cases e : k = (l : Int)
    · rw [if_pos ⟨rfl, e⟩, if_pos ⟨rfl, by omega, by omega, by rw [show k.toNat = l by omega]; exact h⟩]
    · rw [if_neg (fun q => e q.2)]
      by_cases e2 : 0 ≤ k ∧ k < (l : Int) ∧ p k.toNat = true
      · rw [if_pos ⟨rfl, e2⟩, if_pos ⟨rfl, e2.1, by omega, e2.2.2⟩]
      · rw [if_neg (fun q => e2 q.2), if_neg (c := (43 = 43 ∧ 0 ≤ k ∧ k < ((l + 1 : Nat) : Int) ∧ p k.toNat = true)) (fun q => e2 ⟨q.2.1, by omega, q.2.2.2⟩)]
        rw [if_neg (by omega), if_neg (by omega), if_neg (by omega), if_neg (by omega)]
  · by_cases c37 : c = 37
    · subst c37
      by_cases k1 : k = 1
      · subst k1
        rw [if_pos ⟨rfl, rfl⟩, if_neg (by omega), if_neg (by omega), if_pos ⟨rfl, rfl⟩, sumI, if_pos h, Int.add_assoc]
      · rw [if_neg (fun q => k1 q.2)]
        by_cases k5 : k = 5
        · subst k5
          rw [if_pos ⟨rfl, rfl⟩, if_neg (by omega), if_pos ⟨rfl, rfl⟩, bs_t h, Nat.or_assoc, or_pow (bs_lt p l)]
        · rw [if_neg (fun q => k5 q.2), if_neg (by omega), if_neg (by omega), if_neg (by omega), if_neg (by omega), if_neg (by omega), if_neg (by omega), if_neg (by omega)]
    · rw [if_neg (fun q => c37 q.1), if_neg (fun q => c37 q.1), if_neg (fun q => c43 q.1), if_neg (fun q => c43 q.1), if_neg (fun q => c37 q.1), if_neg (fun q => c37 q.1), if_neg (fun q => c43 q.1), if_neg (fun q => c37 q.1), if_neg (fun q => c37 q.1)]
/-- a load's gain when it is delivered -/
def gain (σ : Mem) (P l : Nat) : Int := if σ.1 (P + 16) l ≠ 1 ∨ σ.1 37 0 ≤ 60 then σ.1 (P + 15) l else 0
theorem k_deliver (σ : Mem) (P l dv : Nat) (hP : P = 3 ∨ P = 20) (hpl : (σ.1 0 1).toNat = P) (hl : l < 4) (hdv : σ.1 37 5 = dv) (hdv2 : dv < 16) (hh : inR (σ.1 37 1 + gain σ P l)) : Con yX7_deliver cX7_deliver 2 none 0 0 [.ref 0, .int (iI l)] σ (AnsV (wr (wr (wr σ 43 l (-1)) 37 5 (dv ||| 2 ^ l : Nat)) 37 1 (σ.1 37 1 + gain σ P l))) := by
  refine con_of (by decide) rfl (Nat.le_of_ble_eq_true rfl) (ok_V rfl) ?_
  refine ev_w (fun hR => ?_)
  have hR0 := hR
  have hp2 : 2 ^ l < 2 ^ 4 := Nat.pow_lt_pow_right (by decide) hl
  have hol := Nat.or_lt_two_pow (n := 4) hdv2 hp2
  have fin : ∀ τ : Mem, gain σ P l = 0 → τ.1 37 1 = σ.1 37 1 → wr τ 37 1 (σ.1 37 1 + gain σ P l) = τ := by
    intro τ hg ht
    refine Prod.ext (funext fun c => funext fun k => ?_) rfl
    show (wr τ 37 1 _).1 c k = τ.1 c k
    rw [wr_at]
    split
    next h => rw [h.1, h.2, ht, hg, Int.add_zero]
    · rfl
  refine ev_aload_n dX7_deliver_0 rfl ?_
  refine ev_getR (r := 37) dX7_deliver_1 fl_X7_29 rfl rfl rfl ?_
  refine ev_getR (r := 43) dX7_deliver_4 fl_X7_213 rfl rfl rfl ?_
  refine ev_iload_n dX7_deliver_7 rfl ?_
  refine ev_iconst dX7_deliver_8 ?_
  refine ev_iastore dX7_deliver_9 rfl (by first | omega | (simp [wr_at]; omega) | (simp [wr_at, *]; omega)) (by first | omega | (simp [wr_at]; omega) | (simp [wr_at, *]; omega)) (by decide) (by first | exact hR.1 _ _ | exact hR0.1 _ _ | assumption | exact ⟨by omega, by omega⟩ | exact ⟨by simp [wr_at]; omega, by simp [wr_at]; omega⟩ | exact b2_R _ | exact bC_R _ | exact band_R _ _ | exact bor_R _ _ | exact bshl_R _ _ | exact bshr_R _ _ | exact bxor_R _ _ | exact bs_R (by omega) | decide) ?_
  refine ev_w (fun hR => ?_)
  refine ev_aload_n dX7_deliver_10 rfl ?_
  refine ev_getR (r := 37) dX7_deliver_11 fl_X7_29 rfl rfl rfl ?_
  refine ev_dup dX7_deliver_14 rfl ?_
  refine ev_getI (kz := 5) dX7_deliver_15 fl_X7_113 rfl rfl rfl ?_
  rw [wr_nec _ (by decide), hdv]
  refine ev_iconst dX7_deliver_18 ?_
  refine ev_iload_n dX7_deliver_19 rfl ?_
  refine ev_ishl dX7_deliver_20 ?_
  refine ev_ior dX7_deliver_21 ?_
  rw [bshl1 l (by omega), bor_nat dv _ (by omega) (by omega)]
  refine ev_putI (kz := 5) dX7_deliver_22 fp_X7_113 rfl rfl rfl (by first | exact hR.1 _ _ | exact hR0.1 _ _ | assumption | exact ⟨by omega, by omega⟩ | exact ⟨by simp [wr_at]; omega, by simp [wr_at]; omega⟩ | exact b2_R _ | exact bC_R _ | exact band_R _ _ | exact bor_R _ _ | exact bshl_R _ _ | exact bshr_R _ _ | exact bxor_R _ _ | exact bs_R (by omega) | decide) ?_
  refine ev_w (fun hR => ?_)
  refine ev_aload_n dX7_deliver_25 rfl ?_
  refine ev_getQ (r := P) dX7_deliver_26 fl_X7_19 rfl rfl (by rw [wr_nec _ (by decide), wr_nec _ (by decide)]; exact hpl) ?_
  refine ev_getR (r := P + 16) dX7_deliver_29 fl_X7_210 (plO hP) rfl rfl ?_
  refine ev_iload_n dX7_deliver_32 rfl ?_
  refine ev_iaload dX7_deliver_33 (plA16 hP) (by first | omega | (simp [wr_at]; omega) | (simp [wr_at, *]; omega)) (by first | omega | (simp [wr_at]; omega) | (simp [wr_at, *]; omega)) (by decide) ?_
  rw [wr_nec _ (by omega), wr_nec _ (by omega)]
  refine ev_iconst dX7_deliver_34 ?_
  refine ev_icmp_ne (tgt := 50) dX7_deliver_35 (by decide) (by first | exact hR.1 _ _ | exact hR0.1 _ _ | assumption | exact ⟨by omega, by omega⟩ | exact ⟨by simp [wr_at]; omega, by simp [wr_at]; omega⟩ | exact b2_R _ | exact bC_R _ | exact band_R _ _ | exact bor_R _ _ | exact bshl_R _ _ | exact bshr_R _ _ | exact bxor_R _ _ | exact bs_R (by omega) | decide) (by first | exact hR.1 _ _ | exact hR0.1 _ _ | assumption | exact ⟨by omega, by omega⟩ | exact ⟨by simp [wr_at]; omega, by simp [wr_at]; omega⟩ | exact b2_R _ | exact bC_R _ | exact band_R _ _ | exact bor_R _ _ | exact bshl_R _ _ | exact bshr_R _ _ | exact bxor_R _ _ | exact bs_R (by omega) | decide) (fun h_35 => ?_) (fun h_35 => ?_)
  · refine ev_aload_n dX7_deliver_50 rfl ?_
    refine ev_getR (r := 37) dX7_deliver_51 fl_X7_29 rfl rfl rfl ?_
    refine ev_dup dX7_deliver_54 rfl ?_
    refine ev_getI (kz := 1) dX7_deliver_55 fl_X7_110 rfl rfl rfl ?_
    rw [wr_nek _ (by decide), wr_nec _ (by decide)]
    refine ev_aload_n dX7_deliver_58 rfl ?_
    refine ev_getQ (r := P) dX7_deliver_59 fl_X7_19 rfl rfl (by rw [wr_nec _ (by decide), wr_nec _ (by decide)]; exact hpl) ?_
    refine ev_getR (r := P + 15) dX7_deliver_62 fl_X7_207 (plO hP) rfl rfl ?_
    refine ev_iload_n dX7_deliver_65 rfl ?_
    refine ev_iaload dX7_deliver_66 (plA15 hP) (by first | omega | (simp [wr_at]; omega) | (simp [wr_at, *]; omega)) (by first | omega | (simp [wr_at]; omega) | (simp [wr_at, *]; omega)) (by decide) ?_
    rw [wr_nec _ (by omega), wr_nec _ (by omega)]
    refine ev_iadd dX7_deliver_67 ?_
    have hg : gain σ P l = σ.1 (P + 15) l := by
      unfold gain
      first
        | rw [if_pos (Or.inl h_35)]
        | rw [if_pos (Or.inr (by omega))]
    rw [← hg]
    refine ev_putI (kz := 1) dX7_deliver_68 fp_X7_110 rfl rfl rfl (by first | exact hR.1 _ _ | exact hR0.1 _ _ | assumption | exact ⟨by omega, by omega⟩ | exact ⟨by simp [wr_at]; omega, by simp [wr_at]; omega⟩ | exact b2_R _ | exact bC_R _ | exact band_R _ _ | exact bor_R _ _ | exact bshl_R _ _ | exact bshr_R _ _ | exact bxor_R _ _ | exact bs_R (by omega) | decide) ?_
    refine ev_w (fun hR => ?_)
    refine ev_return dX7_deliver_71 ?_
    first
      | exact ⟨rfl, rfl⟩
      | (refine ⟨rfl, (fin _ ?_ ?_).symm⟩
         · unfold gain
           rw [if_neg (fun y => by rcases y with y | y; exact y (by omega); omega)]
         · rw [wr_nek _ (by decide), wr_nec _ (by decide)])
  · refine ev_aload_n dX7_deliver_38 rfl ?_
    refine ev_getR (r := 37) dX7_deliver_39 fl_X7_29 rfl rfl rfl ?_
    refine ev_getI (kz := 0) dX7_deliver_42 fl_X7_107 rfl rfl rfl ?_
    rw [wr_nek _ (by decide), wr_nec _ (by decide)]
    refine ev_bipush dX7_deliver_45 (by decide) ?_
    refine ev_icmp_gt (tgt := 71) dX7_deliver_47 (by decide) (by first | exact hR.1 _ _ | exact hR0.1 _ _ | assumption | exact ⟨by omega, by omega⟩ | exact ⟨by simp [wr_at]; omega, by simp [wr_at]; omega⟩ | exact b2_R _ | exact bC_R _ | exact band_R _ _ | exact bor_R _ _ | exact bshl_R _ _ | exact bshr_R _ _ | exact bxor_R _ _ | exact bs_R (by omega) | decide) (by first | exact hR.1 _ _ | exact hR0.1 _ _ | assumption | exact ⟨by omega, by omega⟩ | exact ⟨by simp [wr_at]; omega, by simp [wr_at]; omega⟩ | exact b2_R _ | exact bC_R _ | exact band_R _ _ | exact bor_R _ _ | exact bshl_R _ _ | exact bshr_R _ _ | exact bxor_R _ _ | exact bs_R (by omega) | decide) (fun h_47 => ?_) (fun h_47 => ?_)
    · refine ev_return dX7_deliver_71 ?_
      first
        | exact ⟨rfl, rfl⟩
        | (refine ⟨rfl, (fin _ ?_ ?_).symm⟩
           · unfold gain
             rw [if_neg (fun y => by rcases y with y | y; exact y (by omega); omega)]
           · rw [wr_nek _ (by decide), wr_nec _ (by decide)])
    · refine ev_aload_n dX7_deliver_50 rfl ?_
      refine ev_getR (r := 37) dX7_deliver_51 fl_X7_29 rfl rfl rfl ?_
      refine ev_dup dX7_deliver_54 rfl ?_
      refine ev_getI (kz := 1) dX7_deliver_55 fl_X7_110 rfl rfl rfl ?_
      rw [wr_nek _ (by decide), wr_nec _ (by decide)]
      refine ev_aload_n dX7_deliver_58 rfl ?_
      refine ev_getQ (r := P) dX7_deliver_59 fl_X7_19 rfl rfl (by rw [wr_nec _ (by decide), wr_nec _ (by decide)]; exact hpl) ?_
      refine ev_getR (r := P + 15) dX7_deliver_62 fl_X7_207 (plO hP) rfl rfl ?_
      refine ev_iload_n dX7_deliver_65 rfl ?_
      refine ev_iaload dX7_deliver_66 (plA15 hP) (by first | omega | (simp [wr_at]; omega) | (simp [wr_at, *]; omega)) (by first | omega | (simp [wr_at]; omega) | (simp [wr_at, *]; omega)) (by decide) ?_
      rw [wr_nec _ (by omega), wr_nec _ (by omega)]
      refine ev_iadd dX7_deliver_67 ?_
      have hg : gain σ P l = σ.1 (P + 15) l := by
        unfold gain
        first
          | rw [if_pos (Or.inl h_35)]
          | rw [if_pos (Or.inr (by omega))]
      rw [← hg]
      refine ev_putI (kz := 1) dX7_deliver_68 fp_X7_110 rfl rfl rfl (by first | exact hR.1 _ _ | exact hR0.1 _ _ | assumption | exact ⟨by omega, by omega⟩ | exact ⟨by simp [wr_at]; omega, by simp [wr_at]; omega⟩ | exact b2_R _ | exact bC_R _ | exact band_R _ _ | exact bor_R _ _ | exact bshl_R _ _ | exact bshr_R _ _ | exact bxor_R _ _ | exact bs_R (by omega) | decide) ?_
      refine ev_w (fun hR => ?_)
      refine ev_return dX7_deliver_71 ?_
      first
        | exact ⟨rfl, rfl⟩
        | (refine ⟨rfl, (fin _ ?_ ?_).symm⟩
           · unfold gain
             rw [if_neg (fun y => by rcases y with y | y; exact y (by omega); omega)]
           · rw [wr_nek _ (by decide), wr_nec _ (by decide)])
