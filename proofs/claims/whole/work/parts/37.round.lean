/-- the rest of a round by k steps of the search -/
def rsV (Wy : Nat → Nat → Nat → Int) (fr to : Nat → Nat) : Nat → Nat → Nat → Nat → Int
  | 0, _, _, _ => 0
  | k + 1, l, c, p => lfV Wy (rsV Wy fr to k) fr to l c p
theorem cnt_andn {c k n : Nat} (hk : k < n) (h : c.testBit k = true) : cnt (andn c (2 ^ k)).testBit n + 1 = cnt c.testBit n := by
  induction n with
  | zero => omega
  | succ n ih =>
    have e : (andn c (2 ^ k)).testBit n = (c.testBit n && !decide (k = n)) := by rw [andn_test, test_pow]
    rw [cnt, cnt, e]
    by_cases q : k = n
    · subst q
      have e2 : cnt (andn c (2 ^ k)).testBit k = cnt c.testBit k := cnt_congr (fun i hi => by rw [andn_test, test_pow]; simp [show ¬ k = i by omega])
      rw [e2, h]; simp
    · have := ih (by omega)
      simp [q]; omega
theorem cnt_or {c k n : Nat} (hk : k < n) (h : c.testBit k = false) : cnt (c ||| 2 ^ k).testBit n = cnt c.testBit n + 1 := by
  induction n with
  | zero => omega
  | succ n ih =>
    have e : (c ||| 2 ^ k).testBit n = (c.testBit n || decide (k = n)) := by rw [Nat.testBit_or, test_pow]
    rw [cnt, cnt, e]
    by_cases q : k = n
    · subst q
      have e2 : cnt (c ||| 2 ^ k).testBit k = cnt c.testBit k := cnt_congr (fun i hi => by rw [Nat.testBit_or, test_pow]; simp [show ¬ k = i by omega])
      rw [e2, h]; simp
    · have := ih (by omega)
      simp [q]; omega
theorem bit_apart {l c k : Nat} (h : l &&& c = 0) (hl : l.testBit k = true) : c.testBit k = false := by
  have e := congrArg (fun z => z.testBit k) h
  simp only [Nat.testBit_and, Nat.zero_testBit] at e
  rw [hl, Bool.true_and] at e
  exact e
theorem okS_c {v l c k : Nat} (h : okS v l c) (hk : c.testBit k = true) : okS v l (andn c (2 ^ k)) := by
  obtain ⟨h1, h2, h3, h4, h5, h6⟩ := h
  have hk12 : k < 12 := by
    have := lt_of_test (k := 4) hk h2
    omega
  refine ⟨h1, andn_lt (n := 4) _ h2, h3, andn_zero.mpr (fun i hi => ?_), ?_, ?_⟩
  · rw [andn_test] at hi
    exact sub_of_andn h4 (by simp at hi; exact hi.1)
  · apply Nat.eq_of_testBit_eq
    intro i
    rw [Nat.testBit_and, andn_test, Nat.zero_testBit]
    have e := congrArg (fun z => z.testBit i) h5
    simp only [Nat.testBit_and, Nat.zero_testBit] at e
    cases hl : l.testBit i
    · rfl
    · rw [hl, Bool.true_and] at e; rw [e]; rfl
  · have := cnt_andn (n := 12) hk12 hk
    omega
theorem okS_l {v l c k : Nat} (h : okS v l c) (hk : l.testBit k = true) (hc : cnt c.testBit 12 < 2) : okS v (andn l (2 ^ k)) (c ||| 2 ^ k) := by
  obtain ⟨h1, h2, h3, h4, h5, h6⟩ := h
  have hk4 := lt_of_test (k := 4) hk h1
  refine ⟨andn_lt (n := 4) _ h1, Nat.or_lt_two_pow (n := 4) h2 (Nat.pow_lt_pow_right (by decide) hk4), andn_zero.mpr (fun i hi => ?_), andn_zero.mpr (fun i hi => ?_), ?_, ?_⟩
  · rw [andn_test] at hi
    exact sub_of_andn h3 (by simp at hi; exact hi.1)
  · rw [Nat.testBit_or, test_pow] at hi
    simp at hi
    rcases hi with hi | hi
    · exact sub_of_andn h4 hi
    · subst hi; exact sub_of_andn h3 hk
  · apply Nat.eq_of_testBit_eq
    intro i
    rw [Nat.testBit_and, andn_test, Nat.testBit_or, test_pow, Nat.zero_testBit]
    have e := congrArg (fun z => z.testBit i) h5
    simp only [Nat.testBit_and, Nat.zero_testBit] at e
    by_cases q : k = i
    · simp [q]
    · simp [q]; simp at e; exact e
  · rw [cnt_or (by omega) (bit_apart h5 hk)]; omega
/-- the table holds what the search gives -/
theorem rest_rsV {Wy Rs : Nat → Nat → Nat → Int} {fr to : Nat → Nat} {v n : Nat} (hft : ∀ k, k < 4 → v.testBit k = true → fr k < n ∧ to k < n) (h : ∀ l c p, okS v l c → p < n → Rs l c p = lfV Wy Rs fr to l c p) :
    ∀ k l c p, 2 * cnt l.testBit 12 + cnt c.testBit 12 < k → okS v l c → p < n → Rs l c p = rsV Wy fr to k l c p := by
  intro k
  induction k with
  | zero => intro l c p hk; omega
  | succ k ih =>
    intro l c p hk hS hp
    rw [h l c p hS hp, rsV]
    unfold lfV
    split
    · rfl
    · have key : ∀ j, j ≤ 4 → lfR Wy Rs fr to l c p j = lfR Wy (rsV Wy fr to k) fr to l c p j := by
        intro j
        induction j with
        | zero => intro _; rfl
        | succ j ihj =>
          intro hj
          rw [lfR, lfR, ihj (by omega)]
          by_cases c1 : c.testBit j = true
          · have e := cnt_andn (n := 12) (by omega) c1
            rw [if_pos c1, if_pos c1, ih l (andn c (2 ^ j)) (to j) (by omega) (okS_c hS c1) (hft j (by omega) (sub_of_andn hS.2.2.2.1 c1)).2]
          · rw [if_neg c1, if_neg c1]
            by_cases c2 : l.testBit j = true ∧ cnt c.testBit 12 < 2
            · have e := cnt_andn (n := 12) (by omega) c2.1
              have e2 := cnt_or (n := 12) (c := c) (k := j) (by omega) (by simpa using c1)
              rw [if_pos c2, if_pos c2, ih (andn l (2 ^ j)) (c ||| 2 ^ j) (fr j) (by omega) (okS_l hS c2.1 c2.2) (hft j (by omega) (sub_of_andn hS.2.2.1 c2.1)).1]
            · rw [if_neg c2, if_neg c2]
      exact key 4 (Nat.le_refl _)
theorem cnt_lt16 {l : Nat} (h : l < 16) : cnt l.testBit 12 ≤ 4 := by
  have : ∀ l, l < 16 → cnt l.testBit 12 ≤ 4 := by decide +kernel
  exact this l h
def frZ (σ : Mem) (P : Nat) (l : Nat) : Nat := (if σ.1 42 l = -1 then σ.1 (P + 12) l else σ.1 42 l).toNat
def toZ (σ : Mem) (P : Nat) (l : Nat) : Nat := (σ.1 (P + 13) l).toNat
/-- a boy's round for the set s, as the class reckons it -/
def rndC (σ : Mem) (P n nr nl w wt : Nat) (f t : Nat → Nat) (b s : Nat) : Int := if s = 0 then 0 else σ.1 41 b + rsV (fun c => dst σ P n nr nl w wt f t b c 0) (frZ σ P) (toZ σ P) 9 s 0 (σ.1 39 b).toNat
/-- what of the state the rounds need -/
def RoundOk (σ : Mem) (n nb nl : Nat) : Prop := (∀ l : Nat, l < nl → σ.1 42 l = -1 ∨ (0 ≤ σ.1 42 l ∧ σ.1 42 l < n)) ∧ (∀ b : Nat, b < nb → (0 ≤ σ.1 39 b ∧ σ.1 39 b < n) ∧ (0 ≤ σ.1 41 b ∧ σ.1 41 b ≤ 400)) ∧ ∀ j, 0 ≤ σ.1 76 j ∧ σ.1 76 j ≤ 1000000
theorem RoundOk.fr {σ : Mem} {P n nr nb nl : Nat} {f t : Nat → Nat} (h : RoundOk σ n nb nl) (hPO : PlanOk σ P n nr nb nl f t) (v : Nat) : ∀ l : Nat, l < nl → v.testBit l = true → (if σ.1 42 l = -1 then σ.1 (P + 12) l else σ.1 42 l) = frZ σ P l ∧ frZ σ P l < n ∧ σ.1 (P + 13) l = toZ σ P l ∧ toZ σ P l < n := by
  intro l hl _
  have a := h.1 l hl
  have c := hPO.2.2.2.2.2.2 l hl
  unfold frZ toZ
  split
  · refine ⟨by omega, by omega, by omega, by omega⟩
  · refine ⟨by omega, by omega, by omega, by omega⟩
theorem rnd_of {σ τ : Mem} {P n nr nb nl w wt : Nat} {f t : Nat → Nat} {b v : Nat} (hPO : PlanOk σ P n nr nb nl f t) (hRo : RoundOk σ n nb nl) (hv : v < 2 ^ nl) (hb : b < nb) (h : RndOk σ τ P n nr nl w wt f t b v (frZ σ P) (toZ σ P)) {s : Nat} (hs : andn s v = 0) : (if s = 0 then 0 else τ.1 41 b + restA τ s 0 (σ.1 39 b).toNat) = rndC σ P n nr nl w wt f t b s := by
  unfold rndC
  by_cases e : s = 0
  · rw [if_pos e, if_pos e]
  · rw [if_neg e, if_neg e, h.1.at (by unfold sR; omega)]
    have h2n : 2 ^ nl ≤ 2 ^ 4 := Nat.pow_le_pow_right (by decide) hPO.2.2.1.2
    have hsv := le_of_andn hs
    have hs16 : s < 16 := by omega
    congr 1
    refine rest_rsV (v := v) (n := n) (fun k hk hbt => ?_) h.2.2 9 s 0 _ ?_ ⟨hs16, by omega, hs, ?_, Nat.and_zero s, by decide⟩ ?_
    · have a := hRo.fr hPO v k (lt_of_test hbt hv) hbt
      exact ⟨a.2.1, a.2.2.2⟩
    · have := cnt_lt16 hs16
      have : cnt (0 : Nat).testBit 12 = 0 := by decide
      omega
    · unfold andn; rw [Nat.zero_and]; rfl
    · have := (hRo.2.1 b hb).1
      omega
theorem lfV_R {Wy Rs : Nat → Nat → Nat → Int} {fr to : Nat → Nat} {l c p : Nat} (h : ∀ k, k < 4 → (c.testBit k = true → 0 ≤ Wy c p (to k) + Rs l (andn c (2 ^ k)) (to k)) ∧ (c.testBit k = false → l.testBit k = true → cnt c.testBit 12 < 2 → 0 ≤ Wy c p (fr k) + Rs (andn l (2 ^ k)) (c ||| 2 ^ k) (fr k))) : 0 ≤ lfV Wy Rs fr to l c p ∧ lfV Wy Rs fr to l c p ≤ 1000000 := by
  unfold lfV
  split
  · omega
  · exact lfR_R h 4 (Nat.le_refl _)
theorem rndC_R {σ : Mem} {P n nr nb nl w wt : Nat} {f t : Nat → Nat} (hPO : PlanOk σ P n nr nb nl f t) (hRo : RoundOk σ n nb nl) {b s : Nat} (hb : b < nb) (hs : s < 2 ^ nl) : 0 ≤ rndC σ P n nr nl w wt f t b s ∧ rndC σ P n nr nl w wt f t b s ≤ 1000400 := by
  unfold rndC
  split
  · omega
  · have key : ∀ k l c p, okS s l c → p < n → 0 ≤ rsV (fun c => dst σ P n nr nl w wt f t b c 0) (frZ σ P) (toZ σ P) k l c p ∧ rsV (fun c => dst σ P n nr nl w wt f t b c 0) (frZ σ P) (toZ σ P) k l c p ≤ 1000000 := by
      intro k
      induction k with
      | zero => intro l c p _ _; rw [rsV]; omega
      | succ k ih =>
        intro l c p hS hp
        rw [rsV]
        refine lfV_R (fun j hj => ⟨fun h1 => ?_, fun h1 h2 h3 => ?_⟩)
        · have a := hRo.fr hPO s j (lt_of_test (sub_of_andn hS.2.2.2.1 h1) hs) (sub_of_andn hS.2.2.2.1 h1)
          have d := dst_ok (w := w) (wt := wt) (s := c) (dry := 0) hPO hb p (toZ σ P j) hp a.2.2.2
          have e := ih l (andn c (2 ^ j)) (toZ σ P j) (okS_c hS h1) a.2.2.2
          omega
        · have a := hRo.fr hPO s j (lt_of_test (sub_of_andn hS.2.2.1 h2) hs) (sub_of_andn hS.2.2.1 h2)
          have d := dst_ok (w := w) (wt := wt) (s := c) (dry := 0) hPO hb p (frZ σ P j) hp a.2.1
          have e := ih (andn l (2 ^ j)) (c ||| 2 ^ j) (frZ σ P j) (okS_l hS h2 h3) a.2.1
          omega
    have h2n : 2 ^ nl ≤ 2 ^ 4 := Nat.pow_le_pow_right (by decide) hPO.2.2.1.2
    have hb2 := hRo.2.1 b hb
    have := key 9 s 0 (σ.1 39 b).toNat ⟨by omega, by omega, by unfold andn; rw [Nat.and_self, Nat.xor_self], by unfold andn; rw [Nat.zero_and]; rfl, Nat.and_zero s, by decide⟩ (by omega)
    omega
def roundZ (nb : Nat) (N dv : Nat) (Rn : Nat → Nat → Int) (b x : Int) : Int := if ¬ ((0 ≤ b ∧ b < nb) ∧ (0 ≤ x ∧ x < N)) then -1000000001 else orN (Rn b.toNat (andn x.toNat dv))
def sR76 (σ τ : Mem) : Prop := Same sR σ τ ∧ ∀ j, 0 ≤ τ.1 76 j ∧ τ.1 76 j ≤ 1000000
theorem k_round (σ : Mem) (P n nr nb nl w wt : Nat) (f t : Nat → Nat) (hPO : PlanOk σ P n nr nb nl f t) (hPI : PlIs σ P) (hBt : Bits σ w wt) (dv : Nat) (hdv : σ.1 37 5 = dv) (hdv2 : dv < 4096) (hRo : RoundOk σ n nb nl) (b x : Int) (hb : inR b) (hx : inR x) : Con yX7_round cX7_round 4 (some .int) 6 140 [.ref 0, .int (iI b), .int (iI x)] σ (AnsIP (roundZ nb (2 ^ nl) dv (rndC σ P n nr nl w wt f t) b x) (fun τ => sR76 σ τ)) := by
  refine con_of (by decide) rfl (Nat.le_of_ble_eq_true rfl) (ok_IP rfl) ?_
  refine ev_w (fun hR => ?_)
  have hR0 := hR
  obtain ⟨hPR, ⟨hnb, hnb4⟩, ⟨hnl, hnl4⟩, hpo, hro, hbo, hlo⟩ := id hPO
  obtain ⟨hP, hn, hn8, hnr, hnr12, hft⟩ := id hPR
  obtain ⟨hw, hw2, hwt, hwt2⟩ := id hBt
  have hpl := hPI.q
  have h2n : 2 ^ nl ≤ 2 ^ 4 := Nat.pow_le_pow_right (by decide) hnl4
  generalize hN : 2 ^ nl = N at h2n ⊢
  refine ev_aload_n dX7_round_0 rfl ?_
  refine ev_iload_n dX7_round_1 rfl ?_
  refine ev_callVI dX7_round_2 kv_X7_171 (k_isBoy σ b P hb hP hpl) rfl rfl (ci := 7) rfl rfl ⟨by decide, by decide⟩ (Nat.le_of_ble_eq_true rfl) ?_
  refine ev_w (fun hR => ?_)
  rw [hnb]
  refine ev_if_eq (tgt := 22) dX7_round_5 (by decide) (by first | exact hR.1 _ _ | exact hR0.1 _ _ | assumption | exact ⟨by omega, by omega⟩ | exact ⟨by simp [wr_at]; omega, by simp [wr_at]; omega⟩ | exact b2_R _ | exact bC_R _ | exact band_R _ _ | exact bor_R _ _ | exact bshl_R _ _ | exact bshr_R _ _ | exact bxor_R _ _ | exact bs_R (by omega) | decide) (fun h_5 => ?_) (fun h_5 => ?_)
  · refine ev_ldc (z := -1000000001) dX7_round_22 kc_X7_126 (by decide) ?_
    refine ev_ireturn dX7_round_24 ?_
    first
      | (have z := b2_eq h_5; exact ⟨by rw [roundZ, if_pos (fun y => z y.1)], Same.rf, hRo.2.2⟩)
      | (have z := b2_eq h_19; exact ⟨by rw [roundZ, if_pos (fun y => z y.2)], Same.rf, hRo.2.2⟩)
      | (have z := b2_eq (Decidable.not_not.mp h_19); exact ⟨by rw [roundZ, if_pos (fun y => z y.2)], Same.rf, hRo.2.2⟩)
  · refine ev_iload_n dX7_round_8 rfl ?_
    refine ev_aload_n dX7_round_9 rfl ?_
    refine ev_getQ (r := P) dX7_round_10 fl_X7_19 rfl rfl hpl ?_
    refine ev_getI (kz := 3) dX7_round_13 fl_X7_104 (plO hP) rfl rfl ?_
    rw [hnl]
    refine ev_callSI dX7_round_16 ks_X7_264 (k_isSetBelow σ x nl N hx (by omega) hN.symm) rfl rfl ⟨by decide, by decide⟩ (Nat.le_of_ble_eq_true rfl) ?_
    refine ev_w (fun hR => ?_)
    refine ev_if_ne (tgt := 25) dX7_round_19 (by decide) (by first | exact hR.1 _ _ | exact hR0.1 _ _ | assumption | exact ⟨by omega, by omega⟩ | exact ⟨by simp [wr_at]; omega, by simp [wr_at]; omega⟩ | exact b2_R _ | exact bC_R _ | exact band_R _ _ | exact bor_R _ _ | exact bshl_R _ _ | exact bshr_R _ _ | exact bxor_R _ _ | exact bs_R (by omega) | decide) (fun h_19 => ?_) (fun h_19 => ?_)
    · have q0 := b2_ne h_5
      have q1 := b2_ne h_19
      obtain ⟨b, rfl⟩ := Int.eq_ofNat_of_zero_le q0.1
      obtain ⟨x, rfl⟩ := Int.eq_ofNat_of_zero_le q1.1
      refine ev_iload_n dX7_round_25 rfl ?_
      refine ev_aload_n dX7_round_26 rfl ?_
      refine ev_getR (r := 37) dX7_round_27 fl_X7_29 rfl rfl rfl ?_
      refine ev_getI (kz := 5) dX7_round_30 fl_X7_113 rfl rfl rfl ?_
      rw [hdv]
      refine ev_iconst dX7_round_33 ?_
      refine ev_ixor dX7_round_34 ?_
      refine ev_iand dX7_round_35 ?_
      rw [band_not x dv (by omega)]
      have hle := andn_le x dv
      have hR2 := rndC_R (w := w) (wt := wt) hPO hRo (b := b) (s := andn x dv) (by omega) (by omega)
      obtain ⟨e, he⟩ : ∃ e : Nat, σ.1 39 b = e := ⟨(σ.1 39 b).toNat, by have := (hRo.2.1 b (by omega)).1; omega⟩
      have he8 := (hRo.2.1 b (by omega)).1
      refine ev_istore_n dX7_round_36 rfl (by decide) rfl ?_
      refine ev_aload_n dX7_round_37 rfl ?_
      refine ev_iload_n dX7_round_38 rfl ?_
      refine ev_iload_n dX7_round_39 rfl ?_
      refine ev_callVP dX7_round_40 kv_X7_267 (k_learnRounds σ P n nr nb nl w wt f t hPO hPI hBt b (andn x dv) (frZ σ P) (toZ σ P) (by omega) (by omega) (hRo.fr hPO _) hRo.2.2) rfl rfl (ci := 7) rfl rfl ⟨by decide, by decide⟩ (Nat.le_of_ble_eq_true rfl) ?_
      rintro v_40 τ_40 ⟨rfl, hRn⟩
      refine ev_w (fun hR => ?_)
      refine ev_aload_n dX7_round_43 rfl ?_
      refine ev_iload_n dX7_round_44 rfl ?_
      refine ev_iload_n dX7_round_45 rfl ?_
      refine ev_callVI dX7_round_46 kv_X7_270 (k_roundOf τ_40 b (andn x dv) e (by omega) (by omega) (by rw [hRn.1.at (by unfold sR; omega)]; exact he) (by omega)) rfl rfl (ci := 7) rfl rfl ⟨by decide, by decide⟩ (Nat.le_of_ble_eq_true rfl) ?_
      refine ev_w (fun hR => ?_)
      have hv := rnd_of hPO hRo (by omega) (by omega) hRn (s := andn x dv) (by unfold andn; rw [Nat.and_self, Nat.xor_self])
      rw [he, show ((e : Int)).toNat = e from rfl] at hv
      rw [hv]
      refine ev_callSI dX7_round_49 ks_X7_261 (k_orNone τ_40 _ (by exact ⟨by omega, by omega⟩)) rfl rfl ⟨by decide, by decide⟩ (Nat.le_of_ble_eq_true rfl) ?_
      refine ev_w (fun hR => ?_)
      refine ev_ireturn dX7_round_52 ?_
      exact ⟨by rw [roundZ, if_neg (c := ¬ ((0 ≤ (b : Int) ∧ (b : Int) < nb) ∧ (0 ≤ (x : Int) ∧ (x : Int) < N))) (fun y => y ⟨q0, q1⟩)]; rfl, hRn.1, hRn.2.1⟩
    · refine ev_ldc (z := -1000000001) dX7_round_22 kc_X7_126 (by decide) ?_
      refine ev_ireturn dX7_round_24 ?_
      first
        | (have z := b2_eq h_5; exact ⟨by rw [roundZ, if_pos (fun y => z y.1)], Same.rf, hRo.2.2⟩)
        | (have z := b2_eq h_19; exact ⟨by rw [roundZ, if_pos (fun y => z y.2)], Same.rf, hRo.2.2⟩)
        | (have z := b2_eq (Decidable.not_not.mp h_19); exact ⟨by rw [roundZ, if_pos (fun y => z y.2)], Same.rf, hRo.2.2⟩)
