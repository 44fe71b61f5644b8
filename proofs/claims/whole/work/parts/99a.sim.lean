/-! the two sides together -/
theorem StRel.cg {σ τ : Mem} {T nr nb nl : Nat} {mi ha ri se : Int} {we wt ct ap on to go li ca dn rm rr : Int → Int} (h : StRel σ T nr nb nl mi ha ri se we wt ct ap on to go li ca dn rm rr) (hs : ∀ c, T ≤ c → c ≤ T + 8 → τ.1 c = σ.1 c) : StRel τ T nr nb nl mi ha ri se we wt ct ap on to go li ca dn rm rr := by
  unfold StRel
  rw [hs T (by omega) (by omega), hs (T + 1) (by omega) (by omega), hs (T + 2) (by omega) (by omega), hs (T + 3) (by omega) (by omega), hs (T + 4) (by omega) (by omega), hs (T + 5) (by omega) (by omega), hs (T + 6) (by omega) (by omega), hs (T + 7) (by omega) (by omega), hs (T + 8) (by omega) (by omega)]
  exact h
theorem MDy.cg {μ ν σ τ : Mem} {nr nb nl : Nat} (h : MDy μ σ nr nb nl) (hs : ∀ c, 37 ≤ c → c ≤ 45 → τ.1 c = σ.1 c) (hm : ∀ c, 95 ≤ c → c ≤ 106 → ν.1 c = μ.1 c) (h79 : ν.1 79 = μ.1 79) : MDy ν τ nr nb nl := by
  unfold MDy
  rw [h79, hm 95 (by omega) (by omega), hm 96 (by omega) (by omega), hm 97 (by omega) (by omega), hm 98 (by omega) (by omega), hm 99 (by omega) (by omega), hm 100 (by omega) (by omega), hm 101 (by omega) (by omega), hm 102 (by omega) (by omega), hm 103 (by omega) (by omega), hm 104 (by omega) (by omega), hm 105 (by omega) (by omega), hm 106 (by omega) (by omega)]
  exact StRel.cg h hs
theorem MPl.cg {μ ν σ τ : Mem} {P n nr nb nl : Nat} (h : MPl μ σ P n nr nb nl) (hs : ∀ k, k ≤ 16 → τ.1 (P + k) = σ.1 (P + k)) (hm : ∀ c, 79 ≤ c → c ≤ 94 → ν.1 c = μ.1 c) : MPl ν τ P n nr nb nl := by
  refine MPl.to ?_ hs
  unfold MPl
  rw [hm 79 (by omega) (by omega), hm 80 (by omega) (by omega), hm 81 (by omega) (by omega), hm 82 (by omega) (by omega), hm 83 (by omega) (by omega), hm 84 (by omega) (by omega), hm 85 (by omega) (by omega), hm 86 (by omega) (by omega), hm 87 (by omega) (by omega), hm 88 (by omega) (by omega), hm 89 (by omega) (by omega), hm 90 (by omega) (by omega), hm 91 (by omega) (by omega), hm 92 (by omega) (by omega), hm 93 (by omega) (by omega), hm 94 (by omega) (by omega)]
  exact h
theorem DynOk.cg {σ τ : Mem} {P n nr nb nl mb w wt dv : Nat} (h : DynOk σ P n nr nb nl mb w wt dv) (hs : ∀ c, 37 ≤ c → c ≤ 43 → τ.1 c = σ.1 c) (h13 : τ.1 (P + 13) = σ.1 (P + 13)) : DynOk τ P n nr nb nl mb w wt dv := by
  unfold DynOk LoadOk
  rw [hs 37 (by omega) (by omega), hs 38 (by omega) (by omega), hs 39 (by omega) (by omega), hs 40 (by omega) (by omega), hs 41 (by omega) (by omega), hs 42 (by omega) (by omega), hs 43 (by omega) (by omega), h13]
  exact h
theorem DynOk.mb {σ : Mem} {P n nr nb nl mb mb2 w wt dv : Nat} (h : DynOk σ P n nr nb nl mb w wt dv) (hm : mb ≤ mb2) : DynOk σ P n nr nb nl mb2 w wt dv := ⟨⟨h.1.1, by have := h.1.2; omega⟩, h.2⟩
theorem PlanOk.cg {σ τ : Mem} {P n nr nb nl : Nat} {f t : Nat → Nat} (h : PlanOk σ P n nr nb nl f t) (hs : ∀ k, k ≤ 16 → τ.1 (P + k) = σ.1 (P + k)) : PlanOk τ P n nr nb nl f t :=
  PlanOk.same (τ := (τ.1, σ.2)) (S := fun c => τ.1 c ≠ σ.1 c) h ⟨fun c hc => Classical.byContradiction hc, rfl⟩ (fun k hk y => y (hs k hk))
theorem DynOk.pw {σ τ : Mem} {P n nr nb nl mb w wt dv : Nat} (hnr : nr ≤ 12) (hnb : nb ≤ 4) (hnl : nl ≤ 4) (h : DynOk σ P n nr nb nl mb w wt dv) (h37 : ∀ k : Int, 0 ≤ k → k ≤ 6 → τ.1 37 k = σ.1 37 k) (h38 : ∀ k : Int, 0 ≤ k → k < 12 → τ.1 38 k = σ.1 38 k) (h4 : ∀ (c : Nat) (k : Int), 39 ≤ c → c ≤ 43 → 0 ≤ k → k < 4 → τ.1 c k = σ.1 c k) (h13 : τ.1 (P + 13) = σ.1 (P + 13)) : DynOk τ P n nr nb nl mb w wt dv := by
  obtain ⟨d1, d2, d3, d4, d5, d6, d7, d8, d9, d10, d11⟩ := h
  refine ⟨by rw [h37 0 (by decide) (by decide)]; exact d1, by rw [h37 1 (by decide) (by decide)]; exact d2, by rw [h37 2 (by decide) (by decide)]; exact d3, by rw [h37 3 (by decide) (by decide)]; exact d4, by rw [h37 4 (by decide) (by decide)]; exact d5, by rw [h37 5 (by decide) (by decide)]; exact d6, by rw [h37 6 (by decide) (by decide)]; exact d7, fun r hr => ?_, fun b hb => ?_, fun b c hb hc => ?_, fun l hl => ?_⟩
  · rw [h38 r (by omega) (by omega)]; exact d8 r hr
  · rw [h4 39 b (by decide) (by decide) (by omega) (by omega), h4 40 b (by decide) (by decide) (by omega) (by omega), h4 41 b (by decide) (by decide) (by omega) (by omega)]; exact d9 b hb
  · rw [h4 40 b (by decide) (by decide) (by omega) (by omega), h4 40 c (by decide) (by decide) (by omega) (by omega)]; exact d10 b c hb hc
  · have q := d11 l hl
    unfold LoadOk at q ⊢
    rw [h4 42 l (by decide) (by decide) (by omega) (by omega), h4 43 l (by decide) (by decide) (by omega) (by omega), h13]
    rcases q with q | q | q
    · exact Or.inl q
    · exact Or.inr (Or.inl q)
    · refine Or.inr (Or.inr ?_)
      rw [h4 40 _ (by decide) (by decide) (by omega) (by omega), h4 39 _ (by decide) (by decide) (by omega) (by omega)]
      exact q
theorem copyM_c {σ : Mem} {t o c : Nat} (h : ¬ (t ≤ c ∧ c ≤ t + 8)) (k : Int) : (copyM σ t o).1 c k = σ.1 c k := by
  unfold copyM copyM0
  simp only [cpyM_at, wr_at]
  rw [if_neg (by omega), if_neg (by omega), if_neg (by omega), if_neg (by omega), if_neg (by omega), if_neg (by omega), if_neg (by omega), if_neg (by omega), if_neg (by omega), if_neg (by omega), if_neg (by omega), if_neg (by omega), if_neg (by omega), if_neg (by omega), if_neg (by omega)]
theorem copyM_b {σ : Mem} {t o c : Nat} (ht : t = 37 ∨ t = 47 ∨ t = 56) (ho : o = 37 ∨ o = 47 ∨ o = 56) (hne : o ≠ t) (hc : 2 ≤ c ∧ c ≤ 6) {k : Int} (h0 : 0 ≤ k) (h1 : k < 4) : (copyM σ t o).1 (t + c) k = σ.1 (o + c) k := by
  rcases (by omega : c = 2 ∨ c = 3 ∨ c = 4 ∨ c = 5 ∨ c = 6) with rfl | rfl | rfl | rfl | rfl
  · exact copyM_r2 ht ho hne h0 h1
  · exact copyM_r3 ht ho hne h0 h1
  · exact copyM_r4 ht ho hne h0 h1
  · exact copyM_r5 ht ho hne h0 h1
  · exact copyM_r6 ht ho hne h0 h1
theorem copyM_cg {σ τ : Mem} {i : Nat} (hi : i < 2) (hs : ∀ c, c ≤ 64 → τ.1 c = σ.1 c) {c : Nat} (hc : c ≤ 64) : (copyM τ 37 (imgId i)).1 c = (copyM σ 37 (imgId i)).1 c := by
  funext k
  have e : imgId i = 47 ∨ imgId i = 56 := by unfold imgId; omega
  generalize imgId i = o at *
  unfold copyM copyM0
  simp only [cpyM_at, wr_at]
  rw [hs c hc, hs o (by omega), hs (o + 1) (by omega), hs (o + 2) (by omega), hs (o + 3) (by omega), hs (o + 4) (by omega), hs (o + 5) (by omega), hs (o + 6) (by omega), hs (o + 7) (by omega), hs (o + 8) (by omega)]
theorem MImg.cg {μ ν σ τ : Mem} {i nr nb nl : Nat} (h : MImg μ σ i nr nb nl) (hs : ∀ c, imgId i ≤ c → c ≤ imgId i + 8 → τ.1 c = σ.1 c) (hm : ν.1 132 = μ.1 132) : MImg ν τ i nr nb nl := by
  unfold MImg
  rw [hm]
  exact StRel.cg h hs
/-- an image: kept or not, and what it is of -/
def ImgW (μ σ : Mem) (P n nr nb nl mb kp i : Nat) : Prop := μ.1 133 i = b2 (kp.testBit i = true) ∧ (kp.testBit i = true → (∃ w wt dv, DynOk (copyM σ 37 (imgId i)) P n nr nb nl mb w wt dv) ∧ MImg μ σ i nr nb nl)
theorem ImgW.cg {μ ν σ τ : Mem} {P n nr nb nl mb mb2 kp i : Nat} (h : ImgW μ σ P n nr nb nl mb kp i) (hi : i < 2) (hP : P = 3 ∨ P = 20) (hnr : nr ≤ 12) (hnb : nb ≤ 4) (hnl : nl ≤ 4) (hmb : mb ≤ mb2) (hs : ∀ c, c ≤ 64 → ¬ (37 ≤ c ∧ c ≤ 45) → τ.1 c = σ.1 c) (hm : ν.1 132 = μ.1 132) (hm3 : ν.1 133 = μ.1 133) : ImgW ν τ P n nr nb nl mb2 kp i := by
  have hid : imgId i = 47 ∨ imgId i = 56 := by unfold imgId; omega
  refine ⟨by rw [hm3]; exact h.1, fun hk => ?_⟩
  obtain ⟨⟨w, wt, dv, h1⟩, h2⟩ := h.2 hk
  have t1 := imgId_t hi
  have t2 := @imgId_ne i
  have h37 : (37 : Nat) = 37 ∨ 37 = 47 ∨ 37 = 56 := Or.inl rfl
  refine ⟨⟨w, wt, dv, ?_⟩, h2.cg (fun c a b => hs c (by omega) (by omega)) hm⟩
  refine (DynOk.pw hnr hnb hnl h1 (fun k a b => ?_) (fun k a b => ?_) (fun c k a b x y => ?_) ?_).mb hmb
  · rw [copyM_f h37 t1 t2 a b, copyM_f h37 t1 t2 a b, hs _ (by omega) (by omega)]
  · rw [show (38 : Nat) = 37 + 1 from rfl, copyM_r1 h37 t1 t2 a b, copyM_r1 h37 t1 t2 a b, hs _ (by omega) (by omega)]
  · obtain ⟨d, rfl⟩ : ∃ d, c = 37 + d := ⟨c - 37, by omega⟩
    rw [copyM_b h37 t1 t2 (by omega) x y, copyM_b h37 t1 t2 (by omega) x y, hs _ (by omega) (by omega)]
  · funext k
    rw [copyM_c (by omega), copyM_c (by omega), hs _ (by omega) (by omega)]
def SimW (N : Nat) (μ σ : Mem) (P Q n nr nb nl mb w wt dv k kp L : Nat) (f t : Nat → Nat) : Prop := ((P = 3 ∧ Q = 20) ∨ (P = 20 ∧ Q = 3)) ∧ (PlIs σ P) ∧ (σ.1 0 2 = (Q : Int)) ∧ (MOk μ σ P n nr nb nl mb w wt dv f t) ∧ (mb ≤ 99 * N) ∧ (BookOk σ n nb k) ∧ (MBk μ σ k) ∧ (σ.1 0 5 = (kp : Int)) ∧ (kp < 4) ∧ (∀ i, i < 2 → ImgW μ σ P n nr nb nl mb kp i) ∧ (σ.1 1 1 = (L : Int)) ∧ (TX μ (fun j : Nat => σ.1 2 j) L) ∧ (μ.1 79 37 = σ.1 1 3) ∧ (∀ j, 0 ≤ σ.1 76 j ∧ σ.1 76 j ≤ 1000000) ∧ (∀ j, 0 ≤ σ.1 78 j ∧ σ.1 78 j ≤ 2000000)
section
variable {N : Nat} {μ σ : Mem} {P Q n nr nb nl mb w wt dv k kp L : Nat} {f t : Nat → Nat}
theorem SimW.pq (h : SimW N μ σ P Q n nr nb nl mb w wt dv k kp L f t) : (P = 3 ∧ Q = 20) ∨ (P = 20 ∧ Q = 3) := h.1
theorem SimW.pl (h : SimW N μ σ P Q n nr nb nl mb w wt dv k kp L f t) : PlIs σ P := h.2.1
theorem SimW.np (h : SimW N μ σ P Q n nr nb nl mb w wt dv k kp L f t) : σ.1 0 2 = (Q : Int) := h.2.2.1
theorem SimW.mok (h : SimW N μ σ P Q n nr nb nl mb w wt dv k kp L f t) : MOk μ σ P n nr nb nl mb w wt dv f t := h.2.2.2.1
theorem SimW.mbN (h : SimW N μ σ P Q n nr nb nl mb w wt dv k kp L f t) : mb ≤ 99 * N := h.2.2.2.2.1
theorem SimW.bk (h : SimW N μ σ P Q n nr nb nl mb w wt dv k kp L f t) : BookOk σ n nb k := h.2.2.2.2.2.1
theorem SimW.mbk (h : SimW N μ σ P Q n nr nb nl mb w wt dv k kp L f t) : MBk μ σ k := h.2.2.2.2.2.2.1
theorem SimW.kp0 (h : SimW N μ σ P Q n nr nb nl mb w wt dv k kp L f t) : σ.1 0 5 = (kp : Int) := h.2.2.2.2.2.2.2.1
theorem SimW.kp4 (h : SimW N μ σ P Q n nr nb nl mb w wt dv k kp L f t) : kp < 4 := h.2.2.2.2.2.2.2.2.1
theorem SimW.img (h : SimW N μ σ P Q n nr nb nl mb w wt dv k kp L f t) : ∀ i, i < 2 → ImgW μ σ P n nr nb nl mb kp i := h.2.2.2.2.2.2.2.2.2.1
theorem SimW.len (h : SimW N μ σ P Q n nr nb nl mb w wt dv k kp L f t) : σ.1 1 1 = (L : Int) := h.2.2.2.2.2.2.2.2.2.2.1
theorem SimW.tx (h : SimW N μ σ P Q n nr nb nl mb w wt dv k kp L f t) : TX μ (fun j : Nat => σ.1 2 j) L := h.2.2.2.2.2.2.2.2.2.2.2.1
theorem SimW.flt (h : SimW N μ σ P Q n nr nb nl mb w wt dv k kp L f t) : μ.1 79 37 = σ.1 1 3 := h.2.2.2.2.2.2.2.2.2.2.2.2.1
theorem SimW.c76 (h : SimW N μ σ P Q n nr nb nl mb w wt dv k kp L f t) : ∀ j, 0 ≤ σ.1 76 j ∧ σ.1 76 j ≤ 1000000 := h.2.2.2.2.2.2.2.2.2.2.2.2.2.1
theorem SimW.c78 (h : SimW N μ σ P Q n nr nb nl mb w wt dv k kp L f t) : ∀ j, 0 ≤ σ.1 78 j ∧ σ.1 78 j ≤ 2000000 := h.2.2.2.2.2.2.2.2.2.2.2.2.2.2
end
def Sim (N : Nat) (σ : Mem) : Prop := ∃ (P Q n nr nb nl mb w wt dv k kp L : Nat) (f t : Nat → Nat), SimW N σ σ P Q n nr nb nl mb w wt dv k kp L f t
theorem BookOk.cg {σ τ : Mem} {n nb k : Nat} (h : BookOk σ n nb k) (hs : ∀ c, 65 ≤ c → c ≤ 68 → τ.1 c = σ.1 c) : BookOk τ n nb k := by
  unfold BookOk
  rw [hs 65 (by omega) (by omega), hs 66 (by omega) (by omega), hs 67 (by omega) (by omega), hs 68 (by omega) (by omega)]
  exact h
theorem MBk.cg {μ ν σ τ : Mem} {k : Nat} (h : MBk μ σ k) (hs : ∀ c, 65 ≤ c → c ≤ 68 → τ.1 c = σ.1 c) (h79 : ν.1 79 68 = μ.1 79 68) (hm : ∀ c, 129 ≤ c → c ≤ 131 → ν.1 c = μ.1 c) : MBk ν τ k := by
  unfold MBk
  rw [h79, hs 66 (by omega) (by omega), hs 67 (by omega) (by omega), hs 68 (by omega) (by omega), hm 129 (by omega) (by omega), hm 130 (by omega) (by omega), hm 131 (by omega) (by omega)]
  exact h
section
variable {N N2 : Nat} {μ ν σ τ : Mem} {P Q n nr nb nl mb w wt dv k kp L : Nat} {f t : Nat → Nat}
theorem SimW.hP (h : SimW N μ σ P Q n nr nb nl mb w wt dv k kp L f t) : P = 3 ∨ P = 20 := by have := h.pq; omega
/-- cells that don't matter -/
theorem SimW.cg (h : SimW N μ σ P Q n nr nb nl mb w wt dv k kp L f t) (hN : N ≤ N2) (hs : ∀ c, c ≤ 68 → τ.1 c = σ.1 c) (h76 : ∀ j, 0 ≤ τ.1 76 j ∧ τ.1 76 j ≤ 1000000) (h78 : ∀ j, 0 ≤ τ.1 78 j ∧ τ.1 78 j ≤ 2000000) (hm : ∀ c, (79 ≤ c ∧ c ≤ 107) ∨ (129 ≤ c ∧ c ≤ 133) → ν.1 c = μ.1 c) : SimW N2 ν τ P Q n nr nb nl mb w wt dv k kp L f t := by
  have hP := h.hP
  have hPO := h.mok.1
  exact ⟨(h.pq),
    (by unfold PlIs; rw [hs 0 (by omega)]; exact h.pl),
    (by rw [hs 0 (by omega)]; exact h.np),
    (⟨h.mok.1.cg (fun k hk => hs _ (by omega)), h.mok.2.1.cg (fun c a b => hs c (by omega)) (hs _ (by omega)), h.mok.2.2.1.cg (fun k hk => hs _ (by omega)) (fun c a b => hm c (by omega)), h.mok.2.2.2.cg (fun c a b => hs c (by omega)) (fun c a b => hm c (by omega)) (hm 79 (by omega))⟩),
    (Nat.le_trans h.mbN (Nat.mul_le_mul_left 99 hN)),
    (h.bk.cg (fun c a b => hs c (by omega))),
    (h.mbk.cg (fun c a b => hs c (by omega)) (by rw [hm 79 (by omega)]) (fun c a b => hm c (by omega))),
    (by rw [hs 0 (by omega)]; exact h.kp0),
    (h.kp4),
    (fun i hi => (h.img i hi).cg hi hP hPO.1.2.2.2.2.1 hPO.2.1.2 hPO.2.2.1.2 (Nat.le_refl _) (fun c a _ => hs c (by omega)) (hm 132 (by omega)) (hm 133 (by omega))),
    (by rw [hs 1 (by omega)]; exact h.len),
    (by
      have q := h.tx
      unfold TX at q ⊢
      rw [hm 79 (by omega), hm 107 (by omega), hs 2 (by omega)]
      exact q),
    (by rw [hm 79 (by omega), hs 1 (by omega)]; exact h.flt),
    (h76),
    (h78)⟩
/-- a new state -/
theorem SimW.dyn {mb2 w2 wt2 dv2 : Nat} (h : SimW N μ σ P Q n nr nb nl mb w wt dv k kp L f t) (hmb : mb ≤ mb2) (hN : mb2 ≤ 99 * N2) (hs : ∀ c, c ≤ 78 → ¬ (37 ≤ c ∧ c ≤ 45) → τ.1 c = σ.1 c) (hm : ∀ c, (80 ≤ c ∧ c ≤ 94) ∨ c = 107 ∨ (129 ≤ c ∧ c ≤ 133) → ν.1 c = μ.1 c) (h79 : ∀ k : Int, k ≠ 29 → k ≠ 30 → k ≠ 31 → k ≠ 34 → ν.1 79 k = μ.1 79 k) (hD : DynOk τ P n nr nb nl mb2 w2 wt2 dv2) (hMD : MDy ν τ nr nb nl) : SimW N2 ν τ P Q n nr nb nl mb2 w2 wt2 dv2 k kp L f t := by
  have hP := h.hP
  have hPO := h.mok.1
  have hMP : MPl ν σ P n nr nb nl := by
    have q := h.mok.2.2.1
    unfold MPl at q ⊢
    rw [h79 0 (by decide) (by decide) (by decide) (by decide), h79 4 (by decide) (by decide) (by decide) (by decide), h79 9 (by decide) (by decide) (by decide) (by decide), h79 13 (by decide) (by decide) (by decide) (by decide), hm 80 (by omega), hm 81 (by omega), hm 82 (by omega), hm 83 (by omega), hm 84 (by omega), hm 85 (by omega), hm 86 (by omega), hm 87 (by omega), hm 88 (by omega), hm 89 (by omega), hm 90 (by omega), hm 91 (by omega), hm 92 (by omega), hm 93 (by omega), hm 94 (by omega)]
    exact q
  exact ⟨(h.pq),
    (by unfold PlIs; rw [hs 0 (by omega) (by omega)]; exact h.pl),
    (by rw [hs 0 (by omega) (by omega)]; exact h.np),
    (⟨h.mok.1.cg (fun k hk => hs _ (by omega) (by omega)), hD, hMP.to (fun k hk => hs _ (by omega) (by omega)), hMD⟩),
    (hN),
    (h.bk.cg (fun c a b => hs c (by omega) (by omega))),
    (h.mbk.cg (fun c a b => hs c (by omega) (by omega)) (h79 68 (by decide) (by decide) (by decide) (by decide)) (fun c a b => hm c (by omega))),
    (by rw [hs 0 (by omega) (by omega)]; exact h.kp0),
    (h.kp4),
    (fun i hi => (h.img i hi).cg hi hP hPO.1.2.2.2.2.1 hPO.2.1.2 hPO.2.2.1.2 hmb (fun c a b => hs c (by omega) b) (hm 132 (by omega)) (hm 133 (by omega))),
    (by rw [hs 1 (by omega) (by omega)]; exact h.len),
    (by
      have q := h.tx
      unfold TX at q ⊢
      rw [h79 36 (by decide) (by decide) (by decide) (by decide), hm 107 (by omega), hs 2 (by omega) (by omega)]
      exact q),
    (by rw [h79 37 (by decide) (by decide) (by decide) (by decide), hs 1 (by omega) (by omega)]; exact h.flt),
    (by rw [hs 76 (by omega) (by omega)]; exact h.c76),
    (by rw [hs 78 (by omega) (by omega)]; exact h.c78)⟩
end

