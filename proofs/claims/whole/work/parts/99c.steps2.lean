section
variable {N N2 : Nat} {μ ν σ τ : Mem} {P Q n nr nb nl mb w wt dv k kp L L2 k2 : Nat} {f t : Nat → Nat}
/-- other text -/
theorem SimW.io (h : SimW N μ σ P Q n nr nb nl mb w wt dv k kp L f t) (hN : N ≤ N2) (h0 : τ.1 0 = σ.1 0) (hp : ∀ k, k ≤ 16 → τ.1 (P + k) = σ.1 (P + k)) (hs : ∀ c, 37 ≤ c → c ≤ 68 → τ.1 c = σ.1 c) (h76 : τ.1 76 = σ.1 76) (h78 : τ.1 78 = σ.1 78) (hm : ∀ c, (80 ≤ c ∧ c ≤ 106) ∨ (129 ≤ c ∧ c ≤ 133) → ν.1 c = μ.1 c) (h79 : ∀ k : Int, ¬ PF k → k ≠ 36 → ν.1 79 k = μ.1 79 k) (hlen : τ.1 1 1 = (L2 : Int)) (htx : TX ν (fun j : Nat => τ.1 2 j) L2) (hflt : ν.1 79 37 = τ.1 1 3) : SimW N2 ν τ P Q n nr nb nl mb w wt dv k kp L2 f t := by
  have hP := h.hP
  have hPO := h.mok.1
  have nPF : ∀ k : Int, k = 0 ∨ k = 4 ∨ k = 9 ∨ k = 13 ∨ k = 29 ∨ k = 30 ∨ k = 31 ∨ k = 34 ∨ k = 68 → ν.1 79 k = μ.1 79 k := fun k hk => h79 k (by unfold PF; omega) (by omega)
  have hMP : MPl ν σ P n nr nb nl := by
    have q := h.mok.2.2.1
    unfold MPl at q ⊢
    rw [nPF 0 (by omega), nPF 4 (by omega), nPF 9 (by omega), nPF 13 (by omega), hm 80 (by omega), hm 81 (by omega), hm 82 (by omega), hm 83 (by omega), hm 84 (by omega), hm 85 (by omega), hm 86 (by omega), hm 87 (by omega), hm 88 (by omega), hm 89 (by omega), hm 90 (by omega), hm 91 (by omega), hm 92 (by omega), hm 93 (by omega), hm 94 (by omega)]
    exact q
  have hMD : MDy ν τ nr nb nl := by
    have q := h.mok.2.2.2
    unfold MDy at q ⊢
    rw [nPF 29 (by omega), nPF 30 (by omega), nPF 31 (by omega), nPF 34 (by omega), hm 95 (by omega), hm 96 (by omega), hm 97 (by omega), hm 98 (by omega), hm 99 (by omega), hm 100 (by omega), hm 101 (by omega), hm 102 (by omega), hm 103 (by omega), hm 104 (by omega), hm 105 (by omega), hm 106 (by omega)]
    exact StRel.cg q (fun c a b => hs c (by omega) (by omega))
  have hid : ∀ i, i < 2 → imgId i = 47 ∨ imgId i = 56 := fun i hi => by unfold imgId; omega
  refine ⟨h.pq, by unfold PlIs; rw [h0]; exact h.pl, by rw [h0]; exact h.np, ⟨h.mok.1.cg hp, h.mok.2.1.cg (fun c a b => hs c (by omega) (by omega)) (hp 13 (by decide)), hMP.to hp, hMD⟩, Nat.le_trans h.mbN (Nat.mul_le_mul_left 99 hN), h.bk.cg (fun c a b => hs c (by omega) (by omega)), h.mbk.cg (fun c a b => hs c (by omega) (by omega)) (nPF 68 (by omega)) (fun c a b => hm c (by omega)), by rw [h0]; exact h.kp0, h.kp4, fun i hi => ?_, hlen, htx, hflt, by rw [h76]; exact h.c76, by rw [h78]; exact h.c78⟩
  have hI := h.img i hi
  have hd := hid i hi
  refine ⟨by rw [hm 133 (by omega)]; exact hI.1, fun hk => ?_⟩
  obtain ⟨⟨w9, wt9, dv9, g1⟩, g2⟩ := hI.2 hk
  have t1 := imgId_t hi
  have t2 := @imgId_ne i
  have h37 : (37 : Nat) = 37 ∨ 37 = 47 ∨ 37 = 56 := Or.inl rfl
  refine ⟨⟨w9, wt9, dv9, DynOk.pw hPO.1.2.2.2.2.1 hPO.2.1.2 hPO.2.2.1.2 g1 (fun k a b => ?_) (fun k a b => ?_) (fun c k a b x y => ?_) ?_⟩, g2.cg (fun c a b => hs c (by omega) (by omega)) (hm 132 (by omega))⟩
  · rw [copyM_f h37 t1 t2 a b, copyM_f h37 t1 t2 a b, hs _ (by omega) (by omega)]
  · rw [show (38 : Nat) = 37 + 1 from rfl, copyM_r1 h37 t1 t2 a b, copyM_r1 h37 t1 t2 a b, hs _ (by omega) (by omega)]
  · obtain ⟨d, rfl⟩ : ∃ d, c = 37 + d := ⟨c - 37, by omega⟩
    rw [copyM_b h37 t1 t2 (by omega) x y, copyM_b h37 t1 t2 (by omega) x y, hs _ (by omega) (by omega)]
  · funext k
    rw [copyM_c (by omega), copyM_c (by omega), hp 13 (by decide)]
/-- another book -/
theorem SimW.book (h : SimW N μ σ P Q n nr nb nl mb w wt dv k kp L f t) (hN : N ≤ N2) (hs : ∀ c, c ≤ 64 → τ.1 c = σ.1 c) (h76 : τ.1 76 = σ.1 76) (h78 : τ.1 78 = σ.1 78) (hm : ∀ c, (80 ≤ c ∧ c ≤ 107) ∨ (132 ≤ c ∧ c ≤ 133) → ν.1 c = μ.1 c) (h79 : ∀ k : Int, k ≠ 68 → ν.1 79 k = μ.1 79 k) (hb : BookOk τ n nb k2) (hmb : MBk ν τ k2) : SimW N2 ν τ P Q n nr nb nl mb w wt dv k2 kp L f t := by
  have hP := h.hP
  have hPO := h.mok.1
  have hMP : MPl ν σ P n nr nb nl := by
    have q := h.mok.2.2.1
    unfold MPl at q ⊢
    rw [h79 0 (by omega), h79 4 (by omega), h79 9 (by omega), h79 13 (by omega), hm 80 (by omega), hm 81 (by omega), hm 82 (by omega), hm 83 (by omega), hm 84 (by omega), hm 85 (by omega), hm 86 (by omega), hm 87 (by omega), hm 88 (by omega), hm 89 (by omega), hm 90 (by omega), hm 91 (by omega), hm 92 (by omega), hm 93 (by omega), hm 94 (by omega)]
    exact q
  have hMD : MDy ν τ nr nb nl := by
    have q := h.mok.2.2.2
    unfold MDy at q ⊢
    rw [h79 29 (by omega), h79 30 (by omega), h79 31 (by omega), h79 34 (by omega), hm 95 (by omega), hm 96 (by omega), hm 97 (by omega), hm 98 (by omega), hm 99 (by omega), hm 100 (by omega), hm 101 (by omega), hm 102 (by omega), hm 103 (by omega), hm 104 (by omega), hm 105 (by omega), hm 106 (by omega)]
    exact StRel.cg q (fun c a b => hs c (by omega))
  refine ⟨h.pq, by unfold PlIs; rw [hs 0 (by omega)]; exact h.pl, by rw [hs 0 (by omega)]; exact h.np, ⟨h.mok.1.cg (fun k hk => hs _ (by omega)), h.mok.2.1.cg (fun c a b => hs c (by omega)) (hs _ (by omega)), hMP.to (fun k hk => hs _ (by omega)), hMD⟩, Nat.le_trans h.mbN (Nat.mul_le_mul_left 99 hN), hb, hmb, by rw [hs 0 (by omega)]; exact h.kp0, h.kp4, fun i hi => (h.img i hi).cg hi hP hPO.1.2.2.2.2.1 hPO.2.1.2 hPO.2.2.1.2 (Nat.le_refl _) (fun c a _ => hs c (by omega)) (hm 132 (by omega)) (hm 133 (by omega)), by rw [hs 1 (by omega)]; exact h.len, ?_, by rw [h79 37 (by omega), hs 1 (by omega)]; exact h.flt, by rw [h76]; exact h.c76, by rw [h78]; exact h.c78⟩
  have q := h.tx
  unfold TX at q ⊢
  rw [h79 36 (by omega), hm 107 (by omega), hs 2 (by omega)]
  exact q
end
theorem MImg.pw {μ ν σ : Mem} {i nr nb nl : Nat} (hr12 : nr ≤ 12) (hb4 : nb ≤ 4) (hl4 : nl ≤ 4) (h6 : σ.1 (imgId i) 6 ≤ 200) (h : MImg μ σ i nr nb nl) (hm : ∀ a : Int, 0 ≤ a → a < 456 → ν.1 132 (500 * (i : Int) + a) = μ.1 132 (500 * (i : Int) + a)) : MImg ν σ i nr nb nl := by
  obtain ⟨⟨a1, a2, a3, a4⟩, hr, hb, hl, hri⟩ := h
  refine ⟨⟨by rw [hm 52 (by decide) (by decide)]; exact a1, by rw [hm 53 (by decide) (by decide)]; exact a2, by rw [hm 54 (by decide) (by decide)]; exact a3, by rw [hm 55 (by decide) (by decide)]; exact a4⟩, fun r hr9 => ?_, fun b hb9 => ?_, fun l hl9 => ?_, fun k hk9 => ?_⟩
  · have e1 : bckE (fun j => ν.1 132 (500 * (i : Int) + j)) 95 r = bckE (fun j => μ.1 132 (500 * (i : Int) + j)) 95 r := hm (r) (by omega) (by omega)
    have e2 : bckE (fun j => ν.1 132 (500 * (i : Int) + j)) 96 r = bckE (fun j => μ.1 132 (500 * (i : Int) + j)) 96 r := by
      show (if (ν.1 132 (500 * (i : Int) + (12 + (r : Int)))).tmod 2 = 1 then (1 : Int) else 0) = _
      rw [hm (12 + (r : Int)) (by omega) (by omega)]
      rfl
    have e3 : bckE (fun j => ν.1 132 (500 * (i : Int) + j)) 97 r = bckE (fun j => μ.1 132 (500 * (i : Int) + j)) 97 r := by
      show (if 1 < (ν.1 132 (500 * (i : Int) + (12 + (r : Int)))) then (1 : Int) else 0) = _
      rw [hm (12 + (r : Int)) (by omega) (by omega)]
      rfl
    rw [e1, e2, e3]
    exact hr r hr9
  · have e1 : bckE (fun j => ν.1 132 (500 * (i : Int) + j)) 98 b = bckE (fun j => μ.1 132 (500 * (i : Int) + j)) 98 b := hm (24 + (b : Int)) (by omega) (by omega)
    have e2 : bckE (fun j => ν.1 132 (500 * (i : Int) + j)) 99 b = bckE (fun j => μ.1 132 (500 * (i : Int) + j)) 99 b := hm (28 + (b : Int)) (by omega) (by omega)
    have e3 : bckE (fun j => ν.1 132 (500 * (i : Int) + j)) 100 b = bckE (fun j => μ.1 132 (500 * (i : Int) + j)) 100 b := hm (32 + (b : Int)) (by omega) (by omega)
    have e4 : bckE (fun j => ν.1 132 (500 * (i : Int) + j)) 101 b = bckE (fun j => μ.1 132 (500 * (i : Int) + j)) 101 b := hm (36 + (b : Int)) (by omega) (by omega)
    rw [e1, e2, e3, e4]
    exact hb b hb9
  · have e1 : bckE (fun j => ν.1 132 (500 * (i : Int) + j)) 102 l = bckE (fun j => μ.1 132 (500 * (i : Int) + j)) 102 l := hm (40 + (l : Int)) (by omega) (by omega)
    have e2 : bckE (fun j => ν.1 132 (500 * (i : Int) + j)) 103 l = bckE (fun j => μ.1 132 (500 * (i : Int) + j)) 103 l := hm (44 + (l : Int)) (by omega) (by omega)
    have e3 : bckE (fun j => ν.1 132 (500 * (i : Int) + j)) 104 l = bckE (fun j => μ.1 132 (500 * (i : Int) + j)) 104 l := by
      show (if (ν.1 132 (500 * (i : Int) + (48 + (l : Int)))) = 1 then (1 : Int) else 0) = _
      rw [hm (48 + (l : Int)) (by omega) (by omega)]
      rfl
    rw [e1, e2, e3]
    exact hl l hl9
  · have e1 : bckE (fun j => ν.1 132 (500 * (i : Int) + j)) 105 k = bckE (fun j => μ.1 132 (500 * (i : Int) + j)) 105 k := hm (56 + (k : Int)) (by omega) (by omega)
    have e2 : bckE (fun j => ν.1 132 (500 * (i : Int) + j)) 106 k = bckE (fun j => μ.1 132 (500 * (i : Int) + j)) 106 k := hm (256 + (k : Int)) (by omega) (by omega)
    rw [e1, e2]
    exact hri k hk9
theorem feedL_at (σ : Mem) (L : Nat) (x : Int64) (n c : Nat) (k : Int) : ∀ m, (feedL σ L x n m).1 c k = if c = 1 ∧ k = 1 ∧ 0 < m then ((L + m : Nat) : Int) else if c = 2 ∧ (L : Int) ≤ k ∧ k < ((L + m : Nat) : Int) then sg ((ub x (n - 1 - (k.toNat - L)) : Nat) : Int) else σ.1 c k := by
  intro m
  induction m with
  | zero => rw [feedL, if_neg (by omega), if_neg (by omega)]
  | succ m ih =>
    rw [feedL, wr_at]
    by_cases e : c = 1 ∧ k = 1
    · rw [if_pos e, if_pos ⟨e.1, e.2, by omega⟩]; rfl
    · rw [if_neg e, wr_at, if_neg (c := c = 1 ∧ k = 1 ∧ 0 < m + 1) (fun y => e ⟨y.1, y.2.1⟩)]
      by_cases e2 : c = 2 ∧ k = ((L + m : Nat) : Int)
      · rw [if_pos e2, if_pos ⟨e2.1, by omega, by omega⟩, show k.toNat - L = m by omega]
      · rw [if_neg e2, ih, if_neg (fun y => e ⟨y.1, y.2.1⟩)]
        by_cases e3 : c = 2 ∧ (L : Int) ≤ k ∧ k < ((L + m : Nat) : Int)
        · rw [if_pos e3, if_pos ⟨e3.1, e3.2.1, by omega⟩]
        · rw [if_neg e3, if_neg (by omega)]
theorem fedM_at (μ : Mem) (L : Nat) (x : Int64) (n c : Nat) (k : Int) : ∀ m, (fedM μ L x n m).1 c k = if c = 79 ∧ k = 36 ∧ 0 < m then ((L + m : Nat) : Int) else if c = 107 ∧ (L : Int) ≤ k ∧ k < ((L + m : Nat) : Int) then ((ub x (n - 1 - (k.toNat - L)) : Nat) : Int) else μ.1 c k := by
  intro m
  induction m with
  | zero => rw [fedM, if_neg (by omega), if_neg (by omega)]
  | succ m ih =>
    rw [fedM, wr_at]
    by_cases e : c = 79 ∧ k = 36
    · rw [if_pos e, if_pos ⟨e.1, e.2, by omega⟩]; rfl
    · rw [if_neg e, wr_at, if_neg (c := c = 79 ∧ k = 36 ∧ 0 < m + 1) (fun y => e ⟨y.1, y.2.1⟩)]
      by_cases e2 : c = 107 ∧ k = ((L + m : Nat) : Int)
      · rw [if_pos e2, if_pos ⟨e2.1, by omega, by omega⟩, show k.toNat - L = m by omega]
      · rw [if_neg e2, ih, if_neg (fun y => e ⟨y.1, y.2.1⟩)]
        by_cases e3 : c = 107 ∧ (L : Int) ≤ k ∧ k < ((L + m : Nat) : Int)
        · rw [if_pos e3, if_pos ⟨e3.1, e3.2.1, by omega⟩]
        · rw [if_neg e3, if_neg (by omega)]
theorem s_feed {N : Nat} {σ : Mem} (h : Sim N σ) (a : Int) (ha : inR a) (x : Int64) : Two N (fun Ψ => Con yX7_feed cX7_feed 5 (some .int) 1 21 [.ref 0, .int (iI a), .long x] σ (Ψ)) (fun τ Ψ => Con yX8_feed cX8_feed 5 (some .int) 1 25 [.ref 79, .int (iI a), .long x] τ (Ψ)) := by
  obtain ⟨P, Q, n, nr, nb, nl, mb, w, wt, dv, k, kp, L, f, t, hW⟩ := id h
  have hL5 := hW.tx.2.1
  refine two_d (σ := σ) (k_feed σ L hW.len hL5 a ha x) (fun τ hτ => m_feed τ L (hW.ref hτ).tx.1 hL5 a ha x) (fun v τ hv => ?_)
  try dsimp only at hv
  split at hv
  · rename_i c1
    obtain ⟨rfl, rfl⟩ := hv
    refine ⟨fun _ _ => rfl, _, rfl, fun v2 ν h2 => ?_⟩
    try dsimp only at h2
    rw [if_pos c1] at h2
    obtain ⟨rfl, rfl⟩ := h2
    exact ⟨rfl, h.succ⟩
  · rename_i c1
    split at hv
    · rename_i c2
      obtain ⟨rfl, rfl⟩ := hv
      refine ⟨fun _ _ => rfl, _, rfl, fun v2 ν h2 => ?_⟩
      try dsimp only at h2
      rw [if_neg c1, if_pos c2] at h2
      obtain ⟨rfl, rfl⟩ := h2
      exact ⟨rfl, h.succ⟩
    · rename_i c2
      obtain ⟨rfl, rfl⟩ := hv
      obtain ⟨m, rfl⟩ : ∃ m : Nat, a = m := ⟨a.toNat, by omega⟩
      rw [show ((m : Nat) : Int).toNat = m from rfl]
      have e1 := fun c k => feedL_at σ L x m c k m
      have hc1 : ∀ c, c ≠ 1 → c ≠ 2 → (feedL σ L x m m).1 c = σ.1 c := fun c a b => by
        funext k
        rw [e1, if_neg (by omega), if_neg (by omega)]
      refine ⟨fun c hc => hc1 c (by omega) (by omega), _, rfl, fun v2 ν h2 => ?_⟩
      try dsimp only at h2
      rw [if_neg c1, if_neg c2] at h2
      obtain ⟨rfl, rfl⟩ := h2
      refine ⟨rfl, ?_⟩
      generalize feedL σ L x m m = τ at *
      have e2 := fun c k => fedM_at τ L x m c k m
      have hc2 : ∀ c, c ≠ 79 → c ≠ 107 → (fedM τ L x m m).1 c = τ.1 c := fun c a b => by
        funext k
        rw [e2, if_neg (by omega), if_neg (by omega)]
      have hP := hW.hP
      have hm1 : 1 ≤ m := by omega
      have h11 : (fedM τ L x m m).1 1 1 = ((L + m : Nat) : Int) := by
        rw [hc2 1 (by decide) (by decide), e1, if_pos ⟨rfl, rfl, by omega⟩]
      refine ⟨P, Q, n, nr, nb, nl, mb, w, wt, dv, k, kp, L + m, f, t, hW.io (Nat.le_succ _) ?_ (fun k hk => ?_) (fun c a b => ?_) ?_ ?_ (fun c hc => ?_) (fun k9 h1 h3 => ?_) h11 ?_ ?_⟩
      · rw [hc2 _ (by omega) (by omega), hc1 _ (by omega) (by omega)]
      · rw [hc2 _ (by omega) (by omega), hc1 _ (by omega) (by omega)]
      · rw [hc2 _ (by omega) (by omega), hc1 _ (by omega) (by omega)]
      · rw [hc2 _ (by omega) (by omega), hc1 _ (by omega) (by omega)]
      · rw [hc2 _ (by omega) (by omega), hc1 _ (by omega) (by omega)]
      · rw [hc2 _ (by omega) (by omega), hc1 _ (by omega) (by omega)]
      · rw [e2, if_neg (by omega), if_neg (by omega), hc1 _ (by omega) (by omega)]
      · refine ⟨by rw [e2, if_pos ⟨rfl, rfl, by omega⟩], by omega, fun j hj => ?_⟩
        dsimp only
        rw [hc2 2 (by decide) (by decide), e2 107 (j : Int), if_neg (by omega), e1 2 (j : Int), if_neg (c := (2 : Nat) = 1 ∧ _) (by omega)]
        by_cases q : L ≤ j
        · rw [if_pos ⟨rfl, by omega, by omega⟩, if_pos ⟨rfl, by omega, by omega⟩]
          have hu := ub_R x (m - 1 - (((j : Nat) : Int).toNat - L))
          exact ⟨by omega, by omega, rfl⟩
        · rw [if_neg (by omega), if_neg (by omega), hc1 107 (by decide) (by decide)]
          exact hW.tx.2.2 j (by omega)
      · rw [e2 79 37, if_neg (by omega), if_neg (by omega), hc2 1 (by decide) (by decide), hc1 79 (by decide) (by decide), e1 1 3, if_neg (by omega), if_neg (by omega)]
        exact hW.flt
theorem s_forget {N : Nat} {σ : Mem} (h : Sim N σ) : Two N (fun Ψ => Con yX7_forget cX7_forget 2 (some .int) 0 0 [.ref 0] σ (Ψ)) (fun τ Ψ => Con yX8_forget cX8_forget 2 (some .int) 0 0 [.ref 79] τ (Ψ)) := by
  obtain ⟨P, Q, n, nr, nb, nl, mb, w, wt, dv, k, kp, L, f, t, hW⟩ := id h
  refine two_d (σ := σ) (k_forget σ) (fun τ hτ => m_forget τ) (fun v τ hv => ?_)
  obtain ⟨rfl, rfl⟩ := hv
  have hc1 : ∀ c, c ≠ 65 → (wr σ 65 0 0).1 c = σ.1 c := fun c a => by funext k; exact wr_nec _ a
  have hH : Hi σ (wr σ 65 0 0) := fun c hc => hc1 c (by omega)
  refine ⟨hH, _, rfl, fun v2 ν h2 => ?_⟩
  obtain ⟨rfl, rfl⟩ := h2
  refine ⟨by rw [(hW.ref hH).mbk.1, hW.bk.1], ?_⟩
  have h65 : (wr σ 65 0 0).1 65 0 = 0 := wr_eq _ _ _ _
  generalize wr σ 65 0 0 = τ at *
  have hc2 : ∀ c, c ≠ 79 → (wr τ 79 68 0).1 c = τ.1 c := fun c a => by funext k; exact wr_nec _ a
  refine ⟨P, Q, n, nr, nb, nl, mb, w, wt, dv, 0, kp, L, f, t, hW.book (Nat.le_succ _) (fun c hc => ?_) ?_ ?_ (fun c hc => ?_) (fun k9 h1 => ?_) ?_ ?_⟩
  · rw [hc2 _ (by omega), hc1 _ (by omega)]
  · rw [hc2 _ (by omega), hc1 _ (by omega)]
  · rw [hc2 _ (by omega), hc1 _ (by omega)]
  · rw [hc2 _ (by omega), hc1 _ (by omega)]
  · rw [wr_nek _ h1, hc1 _ (by omega)]
  · refine ⟨by rw [hc2 _ (by omega), h65]; rfl, by decide, fun i hi => absurd hi (Nat.not_lt_zero _)⟩
  · exact ⟨wr_eq _ _ _ _, fun i hi => absurd hi (Nat.not_lt_zero _)⟩
theorem s_see {N : Nat} {σ : Mem} (h : Sim N σ) (b p m : Int) (hb : inR b) (hp : inR p) (hm : inR m) : Two N (fun Ψ => Con yX7_see cX7_see 4 (some .int) 1 23 [.ref 0, .int (iI b), .int (iI p), .int (iI m)] σ (Ψ)) (fun τ Ψ => Con yX8_see cX8_see 4 (some .int) 2 46 [.ref 79, .int (iI b), .int (iI p), .int (iI m)] τ (Ψ)) := by
  obtain ⟨P, Q, n, nr, nb, nl, mb, w, wt, dv, k, kp, L, f, t, hW⟩ := id h
  have hk20 := hW.bk.2.1
  refine two_d (σ := σ) (k_see σ P n nr nb nl w wt f t hW.mok.1 hW.pl hW.bits k hW.bk b p m hb hp hm) (fun τ hτ => m_see τ σ P n nr nb nl mb w wt dv f t (hW.ref hτ).mok k (hW.ref hτ).mbk.1 hk20 b p m hb hp hm) (fun v τ hv => ?_)
  try dsimp only at hv
  split at hv
  · rename_i c1
    obtain ⟨rfl, rfl⟩ := hv
    refine ⟨fun _ _ => rfl, _, rfl, fun v2 ν h2 => ?_⟩
    try dsimp only at h2
    rw [if_pos c1] at h2
    obtain ⟨rfl, rfl⟩ := h2
    exact ⟨rfl, h.succ⟩
  · rename_i c1
    split at hv
    · rename_i c2
      obtain ⟨rfl, rfl⟩ := hv
      refine ⟨fun _ _ => rfl, _, rfl, fun v2 ν h2 => ?_⟩
      try dsimp only at h2
      rw [if_neg c1, if_pos c2] at h2
      obtain ⟨rfl, rfl⟩ := h2
      exact ⟨rfl, h.succ⟩
    · rename_i c2
      split at hv
      · rename_i c3
        obtain ⟨rfl, rfl⟩ := hv
        refine ⟨fun _ _ => rfl, _, rfl, fun v2 ν h2 => ?_⟩
        try dsimp only at h2
        rw [if_neg c1, if_neg c2, if_pos c3] at h2
        obtain ⟨rfl, rfl⟩ := h2
        exact ⟨rfl, h.succ⟩
      · rename_i c3
        obtain ⟨rfl, rfl⟩ := hv
        have hbk : ∀ c (k9 : Int), (bookM σ b p m).1 c k9 = if c = 65 ∧ k9 = 0 then (k : Int) + 1 else if c = 68 ∧ k9 = k then m else if c = 67 ∧ k9 = k then p else if c = 66 ∧ k9 = k then b else σ.1 c k9 := fun c k9 => by
          unfold bookM
          rw [wr_at, wr_at, wr_at, wr_at, hW.bk.1]
        have hc1 : ∀ c, ¬ (65 ≤ c ∧ c ≤ 68) → (bookM σ b p m).1 c = σ.1 c := fun c a => by
          funext k9
          rw [hbk, if_neg (by omega), if_neg (by omega), if_neg (by omega), if_neg (by omega)]
        refine ⟨fun c hc => hc1 c (by omega), _, rfl, fun v2 ν h2 => ?_⟩
        try dsimp only at h2
        rw [if_neg c1, if_neg c2, if_neg c3] at h2
        obtain ⟨rfl, rfl⟩ := h2
        refine ⟨rfl, ?_⟩
        generalize bookM σ b p m = τ at *
        have hkb : ∀ c (k9 : Int), (bkM τ k b p m).1 c k9 = if c = 79 ∧ k9 = 68 then (k : Int) + 1 else if c = 131 ∧ k9 = k then m else if c = 130 ∧ k9 = k then p else if c = 129 ∧ k9 = k then b else τ.1 c k9 := fun c k9 => by
          unfold bkM
          rw [wr_at, wr_at, wr_at, wr_at]
        have hc2 : ∀ c, ¬ (c = 79 ∨ (129 ≤ c ∧ c ≤ 131)) → (bkM τ k b p m).1 c = τ.1 c := fun c a => by
          funext k9
          rw [hkb, if_neg (by omega), if_neg (by omega), if_neg (by omega), if_neg (by omega)]
        have hB0 := hW.bk.2.2
        have hM0 := hW.mbk.2
        refine ⟨P, Q, n, nr, nb, nl, mb, w, wt, dv, k + 1, kp, L, f, t, hW.book (Nat.le_succ _) (fun c hc => ?_) ?_ ?_ (fun c hc => ?_) (fun k9 h1 => ?_) ?_ ?_⟩
        · rw [hc2 _ (by omega), hc1 _ (by omega)]
        · rw [hc2 _ (by omega), hc1 _ (by omega)]
        · rw [hc2 _ (by omega), hc1 _ (by omega)]
        · rw [hc2 _ (by omega), hc1 _ (by omega)]
        · rw [hkb, if_neg (by omega), if_neg (by omega), if_neg (by omega), if_neg (by omega), hc1 _ (by omega)]
        · refine ⟨by rw [hc2 _ (by omega), hbk, if_pos ⟨rfl, rfl⟩]; rfl, by omega, fun i hi => ?_⟩
          rw [hc2 66 (by omega), hc2 67 (by omega), hc2 68 (by omega), hbk, hbk, hbk]
          by_cases e : i = k
          · subst e
            rw [if_neg (by omega), if_neg (by omega), if_neg (by omega), if_pos ⟨rfl, rfl⟩, if_neg (by omega), if_neg (by omega), if_pos ⟨rfl, rfl⟩, if_neg (by omega), if_pos ⟨rfl, rfl⟩]
            exact ⟨by omega, by omega, by omega⟩
          · rw [if_neg (by omega), if_neg (by omega), if_neg (by omega), if_neg (by omega), if_neg (by omega), if_neg (by omega), if_neg (by omega), if_neg (by omega), if_neg (by omega), if_neg (by omega), if_neg (by omega), if_neg (by omega)]
            exact hB0 i (by omega)
        · refine ⟨by rw [hkb, if_pos ⟨rfl, rfl⟩]; rfl, fun i hi => ?_⟩
          rw [hc2 66 (by omega), hc2 67 (by omega), hc2 68 (by omega), hbk, hbk, hbk, hkb, hkb, hkb]
          by_cases e : i = k
          · subst e
            refine ⟨?_, ?_, ?_⟩ <;> simp
          · have q := hM0 i (by omega)
            have e9 : ¬ ((i : Int) = (k : Int)) := by omega
            rw [hc1 129 (by omega), hc1 130 (by omega), hc1 131 (by omega)]
            simpa [e9] using q
theorem s_goBack {N : Nat} {σ : Mem} (h : Sim N σ) (x : Int) (hx : inR x) : Two N (fun Ψ => Con yX7_goBack cX7_goBack 2 (some .int) 2 69 [.ref 0, .int (iI x)] σ (Ψ)) (fun τ Ψ => Con yX8_goBack cX8_goBack 4 (some .int) 1 25 [.ref 79, .int (iI x)] τ (Ψ)) := by
  obtain ⟨P, Q, n, nr, nb, nl, mb, w, wt, dv, k, kp, L, f, t, hW⟩ := id h
  have hkp := hW.kp0
  refine two_d (σ := σ) (k_goBack σ kp hkp hW.kp4 x hx) (fun τ hτ => m_goBack τ x hx) (fun v τ hv => ?_)
  try dsimp only at hv
  split at hv
  · rename_i c1
    obtain ⟨rfl, rfl⟩ := hv
    refine ⟨fun _ _ => rfl, _, rfl, fun v2 ν h2 => ?_⟩
    try dsimp only at h2
    rw [if_pos c1] at h2
    obtain ⟨rfl, rfl⟩ := h2
    exact ⟨rfl, h.succ⟩
  · rename_i c1
    have q := Decidable.not_not.mp c1
    obtain ⟨i, rfl⟩ := Int.eq_ofNat_of_zero_le q.1
    have hi : i < 2 := by omega
    have hI := hW.img i hi
    rw [show ((i : Nat) : Int).toNat = i from rfl] at hv
    split at hv
    · rename_i c2
      obtain ⟨rfl, rfl⟩ := hv
      refine ⟨fun _ _ => rfl, _, rfl, fun v2 ν h2 => ?_⟩
      try dsimp only at h2
      rw [if_neg c1, if_pos (by rw [hI.1]; exact b2_f c2)] at h2
      obtain ⟨rfl, rfl⟩ := h2
      exact ⟨rfl, h.succ⟩
    · rename_i c2
      have c3 := Decidable.not_not.mp c2
      obtain ⟨⟨w2, wt2, dv2, g1⟩, g2⟩ := hI.2 c3
      obtain ⟨rfl, rfl⟩ := hv
      have hs : Same sN σ (copyM σ 37 (imgId i)) := ⟨fun c hc => by funext k9; exact copyM_c (by unfold sN at hc; omega) k9, rfl⟩
      have hH := hiN hs
      refine ⟨hH, _, rfl, fun v2 ν h2 => ?_⟩
      try dsimp only at h2
      have e133 : (copyM σ 37 (imgId i)).1 133 ((i : Nat) : Int) = 1 := by rw [hH 133 (by decide), hI.1]; exact b2_t c3
      rw [if_neg c1, if_neg (by omega)] at h2
      obtain ⟨rfl, h3⟩ := h2
      refine ⟨rfl, ?_⟩
      have hPO := hW.mok.1
      have t1 := imgId_t hi
      have t2 := @imgId_ne i
      have h37 : (37 : Nat) = 37 ∨ 37 = 47 ∨ 37 = 56 := Or.inl rfl
      have h6 : σ.1 (imgId i) 6 ≤ 200 := by
        have := g1.2.2.2.2.2.2.1.2
        rw [copyM_f h37 t1 t2 (by decide) (by decide)] at this
        exact this
      have g3 : MImg (copyM σ 37 (imgId i)) σ i nr nb nl := g2.cg (fun _ _ _ => rfl) (hH 132 (by decide))
      exact hW.upd hs h3.1 (g3.back hi hPO.1.2.2.2.2.1 hPO.2.1.2 hPO.2.2.1.2 h6 h3) g1 (Nat.le_refl _) (by have := hW.mbN; omega)
theorem s_keep {N : Nat} {σ : Mem} (h : Sim N σ) (x : Int) (hx : inR x) : Two N (fun Ψ => Con yX7_keep cX7_keep 2 (some .int) 2 69 [.ref 0, .int (iI x)] σ (Ψ)) (fun τ Ψ => Con yX8_keep cX8_keep 4 (some .int) 1 25 [.ref 79, .int (iI x)] τ (Ψ)) := by
  obtain ⟨P, Q, n, nr, nb, nl, mb, w, wt, dv, k, kp, L, f, t, hW⟩ := id h
  have hkp := hW.kp0
  have hkp4 := hW.kp4
  refine two_d (σ := σ) (k_keep σ kp hkp hkp4 x hx) (fun τ hτ => m_keep τ x hx) (fun v τ hv => ?_)
  try dsimp only at hv
  split at hv
  · rename_i c1
    obtain ⟨rfl, rfl⟩ := hv
    refine ⟨fun _ _ => rfl, _, rfl, fun v2 ν h2 => ?_⟩
    try dsimp only at h2
    rw [if_pos c1] at h2
    obtain ⟨rfl, rfl⟩ := h2
    exact ⟨rfl, h.succ⟩
  · rename_i c1
    have q := Decidable.not_not.mp c1
    obtain ⟨i, rfl⟩ := Int.eq_ofNat_of_zero_le q.1
    have hi : i < 2 := by omega
    rw [show ((i : Nat) : Int).toNat = i from rfl] at hv
    obtain ⟨rfl, rfl⟩ := hv
    have t1 := imgId_t hi
    have t2 : 37 ≠ imgId i := (@imgId_ne i).symm
    have hid : imgId i = 47 ∨ imgId i = 56 := by unfold imgId; omega
    have h37 : (37 : Nat) = 37 ∨ 37 = 47 ∨ 37 = 56 := Or.inl rfl
    have hc1 : ∀ c, c ≠ 0 → (keepM σ i kp).1 c = (copyM σ (imgId i) 37).1 c := fun c a => by
      funext k9; unfold keepM; exact wr_nec _ a
    have hc2 : ∀ c, c ≠ 0 → ¬ (imgId i ≤ c ∧ c ≤ imgId i + 8) → (keepM σ i kp).1 c = σ.1 c := fun c a b => by
      rw [hc1 c a]; funext k9; exact copyM_c b k9
    have hc0 : ∀ k9 : Int, (keepM σ i kp).1 0 k9 = if k9 = 5 then ((kp ||| 2 ^ i : Nat) : Int) else σ.1 0 k9 := fun k9 => by
      unfold keepM
      rw [wr_at]
      by_cases e : k9 = 5
      · rw [if_pos ⟨rfl, e⟩, if_pos e]
      · rw [if_neg (fun y => e y.2), if_neg e]; exact copyM_c (by omega) k9
    have hH : Hi σ (keepM σ i kp) := fun c hc => hc2 c (by omega) (by omega)
    refine ⟨hH, _, rfl, fun v2 ν h2 => ?_⟩
    try dsimp only at h2
    rw [if_neg c1] at h2
    obtain ⟨rfl, ν0, h3, rfl⟩ := h2
    refine ⟨rfl, ?_⟩
    have hPO := hW.mok.1
    have hP := hW.hP
    have hD := hW.mok.2.1
    have h6 : σ.1 37 6 ≤ 200 := hD.2.2.2.2.2.2.1.2
    have hMD := (hW.ref hH).mok.2.2.2
    have hcp := fun c (a : imgId i ≤ c) (b : c ≤ imgId i + 8) => hc1 c (by omega)
    have g3 : MImg ν0 (keepM σ i kp) i nr nb nl := MImg.kept hi hPO.1.2.2.2.2.1 hPO.2.1.2 hPO.2.2.1.2 h6 hMD h3 hcp
    generalize keepM σ i kp = τ at *
    have hν : ∀ c, c ≠ 132 → c ≠ 133 → (wr ν0 133 ((i : Nat) : Int) 1).1 c = τ.1 c := fun c a b => by
      rw [← h3.1 c a]; funext k9; exact wr_nec _ b
    have hν2 : (wr ν0 133 ((i : Nat) : Int) 1).1 132 = ν0.1 132 := by funext k9; exact wr_nec _ (by decide)
    have hν3 : ∀ k9 : Int, k9 ≠ ((i : Nat) : Int) → (wr ν0 133 ((i : Nat) : Int) 1).1 133 k9 = σ.1 133 k9 := fun k9 a => by
      rw [wr_nek _ a, h3.1 133 (by decide), hH 133 (by decide)]
    have hν4 : (wr ν0 133 ((i : Nat) : Int) 1).1 133 ((i : Nat) : Int) = 1 := wr_eq _ _ _ _
    generalize wr ν0 133 ((i : Nat) : Int) 1 = ν at *
    have hkb : ∀ j, (kp ||| 2 ^ i).testBit j = (kp.testBit j || decide (i = j)) := fun j => by
      rw [Nat.testBit_or, Nat.testBit_two_pow]
    have hk2 : kp ||| 2 ^ i < 4 := Nat.or_lt_two_pow (n := 2) hkp4 (Nat.pow_lt_pow_right (by decide) hi)
    have hs : ∀ c, c ≤ 78 → c ≠ 0 → ¬ (imgId i ≤ c ∧ c ≤ imgId i + 8) → ν.1 c = σ.1 c := fun c a b d => by rw [hν c (by omega) (by omega), hc2 c b d]
    have hm : ∀ c, 79 ≤ c → c ≤ 131 → ν.1 c = σ.1 c := fun c a b => by rw [hν c (by omega) (by omega), hH c a]
    have hs0 : ∀ k9 : Int, k9 ≠ 5 → ν.1 0 k9 = σ.1 0 k9 := fun k9 a => by rw [hν 0 (by omega) (by omega), hc0, if_neg a]
    refine ⟨P, Q, n, nr, nb, nl, mb, w, wt, dv, k, kp ||| 2 ^ i, L, f, t, ⟨hW.pq, by unfold PlIs; rw [hs0 1 (by decide)]; exact hW.pl, by rw [hs0 2 (by decide)]; exact hW.np, ⟨hPO.cg (fun k hk => hs _ (by omega) (by omega) (by omega)), hD.cg (fun c a b => hs c (by omega) (by omega) (by omega)) (hs _ (by omega) (by omega) (by omega)), hW.mok.2.2.1.cg (fun k hk => hs _ (by omega) (by omega) (by omega)) (fun c a b => hm c (by omega) (by omega)), hW.mok.2.2.2.cg (fun c a b => hs c (by omega) (by omega) (by omega)) (fun c a b => hm c (by omega) (by omega)) (hm 79 (by omega) (by omega))⟩, Nat.le_trans hW.mbN (Nat.mul_le_mul_left 99 (Nat.le_succ _)), hW.bk.cg (fun c a b => hs c (by omega) (by omega) (by omega)), hW.mbk.cg (fun c a b => hs c (by omega) (by omega) (by omega)) (by rw [hm 79 (by omega) (by omega)]) (fun c a b => hm c (by omega) (by omega)), by rw [hν 0 (by omega) (by omega), hc0, if_pos rfl], hk2, fun j hj => ?_, by rw [hs 1 (by omega) (by omega) (by omega)]; exact hW.len, ?_, by rw [hm 79 (by omega) (by omega), hs 1 (by omega) (by omega) (by omega)]; exact hW.flt, by rw [hs 76 (by omega) (by omega) (by omega)]; exact hW.c76, by rw [hs 78 (by omega) (by omega) (by omega)]; exact hW.c78⟩⟩
    · have u1 := imgId_t hj
      have u2 := @imgId_ne j
      have hjd : imgId j = 47 ∨ imgId j = 56 := by unfold imgId; omega
      by_cases e : j = i
      · subst e
        refine ⟨by rw [hν4, hkb]; exact (b2_t (by simp)).symm, fun _ => ⟨⟨w, wt, dv, ?_⟩, g3.cg (fun c a b => hν c (by omega) (by omega)) hν2⟩⟩
        refine DynOk.pw hPO.1.2.2.2.2.1 hPO.2.1.2 hPO.2.2.1.2 hD (fun k a b => ?_) (fun k a b => ?_) (fun c k a b x y => ?_) ?_
        · rw [copyM_f h37 u1 u2 a b, hν _ (by omega) (by omega), hc1 _ (by omega), copyM_f u1 h37 u2.symm a b]
        · rw [show (38 : Nat) = 37 + 1 from rfl, copyM_r1 h37 u1 u2 a b, hν _ (by omega) (by omega), hc1 _ (by omega), copyM_r1 u1 h37 u2.symm a b]
        · obtain ⟨d, rfl⟩ : ∃ d, c = 37 + d := ⟨c - 37, by omega⟩
          rw [copyM_b h37 u1 u2 (by omega) x y, hν _ (by omega) (by omega), hc1 _ (by omega), copyM_b u1 h37 u2.symm (by omega) x y]
        · funext k9
          rw [copyM_c (by omega), hs _ (by omega) (by omega) (by omega)]
      · have hJ := hW.img j hj
        have hne : ¬ (imgId i ≤ imgId j + 8 ∧ imgId j ≤ imgId i + 8) := by unfold imgId; omega
        have e9 : (kp ||| 2 ^ i).testBit j = kp.testBit j := by rw [hkb, decide_eq_false (fun y => e y.symm), Bool.or_false]
        refine ⟨by rw [hν3 _ (by omega), e9]; exact hJ.1, fun hk => ?_⟩
        rw [e9] at hk
        obtain ⟨⟨w9, wt9, dv9, g4⟩, g5⟩ := hJ.2 hk
        refine ⟨⟨w9, wt9, dv9, ?_⟩, ?_⟩
        · refine DynOk.pw hPO.1.2.2.2.2.1 hPO.2.1.2 hPO.2.2.1.2 g4 (fun k a b => ?_) (fun k a b => ?_) (fun c k a b x y => ?_) ?_
          · rw [copyM_f h37 u1 u2 a b, copyM_f h37 u1 u2 a b, hs _ (by omega) (by omega) (by omega)]
          · rw [show (38 : Nat) = 37 + 1 from rfl, copyM_r1 h37 u1 u2 a b, copyM_r1 h37 u1 u2 a b, hs _ (by omega) (by omega) (by omega)]
          · obtain ⟨d, rfl⟩ : ∃ d, c = 37 + d := ⟨c - 37, by omega⟩
            rw [copyM_b h37 u1 u2 (by omega) x y, copyM_b h37 u1 u2 (by omega) x y, hs _ (by omega) (by omega) (by omega)]
          · funext k9
            rw [copyM_c (by omega), copyM_c (by omega), hs _ (by omega) (by omega) (by omega)]
        · have g6 := g5.cg (ν := σ) (τ := ν) (fun c a b => hs c (by omega) (by omega) (by omega)) rfl
          have h69 : ν.1 (imgId j) 6 ≤ 200 := by
            have := g4.2.2.2.2.2.2.1.2
            rw [copyM_f h37 u1 u2 (by decide) (by decide)] at this
            rw [hs _ (by omega) (by omega) (by omega)]
            exact this
          refine g6.pw hPO.1.2.2.2.2.1 hPO.2.1.2 hPO.2.2.1.2 h69 (fun a0 a1 a2 => ?_)
          rw [hν2, h3.2.2.1 _ (by omega), hH 132 (by decide)]
    · have q := hW.tx
      unfold TX at q ⊢
      rw [hm 79 (by omega) (by omega), hm 107 (by omega) (by omega), hs 2 (by omega) (by omega) (by omega)]
      exact q
