/-- the sums by single ropes, the first r of them -/
def edg (f t : Nat → Nat) (c : Nat → Int) : Nat → Nat → Nat → Int
  | 0, p, q => if p = q then 0 else 1000000
  | r + 1, p, q => if c r ≠ -1 ∧ ((p = f r ∧ q = t r) ∨ (p = t r ∧ q = f r)) then min (edg f t c r p q) (c r) else edg f t c r p q
def fwN (D : Nat → Nat → Int) : Nat → Nat → Nat → Int
  | 0 => D
  | k + 1 => fw1 (fwN D k) k
theorem edg_ok {f t : Nat → Nat} {c : Nat → Int} {nr : Nat} (hc : ∀ r, r < nr → c r = -1 ∨ (0 ≤ c r ∧ c r ≤ 1000000)) : ∀ r, r ≤ nr → ∀ p q, 0 ≤ edg f t c r p q ∧ edg f t c r p q ≤ 1000000 := by
  intro r
  induction r with
  | zero => intro _ p q; unfold edg; split <;> omega
  | succ r ih =>
    intro h p q
    have h1 := ih (by omega) p q
    have h2 := hc r (by omega)
    unfold edg
    split
    next h3 => have := h3.1; omega
    next => exact h1
theorem edg_diag {f t : Nat → Nat} {c : Nat → Int} {nr : Nat} (hne : ∀ r, r < nr → f r ≠ t r) : ∀ r, r ≤ nr → ∀ p, edg f t c r p p = 0 := by
  intro r
  induction r with
  | zero => intro _ p; unfold edg; rw [if_pos rfl]
  | succ r ih =>
    intro h p
    have h1 := hne r (by omega)
    unfold edg
    rw [if_neg (by omega), ih (by omega)]
theorem fwN_ok {n : Nat} {D : Nat → Nat → Int} (h : okD n D) : ∀ k, k ≤ n → okD n (fwN D k) := by
  intro k
  induction k with
  | zero => intro _; exact h
  | succ k ih => intro hk; exact fw1_ok (ih (by omega)) hk
theorem fwN_diag {n : Nat} {D : Nat → Nat → Int} (h : okD n D) (h0 : ∀ p, p < n → D p p = 0) : ∀ k, k ≤ n → ∀ p, p < n → fwN D k p p = 0 := by
  intro k
  induction k with
  | zero => intro _; exact h0
  | succ k ih =>
    intro hk p hp
    have h1 := ih (by omega) p hp
    have h2 := fwN_ok h k (by omega) p k hp hk
    have h3 := fwN_ok h k (by omega) k p hk hp
    show fw1 (fwN D k) k p p = 0
    unfold fw1
    omega
/-- the ropes of a plan, as the contracts take them -/
def PlanR (σ : Mem) (P n nr : Nat) (f t : Nat → Nat) : Prop := (P = 3 ∨ P = 20) ∧ σ.1 P 0 = n ∧ n ≤ 8 ∧ σ.1 P 1 = nr ∧ nr ≤ 12 ∧ ∀ r, r < nr → σ.1 (P + 5) r = f r ∧ σ.1 (P + 6) r = t r ∧ f r < n ∧ t r < n ∧ f r ≠ t r
def sW (c : Nat) : Prop := c = 69 ∨ c = 71
theorem PlanR.same {σ τ : Mem} {P n nr : Nat} {f t : Nat → Nat} {S : Nat → Prop} (h : PlanR σ P n nr f t) (hs : Same S σ τ) (h0 : ¬ S P) (h5 : ¬ S (P + 5)) (h6 : ¬ S (P + 6)) : PlanR τ P n nr f t := by
  obtain ⟨a, b, c, d, e, g⟩ := h
  exact ⟨a, by rw [hs.at h0]; exact b, c, by rw [hs.at h0]; exact d, e, fun r hr => by rw [hs.at h5, hs.at h6]; exact g r hr⟩
theorem k_spread (σ : Mem) (P n nr : Nat) (f t : Nat → Nat) (hPl : PlanR σ P n nr f t) (hc : ∀ r, r < nr → (fun r : Nat => σ.1 70 r) r = -1 ∨ (0 ≤ (fun r : Nat => σ.1 70 r) r ∧ (fun r : Nat => σ.1 70 r) r ≤ 1000000)) : Con yX6_spread cX6_spread 3 none 2 47 [.ref 69, .ref P] σ (AnsVP (fun τ => Same sW σ τ ∧ τ.1 69 2 = n ∧ ∀ p q, p < n → q < n → mat τ p q = fwN (edg f t (fun r => σ.1 70 r) nr) n p q)) := by
  refine con_of (by decide) rfl (Nat.le_of_ble_eq_true rfl) (ok_VP rfl) ?_
  refine ev_w (fun hR => ?_)
  have hR0 := hR
  obtain ⟨hP, hn, hn8, hr, hr12, hft⟩ := id hPl
  have nP : ∀ k, k ≤ 16 → ¬ sW (P + k) := fun k hk h => by unfold sW at h; omega
  have nP0 : ¬ sW P := nP 0 (by omega)
  have n70 : ¬ sW 70 := by unfold sW; omega
  have sub : ∀ c, c = 71 → sW c := fun c h => Or.inr h
  have hne : ∀ r, r < nr → f r ≠ t r := fun r h => (hft r h).2.2.2.2
  have hE := edg_ok (f := f) (t := t) hc
  have hE0 : okD n (edg f t (fun r => σ.1 70 r) nr) := fun p q _ _ => hE nr (Nat.le_refl _) p q
  have hEd : ∀ p, p < n → edg f t (fun r => σ.1 70 r) nr p p = 0 := fun p _ => edg_diag hne nr (Nat.le_refl _) p
  have loop3 : ∀ i : Nat, i ≤ n → ∀ τ : Mem, Same sW σ τ → τ.1 69 2 = n → (∀ p q, p < n → q < n → mat τ p q = fwN (edg f t (fun r => σ.1 70 r) nr) i p q) → Ev RX6 cX6_spread 3 2 47 (AnsVP (fun τ => Same sW σ τ ∧ τ.1 69 2 = n ∧ ∀ p q, p < n → q < n → mat τ p q = fwN (edg f t (fun r => σ.1 70 r) nr) n p q)) 117 [some (.ref 69), some (.ref P), some (.int (iI (i : Nat)))] [] τ := by
    refine for_up n (fun i hi ih τ hS hn2 hm => ?_)
    refine ev_w (fun hR => ?_)
    refine ev_iload_n dX6_spread_117 rfl ?_
    refine ev_aload_n dX6_spread_118 rfl ?_
    refine ev_getI (kz := 2) dX6_spread_119 fl_X6_18 rfl rfl rfl ?_
    rw [hn2]
    refine ev_icmp_ge (tgt := 136) dX6_spread_122 (by decide) (by first | exact hR.1 _ _ | exact hR0.1 _ _ | assumption | exact ⟨by omega, by omega⟩ | exact ⟨by simp [wr_at]; omega, by simp [wr_at]; omega⟩ | exact b2_R _ | exact band_R _ _ | exact bor_R _ _ | exact bshl_R _ _ | exact bshr_R _ _ | exact bxor_R _ _ | exact bs_R (by omega) | decide) (by first | exact hR.1 _ _ | exact hR0.1 _ _ | assumption | exact ⟨by omega, by omega⟩ | exact ⟨by simp [wr_at]; omega, by simp [wr_at]; omega⟩ | exact b2_R _ | exact band_R _ _ | exact bor_R _ _ | exact bshl_R _ _ | exact bshr_R _ _ | exact bxor_R _ _ | exact bs_R (by omega) | decide) (fun h_122 => ?_) (fun h_122 => ?_)
    · refine ev_return dX6_spread_136 ?_
      obtain rfl : i = n := by omega
      exact ⟨rfl, hS, hn2, hm⟩
    · have hok : okD n (mat τ) := fun p q hp hq => by rw [hm p q hp hq]; exact fwN_ok hE0 i (by omega) p q hp hq
      have hd0 : mat τ i i = 0 := by rw [hm i i (by omega) (by omega)]; exact fwN_diag hE0 hEd i (by omega) i (by omega)
      refine ev_aload_n dX6_spread_125 rfl ?_
      refine ev_iload_n dX6_spread_126 rfl ?_
      refine ev_callVP dX6_spread_127 kv_X6_45 (k_spreadBy τ n i hn2 hn8 (by omega) hok hd0) rfl rfl (ci := 6) rfl rfl ⟨by decide, by decide⟩ (Nat.le_of_ble_eq_true rfl) ?_
      rintro v_127 τ_127 ⟨rfl, hS2, hm2⟩
      refine ev_w (fun hR => ?_)
      refine ev_iinc dX6_spread_130 rfl rfl (by decide) rfl ?_
      refine ev_goto (tgt := 117) dX6_spread_133 (by decide) ?_
      refine ih (by omega) _ (hS.tr (hS2.mono sub)) (by rw [hS2.at (by decide)]; exact hn2) (fun p q hp hq => ?_)
      rw [hm2 p q hp hq]
      show fw1 (mat τ) i p q = fw1 (fwN _ i) i p q
      unfold fw1
      rw [hm p q hp hq, hm p i hp (by omega), hm i q (by omega) hq]
  have loop2 : ∀ i : Nat, i ≤ nr → ∀ τ : Mem, Same sW σ τ → τ.1 69 2 = n → (∀ p q, p < n → q < n → mat τ p q = edg f t (fun r => σ.1 70 r) i p q) → Ev RX6 cX6_spread 3 2 47 (AnsVP (fun τ => Same sW σ τ ∧ τ.1 69 2 = n ∧ ∀ p q, p < n → q < n → mat τ p q = fwN (edg f t (fun r => σ.1 70 r) nr) n p q)) 47 [some (.ref 69), some (.ref P), some (.int (iI (i : Nat)))] [] τ := by
    refine for_up nr (fun i hi ih τ hS hn2 hm => ?_)
    refine ev_w (fun hR => ?_)
    refine ev_iload_n dX6_spread_47 rfl ?_
    refine ev_aload_n dX6_spread_48 rfl ?_
    refine ev_getI (kz := 1) dX6_spread_49 fl_X6_32 (plO hP) rfl rfl ?_
    rw [hS.at nP0, hr]
    refine ev_icmp_ge (tgt := 115) dX6_spread_52 (by decide) (by first | exact hR.1 _ _ | exact hR0.1 _ _ | assumption | exact ⟨by omega, by omega⟩ | exact ⟨by simp [wr_at]; omega, by simp [wr_at]; omega⟩ | exact b2_R _ | exact band_R _ _ | exact bor_R _ _ | exact bshl_R _ _ | exact bshr_R _ _ | exact bxor_R _ _ | exact bs_R (by omega) | decide) (by first | exact hR.1 _ _ | exact hR0.1 _ _ | assumption | exact ⟨by omega, by omega⟩ | exact ⟨by simp [wr_at]; omega, by simp [wr_at]; omega⟩ | exact b2_R _ | exact band_R _ _ | exact bor_R _ _ | exact bshl_R _ _ | exact bshr_R _ _ | exact bxor_R _ _ | exact bs_R (by omega) | decide) (fun h_52 => ?_) (fun h_52 => ?_)
    · refine ev_iconst dX6_spread_115 ?_
      refine ev_istore_n dX6_spread_116 rfl (by decide) rfl ?_
      obtain rfl : i = nr := by omega
      exact loop3 0 (by omega) τ hS hn2 hm
    · refine ev_aload_n dX6_spread_55 rfl ?_
      refine ev_getR (r := 70) dX6_spread_56 fl_X6_9 rfl rfl rfl ?_
      refine ev_iload_n dX6_spread_59 rfl ?_
      
      refine ev_iaload dX6_spread_60 rfl (by first | omega | (simp [wr_at]; omega) | (simp [wr_at, *]; omega)) (by first | omega | (simp [wr_at]; omega) | (simp [wr_at, *]; omega)) (by decide) ?_
      rw [hS.at n70]
      refine ev_iconst dX6_spread_61 ?_
      refine ev_icmp_eq (tgt := 109) dX6_spread_62 (by decide) (by first | exact hR.1 _ _ | exact hR0.1 _ _ | assumption | exact ⟨by omega, by omega⟩ | exact ⟨by simp [wr_at]; omega, by simp [wr_at]; omega⟩ | exact b2_R _ | exact band_R _ _ | exact bor_R _ _ | exact bshl_R _ _ | exact bshr_R _ _ | exact bxor_R _ _ | exact bs_R (by omega) | decide) (by first | exact hR.1 _ _ | exact hR0.1 _ _ | assumption | exact ⟨by omega, by omega⟩ | exact ⟨by simp [wr_at]; omega, by simp [wr_at]; omega⟩ | exact b2_R _ | exact band_R _ _ | exact bor_R _ _ | exact bshl_R _ _ | exact bshr_R _ _ | exact bxor_R _ _ | exact bs_R (by omega) | decide) (fun h_62 => ?_) (fun h_62 => ?_)
      · refine ev_iinc dX6_spread_109 rfl rfl (by decide) rfl ?_
        refine ev_goto (tgt := 47) dX6_spread_112 (by decide) ?_
        first
          | (refine ih (by omega) _ hS hn2 (fun p q hp hq => ?_)
             rw [hm p q hp hq]
             show _ = edg f t (fun r => σ.1 70 r) (i + 1) p q
             rw [edg, if_neg (fun q => q.1 h_62)])
          | (refine ih (by omega) _ (hS.tr ((shortM_same.tr shortM_same).mono sub)) (by rw [shortM_same.at (by decide), shortM_same.at (by decide)]; exact hn2) (fun p q hp hq => ?_)
             have e := hm p q hp hq
             show (shortM (shortM τ (f i) (t i) _) (t i) (f i) _).1 71 _ = edg f t (fun r => σ.1 70 r) (i + 1) p q
             have e2 : τ.1 71 ((p : Int) * 8 + q) = edg f t (fun r => σ.1 70 r) i p q := e
             rw [shortM_at, shortM_at, e2, edg]
             by_cases c1 : p = f i ∧ q = t i
             · rw [if_neg (by omega), if_pos (by omega), if_pos ⟨h_62, Or.inl c1⟩]
             · by_cases c2 : p = t i ∧ q = f i
               · rw [if_pos (by omega), if_neg (by omega), if_pos ⟨h_62, Or.inr c2⟩]
               · rw [if_neg (by omega), if_neg (by omega), if_neg (fun z => z.2.elim c1 c2)])
      · obtain ⟨hf, ht, hf2, ht2, hft2⟩ := hft i (by omega)
        have hci := hc i (by omega)
        refine ev_aload_n dX6_spread_65 rfl ?_
        refine ev_aload_n dX6_spread_66 rfl ?_
        refine ev_getR (r := P + 5) dX6_spread_67 fl_X6_35 (plO hP) rfl rfl ?_
        refine ev_iload_n dX6_spread_70 rfl ?_
        refine ev_iaload dX6_spread_71 (plA5 hP) (by first | omega | (simp [wr_at]; omega) | (simp [wr_at, *]; omega)) (by first | omega | (simp [wr_at]; omega) | (simp [wr_at, *]; omega)) (by decide) ?_
        rw [hS.at (nP 5 (by omega)), hf]
        refine ev_aload_n dX6_spread_72 rfl ?_
        refine ev_getR (r := P + 6) dX6_spread_73 fl_X6_38 (plO hP) rfl rfl ?_
        refine ev_iload_n dX6_spread_76 rfl ?_
        refine ev_iaload dX6_spread_77 (plA6 hP) (by first | omega | (simp [wr_at]; omega) | (simp [wr_at, *]; omega)) (by first | omega | (simp [wr_at]; omega) | (simp [wr_at, *]; omega)) (by decide) ?_
        rw [hS.at (nP 6 (by omega)), ht]
        refine ev_aload_n dX6_spread_78 rfl ?_
        refine ev_getR (r := 70) dX6_spread_79 fl_X6_9 rfl rfl rfl ?_
        refine ev_iload_n dX6_spread_82 rfl ?_
        refine ev_iaload dX6_spread_83 rfl (by first | omega | (simp [wr_at]; omega) | (simp [wr_at, *]; omega)) (by first | omega | (simp [wr_at]; omega) | (simp [wr_at, *]; omega)) (by decide) ?_
        rw [hS.at n70]
        refine ev_callVV dX6_spread_84 kv_X6_41 (k_shorten τ (f i) (t i) (σ.1 70 i) (by omega) (by omega) (by omega) (by omega) (hR0.1 _ _)) rfl rfl (ci := 6) rfl rfl ⟨by decide, by decide⟩ (Nat.le_of_ble_eq_true rfl) ?_
        refine ev_w (fun hR => ?_)
        refine ev_aload_n dX6_spread_87 rfl ?_
        refine ev_aload_n dX6_spread_88 rfl ?_
        refine ev_getR (r := P + 6) dX6_spread_89 fl_X6_38 (plO hP) rfl rfl ?_
        refine ev_iload_n dX6_spread_92 rfl ?_
        refine ev_iaload dX6_spread_93 (plA6 hP) (by first | omega | (simp [wr_at]; omega) | (simp [wr_at, *]; omega)) (by first | omega | (simp [wr_at]; omega) | (simp [wr_at, *]; omega)) (by decide) ?_
        rw [shortM_same.at (by omega), hS.at (nP 6 (by omega)), ht]
        refine ev_aload_n dX6_spread_94 rfl ?_
        refine ev_getR (r := P + 5) dX6_spread_95 fl_X6_35 (plO hP) rfl rfl ?_
        refine ev_iload_n dX6_spread_98 rfl ?_
        refine ev_iaload dX6_spread_99 (plA5 hP) (by first | omega | (simp [wr_at]; omega) | (simp [wr_at, *]; omega)) (by first | omega | (simp [wr_at]; omega) | (simp [wr_at, *]; omega)) (by decide) ?_
        rw [shortM_same.at (by omega), hS.at (nP 5 (by omega)), hf]
        refine ev_aload_n dX6_spread_100 rfl ?_
        refine ev_getR (r := 70) dX6_spread_101 fl_X6_9 rfl rfl rfl ?_
        refine ev_iload_n dX6_spread_104 rfl ?_
        refine ev_iaload dX6_spread_105 rfl (by first | omega | (simp [wr_at]; omega) | (simp [wr_at, *]; omega)) (by first | omega | (simp [wr_at]; omega) | (simp [wr_at, *]; omega)) (by decide) ?_
        rw [shortM_same.at (by decide), hS.at n70]
        refine ev_callVV dX6_spread_106 kv_X6_41 (k_shorten _ (t i) (f i) (σ.1 70 i) (by omega) (by omega) (by omega) (by omega) (hR0.1 _ _)) rfl rfl (ci := 6) rfl rfl ⟨by decide, by decide⟩ (Nat.le_of_ble_eq_true rfl) ?_
        refine ev_w (fun hR => ?_)
        refine ev_iinc dX6_spread_109 rfl rfl (by decide) rfl ?_
        refine ev_goto (tgt := 47) dX6_spread_112 (by decide) ?_
        first
          | (refine ih (by omega) _ hS hn2 (fun p q hp hq => ?_)
             rw [hm p q hp hq]
             show _ = edg f t (fun r => σ.1 70 r) (i + 1) p q
             rw [edg, if_neg (fun q => q.1 h_62)])
          | (refine ih (by omega) _ (hS.tr ((shortM_same.tr shortM_same).mono sub)) (by rw [shortM_same.at (by decide), shortM_same.at (by decide)]; exact hn2) (fun p q hp hq => ?_)
             have e := hm p q hp hq
             show (shortM (shortM τ (f i) (t i) _) (t i) (f i) _).1 71 _ = edg f t (fun r => σ.1 70 r) (i + 1) p q
             have e2 : τ.1 71 ((p : Int) * 8 + q) = edg f t (fun r => σ.1 70 r) i p q := e
             rw [shortM_at, shortM_at, e2, edg]
             by_cases c1 : p = f i ∧ q = t i
             · rw [if_neg (by omega), if_pos (by omega), if_pos ⟨h_62, Or.inl c1⟩]
             · by_cases c2 : p = t i ∧ q = f i
               · rw [if_pos (by omega), if_neg (by omega), if_pos ⟨h_62, Or.inr c2⟩]
               · rw [if_neg (by omega), if_neg (by omega), if_neg (fun z => z.2.elim c1 c2)])
  have loop1 : ∀ i : Nat, i ≤ n → ∀ τ : Mem, Same sW σ τ → τ.1 69 2 = n → (∀ p q, p < n → q < n → mat τ p q = if p = q ∧ p < i then 0 else 1000000) → Ev RX6 cX6_spread 3 2 47 (AnsVP (fun τ => Same sW σ τ ∧ τ.1 69 2 = n ∧ ∀ p q, p < n → q < n → mat τ p q = fwN (edg f t (fun r => σ.1 70 r) nr) n p q)) 19 [some (.ref 69), some (.ref P), some (.int (iI (i : Nat)))] [] τ := by
    refine for_up n (fun i hi ih τ hS hn2 hm => ?_)
    refine ev_w (fun hR => ?_)
    refine ev_iload_n dX6_spread_19 rfl ?_
    refine ev_aload_n dX6_spread_20 rfl ?_
    refine ev_getI (kz := 2) dX6_spread_21 fl_X6_18 rfl rfl rfl ?_
    rw [hn2]
    refine ev_icmp_ge (tgt := 45) dX6_spread_24 (by decide) (by first | exact hR.1 _ _ | exact hR0.1 _ _ | assumption | exact ⟨by omega, by omega⟩ | exact ⟨by simp [wr_at]; omega, by simp [wr_at]; omega⟩ | exact b2_R _ | exact band_R _ _ | exact bor_R _ _ | exact bshl_R _ _ | exact bshr_R _ _ | exact bxor_R _ _ | exact bs_R (by omega) | decide) (by first | exact hR.1 _ _ | exact hR0.1 _ _ | assumption | exact ⟨by omega, by omega⟩ | exact ⟨by simp [wr_at]; omega, by simp [wr_at]; omega⟩ | exact b2_R _ | exact band_R _ _ | exact bor_R _ _ | exact bshl_R _ _ | exact bshr_R _ _ | exact bxor_R _ _ | exact bs_R (by omega) | decide) (fun h_24 => ?_) (fun h_24 => ?_)
    · refine ev_iconst dX6_spread_45 ?_
      refine ev_istore_n dX6_spread_46 rfl (by decide) rfl ?_
      obtain rfl : i = n := by omega
      refine loop2 0 (by omega) τ hS hn2 (fun p q hp hq => ?_)
      rw [hm p q hp hq, edg]
      by_cases c1 : p = q
      · rw [if_pos ⟨c1, hp⟩, if_pos c1]
      · rw [if_neg (fun z => c1 z.1), if_neg c1]
    · refine ev_aload_n dX6_spread_27 rfl ?_
      refine ev_getR (r := 71) dX6_spread_28 fl_X6_15 rfl rfl rfl ?_
      refine ev_iload_n dX6_spread_31 rfl ?_
      refine ev_bipush dX6_spread_32 (by decide) ?_
      refine ev_imul dX6_spread_34 ?_
      refine ev_iload_n dX6_spread_35 rfl ?_
      refine ev_iadd dX6_spread_36 ?_
      refine ev_iconst dX6_spread_37 ?_
      refine ev_iastore dX6_spread_38 rfl (by first | omega | (simp [wr_at]; omega) | (simp [wr_at, *]; omega)) (by first | omega | (simp [wr_at]; omega) | (simp [wr_at, *]; omega)) (by decide) (by first | exact hR.1 _ _ | exact hR0.1 _ _ | assumption | exact ⟨by omega, by omega⟩ | exact ⟨by simp [wr_at]; omega, by simp [wr_at]; omega⟩ | exact b2_R _ | exact band_R _ _ | exact bor_R _ _ | exact bshl_R _ _ | exact bshr_R _ _ | exact bxor_R _ _ | exact bs_R (by omega) | decide) ?_
      refine ev_w (fun hR => ?_)
      refine ev_iinc dX6_spread_39 rfl rfl (by decide) rfl ?_
      refine ev_goto (tgt := 19) dX6_spread_42 (by decide) ?_
      refine ih (by omega) _ (hS.wr (Or.inr rfl)) (by rw [wr_nec _ (by decide)]; exact hn2) (fun p q hp hq => ?_)
      have e : τ.1 71 ((p : Int) * 8 + q) = _ := hm p q hp hq
      show (wr τ 71 _ 0).1 71 _ = _
      rw [wr_at, e]
      by_cases c1 : p = i ∧ q = i
      · rw [if_pos ⟨rfl, by omega⟩, if_pos (by omega)]
      · rw [if_neg (by omega)]
        by_cases c2 : p = q ∧ p < i
        · rw [if_pos c2, if_pos (by omega)]
        · rw [if_neg c2, if_neg (by omega)]
  refine ev_aload_n dX6_spread_0 rfl ?_
  refine ev_aload_n dX6_spread_1 rfl ?_
  refine ev_getI (kz := 0) dX6_spread_2 fl_X6_22 (plO hP) rfl rfl ?_
  rw [hn]
  refine ev_putI (kz := 2) dX6_spread_5 fp_X6_18 rfl rfl rfl (by first | exact hR.1 _ _ | exact hR0.1 _ _ | assumption | exact ⟨by omega, by omega⟩ | exact ⟨by simp [wr_at]; omega, by simp [wr_at]; omega⟩ | exact b2_R _ | exact band_R _ _ | exact bor_R _ _ | exact bshl_R _ _ | exact bshr_R _ _ | exact bxor_R _ _ | exact bs_R (by omega) | decide) ?_
  refine ev_w (fun hR => ?_)
  refine ev_aload_n dX6_spread_8 rfl ?_
  refine ev_getR (r := 71) dX6_spread_9 fl_X6_15 rfl rfl rfl ?_
  refine ev_ldc (z := 1000000) dX6_spread_12 kc_X6_25 (by decide) ?_
  refine ev_callSV dX6_spread_14 ks_X6_26 (k_fill _ 71 64 1000000 rfl (by decide) (by decide)) rfl rfl ⟨by decide, by decide⟩ (Nat.le_of_ble_eq_true rfl) ?_
  refine ev_w (fun hR => ?_)
  refine ev_iconst dX6_spread_17 ?_
  refine ev_istore_n dX6_spread_18 rfl (by decide) rfl ?_
  have hfS : Same sW σ (fillM (wr σ 69 2 n) 71 1000000 64) := by
    refine Same.fill (f := fun τ => fillM τ 71 1000000 64) (Same.wr Same.rf (Or.inl rfl)) (fun c hc => ?_) rfl
    funext k
    rw [fillM_at, if_neg (fun q => hc (Or.inr q.1))]
  refine loop1 0 (by omega) _ hfS (by rw [fillM_at, if_neg (by decide), wr_eq]) (fun p q hp hq => ?_)
  show (fillM _ 71 1000000 64).1 71 _ = _
  rw [fillM_at, if_pos ⟨rfl, by omega, by omega⟩, if_neg (by omega)]
/-- a pair's sum were there a rope more between a and b -/
def withR (D : Nat → Nat → Int) (a b : Nat) (w : Int) (p q : Nat) : Int := min (D p q) (min (D p a + w + D b q) (D p b + w + D a q))
def cap9 (x : Int) : Int := if x < 1000000 then x else 999
/-- the sum over the pairs p < q: rows below i whole, of row i those below j -/
def sumPr (F : Nat → Nat → Int) (n : Nat) : Nat → Int
  | 0 => 0
  | p + 1 => sumPr F n p + sumI (fun j => F p (p + 1 + j)) (n - (p + 1))
theorem k_sumWith (σ : Mem) (n a b : Nat) (w : Int) (hn : σ.1 69 2 = n) (hn8 : n ≤ 8) (ha : a < n) (hb : b < n) (hw0 : 0 ≤ w) (hw1 : w ≤ 1000) (hD : okD n (mat σ)) : Con yX6_sumWith cX6_sumWith 10 (some .int) 1 22 [.ref 69, .int (iI a), .int (iI b), .int (iI w)] σ (AnsI (sumPr (fun p q => cap9 (withR (mat σ) a b w p q)) n n) σ) := by
  refine con_of (by decide) rfl (Nat.le_of_ble_eq_true rfl) (ok_I rfl) ?_
  refine ev_w (fun hR => ?_)
  have hR0 := hR
  have loop : ∀ i : Nat, i ≤ n → ∀ (acc : Int) (w6 w7 w8 w9 : Option Value), acc = sumPr (fun p q => cap9 (withR (mat σ) a b w p q)) n i → Ev RX6 cX6_sumWith 10 1 22 (AnsI (sumPr (fun p q => cap9 (withR (mat σ) a b w p q)) n n) σ) 6 [some (.ref 69), some (.int (iI a)), some (.int (iI b)), some (.int (iI w)), some (.int (iI acc)), some (.int (iI (i : Nat))), w6, w7, w8, w9] [] σ := by
    refine for_up n (fun i hi ih acc w6 w7 w8 w9 ha0 => ?_)
    refine ev_w (fun hR => ?_)
    have inner : i < n → ∀ j : Nat, j ≤ n - (i + 1) → ∀ (acc : Int) (w7 w8 w9 : Option Value), acc = sumPr (fun p q => cap9 (withR (mat σ) a b w p q)) n i + sumI (fun j => (fun p q => cap9 (withR (mat σ) a b w p q)) i (i + 1 + j)) j → Ev RX6 cX6_sumWith 10 1 22 (AnsI (sumPr (fun p q => cap9 (withR (mat σ) a b w p q)) n n) σ) 21 [some (.ref 69), some (.int (iI a)), some (.int (iI b)), some (.int (iI w)), some (.int (iI acc)), some (.int (iI (i : Nat))), some (.int (iI ((i + 1 + j : Nat) : Int))), w7, w8, w9] [] σ := by
      intro hin
      refine for_up (n - (i + 1)) (fun j hj ihj acc w7 w8 w9 ha1 => ?_)
      refine ev_w (fun hR => ?_)
      refine ev_iload dX6_sumWith_21 rfl ?_
      refine ev_aload_n dX6_sumWith_23 rfl ?_
      refine ev_getI (kz := 2) dX6_sumWith_24 fl_X6_18 rfl rfl rfl ?_
      rw [hn]
      refine ev_icmp_ge (tgt := 114) dX6_sumWith_27 (by decide) (by first | exact hR.1 _ _ | exact hR0.1 _ _ | assumption | exact ⟨by omega, by omega⟩ | exact ⟨by simp [wr_at]; omega, by simp [wr_at]; omega⟩ | exact b2_R _ | exact band_R _ _ | exact bor_R _ _ | exact bshl_R _ _ | exact bshr_R _ _ | exact bxor_R _ _ | exact bs_R (by omega) | decide) (by first | exact hR.1 _ _ | exact hR0.1 _ _ | assumption | exact ⟨by omega, by omega⟩ | exact ⟨by simp [wr_at]; omega, by simp [wr_at]; omega⟩ | exact b2_R _ | exact band_R _ _ | exact bor_R _ _ | exact bshl_R _ _ | exact bshr_R _ _ | exact bxor_R _ _ | exact bs_R (by omega) | decide) (fun h_27 => ?_) (fun h_27 => ?_)
      · refine ev_iinc dX6_sumWith_114 rfl rfl (by decide) rfl ?_
        refine ev_goto (tgt := 6) dX6_sumWith_117 (by decide) ?_
        obtain rfl : j = n - (i + 1) := by omega
        exact ih (by omega) _ _ _ _ _ ha1
      · have d1 := hD i a hin ha
        have d2 := hD b (i + 1 + j) hb (by omega)
        have d3 := hD i b hin hb
        have d4 := hD a (i + 1 + j) ha (by omega)
        have d5 := hD i (i + 1 + j) hin (by omega)
        have e1 : σ.1 71 ((i : Int) * 8 + a) = mat σ i a := rfl
        have e2 : σ.1 71 ((b : Int) * 8 + ((i + 1 + j : Nat) : Int)) = mat σ b (i + 1 + j) := rfl
        have e3 : σ.1 71 ((i : Int) * 8 + b) = mat σ i b := rfl
        have e4 : σ.1 71 ((a : Int) * 8 + ((i + 1 + j : Nat) : Int)) = mat σ a (i + 1 + j) := rfl
        have e5 : σ.1 71 ((i : Int) * 8 + ((i + 1 + j : Nat) : Int)) = mat σ i (i + 1 + j) := rfl
        refine ev_aload_n dX6_sumWith_30 rfl ?_
        refine ev_iload dX6_sumWith_31 rfl ?_
        refine ev_iload_n dX6_sumWith_33 rfl ?_
        refine ev_callVI dX6_sumWith_34 kv_X6_49 (k_between σ i a (by omega) (by omega) (by omega) (by omega)) rfl rfl (ci := 6) rfl rfl ⟨by decide, by decide⟩ (Nat.le_of_ble_eq_true rfl) ?_
        refine ev_w (fun hR => ?_)
        refine ev_iload_n dX6_sumWith_37 rfl ?_
        refine ev_iadd dX6_sumWith_38 ?_
        refine ev_aload_n dX6_sumWith_39 rfl ?_
        refine ev_iload_n dX6_sumWith_40 rfl ?_
        refine ev_iload dX6_sumWith_41 rfl ?_
        refine ev_callVI dX6_sumWith_43 kv_X6_49 (k_between σ b ((i + 1 + j : Nat) : Int) (by omega) (by omega) (by omega) (by omega)) rfl rfl (ci := 6) rfl rfl ⟨by decide, by decide⟩ (Nat.le_of_ble_eq_true rfl) ?_
        refine ev_w (fun hR => ?_)
        refine ev_iadd dX6_sumWith_46 ?_
        refine ev_istore dX6_sumWith_47 rfl (by decide) rfl ?_
        refine ev_aload_n dX6_sumWith_49 rfl ?_
        refine ev_iload dX6_sumWith_50 rfl ?_
        refine ev_iload_n dX6_sumWith_52 rfl ?_
        refine ev_callVI dX6_sumWith_53 kv_X6_49 (k_between σ i b (by omega) (by omega) (by omega) (by omega)) rfl rfl (ci := 6) rfl rfl ⟨by decide, by decide⟩ (Nat.le_of_ble_eq_true rfl) ?_
        refine ev_w (fun hR => ?_)
        refine ev_iload_n dX6_sumWith_56 rfl ?_
        refine ev_iadd dX6_sumWith_57 ?_
        refine ev_aload_n dX6_sumWith_58 rfl ?_
        refine ev_iload_n dX6_sumWith_59 rfl ?_
        refine ev_iload dX6_sumWith_60 rfl ?_
        refine ev_callVI dX6_sumWith_62 kv_X6_49 (k_between σ a ((i + 1 + j : Nat) : Int) (by omega) (by omega) (by omega) (by omega)) rfl rfl (ci := 6) rfl rfl ⟨by decide, by decide⟩ (Nat.le_of_ble_eq_true rfl) ?_
        refine ev_w (fun hR => ?_)
        refine ev_iadd dX6_sumWith_65 ?_
        refine ev_istore dX6_sumWith_66 rfl (by decide) rfl ?_
        refine ev_aload_n dX6_sumWith_68 rfl ?_
        refine ev_iload dX6_sumWith_69 rfl ?_
        refine ev_iload dX6_sumWith_71 rfl ?_
        refine ev_callVI dX6_sumWith_73 kv_X6_49 (k_between σ i ((i + 1 + j : Nat) : Int) (by omega) (by omega) (by omega) (by omega)) rfl rfl (ci := 6) rfl rfl ⟨by decide, by decide⟩ (Nat.le_of_ble_eq_true rfl) ?_
        refine ev_w (fun hR => ?_)
        refine ev_iload dX6_sumWith_76 rfl ?_
        refine ev_iload dX6_sumWith_78 rfl ?_
        rw [e1, e2, e3, e4, e5]
        refine ev_mmin dX6_sumWith_80 ks_X6_53 (by first | exact hR.1 _ _ | exact hR0.1 _ _ | assumption | exact ⟨by omega, by omega⟩ | exact ⟨by simp [wr_at]; omega, by simp [wr_at]; omega⟩ | exact b2_R _ | exact band_R _ _ | exact bor_R _ _ | exact bshl_R _ _ | exact bshr_R _ _ | exact bxor_R _ _ | exact bs_R (by omega) | decide) (by first | exact hR.1 _ _ | exact hR0.1 _ _ | assumption | exact ⟨by omega, by omega⟩ | exact ⟨by simp [wr_at]; omega, by simp [wr_at]; omega⟩ | exact b2_R _ | exact band_R _ _ | exact bor_R _ _ | exact bshl_R _ _ | exact bshr_R _ _ | exact bxor_R _ _ | exact bs_R (by omega) | decide) (by decide) (by decide) (Nat.le_of_ble_eq_true rfl) ?_
        refine ev_mmin dX6_sumWith_83 ks_X6_53 (by first | exact hR.1 _ _ | exact hR0.1 _ _ | assumption | exact ⟨by omega, by omega⟩ | exact ⟨by simp [wr_at]; omega, by simp [wr_at]; omega⟩ | exact b2_R _ | exact band_R _ _ | exact bor_R _ _ | exact bshl_R _ _ | exact bshr_R _ _ | exact bxor_R _ _ | exact bs_R (by omega) | decide) (by first | exact hR.1 _ _ | exact hR0.1 _ _ | assumption | exact ⟨by omega, by omega⟩ | exact ⟨by simp [wr_at]; omega, by simp [wr_at]; omega⟩ | exact b2_R _ | exact band_R _ _ | exact bor_R _ _ | exact bshl_R _ _ | exact bshr_R _ _ | exact bxor_R _ _ | exact bs_R (by omega) | decide) (by decide) (by decide) (Nat.le_of_ble_eq_true rfl) ?_
        refine ev_istore dX6_sumWith_86 rfl (by decide) rfl ?_
        refine ev_iload dX6_sumWith_88 rfl ?_
        refine ev_iload dX6_sumWith_90 rfl ?_
        refine ev_ldc (z := 1000000) dX6_sumWith_92 kc_X6_25 (by decide) ?_
        refine ev_icmp_lt (tgt := 103) dX6_sumWith_94 (by decide) (by first | exact hR.1 _ _ | exact hR0.1 _ _ | assumption | exact ⟨by omega, by omega⟩ | exact ⟨by simp [wr_at]; omega, by simp [wr_at]; omega⟩ | exact b2_R _ | exact band_R _ _ | exact bor_R _ _ | exact bshl_R _ _ | exact bshr_R _ _ | exact bxor_R _ _ | exact bs_R (by omega) | decide) (by first | exact hR.1 _ _ | exact hR0.1 _ _ | assumption | exact ⟨by omega, by omega⟩ | exact ⟨by simp [wr_at]; omega, by simp [wr_at]; omega⟩ | exact b2_R _ | exact band_R _ _ | exact bor_R _ _ | exact bshl_R _ _ | exact bshr_R _ _ | exact bxor_R _ _ | exact bs_R (by omega) | decide) (fun h_94 => ?_) (fun h_94 => ?_)
        · refine ev_iload dX6_sumWith_103 rfl ?_
          refine ev_iadd dX6_sumWith_105 ?_
          refine ev_istore dX6_sumWith_106 rfl (by decide) rfl ?_
          refine ev_iinc dX6_sumWith_108 rfl rfl (by decide) rfl ?_
          refine ev_goto (tgt := 21) dX6_sumWith_111 (by decide) ?_
          refine ihj (by omega) _ _ _ _ ?_
          rw [ha1]
          show _ = sumPr _ n i + (sumI _ j + cap9 (withR (mat σ) a b w i (i + 1 + j)))
          rw [← Int.add_assoc]
          first
            | (rw [show cap9 (withR (mat σ) a b w i (i + 1 + j)) = withR (mat σ) a b w i (i + 1 + j) from if_pos h_94]; rfl)
            | (rw [show cap9 (withR (mat σ) a b w i (i + 1 + j)) = 999 from if_neg h_94])
        · refine ev_sipush dX6_sumWith_97 (by decide) ?_
          refine ev_goto (tgt := 105) dX6_sumWith_100 (by decide) ?_
          refine ev_iadd dX6_sumWith_105 ?_
          refine ev_istore dX6_sumWith_106 rfl (by decide) rfl ?_
          refine ev_iinc dX6_sumWith_108 rfl rfl (by decide) rfl ?_
          refine ev_goto (tgt := 21) dX6_sumWith_111 (by decide) ?_
          refine ihj (by omega) _ _ _ _ ?_
          rw [ha1]
          show _ = sumPr _ n i + (sumI _ j + cap9 (withR (mat σ) a b w i (i + 1 + j)))
          rw [← Int.add_assoc]
          first
            | (rw [show cap9 (withR (mat σ) a b w i (i + 1 + j)) = withR (mat σ) a b w i (i + 1 + j) from if_pos h_94]; rfl)
            | (rw [show cap9 (withR (mat σ) a b w i (i + 1 + j)) = 999 from if_neg h_94])
    refine ev_iload dX6_sumWith_6 rfl ?_
    refine ev_aload_n dX6_sumWith_8 rfl ?_
    refine ev_getI (kz := 2) dX6_sumWith_9 fl_X6_18 rfl rfl rfl ?_
    rw [hn]
    refine ev_icmp_ge (tgt := 120) dX6_sumWith_12 (by decide) (by first | exact hR.1 _ _ | exact hR0.1 _ _ | assumption | exact ⟨by omega, by omega⟩ | exact ⟨by simp [wr_at]; omega, by simp [wr_at]; omega⟩ | exact b2_R _ | exact band_R _ _ | exact bor_R _ _ | exact bshl_R _ _ | exact bshr_R _ _ | exact bxor_R _ _ | exact bs_R (by omega) | decide) (by first | exact hR.1 _ _ | exact hR0.1 _ _ | assumption | exact ⟨by omega, by omega⟩ | exact ⟨by simp [wr_at]; omega, by simp [wr_at]; omega⟩ | exact b2_R _ | exact band_R _ _ | exact bor_R _ _ | exact bshl_R _ _ | exact bshr_R _ _ | exact bxor_R _ _ | exact bs_R (by omega) | decide) (fun h_12 => ?_) (fun h_12 => ?_)
    · refine ev_iload dX6_sumWith_120 rfl ?_
      refine ev_ireturn dX6_sumWith_122 ?_
      obtain rfl : i = n := by omega
      exact ⟨by rw [ha0], rfl⟩
    · refine ev_iload dX6_sumWith_15 rfl ?_
      refine ev_iconst dX6_sumWith_17 ?_
      refine ev_iadd dX6_sumWith_18 ?_
      refine ev_istore dX6_sumWith_19 rfl (by decide) rfl ?_
      exact inner (by omega) 0 (by omega) _ _ _ _ (by rw [ha0, sumI, Int.add_zero])
  refine ev_iconst dX6_sumWith_0 ?_
  refine ev_istore dX6_sumWith_1 rfl (by decide) rfl ?_
  refine ev_iconst dX6_sumWith_3 ?_
  refine ev_istore dX6_sumWith_4 rfl (by decide) rfl ?_
  exact loop 0 (by omega) _ _ _ _ _ rfl
