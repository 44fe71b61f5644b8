/-! the parser, as both programs have it: over the text c, of length L -/
def scanF (p : Nat → Bool) : Nat → Nat → Nat
  | 0, i => i
  | n + 1, i => if p i then scanF p n (i + 1) else i
def scan (p : Nat → Bool) (L i : Nat) : Nat := scanF p (L - i) i
theorem scan_go {p : Nat → Bool} {L i : Nat} (h : i < L) (hp : p i = true) : scan p L i = scan p L (i + 1) := by
  unfold scan
  obtain ⟨d, hd⟩ : ∃ d, L - i = d + 1 := ⟨L - i - 1, by omega⟩
  rw [hd, show L - (i + 1) = d by omega, scanF, if_pos hp]
theorem scan_stop {p : Nat → Bool} {L i : Nat} (h : L ≤ i ∨ p i = false) : scan p L i = i := by
  unfold scan
  rcases h with h | h
  · rw [show L - i = 0 by omega, scanF]
  · cases hd : L - i with
    | zero => rw [scanF]
    | succ d => rw [scanF, if_neg (by rw [h]; decide)]
theorem scanF_ge (p : Nat → Bool) (n i : Nat) : i ≤ scanF p n i ∧ scanF p n i ≤ i + n := by
  induction n generalizing i with
  | zero => rw [scanF]; omega
  | succ n ih =>
    rw [scanF]
    split
    · have := ih (i + 1); omega
    · omega
theorem scan_ge (p : Nat → Bool) (L i : Nat) : i ≤ scan p L i := (scanF_ge p _ i).1
theorem scan_le {p : Nat → Bool} {L i : Nat} (h : i ≤ L) : scan p L i ≤ L := by
  have := (scanF_ge p (L - i) i).2
  unfold scan
  omega
theorem scanF_end (p : Nat → Bool) (n i : Nat) (h : scanF p n i < i + n) : p (scanF p n i) = false := by
  induction n generalizing i with
  | zero => rw [scanF] at h; omega
  | succ n ih =>
    rw [scanF] at h ⊢
    by_cases hp : p i = true
    · rw [if_pos hp] at h ⊢
      exact ih (i + 1) (by omega)
    · rw [if_neg hp]
      simpa using hp
theorem scan_end {p : Nat → Bool} {L i : Nat} (hi : i ≤ L) (h : scan p L i < L) : p (scan p L i) = false := scanF_end p (L - i) i (by unfold scan at h; omega)
theorem scanF_in (p : Nat → Bool) (n i j : Nat) (h1 : i ≤ j) (h : j < scanF p n i) : p j = true := by
  induction n generalizing i with
  | zero => rw [scanF] at h; omega
  | succ n ih =>
    rw [scanF] at h
    by_cases hp : p i = true
    · rw [if_pos hp] at h
      by_cases e : i = j
      · rw [← e]; exact hp
      · exact ih (i + 1) (by omega) h
    · rw [if_neg hp] at h; omega
theorem scan_in {p : Nat → Bool} {L i j : Nat} (h1 : i ≤ j) (h : j < scan p L i) : p j = true := scanF_in p (L - i) i j h1 h
theorem scan_idem {p : Nat → Bool} {L i : Nat} (hi : i ≤ L) : scan p L (scan p L i) = scan p L i := by
  by_cases h : scan p L i < L
  · exact scan_stop (Or.inr (scan_end hi h))
  · exact scan_stop (Or.inl (by omega))
def isB (c : Nat → Int) (j : Nat) : Bool := decide (c j = 32)
def isD (c : Nat → Int) (j : Nat) : Bool := decide (48 ≤ c j ∧ c j ≤ 57)
def isA (c : Nat → Int) (j : Nat) : Bool := decide (97 ≤ c j ∧ c j ≤ 122)
def sk (c : Nat → Int) (L i : Nat) : Nat := scan (isB c) L i
def dv (c : Nat → Int) (a : Nat) : Nat → Int
  | 0 => 0
  | k + 1 => dv c a k * 10 + c (a + k) - 48
theorem dv_R {c : Nat → Int} {a k : Nat} (h : ∀ j, a ≤ j → j < a + k → isD c j = true) (hk : k ≤ 4) : 0 ≤ dv c a k ∧ dv c a k < 10 ^ k := by
  induction k with
  | zero => rw [dv]; decide
  | succ k ih =>
    have h1 := ih (fun j h1 h2 => h j h1 (by omega)) (by omega)
    have h2 := h (a + k) (by omega) (by omega)
    unfold isD at h2
    have h2 := of_decide_eq_true h2
    rw [dv]
    have e : (10 : Int) ^ (k + 1) = 10 ^ k * 10 := Int.pow_succ 10 k
    rw [e]
    omega
/-- a number between lo and hi: a fault and its place, or the number, where it begins, where it ends -/
def numR (c : Nat → Int) (L : Nat) (lo hi : Int) (i : Nat) : (Int × Nat) ⊕ (Int × Nat × Nat) :=
  if scan (isD c) L (sk c L i) = sk c L i then .inl (1, sk c L i) else if scan (isD c) L (sk c L i) - sk c L i ≤ 3 ∧ lo ≤ dv c (sk c L i) (scan (isD c) L (sk c L i) - sk c L i) ∧ dv c (sk c L i) (scan (isD c) L (sk c L i) - sk c L i) ≤ hi then .inr (dv c (sk c L i) (scan (isD c) L (sk c L i) - sk c L i), sk c L i, scan (isD c) L (sk c L i)) else .inl (2, sk c L i)
theorem numR_ok {c : Nat → Int} {L : Nat} {lo hi : Int} {i : Nat} {x : Int} {a e : Nat} (h : numR c L lo hi i = .inr (x, a, e)) (hi' : i ≤ L) : lo ≤ x ∧ x ≤ hi ∧ i ≤ a ∧ a < e ∧ e ≤ L := by
  unfold numR at h
  have h1 : i ≤ sk c L i := scan_ge _ _ _
  have h2 := scan_ge (isD c) L (sk c L i)
  have h3 : sk c L i ≤ L := scan_le hi'
  have h4 : scan (isD c) L (sk c L i) ≤ L := scan_le h3
  split at h
  · cases h
  · split at h
    next c1 c2 => cases h; exact ⟨c2.2.1, c2.2.2, h1, by omega, h4⟩
    next => cases h
theorem wr_wr (σ : Mem) (c : Nat) (k a b : Int) : wr (wr σ c k a) c k b = wr σ c k b := by
  unfold wr
  congr 1
  funext c' k'
  by_cases h : c' = c ∧ k' = k
  · rw [if_pos h, if_pos h]
  · rw [if_neg h, if_neg h]; exact if_neg h
theorem wr_id {σ : Mem} {c : Nat} {k a : Int} (h : σ.1 c k = a) : wr σ c k a = σ := by
  apply Prod.ext
  · funext c' k'
    rw [wr_at]
    split
    next q => rw [q.1, q.2, h]
    next => rfl
  · rfl
def S1 (c : Nat) : Prop := c = 1
def RdF (σ τ : Mem) (L : Nat) (f : Int) (w : Nat) : Prop := Same S1 σ τ ∧ τ.1 1 1 = L ∧ τ.1 1 2 = f ∧ τ.1 1 3 = w
def RdA (σ τ : Mem) (L a e : Nat) : Prop := Same S1 σ τ ∧ τ.1 1 1 = L ∧ τ.1 1 3 = σ.1 1 3 ∧ τ.1 1 4 = e ∧ τ.1 1 5 = a
def RdS (σ τ : Mem) (L : Nat) (x : Int) (a e : Nat) : Prop := RdA σ τ L a e ∧ τ.1 1 6 = x
def NumQ (σ : Mem) (L : Nat) (R : (Int × Nat) ⊕ (Int × Nat × Nat)) (z : Int) (τ : Mem) : Prop := (z = 0 ∧ ∃ f w, R = .inl (f, w) ∧ RdF σ τ L f w) ∨ (z = 1 ∧ ∃ x a e, R = .inr (x, a, e) ∧ RdS σ τ L x a e)
theorem NumQ.z {σ τ : Mem} {L : Nat} {R : (Int × Nat) ⊕ (Int × Nat × Nat)} {z : Int} (h : NumQ σ L R z τ) : z = 0 ∨ z = 1 := by
  rcases h with h | h
  · exact Or.inl h.1
  · exact Or.inr h.1
theorem NumQ.R {σ τ : Mem} {L : Nat} {R : (Int × Nat) ⊕ (Int × Nat × Nat)} {z : Int} (h : NumQ σ L R z τ) : inR z := by
  rcases h.z with rfl | rfl <;> decide
theorem NumQ.bad {σ τ : Mem} {L : Nat} {R : (Int × Nat) ⊕ (Int × Nat × Nat)} {z : Int} (h : NumQ σ L R z τ) (hz : z = 0) : ∃ f w, R = .inl (f, w) ∧ RdF σ τ L f w := by
  rcases h with h | h
  · exact h.2
  · have := h.1; omega
theorem NumQ.ok {σ τ : Mem} {L : Nat} {R : (Int × Nat) ⊕ (Int × Nat × Nat)} {z : Int} (h : NumQ σ L R z τ) (hz : ¬ z = 0) : ∃ x a e, R = .inr (x, a, e) ∧ RdS σ τ L x a e := by
  rcases h with h | h
  · exact absurd h.1 hz
  · exact h.2
theorem ok_QZ {Q : Int → Mem → Prop} {ret : Option FieldType} (h : ret = some .boolean) (hq : ∀ z τ, Q z τ → z = 0 ∨ z = 1) : ∀ v τ, AnsQ Q v τ → okRet ret v := by
  rintro v τ ⟨z, rfl, hz⟩
  refine ⟨.boolean, h, ?_⟩
  rcases hq z τ hz with rfl | rfl <;> decide
theorem k_skip (σ : Mem) (L i : Nat) (hL : σ.1 1 1 = L) (hL5 : L ≤ 500) (hi : σ.1 1 4 = i) (hiL : i ≤ L)  : Con yX3_skipBlanks cX3_skipBlanks 1 none 0 0 [.ref 1] σ (AnsV (wr σ 1 4 (sk (fun j : Nat => σ.1 2 j) L i : Nat))) := by
  refine con_of (by decide) rfl (Nat.le_of_ble_eq_true rfl) (ok_V rfl) ?_
  refine ev_w (fun hR => ?_)
  have hR0 := hR
  have loop : ∀ j : Nat, j ≤ L → sk (fun j : Nat => σ.1 2 j) L j = sk (fun j : Nat => σ.1 2 j) L i → Ev RX3 cX3_skipBlanks 1 0 0 (AnsV (wr σ 1 4 (sk (fun j : Nat => σ.1 2 j) L i : Nat))) 0 [some (.ref 1)] [] (wr σ 1 4 (j : Nat)) := by
    refine for_up L (fun j hj ih => ?_)
    intro hsk
    refine ev_w (fun hR => ?_)
    have e1 : (wr σ 1 4 (j : Nat)).1 1 4 = j := wr_eq _ _ _ _
    have e2 : (wr σ 1 4 (j : Nat)).1 1 1 = L := by rw [wr_nek _ (by decide)]; exact hL
    have e3 : ∀ k, (wr σ 1 4 (j : Nat)).1 2 k = σ.1 2 k := fun k => wr_nec _ (by decide)
    refine ev_aload_n dX3_skipBlanks_0 rfl ?_
    refine ev_getI (kz := 4) dX3_skipBlanks_1 fl_X3_25 rfl rfl rfl ?_
    rw [e1]
    refine ev_aload_n dX3_skipBlanks_4 rfl ?_
    refine ev_getI (kz := 1) dX3_skipBlanks_5 fl_X3_15 rfl rfl rfl ?_
    rw [e2]
    refine ev_icmp_ge (tgt := 38) dX3_skipBlanks_8 (by decide) (by first | exact hR.1 _ _ | exact hR0.1 _ _ | assumption | exact ⟨by omega, by omega⟩ | exact ⟨by simp [wr_at]; omega, by simp [wr_at]; omega⟩ | exact b2_R _ | exact band_R _ _ | exact bor_R _ _ | exact bshl_R _ _ | exact bshr_R _ _ | exact bxor_R _ _ | exact bs_R (by omega) | decide) (by first | exact hR.1 _ _ | exact hR0.1 _ _ | assumption | exact ⟨by omega, by omega⟩ | exact ⟨by simp [wr_at]; omega, by simp [wr_at]; omega⟩ | exact b2_R _ | exact band_R _ _ | exact bor_R _ _ | exact bshl_R _ _ | exact bshr_R _ _ | exact bxor_R _ _ | exact bs_R (by omega) | decide) (fun h_8 => ?_) (fun h_8 => ?_)
    · refine ev_return dX3_skipBlanks_38 ?_
      refine ⟨rfl, ?_⟩
      first
        | rw [← hsk, show sk (fun j : Nat => σ.1 2 j) L j = j from scan_stop (Or.inl (by omega))]
        | rw [← hsk, show sk (fun j : Nat => σ.1 2 j) L j = j from scan_stop (Or.inr (decide_eq_false h_22))]
    · refine ev_aload_n dX3_skipBlanks_11 rfl ?_
      refine ev_getR (r := 2) dX3_skipBlanks_12 fl_X3_9 rfl rfl rfl ?_
      refine ev_aload_n dX3_skipBlanks_15 rfl ?_
      refine ev_getI (kz := 4) dX3_skipBlanks_16 fl_X3_25 rfl rfl rfl ?_
      rw [e1]
      refine ev_baload dX3_skipBlanks_19 rfl (by first | omega | (simp [wr_at]; omega) | (simp [wr_at, *]; omega)) (by first | omega | (simp [wr_at]; omega) | (simp [wr_at, *]; omega)) (by decide) ?_
      rw [e3]
      refine ev_bipush dX3_skipBlanks_20 (by decide) ?_
      refine ev_icmp_ne (tgt := 38) dX3_skipBlanks_22 (by decide) (by first | exact hR.1 _ _ | exact hR0.1 _ _ | assumption | exact ⟨by omega, by omega⟩ | exact ⟨by simp [wr_at]; omega, by simp [wr_at]; omega⟩ | exact b2_R _ | exact band_R _ _ | exact bor_R _ _ | exact bshl_R _ _ | exact bshr_R _ _ | exact bxor_R _ _ | exact bs_R (by omega) | decide) (by first | exact hR.1 _ _ | exact hR0.1 _ _ | assumption | exact ⟨by omega, by omega⟩ | exact ⟨by simp [wr_at]; omega, by simp [wr_at]; omega⟩ | exact b2_R _ | exact band_R _ _ | exact bor_R _ _ | exact bshl_R _ _ | exact bshr_R _ _ | exact bxor_R _ _ | exact bs_R (by omega) | decide) (fun h_22 => ?_) (fun h_22 => ?_)
      · refine ev_return dX3_skipBlanks_38 ?_
        refine ⟨rfl, ?_⟩
        first
          | rw [← hsk, show sk (fun j : Nat => σ.1 2 j) L j = j from scan_stop (Or.inl (by omega))]
          | rw [← hsk, show sk (fun j : Nat => σ.1 2 j) L j = j from scan_stop (Or.inr (decide_eq_false h_22))]
      · refine ev_aload_n dX3_skipBlanks_25 rfl ?_
        refine ev_dup dX3_skipBlanks_26 rfl ?_
        refine ev_getI (kz := 4) dX3_skipBlanks_27 fl_X3_25 rfl rfl rfl ?_
        rw [e1]
        refine ev_iconst dX3_skipBlanks_30 ?_
        refine ev_iadd dX3_skipBlanks_31 ?_
        refine ev_putI (kz := 4) dX3_skipBlanks_32 fp_X3_25 rfl rfl rfl (by first | exact hR.1 _ _ | exact hR0.1 _ _ | assumption | exact ⟨by omega, by omega⟩ | exact ⟨by simp [wr_at]; omega, by simp [wr_at]; omega⟩ | exact b2_R _ | exact band_R _ _ | exact bor_R _ _ | exact bshl_R _ _ | exact bshr_R _ _ | exact bxor_R _ _ | exact bs_R (by omega) | decide) ?_
        refine ev_w (fun hR => ?_)
        refine ev_goto (tgt := 0) dX3_skipBlanks_35 (by decide) ?_
        rw [wr_wr]
        refine ih (by omega) ?_
        rw [← hsk]
        exact (scan_go (by omega) (decide_eq_true h_22)).symm
  refine ev_σ (wr_id hi).symm ?_
  exact loop i hiL rfl
theorem k_more (σ : Mem) (L i : Nat) (hL : σ.1 1 1 = L) (hL5 : L ≤ 500) (hi : σ.1 1 4 = i) (hiL : i ≤ L)  : Con yX3_isMore cX3_isMore 1 (some .boolean) 1 20 [.ref 1] σ (AnsI (b2 (sk (fun j : Nat => σ.1 2 j) L i < L)) (wr σ 1 4 (sk (fun j : Nat => σ.1 2 j) L i : Nat))) := by
  refine con_of (by decide) rfl (Nat.le_of_ble_eq_true rfl) (ok_Z rfl (b2_01 _)) ?_
  refine ev_w (fun hR => ?_)
  have hR0 := hR
  refine ev_aload_n dX3_isMore_0 rfl ?_
  refine ev_callVV dX3_isMore_1 kv_X3_47 (k_skip σ L i hL hL5 hi hiL) rfl rfl (ci := 3) rfl rfl ⟨by decide, by decide⟩ (Nat.le_of_ble_eq_true rfl) ?_
  refine ev_w (fun hR => ?_)
  have e1 : (wr σ 1 4 (sk (fun j : Nat => σ.1 2 j) L i : Nat)).1 1 4 = (sk (fun j : Nat => σ.1 2 j) L i : Nat) := wr_eq _ _ _ _
  have e2 : (wr σ 1 4 (sk (fun j : Nat => σ.1 2 j) L i : Nat)).1 1 1 = L := by rw [wr_nek _ (by decide)]; exact hL
  have e3 : ∀ k, (wr σ 1 4 (sk (fun j : Nat => σ.1 2 j) L i : Nat)).1 2 k = σ.1 2 k := fun k => wr_nec _ (by decide)
  have hs1 : i ≤ sk (fun j : Nat => σ.1 2 j) L i := scan_ge _ _ _
  have hs2 : sk (fun j : Nat => σ.1 2 j) L i ≤ L := scan_le hiL
  refine ev_aload_n dX3_isMore_4 rfl ?_
  refine ev_getI (kz := 4) dX3_isMore_5 fl_X3_25 rfl rfl rfl ?_
  rw [e1]
  refine ev_aload_n dX3_isMore_8 rfl ?_
  refine ev_getI (kz := 1) dX3_isMore_9 fl_X3_15 rfl rfl rfl ?_
  rw [e2]
  refine ev_icmp_ge (tgt := 19) dX3_isMore_12 (by decide) (by first | exact hR.1 _ _ | exact hR0.1 _ _ | assumption | exact ⟨by omega, by omega⟩ | exact ⟨by simp [wr_at]; omega, by simp [wr_at]; omega⟩ | exact b2_R _ | exact band_R _ _ | exact bor_R _ _ | exact bshl_R _ _ | exact bshr_R _ _ | exact bxor_R _ _ | exact bs_R (by omega) | decide) (by first | exact hR.1 _ _ | exact hR0.1 _ _ | assumption | exact ⟨by omega, by omega⟩ | exact ⟨by simp [wr_at]; omega, by simp [wr_at]; omega⟩ | exact b2_R _ | exact band_R _ _ | exact bor_R _ _ | exact bshl_R _ _ | exact bshr_R _ _ | exact bxor_R _ _ | exact bs_R (by omega) | decide) (fun h_12 => ?_) (fun h_12 => ?_)
  · refine ev_iconst dX3_isMore_19 ?_
    refine ev_ireturn dX3_isMore_20 ?_
    first
      | (rw [b2_t (by omega)]; exact ⟨rfl, rfl⟩)
      | (rw [b2_f (by omega)]; exact ⟨rfl, rfl⟩)
  · refine ev_iconst dX3_isMore_15 ?_
    refine ev_goto (tgt := 20) dX3_isMore_16 (by decide) ?_
    refine ev_ireturn dX3_isMore_20 ?_
    first
      | (rw [b2_t (by omega)]; exact ⟨rfl, rfl⟩)
      | (rw [b2_f (by omega)]; exact ⟨rfl, rfl⟩)
theorem k_letters (σ : Mem) (L i : Nat) (hL : σ.1 1 1 = L) (hL5 : L ≤ 500) (hi : σ.1 1 4 = i) (hiL : i ≤ L)  : Con yX3_readLetters cX3_readLetters 1 none 1 20 [.ref 1] σ (AnsVP (fun τ => RdA σ τ L (sk (fun j : Nat => σ.1 2 j) L i) (scan (isA (fun j : Nat => σ.1 2 j)) L (sk (fun j : Nat => σ.1 2 j) L i)))) := by
  refine con_of (by decide) rfl (Nat.le_of_ble_eq_true rfl) (ok_VP rfl) ?_
  refine ev_w (fun hR => ?_)
  have hR0 := hR
  have e1 : (wr σ 1 4 (sk (fun j : Nat => σ.1 2 j) L i : Nat)).1 1 4 = (sk (fun j : Nat => σ.1 2 j) L i : Nat) := wr_eq _ _ _ _
  have e2 : (wr σ 1 4 (sk (fun j : Nat => σ.1 2 j) L i : Nat)).1 1 1 = L := by rw [wr_nek _ (by decide)]; exact hL
  have e3 : ∀ k, (wr σ 1 4 (sk (fun j : Nat => σ.1 2 j) L i : Nat)).1 2 k = σ.1 2 k := fun k => wr_nec _ (by decide)
  have hs1 : i ≤ sk (fun j : Nat => σ.1 2 j) L i := scan_ge _ _ _
  have hs2 : sk (fun j : Nat => σ.1 2 j) L i ≤ L := scan_le hiL
  have loop : ∀ j : Nat, j ≤ L → (sk (fun j : Nat => σ.1 2 j) L i) ≤ j → scan (isA (fun j : Nat => σ.1 2 j)) L j = scan (isA (fun j : Nat => σ.1 2 j)) L (sk (fun j : Nat => σ.1 2 j) L i) → Ev RX3 cX3_readLetters 1 1 20 (AnsVP (fun τ => RdA σ τ L (sk (fun j : Nat => σ.1 2 j) L i) (scan (isA (fun j : Nat => σ.1 2 j)) L (sk (fun j : Nat => σ.1 2 j) L i)))) 12 [some (.ref 1)] [] (wr (wr (wr σ 1 4 ((sk (fun j : Nat => σ.1 2 j) L i) : Nat)) 1 5 ((sk (fun j : Nat => σ.1 2 j) L i) : Nat)) 1 4 (j : Nat)) := by
    refine for_up L (fun j hj ih => ?_)
    intro hAj hsk
    refine ev_w (fun hR => ?_)
    have f1 : (wr (wr (wr σ 1 4 ((sk (fun j : Nat => σ.1 2 j) L i) : Nat)) 1 5 ((sk (fun j : Nat => σ.1 2 j) L i) : Nat)) 1 4 (j : Nat)).1 1 4 = j := wr_eq _ _ _ _
    have f2 : (wr (wr (wr σ 1 4 ((sk (fun j : Nat => σ.1 2 j) L i) : Nat)) 1 5 ((sk (fun j : Nat => σ.1 2 j) L i) : Nat)) 1 4 (j : Nat)).1 1 1 = L := by rw [wr_nek _ (by decide), wr_nek _ (by decide)]; exact e2
    have f3 : ∀ k, (wr (wr (wr σ 1 4 ((sk (fun j : Nat => σ.1 2 j) L i) : Nat)) 1 5 ((sk (fun j : Nat => σ.1 2 j) L i) : Nat)) 1 4 (j : Nat)).1 2 k = σ.1 2 k := fun k => by rw [wr_nec _ (by decide), wr_nec _ (by decide)]; exact e3 k
    have f5 : Same S1 σ (wr (wr (wr σ 1 4 ((sk (fun j : Nat => σ.1 2 j) L i) : Nat)) 1 5 ((sk (fun j : Nat => σ.1 2 j) L i) : Nat)) 1 4 (j : Nat)) := Same.wr (S := S1) (Same.wr (S := S1) (Same.wr (S := S1) Same.rf rfl) rfl) rfl
    have f6 : (wr (wr (wr σ 1 4 ((sk (fun j : Nat => σ.1 2 j) L i) : Nat)) 1 5 ((sk (fun j : Nat => σ.1 2 j) L i) : Nat)) 1 4 (j : Nat)).1 1 5 = ((sk (fun j : Nat => σ.1 2 j) L i) : Nat) := by rw [wr_nek _ (by decide), wr_eq]
    have f7 : (wr (wr (wr σ 1 4 ((sk (fun j : Nat => σ.1 2 j) L i) : Nat)) 1 5 ((sk (fun j : Nat => σ.1 2 j) L i) : Nat)) 1 4 (j : Nat)).1 1 3 = σ.1 1 3 := by rw [wr_nek _ (by decide), wr_nek _ (by decide), wr_nek _ (by decide)]
    refine ev_aload_n dX3_readLetters_12 rfl ?_
    refine ev_getI (kz := 4) dX3_readLetters_13 fl_X3_25 rfl rfl rfl ?_
    rw [f1]
    refine ev_aload_n dX3_readLetters_16 rfl ?_
    refine ev_getI (kz := 1) dX3_readLetters_17 fl_X3_15 rfl rfl rfl ?_
    rw [f2]
    refine ev_icmp_ge (tgt := 64) dX3_readLetters_20 (by decide) (by first | exact hR.1 _ _ | exact hR0.1 _ _ | assumption | exact ⟨by omega, by omega⟩ | exact ⟨by simp [wr_at]; omega, by simp [wr_at]; omega⟩ | exact b2_R _ | exact band_R _ _ | exact bor_R _ _ | exact bshl_R _ _ | exact bshr_R _ _ | exact bxor_R _ _ | exact bs_R (by omega) | decide) (by first | exact hR.1 _ _ | exact hR0.1 _ _ | assumption | exact ⟨by omega, by omega⟩ | exact ⟨by simp [wr_at]; omega, by simp [wr_at]; omega⟩ | exact b2_R _ | exact band_R _ _ | exact bor_R _ _ | exact bshl_R _ _ | exact bshr_R _ _ | exact bxor_R _ _ | exact bs_R (by omega) | decide) (fun h_20 => ?_) (fun h_20 => ?_)
    · refine ev_return dX3_readLetters_64 ?_
      refine ⟨rfl, f5, f2, f7, ?_, f6⟩
      have e0 : scan (isA (fun j : Nat => σ.1 2 j)) L j = j := by
        by_cases q : j < L
        · exact scan_stop (Or.inr (decide_eq_false (fun z => by have z2 : 97 ≤ σ.1 2 (j : Nat) ∧ σ.1 2 (j : Nat) ≤ 122 := z; omega)))
        · exact scan_stop (Or.inl (by omega))
      rw [f1, ← hsk, e0]
    · refine ev_aload_n dX3_readLetters_23 rfl ?_
      refine ev_getR (r := 2) dX3_readLetters_24 fl_X3_9 rfl rfl rfl ?_
      refine ev_aload_n dX3_readLetters_27 rfl ?_
      refine ev_getI (kz := 4) dX3_readLetters_28 fl_X3_25 rfl rfl rfl ?_
      rw [f1]
      refine ev_baload dX3_readLetters_31 rfl (by first | omega | (simp [wr_at]; omega) | (simp [wr_at, *]; omega)) (by first | omega | (simp [wr_at]; omega) | (simp [wr_at, *]; omega)) (by decide) ?_
      rw [f3]
      refine ev_bipush dX3_readLetters_32 (by decide) ?_
      refine ev_icmp_lt (tgt := 64) dX3_readLetters_34 (by decide) (by first | exact hR.1 _ _ | exact hR0.1 _ _ | assumption | exact ⟨by omega, by omega⟩ | exact ⟨by simp [wr_at]; omega, by simp [wr_at]; omega⟩ | exact b2_R _ | exact band_R _ _ | exact bor_R _ _ | exact bshl_R _ _ | exact bshr_R _ _ | exact bxor_R _ _ | exact bs_R (by omega) | decide) (by first | exact hR.1 _ _ | exact hR0.1 _ _ | assumption | exact ⟨by omega, by omega⟩ | exact ⟨by simp [wr_at]; omega, by simp [wr_at]; omega⟩ | exact b2_R _ | exact band_R _ _ | exact bor_R _ _ | exact bshl_R _ _ | exact bshr_R _ _ | exact bxor_R _ _ | exact bs_R (by omega) | decide) (fun h_34 => ?_) (fun h_34 => ?_)
      · refine ev_return dX3_readLetters_64 ?_
        refine ⟨rfl, f5, f2, f7, ?_, f6⟩
        have e0 : scan (isA (fun j : Nat => σ.1 2 j)) L j = j := by
          by_cases q : j < L
          · exact scan_stop (Or.inr (decide_eq_false (fun z => by have z2 : 97 ≤ σ.1 2 (j : Nat) ∧ σ.1 2 (j : Nat) ≤ 122 := z; omega)))
          · exact scan_stop (Or.inl (by omega))
        rw [f1, ← hsk, e0]
      · refine ev_aload_n dX3_readLetters_37 rfl ?_
        refine ev_getR (r := 2) dX3_readLetters_38 fl_X3_9 rfl rfl rfl ?_
        refine ev_aload_n dX3_readLetters_41 rfl ?_
        refine ev_getI (kz := 4) dX3_readLetters_42 fl_X3_25 rfl rfl rfl ?_
        rw [f1]
        refine ev_baload dX3_readLetters_45 rfl (by first | omega | (simp [wr_at]; omega) | (simp [wr_at, *]; omega)) (by first | omega | (simp [wr_at]; omega) | (simp [wr_at, *]; omega)) (by decide) ?_
        rw [f3]
        refine ev_bipush dX3_readLetters_46 (by decide) ?_
        refine ev_icmp_gt (tgt := 64) dX3_readLetters_48 (by decide) (by first | exact hR.1 _ _ | exact hR0.1 _ _ | assumption | exact ⟨by omega, by omega⟩ | exact ⟨by simp [wr_at]; omega, by simp [wr_at]; omega⟩ | exact b2_R _ | exact band_R _ _ | exact bor_R _ _ | exact bshl_R _ _ | exact bshr_R _ _ | exact bxor_R _ _ | exact bs_R (by omega) | decide) (by first | exact hR.1 _ _ | exact hR0.1 _ _ | assumption | exact ⟨by omega, by omega⟩ | exact ⟨by simp [wr_at]; omega, by simp [wr_at]; omega⟩ | exact b2_R _ | exact band_R _ _ | exact bor_R _ _ | exact bshl_R _ _ | exact bshr_R _ _ | exact bxor_R _ _ | exact bs_R (by omega) | decide) (fun h_48 => ?_) (fun h_48 => ?_)
        · refine ev_return dX3_readLetters_64 ?_
          refine ⟨rfl, f5, f2, f7, ?_, f6⟩
          have e0 : scan (isA (fun j : Nat => σ.1 2 j)) L j = j := by
            by_cases q : j < L
            · exact scan_stop (Or.inr (decide_eq_false (fun z => by have z2 : 97 ≤ σ.1 2 (j : Nat) ∧ σ.1 2 (j : Nat) ≤ 122 := z; omega)))
            · exact scan_stop (Or.inl (by omega))
          rw [f1, ← hsk, e0]
        · refine ev_aload_n dX3_readLetters_51 rfl ?_
          refine ev_dup dX3_readLetters_52 rfl ?_
          refine ev_getI (kz := 4) dX3_readLetters_53 fl_X3_25 rfl rfl rfl ?_
          rw [f1]
          refine ev_iconst dX3_readLetters_56 ?_
          refine ev_iadd dX3_readLetters_57 ?_
          refine ev_putI (kz := 4) dX3_readLetters_58 fp_X3_25 rfl rfl rfl (by first | exact hR.1 _ _ | exact hR0.1 _ _ | assumption | exact ⟨by omega, by omega⟩ | exact ⟨by simp [wr_at]; omega, by simp [wr_at]; omega⟩ | exact b2_R _ | exact band_R _ _ | exact bor_R _ _ | exact bshl_R _ _ | exact bshr_R _ _ | exact bxor_R _ _ | exact bs_R (by omega) | decide) ?_
          refine ev_w (fun hR => ?_)
          refine ev_goto (tgt := 12) dX3_readLetters_61 (by decide) ?_
          rw [wr_wr]
          refine ih (by omega) (by omega) ?_
          rw [← hsk]
          exact (scan_go (by omega) (decide_eq_true (show 97 ≤ σ.1 2 (j : Nat) ∧ σ.1 2 (j : Nat) ≤ 122 from ⟨by omega, by omega⟩))).symm
  refine ev_aload_n dX3_readLetters_0 rfl ?_
  refine ev_callVV dX3_readLetters_1 kv_X3_47 (k_skip σ L i hL hL5 hi hiL) rfl rfl (ci := 3) rfl rfl ⟨by decide, by decide⟩ (Nat.le_of_ble_eq_true rfl) ?_
  refine ev_w (fun hR => ?_)
  refine ev_aload_n dX3_readLetters_4 rfl ?_
  refine ev_aload_n dX3_readLetters_5 rfl ?_
  refine ev_getI (kz := 4) dX3_readLetters_6 fl_X3_25 rfl rfl rfl ?_
  rw [e1]
  refine ev_putI (kz := 5) dX3_readLetters_9 fp_X3_28 rfl rfl rfl (by first | exact hR.1 _ _ | exact hR0.1 _ _ | assumption | exact ⟨by omega, by omega⟩ | exact ⟨by simp [wr_at]; omega, by simp [wr_at]; omega⟩ | exact b2_R _ | exact band_R _ _ | exact bor_R _ _ | exact bshl_R _ _ | exact bshr_R _ _ | exact bxor_R _ _ | exact bs_R (by omega) | decide) ?_
  refine ev_w (fun hR => ?_)
  have e9 : (wr (wr σ 1 4 ((sk (fun j : Nat => σ.1 2 j) L i) : Nat)) 1 5 ((sk (fun j : Nat => σ.1 2 j) L i) : Nat)).1 1 4 = ((sk (fun j : Nat => σ.1 2 j) L i) : Nat) := by rw [wr_nek _ (by decide), wr_eq]
  refine ev_σ (wr_id e9).symm ?_
  exact loop _ hs2 (Nat.le_refl _) rfl
theorem k_fail (σ : Mem) (f w : Int) (hf : inR f) (hw : inR w) : Con yX3_fail cX3_fail 3 (some .boolean) 0 0 [.ref 1, .int (iI f), .int (iI w)] σ (AnsI 0 (wr (wr σ 1 2 f) 1 3 w)) := by
  refine con_of (by decide) rfl (Nat.le_of_ble_eq_true rfl) (ok_Z rfl (Or.inl rfl)) ?_
  refine ev_w (fun hR => ?_)
  have hR0 := hR
  refine ev_aload_n dX3_fail_0 rfl ?_
  refine ev_iload_n dX3_fail_1 rfl ?_
  refine ev_putI (kz := 2) dX3_fail_2 fp_X3_19 rfl rfl rfl (by first | exact hR.1 _ _ | exact hR0.1 _ _ | assumption | exact ⟨by omega, by omega⟩ | exact ⟨by simp [wr_at]; omega, by simp [wr_at]; omega⟩ | exact b2_R _ | exact band_R _ _ | exact bor_R _ _ | exact bshl_R _ _ | exact bshr_R _ _ | exact bxor_R _ _ | exact bs_R (by omega) | decide) ?_
  refine ev_w (fun hR => ?_)
  refine ev_aload_n dX3_fail_5 rfl ?_
  refine ev_iload_n dX3_fail_6 rfl ?_
  refine ev_putI (kz := 3) dX3_fail_7 fp_X3_22 rfl rfl rfl (by first | exact hR.1 _ _ | exact hR0.1 _ _ | assumption | exact ⟨by omega, by omega⟩ | exact ⟨by simp [wr_at]; omega, by simp [wr_at]; omega⟩ | exact b2_R _ | exact band_R _ _ | exact bor_R _ _ | exact bshl_R _ _ | exact bshr_R _ _ | exact bxor_R _ _ | exact bs_R (by omega) | decide) ?_
  refine ev_w (fun hR => ?_)
  refine ev_iconst dX3_fail_10 ?_
  refine ev_ireturn dX3_fail_11 ?_
  exact ⟨rfl, rfl⟩
theorem k_room (σ : Mem) (a b : Int) (ha : inR a) (hb : inR b) : Con yX3_hasRoom cX3_hasRoom 3 (some .boolean) 1 22 [.ref 1, .int (iI a), .int (iI b)] σ (fun v τ => if a < b then AnsI 1 σ v τ else AnsI 0 (wr (wr σ 1 2 3) 1 3 (σ.1 1 5)) v τ) := by
  refine con_of (by decide) rfl (Nat.le_of_ble_eq_true rfl) ((fun v τ h => by split at h <;> first | exact ok_Z rfl (Or.inr rfl) v τ h | exact ok_Z rfl (Or.inl rfl) v τ h)) ?_
  refine ev_w (fun hR => ?_)
  have hR0 := hR
  refine ev_iload_n dX3_hasRoom_0 rfl ?_
  refine ev_iload_n dX3_hasRoom_1 rfl ?_
  refine ev_icmp_lt (tgt := 17) dX3_hasRoom_2 (by decide) (by first | exact hR.1 _ _ | exact hR0.1 _ _ | assumption | exact ⟨by omega, by omega⟩ | exact ⟨by simp [wr_at]; omega, by simp [wr_at]; omega⟩ | exact b2_R _ | exact band_R _ _ | exact bor_R _ _ | exact bshl_R _ _ | exact bshr_R _ _ | exact bxor_R _ _ | exact bs_R (by omega) | decide) (by first | exact hR.1 _ _ | exact hR0.1 _ _ | assumption | exact ⟨by omega, by omega⟩ | exact ⟨by simp [wr_at]; omega, by simp [wr_at]; omega⟩ | exact b2_R _ | exact band_R _ _ | exact bor_R _ _ | exact bshl_R _ _ | exact bshr_R _ _ | exact bxor_R _ _ | exact bs_R (by omega) | decide) (fun h_2 => ?_) (fun h_2 => ?_)
  · refine ev_iconst dX3_hasRoom_17 ?_
    refine ev_goto (tgt := 22) dX3_hasRoom_18 (by decide) ?_
    refine ev_ireturn dX3_hasRoom_22 ?_
    first
      | (rw [if_pos (by omega)]; exact ⟨rfl, rfl⟩)
      | (rw [if_neg (by omega)]; exact ⟨rfl, rfl⟩)
      | exact absurd rfl h_14
  · refine ev_aload_n dX3_hasRoom_5 rfl ?_
    refine ev_iconst dX3_hasRoom_6 ?_
    refine ev_aload_n dX3_hasRoom_7 rfl ?_
    refine ev_getI (kz := 5) dX3_hasRoom_8 fl_X3_28 rfl rfl rfl ?_
    refine ev_callVI dX3_hasRoom_11 kv_X3_96 (k_fail σ 3 (σ.1 1 5) (by decide) (hR0.1 _ _)) rfl rfl (ci := 3) rfl rfl ⟨by decide, by decide⟩ (Nat.le_of_ble_eq_true rfl) ?_
    refine ev_w (fun hR => ?_)
    refine ev_if_eq (tgt := 21) dX3_hasRoom_14 (by decide) (by first | exact hR.1 _ _ | exact hR0.1 _ _ | assumption | exact ⟨by omega, by omega⟩ | exact ⟨by simp [wr_at]; omega, by simp [wr_at]; omega⟩ | exact b2_R _ | exact band_R _ _ | exact bor_R _ _ | exact bshl_R _ _ | exact bshr_R _ _ | exact bxor_R _ _ | exact bs_R (by omega) | decide) (fun h_14 => ?_) (fun h_14 => ?_)
    · refine ev_iconst dX3_hasRoom_21 ?_
      refine ev_ireturn dX3_hasRoom_22 ?_
      first
        | (rw [if_pos (by omega)]; exact ⟨rfl, rfl⟩)
        | (rw [if_neg (by omega)]; exact ⟨rfl, rfl⟩)
        | exact absurd rfl h_14
    · refine ev_iconst dX3_hasRoom_17 ?_
      refine ev_goto (tgt := 22) dX3_hasRoom_18 (by decide) ?_
      refine ev_ireturn dX3_hasRoom_22 ?_
      first
        | (rw [if_pos (by omega)]; exact ⟨rfl, rfl⟩)
        | (rw [if_neg (by omega)]; exact ⟨rfl, rfl⟩)
        | exact absurd rfl h_14
theorem k_end (σ : Mem) (L i : Nat) (hL : σ.1 1 1 = L) (hL5 : L ≤ 500) (hi : σ.1 1 4 = i) (hiL : i ≤ L)  : Con yX3_readEnd cX3_readEnd 1 (some .boolean) 1 22 [.ref 1] σ (fun v τ => if (sk (fun j : Nat => σ.1 2 j) L i) < L ∧ σ.1 2 ((sk (fun j : Nat => σ.1 2 j) L i) : Nat) = 59 then AnsI 1 (wr σ 1 4 ((sk (fun j : Nat => σ.1 2 j) L i) + 1 : Nat)) v τ else AnsI 0 (wr (wr (wr σ 1 4 ((sk (fun j : Nat => σ.1 2 j) L i) : Nat)) 1 2 1) 1 3 ((sk (fun j : Nat => σ.1 2 j) L i) : Nat)) v τ) := by
  refine con_of (by decide) rfl (Nat.le_of_ble_eq_true rfl) ((fun v τ h => by split at h <;> first | exact ok_Z rfl (Or.inr rfl) v τ h | exact ok_Z rfl (Or.inl rfl) v τ h)) ?_
  refine ev_w (fun hR => ?_)
  have hR0 := hR
  have e1 : (wr σ 1 4 (sk (fun j : Nat => σ.1 2 j) L i : Nat)).1 1 4 = (sk (fun j : Nat => σ.1 2 j) L i : Nat) := wr_eq _ _ _ _
  have e2 : (wr σ 1 4 (sk (fun j : Nat => σ.1 2 j) L i : Nat)).1 1 1 = L := by rw [wr_nek _ (by decide)]; exact hL
  have e3 : ∀ k, (wr σ 1 4 (sk (fun j : Nat => σ.1 2 j) L i : Nat)).1 2 k = σ.1 2 k := fun k => wr_nec _ (by decide)
  have hs1 : i ≤ sk (fun j : Nat => σ.1 2 j) L i := scan_ge _ _ _
  have hs2 : sk (fun j : Nat => σ.1 2 j) L i ≤ L := scan_le hiL
  refine ev_aload_n dX3_readEnd_0 rfl ?_
  refine ev_callVV dX3_readEnd_1 kv_X3_47 (k_skip σ L i hL hL5 hi hiL) rfl rfl (ci := 3) rfl rfl ⟨by decide, by decide⟩ (Nat.le_of_ble_eq_true rfl) ?_
  refine ev_w (fun hR => ?_)
  refine ev_aload_n dX3_readEnd_4 rfl ?_
  refine ev_getI (kz := 4) dX3_readEnd_5 fl_X3_25 rfl rfl rfl ?_
  rw [e1]
  refine ev_aload_n dX3_readEnd_8 rfl ?_
  refine ev_getI (kz := 1) dX3_readEnd_9 fl_X3_15 rfl rfl rfl ?_
  rw [e2]
  refine ev_icmp_ge (tgt := 29) dX3_readEnd_12 (by decide) (by first | exact hR.1 _ _ | exact hR0.1 _ _ | assumption | exact ⟨by omega, by omega⟩ | exact ⟨by simp [wr_at]; omega, by simp [wr_at]; omega⟩ | exact b2_R _ | exact band_R _ _ | exact bor_R _ _ | exact bshl_R _ _ | exact bshr_R _ _ | exact bxor_R _ _ | exact bs_R (by omega) | decide) (by first | exact hR.1 _ _ | exact hR0.1 _ _ | assumption | exact ⟨by omega, by omega⟩ | exact ⟨by simp [wr_at]; omega, by simp [wr_at]; omega⟩ | exact b2_R _ | exact band_R _ _ | exact bor_R _ _ | exact bshl_R _ _ | exact bshr_R _ _ | exact bxor_R _ _ | exact bs_R (by omega) | decide) (fun h_12 => ?_) (fun h_12 => ?_)
  · refine ev_aload_n dX3_readEnd_29 rfl ?_
    refine ev_iconst dX3_readEnd_30 ?_
    refine ev_aload_n dX3_readEnd_31 rfl ?_
    refine ev_getI (kz := 4) dX3_readEnd_32 fl_X3_25 rfl rfl rfl ?_
    rw [e1]
    refine ev_callVI dX3_readEnd_35 kv_X3_96 (k_fail _ 1 _ (by decide) ⟨by omega, by omega⟩) rfl rfl (ci := 3) rfl rfl ⟨by decide, by decide⟩ (Nat.le_of_ble_eq_true rfl) ?_
    refine ev_w (fun hR => ?_)
    refine ev_ireturn dX3_readEnd_38 ?_
    rw [if_neg (by omega)]; exact ⟨rfl, rfl⟩
  · refine ev_aload_n dX3_readEnd_15 rfl ?_
    refine ev_getR (r := 2) dX3_readEnd_16 fl_X3_9 rfl rfl rfl ?_
    refine ev_aload_n dX3_readEnd_19 rfl ?_
    refine ev_getI (kz := 4) dX3_readEnd_20 fl_X3_25 rfl rfl rfl ?_
    rw [e1]
    refine ev_baload dX3_readEnd_23 rfl (by first | omega | (simp [wr_at]; omega) | (simp [wr_at, *]; omega)) (by first | omega | (simp [wr_at]; omega) | (simp [wr_at, *]; omega)) (by decide) ?_
    rw [e3]
    refine ev_bipush dX3_readEnd_24 (by decide) ?_
    refine ev_icmp_eq (tgt := 39) dX3_readEnd_26 (by decide) (by first | exact hR.1 _ _ | exact hR0.1 _ _ | assumption | exact ⟨by omega, by omega⟩ | exact ⟨by simp [wr_at]; omega, by simp [wr_at]; omega⟩ | exact b2_R _ | exact band_R _ _ | exact bor_R _ _ | exact bshl_R _ _ | exact bshr_R _ _ | exact bxor_R _ _ | exact bs_R (by omega) | decide) (by first | exact hR.1 _ _ | exact hR0.1 _ _ | assumption | exact ⟨by omega, by omega⟩ | exact ⟨by simp [wr_at]; omega, by simp [wr_at]; omega⟩ | exact b2_R _ | exact band_R _ _ | exact bor_R _ _ | exact bshl_R _ _ | exact bshr_R _ _ | exact bxor_R _ _ | exact bs_R (by omega) | decide) (fun h_26 => ?_) (fun h_26 => ?_)
    · refine ev_aload_n dX3_readEnd_39 rfl ?_
      refine ev_dup dX3_readEnd_40 rfl ?_
      refine ev_getI (kz := 4) dX3_readEnd_41 fl_X3_25 rfl rfl rfl ?_
      rw [e1]
      refine ev_iconst dX3_readEnd_44 ?_
      refine ev_iadd dX3_readEnd_45 ?_
      refine ev_putI (kz := 4) dX3_readEnd_46 fp_X3_25 rfl rfl rfl (by first | exact hR.1 _ _ | exact hR0.1 _ _ | assumption | exact ⟨by omega, by omega⟩ | exact ⟨by simp [wr_at]; omega, by simp [wr_at]; omega⟩ | exact b2_R _ | exact band_R _ _ | exact bor_R _ _ | exact bshl_R _ _ | exact bshr_R _ _ | exact bxor_R _ _ | exact bs_R (by omega) | decide) ?_
      refine ev_w (fun hR => ?_)
      refine ev_iconst dX3_readEnd_49 ?_
      refine ev_ireturn dX3_readEnd_50 ?_
      rw [if_pos ⟨by omega, by omega⟩, wr_wr]; exact ⟨rfl, rfl⟩
    · refine ev_aload_n dX3_readEnd_29 rfl ?_
      refine ev_iconst dX3_readEnd_30 ?_
      refine ev_aload_n dX3_readEnd_31 rfl ?_
      refine ev_getI (kz := 4) dX3_readEnd_32 fl_X3_25 rfl rfl rfl ?_
      rw [e1]
      refine ev_callVI dX3_readEnd_35 kv_X3_96 (k_fail _ 1 _ (by decide) ⟨by omega, by omega⟩) rfl rfl (ci := 3) rfl rfl ⟨by decide, by decide⟩ (Nat.le_of_ble_eq_true rfl) ?_
      refine ev_w (fun hR => ?_)
      refine ev_ireturn dX3_readEnd_38 ?_
      rw [if_neg (by omega)]; exact ⟨rfl, rfl⟩
