theorem k_append (σ : Mem) (L : Nat) (hL : σ.1 1 1 = L) (hL5 : L < 500) (z : Int) (hz0 : -128 ≤ z) (hz1 : z ≤ 127) : Con yX3_append cX3_append 2 none 0 0 [.ref 1, .int (iI z)] σ (AnsV (wr (wr σ 2 (L : Nat) z) 1 1 (L + 1 : Nat))) := by
  refine con_of (by decide) rfl (Nat.le_of_ble_eq_true rfl) (ok_V rfl) ?_
  refine ev_w (fun hR => ?_)
  have hR0 := hR
  have e1 : (wr σ 2 (L : Nat) z).1 1 1 = L := by rw [wr_nec _ (by decide)]; exact hL
  refine ev_aload_n dX3_append_0 rfl ?_
  refine ev_getI (kz := 1) dX3_append_1 fl_X3_15 rfl rfl rfl ?_
  rw [hL]
  refine ev_sipush dX3_append_4 (by decide) ?_
  refine ev_icmp_ge (tgt := 30) dX3_append_7 (by decide) (by first | exact hR.1 _ _ | exact hR0.1 _ _ | assumption | exact ⟨by omega, by omega⟩ | exact ⟨by simp [wr_at]; omega, by simp [wr_at]; omega⟩ | exact b2_R _ | exact band_R _ _ | exact bor_R _ _ | exact bshl_R _ _ | exact bshr_R _ _ | exact bxor_R _ _ | exact bs_R (by omega) | decide) (by first | exact hR.1 _ _ | exact hR0.1 _ _ | assumption | exact ⟨by omega, by omega⟩ | exact ⟨by simp [wr_at]; omega, by simp [wr_at]; omega⟩ | exact b2_R _ | exact band_R _ _ | exact bor_R _ _ | exact bshl_R _ _ | exact bshr_R _ _ | exact bxor_R _ _ | exact bs_R (by omega) | decide) (fun h_7 => ?_) (fun h_7 => ?_)
  · refine ev_return dX3_append_30 ?_
    first
      | exact ⟨rfl, rfl⟩
      | omega
  · refine ev_aload_n dX3_append_10 rfl ?_
    refine ev_getR (r := 2) dX3_append_11 fl_X3_9 rfl rfl rfl ?_
    refine ev_aload_n dX3_append_14 rfl ?_
    refine ev_getI (kz := 1) dX3_append_15 fl_X3_15 rfl rfl rfl ?_
    rw [hL]
    refine ev_iload_n dX3_append_18 rfl ?_
    refine ev_bastore dX3_append_19 rfl (by first | omega | (simp [wr_at]; omega) | (simp [wr_at, *]; omega)) (by first | omega | (simp [wr_at]; omega) | (simp [wr_at, *]; omega)) (by decide) (by omega) (by omega) ?_
    refine ev_w (fun hR => ?_)
    refine ev_aload_n dX3_append_20 rfl ?_
    refine ev_dup dX3_append_21 rfl ?_
    refine ev_getI (kz := 1) dX3_append_22 fl_X3_15 rfl rfl rfl ?_
    rw [e1]
    refine ev_iconst dX3_append_25 ?_
    refine ev_iadd dX3_append_26 ?_
    refine ev_putI (kz := 1) dX3_append_27 fp_X3_15 rfl rfl rfl (by first | exact hR.1 _ _ | exact hR0.1 _ _ | assumption | exact ⟨by omega, by omega⟩ | exact ⟨by simp [wr_at]; omega, by simp [wr_at]; omega⟩ | exact b2_R _ | exact band_R _ _ | exact bor_R _ _ | exact bshl_R _ _ | exact bshr_R _ _ | exact bxor_R _ _ | exact bs_R (by omega) | decide) ?_
    refine ev_w (fun hR => ?_)
    refine ev_return dX3_append_30 ?_
    first
      | exact ⟨rfl, rfl⟩
      | omega
def feedL (σ : Mem) (L : Nat) (x : Int64) (n : Nat) : Nat → Mem
  | 0 => σ
  | m + 1 => wr (wr (feedL σ L x n m) 2 ((L + m : Nat) : Int) (sg (ub x (n - 1 - m) : Nat))) 1 1 ((L + m + 1 : Nat) : Int)
theorem feedL_1 {σ : Mem} {L : Nat} (h : σ.1 1 1 = L) (x : Int64) (n m : Nat) : (feedL σ L x n m).1 1 1 = ((L + m : Nat) : Int) := by
  cases m with
  | zero => exact h
  | succ m => rw [feedL, wr_eq]; rfl
theorem sg_R {u : Nat} (h : u < 256) : -128 ≤ sg (u : Int) ∧ sg (u : Int) ≤ 127 := by
  unfold sg
  split <;> omega
theorem k_feed (σ : Mem) (L : Nat) (hL : σ.1 1 1 = L) (hL5 : L ≤ 500) (n0 : Int) (hn0 : inR n0) (x : Int64) : Con yX7_feed cX7_feed 5 (some .int) 1 21 [.ref 0, .int (iI n0), .long x] σ (fun v τ => if ¬ (1 ≤ n0 ∧ n0 ≤ 8) then AnsI (-1000000002) σ v τ else if (L : Int) + n0 > 500 then AnsI (-1000000004) σ v τ else AnsI ((L : Int) + n0) (feedL σ L x n0.toNat n0.toNat) v τ) := by
  refine con_of (by decide) rfl (Nat.le_of_ble_eq_true rfl) ((fun v τ h => by repeat (first | exact ok_I rfl v τ h | split at h))) ?_
  refine ev_w (fun hR => ?_)
  have hR0 := hR
  have loop : ∀ n : Nat, n0 = n → 1 ≤ n → n ≤ 8 → L + n ≤ 500 → ∀ m : Nat, m ≤ n → Ev RX7 cX7_feed 5 1 21 (fun v τ => if ¬ (1 ≤ n0 ∧ n0 ≤ 8) then AnsI (-1000000002) σ v τ else if (L : Int) + n0 > 500 then AnsI (-1000000004) σ v τ else AnsI ((L : Int) + n0) (feedL σ L x n0.toNat n0.toNat) v τ) 37 [some (.ref 0), some (.int (iI n0)), some (.long x), none, some (.int (iI ((n : Int) - 1 - m)))] [] (feedL σ L x n m) := by
    intro n hn h1 h8 hLn
    subst hn
    refine for_up n (fun m hm ih => ?_)
    refine ev_w (fun hR => ?_)
    have hl := feedL_1 hL x n m
    refine ev_iload dX7_feed_37 rfl ?_
    refine ev_if_lt (tgt := 64) dX7_feed_39 (by decide) (by first | exact hR.1 _ _ | exact hR0.1 _ _ | assumption | exact ⟨by omega, by omega⟩ | exact ⟨by simp [wr_at]; omega, by simp [wr_at]; omega⟩ | exact b2_R _ | exact band_R _ _ | exact bor_R _ _ | exact bshl_R _ _ | exact bshr_R _ _ | exact bxor_R _ _ | exact bs_R (by omega) | decide) (fun h_39 => ?_) (fun h_39 => ?_)
    · refine ev_aload_n dX7_feed_64 rfl ?_
      refine ev_getR (r := 1) dX7_feed_65 fl_X7_10 rfl rfl rfl ?_
      refine ev_getI (kz := 1) dX7_feed_68 fl_X7_74 rfl rfl rfl ?_
      rw [hl]
      refine ev_ireturn dX7_feed_71 ?_
      obtain rfl : m = n := by omega
      rw [if_neg (c := ¬ (1 ≤ (m : Int) ∧ (m : Int) ≤ 8)) (fun y => y ⟨by omega, by omega⟩), if_neg (by omega)]
      exact ⟨rfl, rfl⟩
    · obtain ⟨k, hk⟩ : ∃ k : Nat, n - 1 - m = k := ⟨_, rfl⟩
      have ek : (n : Int) - 1 - m = (k : Int) := by omega
      have hsg := sg_R (ub_R x k)
      refine ev_aload_n dX7_feed_42 rfl ?_
      refine ev_getR (r := 1) dX7_feed_43 fl_X7_10 rfl rfl rfl ?_
      refine ev_lload_n dX7_feed_46 rfl ?_
      refine ev_bipush dX7_feed_47 (by decide) ?_
      refine ev_iload dX7_feed_49 rfl ?_
      refine ev_imul dX7_feed_51 ?_
      rw [ek, show (8 : Int) * ((k : Nat) : Int) = ((8 * k : Nat) : Int) from rfl]
      refine ev_lushr dX7_feed_52 (lushr_b x k (by omega)) ?_
      refine ev_l2i dX7_feed_53 ?_
      refine ev_i2b dX7_feed_54 (i2b_b _) ?_
      refine ev_callVV dX7_feed_55 kv_X7_78 (k_append _ (L + m) hl (by omega) _ hsg.1 hsg.2) rfl rfl (ci := 3) rfl rfl ⟨by decide, by decide⟩ (Nat.le_of_ble_eq_true rfl) ?_
      refine ev_w (fun hR => ?_)
      refine ev_iinc dX7_feed_58 rfl rfl (by decide) rfl ?_
      refine ev_goto (tgt := 37) dX7_feed_61 (by decide) ?_
      refine ev_ab (show _ = [some (.ref 0), some (.int (iI n)), some (.long x), none, some (.int (iI ((n : Int) - 1 - (m + 1 : Nat))))] from by rw [show (n : Int) - 1 - (m + 1 : Nat) = (k : Int) + -1 by omega]; rfl) ?_
      have e2 : feedL σ L x n (m + 1) = wr (wr (feedL σ L x n m) 2 ((L + m : Nat) : Int) (sg ((ub x k : Nat) : Int))) 1 1 ((L + m + 1 : Nat) : Int) := by rw [feedL, hk]
      rw [← e2]
      exact ih (by omega)
  refine ev_iload_n dX7_feed_0 rfl ?_
  refine ev_iconst dX7_feed_1 ?_
  refine ev_icmp_lt (tgt := 11) dX7_feed_2 (by decide) (by first | exact hR.1 _ _ | exact hR0.1 _ _ | assumption | exact ⟨by omega, by omega⟩ | exact ⟨by simp [wr_at]; omega, by simp [wr_at]; omega⟩ | exact b2_R _ | exact band_R _ _ | exact bor_R _ _ | exact bshl_R _ _ | exact bshr_R _ _ | exact bxor_R _ _ | exact bs_R (by omega) | decide) (by first | exact hR.1 _ _ | exact hR0.1 _ _ | assumption | exact ⟨by omega, by omega⟩ | exact ⟨by simp [wr_at]; omega, by simp [wr_at]; omega⟩ | exact b2_R _ | exact band_R _ _ | exact bor_R _ _ | exact bshl_R _ _ | exact bshr_R _ _ | exact bxor_R _ _ | exact bs_R (by omega) | decide) (fun h_2 => ?_) (fun h_2 => ?_)
  · refine ev_ldc (z := -1000000002) dX7_feed_11 kc_X7_73 (by decide) ?_
    refine ev_ireturn dX7_feed_13 ?_
    rw [if_pos (by omega)]
    exact ⟨rfl, rfl⟩
  · refine ev_iload_n dX7_feed_5 rfl ?_
    refine ev_bipush dX7_feed_6 (by decide) ?_
    refine ev_icmp_le (tgt := 14) dX7_feed_8 (by decide) (by first | exact hR.1 _ _ | exact hR0.1 _ _ | assumption | exact ⟨by omega, by omega⟩ | exact ⟨by simp [wr_at]; omega, by simp [wr_at]; omega⟩ | exact b2_R _ | exact band_R _ _ | exact bor_R _ _ | exact bshl_R _ _ | exact bshr_R _ _ | exact bxor_R _ _ | exact bs_R (by omega) | decide) (by first | exact hR.1 _ _ | exact hR0.1 _ _ | assumption | exact ⟨by omega, by omega⟩ | exact ⟨by simp [wr_at]; omega, by simp [wr_at]; omega⟩ | exact b2_R _ | exact band_R _ _ | exact bor_R _ _ | exact bshl_R _ _ | exact bshr_R _ _ | exact bxor_R _ _ | exact bs_R (by omega) | decide) (fun h_8 => ?_) (fun h_8 => ?_)
    · refine ev_aload_n dX7_feed_14 rfl ?_
      refine ev_getR (r := 1) dX7_feed_15 fl_X7_10 rfl rfl rfl ?_
      refine ev_getI (kz := 1) dX7_feed_18 fl_X7_74 rfl rfl rfl ?_
      rw [hL]
      refine ev_iload_n dX7_feed_21 rfl ?_
      refine ev_iadd dX7_feed_22 ?_
      refine ev_sipush dX7_feed_23 (by decide) ?_
      refine ev_icmp_le (tgt := 32) dX7_feed_26 (by decide) (by first | exact hR.1 _ _ | exact hR0.1 _ _ | assumption | exact ⟨by omega, by omega⟩ | exact ⟨by simp [wr_at]; omega, by simp [wr_at]; omega⟩ | exact b2_R _ | exact band_R _ _ | exact bor_R _ _ | exact bshl_R _ _ | exact bshr_R _ _ | exact bxor_R _ _ | exact bs_R (by omega) | decide) (by first | exact hR.1 _ _ | exact hR0.1 _ _ | assumption | exact ⟨by omega, by omega⟩ | exact ⟨by simp [wr_at]; omega, by simp [wr_at]; omega⟩ | exact b2_R _ | exact band_R _ _ | exact bor_R _ _ | exact bshl_R _ _ | exact bshr_R _ _ | exact bxor_R _ _ | exact bs_R (by omega) | decide) (fun h_26 => ?_) (fun h_26 => ?_)
      · refine ev_iload_n dX7_feed_32 rfl ?_
        refine ev_iconst dX7_feed_33 ?_
        refine ev_isub dX7_feed_34 ?_
        refine ev_istore dX7_feed_35 rfl (by decide) rfl ?_
        obtain ⟨n, hn⟩ : ∃ n : Nat, n0 = n := ⟨n0.toNat, by omega⟩
        have q := loop n hn (by omega) (by omega) (by omega) 0 (by omega)
        have e : (n0 : Int) - 1 = (n : Int) - 1 - (0 : Nat) := by omega
        rw [e]
        exact q
      · refine ev_ldc (z := -1000000004) dX7_feed_29 kc_X7_77 (by decide) ?_
        refine ev_ireturn dX7_feed_31 ?_
        rw [if_neg (fun y => y ⟨by omega, by omega⟩), if_pos (by omega)]
        exact ⟨rfl, rfl⟩
    · refine ev_ldc (z := -1000000002) dX7_feed_11 kc_X7_73 (by decide) ?_
      refine ev_ireturn dX7_feed_13 ?_
      rw [if_pos (by omega)]
      exact ⟨rfl, rfl⟩
def ReadQ (σ : Mem) (P L : Nat) (R : (Int × Nat) ⊕ PD) (z : Int) (τ : Mem) : Prop := (z = 0 ∧ ∃ f w, R = .inl (f, w) ∧ BdF σ τ P L f w) ∨ (z = 1 ∧ ∃ d, R = .inr d ∧ PDok d ∧ Same (SP P) σ τ ∧ τ.1 1 1 = L ∧ τ.1 1 3 = -1 ∧ PRep τ P d ∧ RAt τ P d)
theorem ReadQ.z {σ τ : Mem} {P L : Nat} {R : (Int × Nat) ⊕ PD} {z : Int} (h : ReadQ σ P L R z τ) : z = 0 ∨ z = 1 := by
  rcases h with h | h
  · exact Or.inl h.1
  · exact Or.inr h.1
theorem ReadQ.R {σ τ : Mem} {P L : Nat} {R : (Int × Nat) ⊕ PD} {z : Int} (h : ReadQ σ P L R z τ) : inR z := by
  rcases h.z with rfl | rfl <;> decide
theorem k_moreI {σ τ : Mem} {P L i : Nat} (h : RdI σ τ P L i) (hP : P = 3 ∨ P = 20) (hL5 : L ≤ 500) (hiL : i ≤ L) : Con yX3_isMore cX3_isMore 1 (some .boolean) 1 20 [.ref 1] τ (AnsI (b2 (sk (fun j : Nat => σ.1 2 j) L i < L)) (wr τ 1 4 (sk (fun j : Nat => σ.1 2 j) L i : Nat))) := by
  have q := k_more τ L i h.2.1 hL5 h.2.2.2 hiL
  have e : sk (fun j : Nat => τ.1 2 j) L i = sk (fun j : Nat => σ.1 2 j) L i := by rw [h.c hP]
  simp only [e] at q
  exact q
theorem k_clsI {σ τ : Mem} {P L i : Nat} {d : PD} (h : RdI σ τ P L i) (hP : P = 3 ∨ P = 20) (hL5 : L ≤ 500) (hiL : i ≤ L) (hD : PRep τ P d) (hA : RAt τ P d) (hK : PDok d) : Con yX3_readClause cX3_readClause 2 (some .boolean) 10 238 [.ref 1, .ref P] τ (AnsQ (BodyQ τ P L (clsR (fun j : Nat => σ.1 2 j) L d i))) := by
  have q := k_readClause τ P L i d hP hL5 hiL ⟨Same.rf, h.2.1, rfl, h.2.2.2⟩ hD hA hK
  rw [h.c hP] at q
  exact q
def d00 : PD := (fun _ => 0, fun _ _ => 0)
theorem d00_ok : PDok d00 := ⟨by decide, by decide, by decide, by decide, fun p hp => absurd hp (Nat.not_lt_zero _), fun p hp => absurd hp (Nat.not_lt_zero _), fun p hp => absurd hp (Nat.not_lt_zero _), fun p hp => absurd hp (Nat.not_lt_zero _)⟩
theorem k_read (σ : Mem) (P L : Nat) (hP : P = 3 ∨ P = 20) (hL : σ.1 1 1 = L) (hL5 : L ≤ 500) : Con yX3_read cX3_read 4 (some .boolean) 11 259 [.ref 1, .ref P] σ (AnsQ (ReadQ σ P L (parR (fun j : Nat => σ.1 2 j) L (L + 1) d00 0))) := by
  refine con_of (by decide) rfl (Nat.le_of_ble_eq_true rfl) (ok_QZ rfl (fun z τ h => h.z)) ?_
  refine ev_w (fun hR => ?_)
  have hR0 := hR
  obtain ⟨R0, hR0e⟩ : ∃ R0, parR (fun j : Nat => σ.1 2 j) L (L + 1) d00 0 = R0 := ⟨_, rfl⟩
  rw [hR0e]
  have fin : ∀ (k : Int) (z : Int) (τ : Mem), inR k → z = 0 → ReadQ σ P L R0 z τ → Ev RX3 cX3_read 4 11 259 (AnsQ (ReadQ σ P L R0)) 18 [some (.ref 1), some (.ref P), some (.int (iI z)), some (.int (iI k))] [] τ := by
    intro k z τ hk hz hQ
    refine ev_w (fun hR => ?_)
    refine ev_iload_n dX3_read_18 rfl ?_
    refine ev_sipush dX3_read_19 (by decide) ?_
    refine ev_icmp_ge (tgt := 48) dX3_read_22 (by decide) (by first | exact hR.1 _ _ | exact hR0.1 _ _ | assumption | exact ⟨by omega, by omega⟩ | exact ⟨by simp [wr_at]; omega, by simp [wr_at]; omega⟩ | exact b2_R _ | exact band_R _ _ | exact bor_R _ _ | exact bshl_R _ _ | exact bshr_R _ _ | exact bxor_R _ _ | exact bs_R (by omega) | decide) (by first | exact hR.1 _ _ | exact hR0.1 _ _ | assumption | exact ⟨by omega, by omega⟩ | exact ⟨by simp [wr_at]; omega, by simp [wr_at]; omega⟩ | exact b2_R _ | exact band_R _ _ | exact bor_R _ _ | exact bshl_R _ _ | exact bshr_R _ _ | exact bxor_R _ _ | exact bs_R (by omega) | decide) (fun h_22 => ?_) (fun h_22 => ?_)
    · refine ev_iload_n dX3_read_48 rfl ?_
      refine ev_ireturn dX3_read_49 ?_
      exact ⟨z, rfl, hQ⟩
    · refine ev_iload_n dX3_read_25 rfl ?_
      refine ev_if_eq (tgt := 48) dX3_read_26 (by decide) hQ.R (fun h_26 => ?_) (fun h_26 => ?_)
      · refine ev_iload_n dX3_read_48 rfl ?_
        refine ev_ireturn dX3_read_49 ?_
        exact ⟨z, rfl, hQ⟩
      · exact absurd hz h_26
  have loop : ∀ (n : Nat) (d : PD) (i k : Nat) (τ : Mem), L + 1 ≤ n + i → k ≤ i → i ≤ L → PDok d → RdI (wr (wr σ 1 4 0) 1 3 (-1)) τ P L i → PRep τ P d → RAt τ P d → parR (fun j : Nat => σ.1 2 j) L n d i = R0 → Ev RX3 cX3_read 4 11 259 (AnsQ (ReadQ σ P L R0)) 18 [some (.ref 1), some (.ref P), some (.int (iI 1)), some (.int (iI (k : Nat)))] [] τ := by
    intro n
    induction n with
    | zero => intro d i k τ h1 h2 h3; omega
    | succ n ih =>
    intro d i k τ hn hk hi hK hI hD hA hP0
    refine ev_w (fun hR => ?_)
    have hbs : Same (SP P) σ (wr (wr σ 1 4 0) 1 3 (-1)) := (Same.rf.wr (Or.inl rfl)).wr (Or.inl rfl)
    have hc0 : (fun j : Nat => (wr (wr σ 1 4 0) 1 3 (-1)).1 2 j) = (fun j : Nat => σ.1 2 j) := funext fun j => by rw [wr_nec _ (by decide), wr_nec _ (by decide)]
    have hI3 : τ.1 1 3 = -1 := by rw [hI.2.2.1, wr_eq]
    rw [parR] at hP0
    have hs1 : i ≤ sk (fun j : Nat => σ.1 2 j) L i := scan_ge _ _ _
    have hs2 : sk (fun j : Nat => σ.1 2 j) L i ≤ L := scan_le hi
    have hfin : ∀ υ : Mem, Same S1 τ υ → υ.1 1 1 = L → υ.1 1 3 = -1 → ¬ sk (fun j : Nat => σ.1 2 j) L i < L → ReadQ σ P L R0 1 υ := by
      intro υ u1 u2 u3 u4
      rw [if_neg u4] at hP0
      exact Or.inr ⟨rfl, d, hP0.symm, hK, hbs.tr (hI.1.tr (u1.mono (fun c hc => Or.inl hc))), u2, u3, hD.same1 u1 hP, hA.same1 u1 hP⟩
    refine ev_iload_n dX3_read_18 rfl ?_
    refine ev_sipush dX3_read_19 (by decide) ?_
    refine ev_icmp_ge (tgt := 48) dX3_read_22 (by decide) (by first | exact hR.1 _ _ | exact hR0.1 _ _ | assumption | exact ⟨by omega, by omega⟩ | exact ⟨by simp [wr_at]; omega, by simp [wr_at]; omega⟩ | exact b2_R _ | exact band_R _ _ | exact bor_R _ _ | exact bshl_R _ _ | exact bshr_R _ _ | exact bxor_R _ _ | exact bs_R (by omega) | decide) (by first | exact hR.1 _ _ | exact hR0.1 _ _ | assumption | exact ⟨by omega, by omega⟩ | exact ⟨by simp [wr_at]; omega, by simp [wr_at]; omega⟩ | exact b2_R _ | exact band_R _ _ | exact bor_R _ _ | exact bshl_R _ _ | exact bshr_R _ _ | exact bxor_R _ _ | exact bs_R (by omega) | decide) (fun h_22 => ?_) (fun h_22 => ?_)
    · have hA9 := hA
      refine ev_iload_n dX3_read_48 rfl ?_
      refine ev_ireturn dX3_read_49 ?_
      first
        | exact ⟨1, rfl, hfin τ Same.rf hI.2.1 hI3 (by omega)⟩
        | (refine ⟨1, rfl, hfin _ (Same.wr (S := S1) Same.rf rfl) ?_ ?_ (b2_eq h_33)⟩
           · rw [wr_nek _ (by decide)]; exact hI.2.1
           · rw [wr_nek _ (by decide)]; exact hI3)
        | exact absurd h_26 (by decide)
    · refine ev_iload_n dX3_read_25 rfl ?_
      refine ev_if_eq (tgt := 48) dX3_read_26 (by decide) (by first | exact hR.1 _ _ | exact hR0.1 _ _ | assumption | exact ⟨by omega, by omega⟩ | exact ⟨by simp [wr_at]; omega, by simp [wr_at]; omega⟩ | exact b2_R _ | exact band_R _ _ | exact bor_R _ _ | exact bshl_R _ _ | exact bshr_R _ _ | exact bxor_R _ _ | exact bs_R (by omega) | decide) (fun h_26 => ?_) (fun h_26 => ?_)
      · have hA9 := hA
        refine ev_iload_n dX3_read_48 rfl ?_
        refine ev_ireturn dX3_read_49 ?_
        first
          | exact ⟨1, rfl, hfin τ Same.rf hI.2.1 hI3 (by omega)⟩
          | (refine ⟨1, rfl, hfin _ (Same.wr (S := S1) Same.rf rfl) ?_ ?_ (b2_eq h_33)⟩
             · rw [wr_nek _ (by decide)]; exact hI.2.1
             · rw [wr_nek _ (by decide)]; exact hI3)
          | exact absurd h_26 (by decide)
      · refine ev_aload_n dX3_read_29 rfl ?_
        refine ev_callVI dX3_read_30 kv_X3_39 ((by have q := k_moreI hI hP hL5 hi; rw [hc0] at q; exact q)) rfl rfl (ci := 3) rfl rfl ⟨by decide, by decide⟩ (Nat.le_of_ble_eq_true rfl) ?_
        refine ev_w (fun hR => ?_)
        refine ev_if_eq (tgt := 48) dX3_read_33 (by decide) (by first | exact hR.1 _ _ | exact hR0.1 _ _ | assumption | exact ⟨by omega, by omega⟩ | exact ⟨by simp [wr_at]; omega, by simp [wr_at]; omega⟩ | exact b2_R _ | exact band_R _ _ | exact bor_R _ _ | exact bshl_R _ _ | exact bshr_R _ _ | exact bxor_R _ _ | exact bs_R (by omega) | decide) (fun h_33 => ?_) (fun h_33 => ?_)
        · have hA9 := hA
          refine ev_iload_n dX3_read_48 rfl ?_
          refine ev_ireturn dX3_read_49 ?_
          first
            | exact ⟨1, rfl, hfin τ Same.rf hI.2.1 hI3 (by omega)⟩
            | (refine ⟨1, rfl, hfin _ (Same.wr (S := S1) Same.rf rfl) ?_ ?_ (b2_eq h_33)⟩
               · rw [wr_nek _ (by decide)]; exact hI.2.1
               · rw [wr_nek _ (by decide)]; exact hI3)
            | exact absurd h_26 (by decide)
        · have hm := b2_ne h_33
          rw [if_pos hm] at hP0
          have hq1 : Same S1 τ (wr τ 1 4 (sk (fun j : Nat => σ.1 2 j) L i : Nat)) := Same.wr (S := S1) Same.rf rfl
          have hI2 : RdI (wr (wr σ 1 4 0) 1 3 (-1)) (wr τ 1 4 (sk (fun j : Nat => σ.1 2 j) L i : Nat)) P L (sk (fun j : Nat => σ.1 2 j) L i) := by
            refine ⟨hI.1.wr (Or.inl rfl), ?_, ?_, wr_eq _ _ _ _⟩
            · rw [wr_nek _ (by decide)]; exact hI.2.1
            · rw [wr_nek _ (by decide)]; exact hI.2.2.1
          have hD2 := hD.same1 hq1 hP
          have hA2 := hA.same1 hq1 hP
          refine ev_aload_n dX3_read_36 rfl ?_
          refine ev_aload_n dX3_read_37 rfl ?_
          refine ev_callVP dX3_read_38 kv_X3_43 ((by have q := k_clsI hI2 hP hL5 hs2 hD2 hA2 hK; rw [hc0] at q; exact q)) rfl rfl (ci := 3) rfl rfl ⟨by decide, by decide⟩ (Nat.le_of_ble_eq_true rfl) ?_
          rintro v_38 τ_38 ⟨z_38, rfl, hz_38⟩
          refine ev_w (fun hR => ?_)
          refine ev_istore_n dX3_read_41 rfl (by decide) rfl ?_
          refine ev_iinc dX3_read_42 rfl rfl (by decide) rfl ?_
          refine ev_goto (tgt := 18) dX3_read_45 (by decide) ?_
          by_cases z0 : z_38 = 0
          · obtain ⟨f, w, hN, hF⟩ := hz_38.bad z0
            rw [hN] at hP0
            refine fin _ z_38 τ_38 ⟨by omega, by omega⟩ z0 (Or.inl ⟨z0, f, w, hP0.symm, hbs.tr (hI2.1.tr hF.1), hF.2.1, hF.2.2.1, hF.2.2.2⟩)
          · obtain ⟨d2, e2, hN, hB⟩ := hz_38.ok z0
            rw [hN] at hP0
            have hk2 := clsR_ok hK hN hs2
            have z1 : z_38 = 1 := by rcases hz_38.z with q | q <;> omega
            subst z1
            exact ih d2 e2 (k + 1) τ_38 (by omega) (by omega) hk2.2.2 hk2.1 ⟨hI2.1.tr hB.1, hB.2.1, hB.2.2.1.trans hI2.2.2.1, hB.2.2.2.1⟩ hB.2.2.2.2.1 hB.2.2.2.2.2 hP0
  have hcl : ∀ c k, (clearM σ P).1 c k = if c = P + 4 ∧ 0 ≤ k ∧ k < 8 then 0 else if c = P ∧ k = 3 then 0 else if c = P ∧ k = 2 then 0 else if c = P ∧ k = 1 then 0 else if c = P ∧ k = 0 then 0 else σ.1 c k := by
    intro c k
    unfold clearM fillM
    show (if c = P + 4 ∧ 0 ≤ k ∧ k < ((8 : Nat) : Int) then (0 : Int) else (wr (wr (wr (wr σ P 0 0) P 1 0) P 2 0) P 3 0).1 c k) = _
    rw [wr_at, wr_at, wr_at, wr_at]
    rfl
  have hne : P ≠ 1 ∧ P + 4 ≠ 1 := by omega
  refine ev_aload_n dX3_read_0 rfl ?_
  refine ev_callVV dX3_read_1 kv_X3_34 (k_clear σ P hP) rfl (plO hP) (ci := 2) rfl rfl ⟨by decide, by decide⟩ (Nat.le_of_ble_eq_true rfl) ?_
  refine ev_w (fun hR => ?_)
  refine ev_aload_n dX3_read_4 rfl ?_
  refine ev_iconst dX3_read_5 ?_
  refine ev_putI (kz := 4) dX3_read_6 fp_X3_25 rfl rfl rfl (by first | exact hR.1 _ _ | exact hR0.1 _ _ | assumption | exact ⟨by omega, by omega⟩ | exact ⟨by simp [wr_at]; omega, by simp [wr_at]; omega⟩ | exact b2_R _ | exact band_R _ _ | exact bor_R _ _ | exact bshl_R _ _ | exact bshr_R _ _ | exact bxor_R _ _ | exact bs_R (by omega) | decide) ?_
  refine ev_w (fun hR => ?_)
  refine ev_aload_n dX3_read_9 rfl ?_
  refine ev_iconst dX3_read_10 ?_
  refine ev_putI (kz := 3) dX3_read_11 fp_X3_22 rfl rfl rfl (by first | exact hR.1 _ _ | exact hR0.1 _ _ | assumption | exact ⟨by omega, by omega⟩ | exact ⟨by simp [wr_at]; omega, by simp [wr_at]; omega⟩ | exact b2_R _ | exact band_R _ _ | exact bor_R _ _ | exact bshl_R _ _ | exact bshr_R _ _ | exact bxor_R _ _ | exact bs_R (by omega) | decide) ?_
  refine ev_w (fun hR => ?_)
  refine ev_iconst dX3_read_14 ?_
  refine ev_istore_n dX3_read_15 rfl (by decide) rfl ?_
  refine ev_iconst dX3_read_16 ?_
  refine ev_istore_n dX3_read_17 rfl (by decide) rfl ?_
  refine loop (L + 1) d00 0 0 _ (by omega) (by omega) (by omega) d00_ok ⟨⟨fun c hc => ?_, rfl⟩, ?_, ?_, ?_⟩ ⟨fun k hk => ?_, fun j hj p hp => absurd hp (Nat.not_lt_zero _)⟩ (fun p hp => ?_) hR0e
  · funext k
    have h1 : c ≠ 1 := fun q => hc (Or.inl q)
    have h2 : c ≠ P ∧ c ≠ P + 4 := ⟨fun q => hc (Or.inr (by omega)), fun q => hc (Or.inr (by omega))⟩
    rw [wr_nec _ h1, wr_nec _ h1, wr_nec _ h1, wr_nec _ h1, hcl]
    rw [if_neg (by omega), if_neg (by omega), if_neg (by omega), if_neg (by omega), if_neg (by omega)]
  · rw [wr_nek _ (by decide), wr_nek _ (by decide), hcl, if_neg (by omega), if_neg (by omega), if_neg (by omega), if_neg (by omega), if_neg (by omega)]; exact hL
  · rw [wr_eq, wr_eq]
  · rw [wr_nek _ (by decide), wr_eq]; rfl
  · unfold fld4
    rw [wr_nec _ hne.1, wr_nec _ hne.1, hcl]
    have h4 : k = 0 ∨ k = 1 ∨ k = 2 ∨ k = 3 := by omega
    rcases h4 with rfl | rfl | rfl | rfl
    · rw [if_neg (by omega), if_neg (by omega), if_neg (by omega), if_neg (by omega), if_pos ⟨rfl, rfl⟩]; rfl
    · rw [if_neg (by omega), if_neg (by omega), if_neg (by omega), if_pos ⟨rfl, rfl⟩]; rfl
    · rw [if_neg (by omega), if_neg (by omega), if_pos ⟨rfl, rfl⟩]; rfl
    · rw [if_neg (by omega), if_pos ⟨rfl, rfl⟩]; rfl
  · rw [wr_nec _ hne.2, wr_nec _ hne.2, hcl, if_pos ⟨rfl, by omega, by omega⟩]
    rfl
