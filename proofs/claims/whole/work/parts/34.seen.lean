/-- at each told pole two ropes of S at least; and whichever rope of S is cut, the told poles are joined -/
def OutC (f t : Nat → Nat) (n nr S T a : Nat) : Prop := (∀ p, p < n → T.testBit p = true → 2 ≤ cnt (S &&& bs (fun r => decide (f r = p ∨ t r = p)) nr).testBit 12) ∧ ∀ r, r < nr → S.testBit r = true → ∀ p, T.testBit p = true → Rch f t nr (andn S (2 ^ r)) a p
theorem k_outlivesCuts (σ : Mem) (P n nr nb nl w wt : Nat) (f t : Nat → Nat) (hPO : PlanOk σ P n nr nb nl f t) (hPI : PlIs σ P) (hBt : Bits σ w wt) (S T a : Nat) (hS : S < 4096) (hT : T < 2 ^ n) (ha : lowb (T : Nat) = (2 ^ a : Nat)) (ha2 : T.testBit a = true) : Con yX7_outlivesCuts cX7_outlivesCuts 4 (some .boolean) 2 48 [.ref 0, .int (iI S), .int (iI T)] σ (AnsI (bC (OutC f t n nr S T a)) σ) := by
  refine con_of (by decide) rfl (Nat.le_of_ble_eq_true rfl) (ok_Z rfl (bC_01 _)) ?_
  refine ev_w (fun hR => ?_)
  have hR0 := hR
  obtain ⟨hPR, ⟨hnb, hnb4⟩, ⟨hnl, hnl4⟩, hpo, hro, hbo, hlo⟩ := id hPO
  obtain ⟨hP, hn, hn8, hnr, hnr12, hft⟩ := id hPR
  obtain ⟨hw, hw2, hwt, hwt2⟩ := id hBt
  have hpl := hPI.q
  have h2n : 2 ^ n ≤ 2 ^ 8 := Nat.pow_le_pow_right (by decide) hn8
  have loop2 : ∀ i : Nat, i ≤ nr → (∀ p, p < n → T.testBit p = true → 2 ≤ cnt (S &&& bs (fun r => decide (f r = p ∨ t r = p)) nr).testBit 12) → (∀ r, r < i → S.testBit r = true → ∀ p, T.testBit p = true → Rch f t nr (andn S (2 ^ r)) a p) → Ev RX7 cX7_outlivesCuts 4 2 48 (AnsI (bC (OutC f t n nr S T a)) σ) 49 [some (.ref 0), some (.int (iI S)), some (.int (iI T)), some (.int (iI (i : Nat)))] [] σ := by
    refine for_up nr (fun i hi ih hA hB => ?_)
    refine ev_w (fun hR => ?_)
    refine ev_iload_n dX7_outlivesCuts_49 rfl ?_
    refine ev_aload_n dX7_outlivesCuts_50 rfl ?_
    refine ev_getQ (r := P) dX7_outlivesCuts_51 fl_X7_19 rfl rfl hpl ?_
    refine ev_getI (kz := 1) dX7_outlivesCuts_54 fl_X7_98 (plO hP) rfl rfl ?_
    rw [hnr]
    refine ev_icmp_ge (tgt := 91) dX7_outlivesCuts_57 (by decide) (by first | exact hR.1 _ _ | exact hR0.1 _ _ | assumption | exact ⟨by omega, by omega⟩ | exact ⟨by simp [wr_at]; omega, by simp [wr_at]; omega⟩ | exact b2_R _ | exact bC_R _ | exact band_R _ _ | exact bor_R _ _ | exact bshl_R _ _ | exact bshr_R _ _ | exact bxor_R _ _ | exact bs_R (by omega) | decide) (by first | exact hR.1 _ _ | exact hR0.1 _ _ | assumption | exact ⟨by omega, by omega⟩ | exact ⟨by simp [wr_at]; omega, by simp [wr_at]; omega⟩ | exact b2_R _ | exact bC_R _ | exact band_R _ _ | exact bor_R _ _ | exact bshl_R _ _ | exact bshr_R _ _ | exact bxor_R _ _ | exact bs_R (by omega) | decide) (fun h_57 => ?_) (fun h_57 => ?_)
    · refine ev_iconst dX7_outlivesCuts_91 ?_
      refine ev_ireturn dX7_outlivesCuts_92 ?_
      obtain rfl : i = nr := by omega
      exact ⟨by rw [bC_t ⟨hA, hB⟩], rfl⟩
    · refine ev_iload_n dX7_outlivesCuts_60 rfl ?_
      refine ev_iload_n dX7_outlivesCuts_61 rfl ?_
      refine ev_callSI dX7_outlivesCuts_62 ks_X7_237 (k_has σ S i (by omega) (by omega)) rfl rfl ⟨by decide, by decide⟩ (Nat.le_of_ble_eq_true rfl) ?_
      refine ev_w (fun hR => ?_)
      refine ev_if_eq (tgt := 85) dX7_outlivesCuts_65 (by decide) (by first | exact hR.1 _ _ | exact hR0.1 _ _ | assumption | exact ⟨by omega, by omega⟩ | exact ⟨by simp [wr_at]; omega, by simp [wr_at]; omega⟩ | exact b2_R _ | exact bC_R _ | exact band_R _ _ | exact bor_R _ _ | exact bshl_R _ _ | exact bshr_R _ _ | exact bxor_R _ _ | exact bs_R (by omega) | decide) (fun h_65 => ?_) (fun h_65 => ?_)
      · refine ev_iinc dX7_outlivesCuts_85 rfl rfl (by decide) rfl ?_
        refine ev_goto (tgt := 49) dX7_outlivesCuts_88 (by decide) ?_
        refine ih (by omega) hA (fun r hr hs => ?_)
        by_cases e : r = i
        · subst e
          first
            | exact bC_ne h_80
            | exact absurd hs (b2_eq h_65)
        · exact hB r (by omega) hs
      · refine ev_aload_n dX7_outlivesCuts_68 rfl ?_
        refine ev_iload_n dX7_outlivesCuts_69 rfl ?_
        refine ev_iconst dX7_outlivesCuts_70 ?_
        refine ev_iload_n dX7_outlivesCuts_71 rfl ?_
        refine ev_ishl dX7_outlivesCuts_72 ?_
        rw [bshl1 i (by omega)]
        refine ev_iconst dX7_outlivesCuts_73 ?_
        refine ev_ixor dX7_outlivesCuts_74 ?_
        refine ev_iand dX7_outlivesCuts_75 ?_
        rw [band_not S _ (by omega)]
        have hal := andn_lt (n := 12) (2 ^ i) hS
        refine ev_iload_n dX7_outlivesCuts_76 rfl ?_
        refine ev_callVI dX7_outlivesCuts_77 kv_X7_376 (k_joins σ P n nr nb nl w wt f t hPO hPI hBt (andn S (2 ^ i)) T a hal hT ha ha2) rfl rfl (ci := 7) rfl rfl ⟨by decide, by decide⟩ (Nat.le_of_ble_eq_true rfl) ?_
        refine ev_w (fun hR => ?_)
        refine ev_if_ne (tgt := 85) dX7_outlivesCuts_80 (by decide) (by first | exact hR.1 _ _ | exact hR0.1 _ _ | assumption | exact ⟨by omega, by omega⟩ | exact ⟨by simp [wr_at]; omega, by simp [wr_at]; omega⟩ | exact b2_R _ | exact bC_R _ | exact band_R _ _ | exact bor_R _ _ | exact bshl_R _ _ | exact bshr_R _ _ | exact bxor_R _ _ | exact bs_R (by omega) | decide) (fun h_80 => ?_) (fun h_80 => ?_)
        · refine ev_iinc dX7_outlivesCuts_85 rfl rfl (by decide) rfl ?_
          refine ev_goto (tgt := 49) dX7_outlivesCuts_88 (by decide) ?_
          refine ih (by omega) hA (fun r hr hs => ?_)
          by_cases e : r = i
          · subst e
            first
              | exact bC_ne h_80
              | exact absurd hs (b2_eq h_65)
          · exact hB r (by omega) hs
        · refine ev_iconst dX7_outlivesCuts_83 ?_
          refine ev_ireturn dX7_outlivesCuts_84 ?_
          have q := b2_ne h_65
          have q2 := bC_eq (by omega : bC (∀ p, T.testBit p = true → Rch f t nr (andn S (2 ^ i)) a p) = 0)
          exact ⟨by rw [bC_f (fun z => q2 (z.2 i (by omega) q))], rfl⟩
  have loop1 : ∀ i : Nat, i ≤ n → (∀ p, p < i → T.testBit p = true → 2 ≤ cnt (S &&& bs (fun r => decide (f r = p ∨ t r = p)) nr).testBit 12) → Ev RX7 cX7_outlivesCuts 4 2 48 (AnsI (bC (OutC f t n nr S T a)) σ) 2 [some (.ref 0), some (.int (iI S)), some (.int (iI T)), some (.int (iI (i : Nat)))] [] σ := by
    refine for_up n (fun i hi ih hA => ?_)
    refine ev_w (fun hR => ?_)
    refine ev_iload_n dX7_outlivesCuts_2 rfl ?_
    refine ev_aload_n dX7_outlivesCuts_3 rfl ?_
    refine ev_getQ (r := P) dX7_outlivesCuts_4 fl_X7_19 rfl rfl hpl ?_
    refine ev_getI (kz := 0) dX7_outlivesCuts_7 fl_X7_92 (plO hP) rfl rfl ?_
    rw [hn]
    refine ev_icmp_ge (tgt := 47) dX7_outlivesCuts_10 (by decide) (by first | exact hR.1 _ _ | exact hR0.1 _ _ | assumption | exact ⟨by omega, by omega⟩ | exact ⟨by simp [wr_at]; omega, by simp [wr_at]; omega⟩ | exact b2_R _ | exact bC_R _ | exact band_R _ _ | exact bor_R _ _ | exact bshl_R _ _ | exact bshr_R _ _ | exact bxor_R _ _ | exact bs_R (by omega) | decide) (by first | exact hR.1 _ _ | exact hR0.1 _ _ | assumption | exact ⟨by omega, by omega⟩ | exact ⟨by simp [wr_at]; omega, by simp [wr_at]; omega⟩ | exact b2_R _ | exact bC_R _ | exact band_R _ _ | exact bor_R _ _ | exact bshl_R _ _ | exact bshr_R _ _ | exact bxor_R _ _ | exact bs_R (by omega) | decide) (fun h_10 => ?_) (fun h_10 => ?_)
    · refine ev_iconst dX7_outlivesCuts_47 ?_
      refine ev_istore_n dX7_outlivesCuts_48 rfl (by decide) rfl ?_
      obtain rfl : i = n := by omega
      exact loop2 0 (by omega) hA (fun r hr => by omega)
    · refine ev_iload_n dX7_outlivesCuts_13 rfl ?_
      refine ev_iload_n dX7_outlivesCuts_14 rfl ?_
      refine ev_callSI dX7_outlivesCuts_15 ks_X7_237 (k_has σ T i (by omega) (by omega)) rfl rfl ⟨by decide, by decide⟩ (Nat.le_of_ble_eq_true rfl) ?_
      refine ev_w (fun hR => ?_)
      refine ev_if_eq (tgt := 41) dX7_outlivesCuts_18 (by decide) (by first | exact hR.1 _ _ | exact hR0.1 _ _ | assumption | exact ⟨by omega, by omega⟩ | exact ⟨by simp [wr_at]; omega, by simp [wr_at]; omega⟩ | exact b2_R _ | exact bC_R _ | exact band_R _ _ | exact bor_R _ _ | exact bshl_R _ _ | exact bshr_R _ _ | exact bxor_R _ _ | exact bs_R (by omega) | decide) (fun h_18 => ?_) (fun h_18 => ?_)
      · refine ev_iinc dX7_outlivesCuts_41 rfl rfl (by decide) rfl ?_
        refine ev_goto (tgt := 2) dX7_outlivesCuts_44 (by decide) ?_
        refine ih (by omega) (fun p hp hs => ?_)
        by_cases e : p = i
        · subst e
          first
            | exact absurd hs (b2_eq h_18)
            | omega
        · exact hA p (by omega) hs
      · refine ev_iload_n dX7_outlivesCuts_21 rfl ?_
        refine ev_aload_n dX7_outlivesCuts_22 rfl ?_
        refine ev_getQ (r := P) dX7_outlivesCuts_23 fl_X7_19 rfl rfl hpl ?_
        refine ev_getR (r := P + 4) dX7_outlivesCuts_26 fl_X7_373 (plO hP) rfl rfl ?_
        refine ev_iload_n dX7_outlivesCuts_29 rfl ?_
        refine ev_iaload dX7_outlivesCuts_30 (plA4 hP) (by first | omega | (simp [wr_at]; omega) | (simp [wr_at, *]; omega)) (by first | omega | (simp [wr_at]; omega) | (simp [wr_at, *]; omega)) (by decide) ?_
        rw [(hpo i (by omega)).2.2.2]
        refine ev_iand dX7_outlivesCuts_31 ?_
        rw [band_nat S _ (by omega)]
        have hal := Nat.and_le_left (n := S) (m := bs (fun r => decide (f r = i ∨ t r = i)) nr)
        refine ev_callSI dX7_outlivesCuts_32 ks_X7_228 (k_bitCount σ (S &&& bs (fun r => decide (f r = i ∨ t r = i)) nr) (by omega)) rfl rfl ⟨by decide, by decide⟩ (Nat.le_of_ble_eq_true rfl) ?_
        refine ev_w (fun hR => ?_)
        refine ev_iconst dX7_outlivesCuts_35 ?_
        have hcl := cnt_le (S &&& bs (fun r => decide (f r = i ∨ t r = i)) nr).testBit 12
        refine ev_icmp_ge (tgt := 41) dX7_outlivesCuts_36 (by decide) (by first | exact hR.1 _ _ | exact hR0.1 _ _ | assumption | exact ⟨by omega, by omega⟩ | exact ⟨by simp [wr_at]; omega, by simp [wr_at]; omega⟩ | exact b2_R _ | exact bC_R _ | exact band_R _ _ | exact bor_R _ _ | exact bshl_R _ _ | exact bshr_R _ _ | exact bxor_R _ _ | exact bs_R (by omega) | decide) (by first | exact hR.1 _ _ | exact hR0.1 _ _ | assumption | exact ⟨by omega, by omega⟩ | exact ⟨by simp [wr_at]; omega, by simp [wr_at]; omega⟩ | exact b2_R _ | exact bC_R _ | exact band_R _ _ | exact bor_R _ _ | exact bshl_R _ _ | exact bshr_R _ _ | exact bxor_R _ _ | exact bs_R (by omega) | decide) (fun h_36 => ?_) (fun h_36 => ?_)
        · refine ev_iinc dX7_outlivesCuts_41 rfl rfl (by decide) rfl ?_
          refine ev_goto (tgt := 2) dX7_outlivesCuts_44 (by decide) ?_
          refine ih (by omega) (fun p hp hs => ?_)
          by_cases e : p = i
          · subst e
            first
              | exact absurd hs (b2_eq h_18)
              | omega
          · exact hA p (by omega) hs
        · refine ev_iconst dX7_outlivesCuts_39 ?_
          refine ev_ireturn dX7_outlivesCuts_40 ?_
          have q := b2_ne h_18
          exact ⟨by rw [bC_f (fun z => by have := z.1 i (by omega) q; omega)], rfl⟩
  refine ev_iconst dX7_outlivesCuts_0 ?_
  refine ev_istore_n dX7_outlivesCuts_1 rfl (by decide) rfl ?_
  exact loop1 0 (by omega) (fun p hp => by omega)
/-- the sightings: how many, and each is of a boy, a pole and a minute there can be -/
def BookOk (σ : Mem) (n nb k : Nat) : Prop := σ.1 65 0 = k ∧ k ≤ 20 ∧ ∀ i : Nat, i < k → (0 ≤ σ.1 66 i ∧ σ.1 66 i < nb) ∧ (0 ≤ σ.1 67 i ∧ σ.1 67 i < n) ∧ (0 ≤ σ.1 68 i ∧ σ.1 68 i ≤ 9999)
/-- where, and since when, a boy was last: a sighting's number, or -1 for his home -/
def frm (H Pl : Nat → Int) (b : Nat) (k : Int) : Nat := if k = -1 then (H b).toNat else (Pl k.toNat).toNat
def snc (T : Nat → Int) (k : Int) : Int := if k = -1 then 0 else T k.toNat
def couldZ (D : Nat → Nat → Int) (H B Pl T : Nat → Int) (k b p : Nat) (m : Int) : Prop := D (frm H Pl b (lastU B T b m k)) p ≤ m - snc T (lastU B T b m k) ∧ (nextA B T b m k = -1 ∨ D p (Pl (nextA B T b m k).toNat).toNat ≤ T (nextA B T b m k).toNat - m)
def couldZd (D : Nat → Nat → Int) (H B Pl T : Nat → Int) (k b p : Nat) (m : Int) : Decidable (couldZ D H B Pl T k b p m) := by unfold couldZ; exact inferInstance
theorem k_canHaveBeen (σ : Mem) (P n nr nb nl w wt : Nat) (f t : Nat → Nat) (hPO : PlanOk σ P n nr nb nl f t) (hPI : PlIs σ P) (hBt : Bits σ w wt) (k b p : Nat) (m : Int) (hBk : BookOk σ n nb k) (hb : b < nb) (hp : p < n) (hm0 : 0 ≤ m) (hm1 : m ≤ 9999) : Con yX7_canHaveBeen cX7_canHaveBeen 8 (some .boolean) 5 117 [.ref 0, .int (iI b), .int (iI p), .int (iI m)] σ (AnsIP (bC (couldZ (dst σ P n nr nl w wt f t b 0 1) (fun i => σ.1 (P + 9) i) (fun i => σ.1 66 i) (fun i => σ.1 67 i) (fun i => σ.1 68 i) k b p m)) (fun τ => Same sM σ τ)) := by
  refine con_of (by decide) rfl (Nat.le_of_ble_eq_true rfl) (ok_ZP rfl (bC_01 _)) ?_
  refine ev_w (fun hR => ?_)
  have hR0 := hR
  obtain ⟨hPR, ⟨hnb, hnb4⟩, ⟨hnl, hnl4⟩, hpo, hro, hbo, hlo⟩ := id hPO
  obtain ⟨hP, hn, hn8, hnr, hnr12, hft⟩ := id hPR
  obtain ⟨hw, hw2, hwt, hwt2⟩ := id hBt
  have hpl := hPI.q
  obtain ⟨hk, hk20, hbk⟩ := id hBk
  have hl := lastU_R (fun i => σ.1 66 i) (fun i => σ.1 68 i) b m k
  have ha := nextA_R (fun i => σ.1 66 i) (fun i => σ.1 68 i) b m k
  generalize hL : lastU (fun i => σ.1 66 i) (fun i => σ.1 68 i) b m k = la at hl
  generalize hN : nextA (fun i => σ.1 66 i) (fun i => σ.1 68 i) b m k = nx at ha
  have hhm := (hbo b hb).1
  have hF : ∃ F : Nat, F < n ∧ F = frm (fun i => σ.1 (P + 9) i) (fun i => σ.1 67 i) b la ∧ (la = -1 → σ.1 (P + 9) b = F) ∧ (la ≠ -1 → σ.1 67 la = F) := by
    by_cases e : la = -1
    · exact ⟨(σ.1 (P + 9) b).toNat, by omega, by unfold frm; rw [if_pos e], fun _ => by omega, fun z => absurd e z⟩
    · have q := (hbk la.toNat (by omega)).2.1
      rw [Int.toNat_of_nonneg (by omega)] at q
      refine ⟨(σ.1 67 la).toNat, by omega, ?_, fun z => absurd z e, fun _ => by omega⟩
      unfold frm
      rw [if_neg e]
      show _ = (σ.1 67 (la.toNat : Nat)).toNat
      rw [Int.toNat_of_nonneg (show 0 ≤ la by omega)]
  obtain ⟨F, hF8, hF2, hF3, hF4⟩ := hF
  have hSn : ∃ z : Int, z = snc (fun i => σ.1 68 i) la ∧ 0 ≤ z ∧ z ≤ 9999 ∧ (la = -1 → z = 0) ∧ (la ≠ -1 → σ.1 68 la = z) := by
    by_cases e : la = -1
    · exact ⟨0, by unfold snc; rw [if_pos e], by omega, by omega, fun _ => rfl, fun z => absurd e z⟩
    · have q := (hbk la.toNat (by omega)).2.2
      rw [Int.toNat_of_nonneg (by omega)] at q
      refine ⟨σ.1 68 la, ?_, by omega, by omega, fun z => absurd z e, fun _ => rfl⟩
      unfold snc
      rw [if_neg e]
      show _ = σ.1 68 (la.toNat : Nat)
      rw [Int.toNat_of_nonneg (show 0 ≤ la by omega)]
  obtain ⟨sn, hsn1, hsn2, hsn3, hsn4, hsn5⟩ := hSn
  have hnx : nx ≠ -1 → ∃ X : Nat, X < n ∧ σ.1 67 nx = X ∧ X = (σ.1 67 (nx.toNat : Nat)).toNat ∧ σ.1 68 nx = σ.1 68 (nx.toNat : Nat) ∧ 0 ≤ σ.1 68 nx ∧ σ.1 68 nx ≤ 9999 := by
    intro e
    have q := hbk nx.toNat (by omega)
    rw [Int.toNat_of_nonneg (show 0 ≤ nx by omega)] at q ⊢
    exact ⟨(σ.1 67 nx).toNat, by omega, by omega, rfl, rfl, q.2.2.1, q.2.2.2⟩
  have hdo := dst_ok (w := w) (wt := wt) (b := b) (s := 0) (dry := 1) hPO hb
  have hC : (couldZ (dst σ P n nr nl w wt f t b 0 1) (fun i => σ.1 (P + 9) i) (fun i => σ.1 66 i) (fun i => σ.1 67 i) (fun i => σ.1 68 i) k b p m) ↔ (dst σ P n nr nl w wt f t b 0 1 F p ≤ m - sn ∧ (nx = -1 ∨ dst σ P n nr nl w wt f t b 0 1 p (σ.1 67 (nx.toNat : Nat)).toNat ≤ σ.1 68 (nx.toNat : Nat) - m)) := by
    unfold couldZ
    rw [hL, hN, ← hF2, ← hsn1]
  refine ev_aload_n dX7_canHaveBeen_0 rfl ?_
  refine ev_getR (r := 65) dX7_canHaveBeen_1 fl_X7_44 rfl rfl rfl ?_
  refine ev_iload_n dX7_canHaveBeen_4 rfl ?_
  refine ev_iload_n dX7_canHaveBeen_5 rfl ?_
  refine ev_callVI dX7_canHaveBeen_6 kv_X7_394 (k_lastUntil σ b m k (by exact ⟨by omega, by omega⟩) (by exact ⟨by omega, by omega⟩) hk hk20) rfl rfl (ci := 0) rfl rfl ⟨by decide, by decide⟩ (Nat.le_of_ble_eq_true rfl) ?_
  refine ev_w (fun hR => ?_)
  rw [hL]
  refine ev_istore dX7_canHaveBeen_9 rfl (by decide) rfl ?_
  refine ev_aload_n dX7_canHaveBeen_11 rfl ?_
  refine ev_getR (r := 65) dX7_canHaveBeen_12 fl_X7_44 rfl rfl rfl ?_
  refine ev_iload_n dX7_canHaveBeen_15 rfl ?_
  refine ev_iload_n dX7_canHaveBeen_16 rfl ?_
  refine ev_callVI dX7_canHaveBeen_17 kv_X7_397 (k_firstAfter σ b m k (by exact ⟨by omega, by omega⟩) (by exact ⟨by omega, by omega⟩) hk hk20) rfl rfl (ci := 0) rfl rfl ⟨by decide, by decide⟩ (Nat.le_of_ble_eq_true rfl) ?_
  refine ev_w (fun hR => ?_)
  rw [hN]
  refine ev_istore dX7_canHaveBeen_20 rfl (by decide) rfl ?_
  refine ev_iload dX7_canHaveBeen_22 rfl ?_
  refine ev_iconst dX7_canHaveBeen_24 ?_
  refine ev_icmp_ne (tgt := 40) dX7_canHaveBeen_25 (by decide) (by first | exact hR.1 _ _ | exact hR0.1 _ _ | assumption | exact ⟨by omega, by omega⟩ | exact ⟨by simp [wr_at]; omega, by simp [wr_at]; omega⟩ | exact b2_R _ | exact bC_R _ | exact band_R _ _ | exact bor_R _ _ | exact bshl_R _ _ | exact bshr_R _ _ | exact bxor_R _ _ | exact bs_R (by omega) | decide) (by first | exact hR.1 _ _ | exact hR0.1 _ _ | assumption | exact ⟨by omega, by omega⟩ | exact ⟨by simp [wr_at]; omega, by simp [wr_at]; omega⟩ | exact b2_R _ | exact bC_R _ | exact band_R _ _ | exact bor_R _ _ | exact bshl_R _ _ | exact bshr_R _ _ | exact bxor_R _ _ | exact bs_R (by omega) | decide) (fun h_25 => ?_) (fun h_25 => ?_)
  · refine ev_aload_n dX7_canHaveBeen_40 rfl ?_
    refine ev_getR (r := 65) dX7_canHaveBeen_41 fl_X7_44 rfl rfl rfl ?_
    refine ev_getR (r := 67) dX7_canHaveBeen_44 fl_X7_403 rfl rfl rfl ?_
    refine ev_iload dX7_canHaveBeen_47 rfl ?_
    refine ev_iaload dX7_canHaveBeen_49 rfl (by first | omega | (simp [wr_at]; omega) | (simp [wr_at, *]; omega)) (by first | omega | (simp [wr_at]; omega) | (simp [wr_at, *]; omega)) (by decide) ?_
    first
      | rw [hF3 h_25]
      | rw [hF4 h_25]
    refine ev_istore dX7_canHaveBeen_50 rfl (by decide) rfl ?_
    refine ev_iload dX7_canHaveBeen_52 rfl ?_
    refine ev_iconst dX7_canHaveBeen_54 ?_
    refine ev_icmp_ne (tgt := 62) dX7_canHaveBeen_55 (by decide) (by first | exact hR.1 _ _ | exact hR0.1 _ _ | assumption | exact ⟨by omega, by omega⟩ | exact ⟨by simp [wr_at]; omega, by simp [wr_at]; omega⟩ | exact b2_R _ | exact bC_R _ | exact band_R _ _ | exact bor_R _ _ | exact bshl_R _ _ | exact bshr_R _ _ | exact bxor_R _ _ | exact bs_R (by omega) | decide) (by first | exact hR.1 _ _ | exact hR0.1 _ _ | assumption | exact ⟨by omega, by omega⟩ | exact ⟨by simp [wr_at]; omega, by simp [wr_at]; omega⟩ | exact b2_R _ | exact bC_R _ | exact band_R _ _ | exact bor_R _ _ | exact bshl_R _ _ | exact bshr_R _ _ | exact bxor_R _ _ | exact bs_R (by omega) | decide) (fun h_55 => ?_) (fun h_55 => ?_)
    · refine ev_aload_n dX7_canHaveBeen_62 rfl ?_
      refine ev_getR (r := 65) dX7_canHaveBeen_63 fl_X7_44 rfl rfl rfl ?_
      refine ev_getR (r := 68) dX7_canHaveBeen_66 fl_X7_406 rfl rfl rfl ?_
      refine ev_iload dX7_canHaveBeen_69 rfl ?_
      refine ev_iaload dX7_canHaveBeen_71 rfl (by first | omega | (simp [wr_at]; omega) | (simp [wr_at, *]; omega)) (by first | omega | (simp [wr_at]; omega) | (simp [wr_at, *]; omega)) (by decide) ?_
      first
        | rw [show (0 : Int) = sn from (hsn4 h_55).symm]
        | rw [hsn5 h_55]
      refine ev_istore dX7_canHaveBeen_72 rfl (by decide) rfl ?_
      refine ev_aload_n dX7_canHaveBeen_74 rfl ?_
      refine ev_iload_n dX7_canHaveBeen_75 rfl ?_
      refine ev_iconst dX7_canHaveBeen_76 ?_
      refine ev_iconst dX7_canHaveBeen_77 ?_
      refine ev_callVP dX7_canHaveBeen_78 kv_X7_344 (k_spreadMinutes σ P n nr nb nl w wt f t hPO hPI hBt b 0 1 hb (by decide) (Or.inr rfl)) rfl rfl (ci := 7) rfl rfl ⟨by decide, by decide⟩ (Nat.le_of_ble_eq_true rfl) ?_
      rintro v_78 τ_78 ⟨rfl, hS2, hn2, hm2⟩
      refine ev_w (fun hR => ?_)
      refine ev_aload_n dX7_canHaveBeen_81 rfl ?_
      refine ev_getR (r := 69) dX7_canHaveBeen_82 fl_X7_51 rfl rfl rfl ?_
      refine ev_iload dX7_canHaveBeen_85 rfl ?_
      refine ev_iload_n dX7_canHaveBeen_87 rfl ?_
      refine ev_callVI dX7_canHaveBeen_88 kv_X7_348 (k_between τ_78 F p (by omega) (by omega) (by omega) (by omega)) rfl rfl (ci := 6) rfl rfl ⟨by decide, by decide⟩ (Nat.le_of_ble_eq_true rfl) ?_
      refine ev_w (fun hR => ?_)
      rw [show τ_78.1 71 ((F : Int) * 8 + p) = mat τ_78 F p from rfl, hm2 F p hF8 hp]
      have d1 := hdo F p hF8 hp
      refine ev_iload_n dX7_canHaveBeen_91 rfl ?_
      refine ev_iload dX7_canHaveBeen_92 rfl ?_
      refine ev_isub dX7_canHaveBeen_94 ?_
      refine ev_icmp_le (tgt := 100) dX7_canHaveBeen_95 (by decide) (by first | exact hR.1 _ _ | exact hR0.1 _ _ | assumption | exact ⟨by omega, by omega⟩ | exact ⟨by simp [wr_at]; omega, by simp [wr_at]; omega⟩ | exact b2_R _ | exact bC_R _ | exact band_R _ _ | exact bor_R _ _ | exact bshl_R _ _ | exact bshr_R _ _ | exact bxor_R _ _ | exact bs_R (by omega) | decide) (by first | exact hR.1 _ _ | exact hR0.1 _ _ | assumption | exact ⟨by omega, by omega⟩ | exact ⟨by simp [wr_at]; omega, by simp [wr_at]; omega⟩ | exact b2_R _ | exact bC_R _ | exact band_R _ _ | exact bor_R _ _ | exact bshl_R _ _ | exact bshr_R _ _ | exact bxor_R _ _ | exact bs_R (by omega) | decide) (fun h_95 => ?_) (fun h_95 => ?_)
      · refine ev_iload dX7_canHaveBeen_100 rfl ?_
        refine ev_iconst dX7_canHaveBeen_102 ?_
        refine ev_icmp_eq (tgt := 139) dX7_canHaveBeen_103 (by decide) (by first | exact hR.1 _ _ | exact hR0.1 _ _ | assumption | exact ⟨by omega, by omega⟩ | exact ⟨by simp [wr_at]; omega, by simp [wr_at]; omega⟩ | exact b2_R _ | exact bC_R _ | exact band_R _ _ | exact bor_R _ _ | exact bshl_R _ _ | exact bshr_R _ _ | exact bxor_R _ _ | exact bs_R (by omega) | decide) (by first | exact hR.1 _ _ | exact hR0.1 _ _ | assumption | exact ⟨by omega, by omega⟩ | exact ⟨by simp [wr_at]; omega, by simp [wr_at]; omega⟩ | exact b2_R _ | exact bC_R _ | exact band_R _ _ | exact bor_R _ _ | exact bshl_R _ _ | exact bshr_R _ _ | exact bxor_R _ _ | exact bs_R (by omega) | decide) (fun h_103 => ?_) (fun h_103 => ?_)
        · refine ev_iconst dX7_canHaveBeen_139 ?_
          refine ev_goto (tgt := 144) dX7_canHaveBeen_140 (by decide) ?_
          refine ev_ireturn dX7_canHaveBeen_144 ?_
          first
            | (have z1 : nx = -1 := h_103; exact ⟨by rw [bC_congr hC, bC_t ⟨by omega, Or.inl z1⟩], hS2⟩)
            | (rw [← hX3, ← hX4] at hC
               refine ⟨?_, hS2⟩
               by_cases z1 : dst σ P n nr nl w wt f t b 0 1 p X ≤ σ.1 68 nx - m
               · (rw [bC_congr hC, bC_t ⟨h_95, Or.inr z1⟩]) <;> (exfalso; omega)
               · (rw [bC_congr hC, bC_f (fun z => z.2.elim h_103 z1)]) <;> (exfalso; omega))
        · obtain ⟨X, hX1, hX2, hX3, hX4, hX5, hX6⟩ := hnx h_103
          have d2 := hdo p X hp hX1
          have s67 := hS2.at (c := 67) (by unfold sM; omega) nx
          have s68 := hS2.at (c := 68) (by unfold sM; omega) nx
          refine ev_aload_n dX7_canHaveBeen_106 rfl ?_
          refine ev_getR (r := 69) dX7_canHaveBeen_107 fl_X7_51 rfl rfl rfl ?_
          refine ev_iload_n dX7_canHaveBeen_110 rfl ?_
          refine ev_aload_n dX7_canHaveBeen_111 rfl ?_
          refine ev_getR (r := 65) dX7_canHaveBeen_112 fl_X7_44 rfl rfl rfl ?_
          refine ev_getR (r := 67) dX7_canHaveBeen_115 fl_X7_403 rfl rfl rfl ?_
          refine ev_iload dX7_canHaveBeen_118 rfl ?_
          refine ev_iaload dX7_canHaveBeen_120 rfl (by first | omega | (simp [wr_at]; omega) | (simp [wr_at, *]; omega)) (by first | omega | (simp [wr_at]; omega) | (simp [wr_at, *]; omega)) (by decide) ?_
          rw [s67, hX2]
          refine ev_callVI dX7_canHaveBeen_121 kv_X7_348 (k_between τ_78 p X (by omega) (by omega) (by omega) (by omega)) rfl rfl (ci := 6) rfl rfl ⟨by decide, by decide⟩ (Nat.le_of_ble_eq_true rfl) ?_
          refine ev_w (fun hR => ?_)
          refine ev_aload_n dX7_canHaveBeen_124 rfl ?_
          refine ev_getR (r := 65) dX7_canHaveBeen_125 fl_X7_44 rfl rfl rfl ?_
          refine ev_getR (r := 68) dX7_canHaveBeen_128 fl_X7_406 rfl rfl rfl ?_
          refine ev_iload dX7_canHaveBeen_131 rfl ?_
          refine ev_iaload dX7_canHaveBeen_133 rfl (by first | omega | (simp [wr_at]; omega) | (simp [wr_at, *]; omega)) (by first | omega | (simp [wr_at]; omega) | (simp [wr_at, *]; omega)) (by decide) ?_
          rw [s68, show τ_78.1 71 ((p : Int) * 8 + X) = mat τ_78 p X from rfl, hm2 p X hp hX1]
          refine ev_iload_n dX7_canHaveBeen_134 rfl ?_
          refine ev_isub dX7_canHaveBeen_135 ?_
          refine ev_icmp_gt (tgt := 143) dX7_canHaveBeen_136 (by decide) (by first | exact hR.1 _ _ | exact hR0.1 _ _ | assumption | exact ⟨by omega, by omega⟩ | exact ⟨by simp [wr_at]; omega, by simp [wr_at]; omega⟩ | exact b2_R _ | exact bC_R _ | exact band_R _ _ | exact bor_R _ _ | exact bshl_R _ _ | exact bshr_R _ _ | exact bxor_R _ _ | exact bs_R (by omega) | decide) (by first | exact hR.1 _ _ | exact hR0.1 _ _ | assumption | exact ⟨by omega, by omega⟩ | exact ⟨by simp [wr_at]; omega, by simp [wr_at]; omega⟩ | exact b2_R _ | exact bC_R _ | exact band_R _ _ | exact bor_R _ _ | exact bshl_R _ _ | exact bshr_R _ _ | exact bxor_R _ _ | exact bs_R (by omega) | decide) (fun h_136 => ?_) (fun h_136 => ?_)
          · refine ev_iconst dX7_canHaveBeen_143 ?_
            refine ev_ireturn dX7_canHaveBeen_144 ?_
            first
              | (have z1 : nx = -1 := h_103; exact ⟨by rw [bC_congr hC, bC_t ⟨by omega, Or.inl z1⟩], hS2⟩)
              | (rw [← hX3, ← hX4] at hC
                 refine ⟨?_, hS2⟩
                 by_cases z1 : dst σ P n nr nl w wt f t b 0 1 p X ≤ σ.1 68 nx - m
                 · (rw [bC_congr hC, bC_t ⟨h_95, Or.inr z1⟩]) <;> (exfalso; omega)
                 · (rw [bC_congr hC, bC_f (fun z => z.2.elim h_103 z1)]) <;> (exfalso; omega))
          · refine ev_iconst dX7_canHaveBeen_139 ?_
            refine ev_goto (tgt := 144) dX7_canHaveBeen_140 (by decide) ?_
            refine ev_ireturn dX7_canHaveBeen_144 ?_
            first
              | (have z1 : nx = -1 := h_103; exact ⟨by rw [bC_congr hC, bC_t ⟨by omega, Or.inl z1⟩], hS2⟩)
              | (rw [← hX3, ← hX4] at hC
                 refine ⟨?_, hS2⟩
                 by_cases z1 : dst σ P n nr nl w wt f t b 0 1 p X ≤ σ.1 68 nx - m
                 · (rw [bC_congr hC, bC_t ⟨h_95, Or.inr z1⟩]) <;> (exfalso; omega)
                 · (rw [bC_congr hC, bC_f (fun z => z.2.elim h_103 z1)]) <;> (exfalso; omega))
      · refine ev_iconst dX7_canHaveBeen_98 ?_
        refine ev_ireturn dX7_canHaveBeen_99 ?_
        exact ⟨by rw [bC_congr hC, bC_f (fun z => by omega)], hS2⟩
    · refine ev_iconst dX7_canHaveBeen_58 ?_
      refine ev_goto (tgt := 72) dX7_canHaveBeen_59 (by decide) ?_
      first
        | rw [show (0 : Int) = sn from (hsn4 h_55).symm]
        | rw [hsn5 h_55]
      refine ev_istore dX7_canHaveBeen_72 rfl (by decide) rfl ?_
      refine ev_aload_n dX7_canHaveBeen_74 rfl ?_
      refine ev_iload_n dX7_canHaveBeen_75 rfl ?_
      refine ev_iconst dX7_canHaveBeen_76 ?_
      refine ev_iconst dX7_canHaveBeen_77 ?_
      refine ev_callVP dX7_canHaveBeen_78 kv_X7_344 (k_spreadMinutes σ P n nr nb nl w wt f t hPO hPI hBt b 0 1 hb (by decide) (Or.inr rfl)) rfl rfl (ci := 7) rfl rfl ⟨by decide, by decide⟩ (Nat.le_of_ble_eq_true rfl) ?_
      rintro v_78 τ_78 ⟨rfl, hS2, hn2, hm2⟩
      refine ev_w (fun hR => ?_)
      refine ev_aload_n dX7_canHaveBeen_81 rfl ?_
      refine ev_getR (r := 69) dX7_canHaveBeen_82 fl_X7_51 rfl rfl rfl ?_
      refine ev_iload dX7_canHaveBeen_85 rfl ?_
      refine ev_iload_n dX7_canHaveBeen_87 rfl ?_
      refine ev_callVI dX7_canHaveBeen_88 kv_X7_348 (k_between τ_78 F p (by omega) (by omega) (by omega) (by omega)) rfl rfl (ci := 6) rfl rfl ⟨by decide, by decide⟩ (Nat.le_of_ble_eq_true rfl) ?_
      refine ev_w (fun hR => ?_)
      rw [show τ_78.1 71 ((F : Int) * 8 + p) = mat τ_78 F p from rfl, hm2 F p hF8 hp]
      have d1 := hdo F p hF8 hp
      refine ev_iload_n dX7_canHaveBeen_91 rfl ?_
      refine ev_iload dX7_canHaveBeen_92 rfl ?_
      refine ev_isub dX7_canHaveBeen_94 ?_
      refine ev_icmp_le (tgt := 100) dX7_canHaveBeen_95 (by decide) (by first | exact hR.1 _ _ | exact hR0.1 _ _ | assumption | exact ⟨by omega, by omega⟩ | exact ⟨by simp [wr_at]; omega, by simp [wr_at]; omega⟩ | exact b2_R _ | exact bC_R _ | exact band_R _ _ | exact bor_R _ _ | exact bshl_R _ _ | exact bshr_R _ _ | exact bxor_R _ _ | exact bs_R (by omega) | decide) (by first | exact hR.1 _ _ | exact hR0.1 _ _ | assumption | exact ⟨by omega, by omega⟩ | exact ⟨by simp [wr_at]; omega, by simp [wr_at]; omega⟩ | exact b2_R _ | exact bC_R _ | exact band_R _ _ | exact bor_R _ _ | exact bshl_R _ _ | exact bshr_R _ _ | exact bxor_R _ _ | exact bs_R (by omega) | decide) (fun h_95 => ?_) (fun h_95 => ?_)
      · refine ev_iload dX7_canHaveBeen_100 rfl ?_
        refine ev_iconst dX7_canHaveBeen_102 ?_
        refine ev_icmp_eq (tgt := 139) dX7_canHaveBeen_103 (by decide) (by first | exact hR.1 _ _ | exact hR0.1 _ _ | assumption | exact ⟨by omega, by omega⟩ | exact ⟨by simp [wr_at]; omega, by simp [wr_at]; omega⟩ | exact b2_R _ | exact bC_R _ | exact band_R _ _ | exact bor_R _ _ | exact bshl_R _ _ | exact bshr_R _ _ | exact bxor_R _ _ | exact bs_R (by omega) | decide) (by first | exact hR.1 _ _ | exact hR0.1 _ _ | assumption | exact ⟨by omega, by omega⟩ | exact ⟨by simp [wr_at]; omega, by simp [wr_at]; omega⟩ | exact b2_R _ | exact bC_R _ | exact band_R _ _ | exact bor_R _ _ | exact bshl_R _ _ | exact bshr_R _ _ | exact bxor_R _ _ | exact bs_R (by omega) | decide) (fun h_103 => ?_) (fun h_103 => ?_)
        · refine ev_iconst dX7_canHaveBeen_139 ?_
          refine ev_goto (tgt := 144) dX7_canHaveBeen_140 (by decide) ?_
          refine ev_ireturn dX7_canHaveBeen_144 ?_
          first
            | (have z1 : nx = -1 := h_103; exact ⟨by rw [bC_congr hC, bC_t ⟨by omega, Or.inl z1⟩], hS2⟩)
            | (rw [← hX3, ← hX4] at hC
               refine ⟨?_, hS2⟩
               by_cases z1 : dst σ P n nr nl w wt f t b 0 1 p X ≤ σ.1 68 nx - m
               · (rw [bC_congr hC, bC_t ⟨h_95, Or.inr z1⟩]) <;> (exfalso; omega)
               · (rw [bC_congr hC, bC_f (fun z => z.2.elim h_103 z1)]) <;> (exfalso; omega))
        · obtain ⟨X, hX1, hX2, hX3, hX4, hX5, hX6⟩ := hnx h_103
          have d2 := hdo p X hp hX1
          have s67 := hS2.at (c := 67) (by unfold sM; omega) nx
          have s68 := hS2.at (c := 68) (by unfold sM; omega) nx
          refine ev_aload_n dX7_canHaveBeen_106 rfl ?_
          refine ev_getR (r := 69) dX7_canHaveBeen_107 fl_X7_51 rfl rfl rfl ?_
          refine ev_iload_n dX7_canHaveBeen_110 rfl ?_
          refine ev_aload_n dX7_canHaveBeen_111 rfl ?_
          refine ev_getR (r := 65) dX7_canHaveBeen_112 fl_X7_44 rfl rfl rfl ?_
          refine ev_getR (r := 67) dX7_canHaveBeen_115 fl_X7_403 rfl rfl rfl ?_
          refine ev_iload dX7_canHaveBeen_118 rfl ?_
          refine ev_iaload dX7_canHaveBeen_120 rfl (by first | omega | (simp [wr_at]; omega) | (simp [wr_at, *]; omega)) (by first | omega | (simp [wr_at]; omega) | (simp [wr_at, *]; omega)) (by decide) ?_
          rw [s67, hX2]
          refine ev_callVI dX7_canHaveBeen_121 kv_X7_348 (k_between τ_78 p X (by omega) (by omega) (by omega) (by omega)) rfl rfl (ci := 6) rfl rfl ⟨by decide, by decide⟩ (Nat.le_of_ble_eq_true rfl) ?_
          refine ev_w (fun hR => ?_)
          refine ev_aload_n dX7_canHaveBeen_124 rfl ?_
          refine ev_getR (r := 65) dX7_canHaveBeen_125 fl_X7_44 rfl rfl rfl ?_
          refine ev_getR (r := 68) dX7_canHaveBeen_128 fl_X7_406 rfl rfl rfl ?_
          refine ev_iload dX7_canHaveBeen_131 rfl ?_
          refine ev_iaload dX7_canHaveBeen_133 rfl (by first | omega | (simp [wr_at]; omega) | (simp [wr_at, *]; omega)) (by first | omega | (simp [wr_at]; omega) | (simp [wr_at, *]; omega)) (by decide) ?_
          rw [s68, show τ_78.1 71 ((p : Int) * 8 + X) = mat τ_78 p X from rfl, hm2 p X hp hX1]
          refine ev_iload_n dX7_canHaveBeen_134 rfl ?_
          refine ev_isub dX7_canHaveBeen_135 ?_
          refine ev_icmp_gt (tgt := 143) dX7_canHaveBeen_136 (by decide) (by first | exact hR.1 _ _ | exact hR0.1 _ _ | assumption | exact ⟨by omega, by omega⟩ | exact ⟨by simp [wr_at]; omega, by simp [wr_at]; omega⟩ | exact b2_R _ | exact bC_R _ | exact band_R _ _ | exact bor_R _ _ | exact bshl_R _ _ | exact bshr_R _ _ | exact bxor_R _ _ | exact bs_R (by omega) | decide) (by first | exact hR.1 _ _ | exact hR0.1 _ _ | assumption | exact ⟨by omega, by omega⟩ | exact ⟨by simp [wr_at]; omega, by simp [wr_at]; omega⟩ | exact b2_R _ | exact bC_R _ | exact band_R _ _ | exact bor_R _ _ | exact bshl_R _ _ | exact bshr_R _ _ | exact bxor_R _ _ | exact bs_R (by omega) | decide) (fun h_136 => ?_) (fun h_136 => ?_)
          · refine ev_iconst dX7_canHaveBeen_143 ?_
            refine ev_ireturn dX7_canHaveBeen_144 ?_
            first
              | (have z1 : nx = -1 := h_103; exact ⟨by rw [bC_congr hC, bC_t ⟨by omega, Or.inl z1⟩], hS2⟩)
              | (rw [← hX3, ← hX4] at hC
                 refine ⟨?_, hS2⟩
                 by_cases z1 : dst σ P n nr nl w wt f t b 0 1 p X ≤ σ.1 68 nx - m
                 · (rw [bC_congr hC, bC_t ⟨h_95, Or.inr z1⟩]) <;> (exfalso; omega)
                 · (rw [bC_congr hC, bC_f (fun z => z.2.elim h_103 z1)]) <;> (exfalso; omega))
          · refine ev_iconst dX7_canHaveBeen_139 ?_
            refine ev_goto (tgt := 144) dX7_canHaveBeen_140 (by decide) ?_
            refine ev_ireturn dX7_canHaveBeen_144 ?_
            first
              | (have z1 : nx = -1 := h_103; exact ⟨by rw [bC_congr hC, bC_t ⟨by omega, Or.inl z1⟩], hS2⟩)
              | (rw [← hX3, ← hX4] at hC
                 refine ⟨?_, hS2⟩
                 by_cases z1 : dst σ P n nr nl w wt f t b 0 1 p X ≤ σ.1 68 nx - m
                 · (rw [bC_congr hC, bC_t ⟨h_95, Or.inr z1⟩]) <;> (exfalso; omega)
                 · (rw [bC_congr hC, bC_f (fun z => z.2.elim h_103 z1)]) <;> (exfalso; omega))
      · refine ev_iconst dX7_canHaveBeen_98 ?_
        refine ev_ireturn dX7_canHaveBeen_99 ?_
        exact ⟨by rw [bC_congr hC, bC_f (fun z => by omega)], hS2⟩
  · refine ev_aload_n dX7_canHaveBeen_28 rfl ?_
    refine ev_getQ (r := P) dX7_canHaveBeen_29 fl_X7_19 rfl rfl hpl ?_
    refine ev_getR (r := P + 9) dX7_canHaveBeen_32 fl_X7_400 (plO hP) rfl rfl ?_
    refine ev_iload_n dX7_canHaveBeen_35 rfl ?_
    refine ev_iaload dX7_canHaveBeen_36 (plA9 hP) (by first | omega | (simp [wr_at]; omega) | (simp [wr_at, *]; omega)) (by first | omega | (simp [wr_at]; omega) | (simp [wr_at, *]; omega)) (by decide) ?_
    refine ev_goto (tgt := 50) dX7_canHaveBeen_37 (by decide) ?_
    first
      | rw [hF3 h_25]
      | rw [hF4 h_25]
    refine ev_istore dX7_canHaveBeen_50 rfl (by decide) rfl ?_
    refine ev_iload dX7_canHaveBeen_52 rfl ?_
    refine ev_iconst dX7_canHaveBeen_54 ?_
    refine ev_icmp_ne (tgt := 62) dX7_canHaveBeen_55 (by decide) (by first | exact hR.1 _ _ | exact hR0.1 _ _ | assumption | exact ⟨by omega, by omega⟩ | exact ⟨by simp [wr_at]; omega, by simp [wr_at]; omega⟩ | exact b2_R _ | exact bC_R _ | exact band_R _ _ | exact bor_R _ _ | exact bshl_R _ _ | exact bshr_R _ _ | exact bxor_R _ _ | exact bs_R (by omega) | decide) (by first | exact hR.1 _ _ | exact hR0.1 _ _ | assumption | exact ⟨by omega, by omega⟩ | exact ⟨by simp [wr_at]; omega, by simp [wr_at]; omega⟩ | exact b2_R _ | exact bC_R _ | exact band_R _ _ | exact bor_R _ _ | exact bshl_R _ _ | exact bshr_R _ _ | exact bxor_R _ _ | exact bs_R (by omega) | decide) (fun h_55 => ?_) (fun h_55 => ?_)
    · refine ev_aload_n dX7_canHaveBeen_62 rfl ?_
      refine ev_getR (r := 65) dX7_canHaveBeen_63 fl_X7_44 rfl rfl rfl ?_
      refine ev_getR (r := 68) dX7_canHaveBeen_66 fl_X7_406 rfl rfl rfl ?_
      refine ev_iload dX7_canHaveBeen_69 rfl ?_
      refine ev_iaload dX7_canHaveBeen_71 rfl (by first | omega | (simp [wr_at]; omega) | (simp [wr_at, *]; omega)) (by first | omega | (simp [wr_at]; omega) | (simp [wr_at, *]; omega)) (by decide) ?_
      first
        | rw [show (0 : Int) = sn from (hsn4 h_55).symm]
        | rw [hsn5 h_55]
      refine ev_istore dX7_canHaveBeen_72 rfl (by decide) rfl ?_
      refine ev_aload_n dX7_canHaveBeen_74 rfl ?_
      refine ev_iload_n dX7_canHaveBeen_75 rfl ?_
      refine ev_iconst dX7_canHaveBeen_76 ?_
      refine ev_iconst dX7_canHaveBeen_77 ?_
      refine ev_callVP dX7_canHaveBeen_78 kv_X7_344 (k_spreadMinutes σ P n nr nb nl w wt f t hPO hPI hBt b 0 1 hb (by decide) (Or.inr rfl)) rfl rfl (ci := 7) rfl rfl ⟨by decide, by decide⟩ (Nat.le_of_ble_eq_true rfl) ?_
      rintro v_78 τ_78 ⟨rfl, hS2, hn2, hm2⟩
      refine ev_w (fun hR => ?_)
      refine ev_aload_n dX7_canHaveBeen_81 rfl ?_
      refine ev_getR (r := 69) dX7_canHaveBeen_82 fl_X7_51 rfl rfl rfl ?_
      refine ev_iload dX7_canHaveBeen_85 rfl ?_
      refine ev_iload_n dX7_canHaveBeen_87 rfl ?_
      refine ev_callVI dX7_canHaveBeen_88 kv_X7_348 (k_between τ_78 F p (by omega) (by omega) (by omega) (by omega)) rfl rfl (ci := 6) rfl rfl ⟨by decide, by decide⟩ (Nat.le_of_ble_eq_true rfl) ?_
      refine ev_w (fun hR => ?_)
      rw [show τ_78.1 71 ((F : Int) * 8 + p) = mat τ_78 F p from rfl, hm2 F p hF8 hp]
      have d1 := hdo F p hF8 hp
      refine ev_iload_n dX7_canHaveBeen_91 rfl ?_
      refine ev_iload dX7_canHaveBeen_92 rfl ?_
      refine ev_isub dX7_canHaveBeen_94 ?_
      refine ev_icmp_le (tgt := 100) dX7_canHaveBeen_95 (by decide) (by first | exact hR.1 _ _ | exact hR0.1 _ _ | assumption | exact ⟨by omega, by omega⟩ | exact ⟨by simp [wr_at]; omega, by simp [wr_at]; omega⟩ | exact b2_R _ | exact bC_R _ | exact band_R _ _ | exact bor_R _ _ | exact bshl_R _ _ | exact bshr_R _ _ | exact bxor_R _ _ | exact bs_R (by omega) | decide) (by first | exact hR.1 _ _ | exact hR0.1 _ _ | assumption | exact ⟨by omega, by omega⟩ | exact ⟨by simp [wr_at]; omega, by simp [wr_at]; omega⟩ | exact b2_R _ | exact bC_R _ | exact band_R _ _ | exact bor_R _ _ | exact bshl_R _ _ | exact bshr_R _ _ | exact bxor_R _ _ | exact bs_R (by omega) | decide) (fun h_95 => ?_) (fun h_95 => ?_)
      · refine ev_iload dX7_canHaveBeen_100 rfl ?_
        refine ev_iconst dX7_canHaveBeen_102 ?_
        refine ev_icmp_eq (tgt := 139) dX7_canHaveBeen_103 (by decide) (by first | exact hR.1 _ _ | exact hR0.1 _ _ | assumption | exact ⟨by omega, by omega⟩ | exact ⟨by simp [wr_at]; omega, by simp [wr_at]; omega⟩ | exact b2_R _ | exact bC_R _ | exact band_R _ _ | exact bor_R _ _ | exact bshl_R _ _ | exact bshr_R _ _ | exact bxor_R _ _ | exact bs_R (by omega) | decide) (by first | exact hR.1 _ _ | exact hR0.1 _ _ | assumption | exact ⟨by omega, by omega⟩ | exact ⟨by simp [wr_at]; omega, by simp [wr_at]; omega⟩ | exact b2_R _ | exact bC_R _ | exact band_R _ _ | exact bor_R _ _ | exact bshl_R _ _ | exact bshr_R _ _ | exact bxor_R _ _ | exact bs_R (by omega) | decide) (fun h_103 => ?_) (fun h_103 => ?_)
        · refine ev_iconst dX7_canHaveBeen_139 ?_
          refine ev_goto (tgt := 144) dX7_canHaveBeen_140 (by decide) ?_
          refine ev_ireturn dX7_canHaveBeen_144 ?_
          first
            | (have z1 : nx = -1 := h_103; exact ⟨by rw [bC_congr hC, bC_t ⟨by omega, Or.inl z1⟩], hS2⟩)
            | (rw [← hX3, ← hX4] at hC
               refine ⟨?_, hS2⟩
               by_cases z1 : dst σ P n nr nl w wt f t b 0 1 p X ≤ σ.1 68 nx - m
               · (rw [bC_congr hC, bC_t ⟨h_95, Or.inr z1⟩]) <;> (exfalso; omega)
               · (rw [bC_congr hC, bC_f (fun z => z.2.elim h_103 z1)]) <;> (exfalso; omega))
        · obtain ⟨X, hX1, hX2, hX3, hX4, hX5, hX6⟩ := hnx h_103
          have d2 := hdo p X hp hX1
          have s67 := hS2.at (c := 67) (by unfold sM; omega) nx
          have s68 := hS2.at (c := 68) (by unfold sM; omega) nx
          refine ev_aload_n dX7_canHaveBeen_106 rfl ?_
          refine ev_getR (r := 69) dX7_canHaveBeen_107 fl_X7_51 rfl rfl rfl ?_
          refine ev_iload_n dX7_canHaveBeen_110 rfl ?_
          refine ev_aload_n dX7_canHaveBeen_111 rfl ?_
          refine ev_getR (r := 65) dX7_canHaveBeen_112 fl_X7_44 rfl rfl rfl ?_
          refine ev_getR (r := 67) dX7_canHaveBeen_115 fl_X7_403 rfl rfl rfl ?_
          refine ev_iload dX7_canHaveBeen_118 rfl ?_
          refine ev_iaload dX7_canHaveBeen_120 rfl (by first | omega | (simp [wr_at]; omega) | (simp [wr_at, *]; omega)) (by first | omega | (simp [wr_at]; omega) | (simp [wr_at, *]; omega)) (by decide) ?_
          rw [s67, hX2]
          refine ev_callVI dX7_canHaveBeen_121 kv_X7_348 (k_between τ_78 p X (by omega) (by omega) (by omega) (by omega)) rfl rfl (ci := 6) rfl rfl ⟨by decide, by decide⟩ (Nat.le_of_ble_eq_true rfl) ?_
          refine ev_w (fun hR => ?_)
          refine ev_aload_n dX7_canHaveBeen_124 rfl ?_
          refine ev_getR (r := 65) dX7_canHaveBeen_125 fl_X7_44 rfl rfl rfl ?_
          refine ev_getR (r := 68) dX7_canHaveBeen_128 fl_X7_406 rfl rfl rfl ?_
          refine ev_iload dX7_canHaveBeen_131 rfl ?_
          refine ev_iaload dX7_canHaveBeen_133 rfl (by first | omega | (simp [wr_at]; omega) | (simp [wr_at, *]; omega)) (by first | omega | (simp [wr_at]; omega) | (simp [wr_at, *]; omega)) (by decide) ?_
          rw [s68, show τ_78.1 71 ((p : Int) * 8 + X) = mat τ_78 p X from rfl, hm2 p X hp hX1]
          refine ev_iload_n dX7_canHaveBeen_134 rfl ?_
          refine ev_isub dX7_canHaveBeen_135 ?_
          refine ev_icmp_gt (tgt := 143) dX7_canHaveBeen_136 (by decide) (by first | exact hR.1 _ _ | exact hR0.1 _ _ | assumption | exact ⟨by omega, by omega⟩ | exact ⟨by simp [wr_at]; omega, by simp [wr_at]; omega⟩ | exact b2_R _ | exact bC_R _ | exact band_R _ _ | exact bor_R _ _ | exact bshl_R _ _ | exact bshr_R _ _ | exact bxor_R _ _ | exact bs_R (by omega) | decide) (by first | exact hR.1 _ _ | exact hR0.1 _ _ | assumption | exact ⟨by omega, by omega⟩ | exact ⟨by simp [wr_at]; omega, by simp [wr_at]; omega⟩ | exact b2_R _ | exact bC_R _ | exact band_R _ _ | exact bor_R _ _ | exact bshl_R _ _ | exact bshr_R _ _ | exact bxor_R _ _ | exact bs_R (by omega) | decide) (fun h_136 => ?_) (fun h_136 => ?_)
          · refine ev_iconst dX7_canHaveBeen_143 ?_
            refine ev_ireturn dX7_canHaveBeen_144 ?_
            first
              | (have z1 : nx = -1 := h_103; exact ⟨by rw [bC_congr hC, bC_t ⟨by omega, Or.inl z1⟩], hS2⟩)
              | (rw [← hX3, ← hX4] at hC
                 refine ⟨?_, hS2⟩
                 by_cases z1 : dst σ P n nr nl w wt f t b 0 1 p X ≤ σ.1 68 nx - m
                 · (rw [bC_congr hC, bC_t ⟨h_95, Or.inr z1⟩]) <;> (exfalso; omega)
                 · (rw [bC_congr hC, bC_f (fun z => z.2.elim h_103 z1)]) <;> (exfalso; omega))
          · refine ev_iconst dX7_canHaveBeen_139 ?_
            refine ev_goto (tgt := 144) dX7_canHaveBeen_140 (by decide) ?_
            refine ev_ireturn dX7_canHaveBeen_144 ?_
            first
              | (have z1 : nx = -1 := h_103; exact ⟨by rw [bC_congr hC, bC_t ⟨by omega, Or.inl z1⟩], hS2⟩)
              | (rw [← hX3, ← hX4] at hC
                 refine ⟨?_, hS2⟩
                 by_cases z1 : dst σ P n nr nl w wt f t b 0 1 p X ≤ σ.1 68 nx - m
                 · (rw [bC_congr hC, bC_t ⟨h_95, Or.inr z1⟩]) <;> (exfalso; omega)
                 · (rw [bC_congr hC, bC_f (fun z => z.2.elim h_103 z1)]) <;> (exfalso; omega))
      · refine ev_iconst dX7_canHaveBeen_98 ?_
        refine ev_ireturn dX7_canHaveBeen_99 ?_
        exact ⟨by rw [bC_congr hC, bC_f (fun z => by omega)], hS2⟩
    · refine ev_iconst dX7_canHaveBeen_58 ?_
      refine ev_goto (tgt := 72) dX7_canHaveBeen_59 (by decide) ?_
      first
        | rw [show (0 : Int) = sn from (hsn4 h_55).symm]
        | rw [hsn5 h_55]
      refine ev_istore dX7_canHaveBeen_72 rfl (by decide) rfl ?_
      refine ev_aload_n dX7_canHaveBeen_74 rfl ?_
      refine ev_iload_n dX7_canHaveBeen_75 rfl ?_
      refine ev_iconst dX7_canHaveBeen_76 ?_
      refine ev_iconst dX7_canHaveBeen_77 ?_
      refine ev_callVP dX7_canHaveBeen_78 kv_X7_344 (k_spreadMinutes σ P n nr nb nl w wt f t hPO hPI hBt b 0 1 hb (by decide) (Or.inr rfl)) rfl rfl (ci := 7) rfl rfl ⟨by decide, by decide⟩ (Nat.le_of_ble_eq_true rfl) ?_
      rintro v_78 τ_78 ⟨rfl, hS2, hn2, hm2⟩
      refine ev_w (fun hR => ?_)
      refine ev_aload_n dX7_canHaveBeen_81 rfl ?_
      refine ev_getR (r := 69) dX7_canHaveBeen_82 fl_X7_51 rfl rfl rfl ?_
      refine ev_iload dX7_canHaveBeen_85 rfl ?_
      refine ev_iload_n dX7_canHaveBeen_87 rfl ?_
      refine ev_callVI dX7_canHaveBeen_88 kv_X7_348 (k_between τ_78 F p (by omega) (by omega) (by omega) (by omega)) rfl rfl (ci := 6) rfl rfl ⟨by decide, by decide⟩ (Nat.le_of_ble_eq_true rfl) ?_
      refine ev_w (fun hR => ?_)
      rw [show τ_78.1 71 ((F : Int) * 8 + p) = mat τ_78 F p from rfl, hm2 F p hF8 hp]
      have d1 := hdo F p hF8 hp
      refine ev_iload_n dX7_canHaveBeen_91 rfl ?_
      refine ev_iload dX7_canHaveBeen_92 rfl ?_
      refine ev_isub dX7_canHaveBeen_94 ?_
      refine ev_icmp_le (tgt := 100) dX7_canHaveBeen_95 (by decide) (by first | exact hR.1 _ _ | exact hR0.1 _ _ | assumption | exact ⟨by omega, by omega⟩ | exact ⟨by simp [wr_at]; omega, by simp [wr_at]; omega⟩ | exact b2_R _ | exact bC_R _ | exact band_R _ _ | exact bor_R _ _ | exact bshl_R _ _ | exact bshr_R _ _ | exact bxor_R _ _ | exact bs_R (by omega) | decide) (by first | exact hR.1 _ _ | exact hR0.1 _ _ | assumption | exact ⟨by omega, by omega⟩ | exact ⟨by simp [wr_at]; omega, by simp [wr_at]; omega⟩ | exact b2_R _ | exact bC_R _ | exact band_R _ _ | exact bor_R _ _ | exact bshl_R _ _ | exact bshr_R _ _ | exact bxor_R _ _ | exact bs_R (by omega) | decide) (fun h_95 => ?_) (fun h_95 => ?_)
      · refine ev_iload dX7_canHaveBeen_100 rfl ?_
        refine ev_iconst dX7_canHaveBeen_102 ?_
        refine ev_icmp_eq (tgt := 139) dX7_canHaveBeen_103 (by decide) (by first | exact hR.1 _ _ | exact hR0.1 _ _ | assumption | exact ⟨by omega, by omega⟩ | exact ⟨by simp [wr_at]; omega, by simp [wr_at]; omega⟩ | exact b2_R _ | exact bC_R _ | exact band_R _ _ | exact bor_R _ _ | exact bshl_R _ _ | exact bshr_R _ _ | exact bxor_R _ _ | exact bs_R (by omega) | decide) (by first | exact hR.1 _ _ | exact hR0.1 _ _ | assumption | exact ⟨by omega, by omega⟩ | exact ⟨by simp [wr_at]; omega, by simp [wr_at]; omega⟩ | exact b2_R _ | exact bC_R _ | exact band_R _ _ | exact bor_R _ _ | exact bshl_R _ _ | exact bshr_R _ _ | exact bxor_R _ _ | exact bs_R (by omega) | decide) (fun h_103 => ?_) (fun h_103 => ?_)
        · refine ev_iconst dX7_canHaveBeen_139 ?_
          refine ev_goto (tgt := 144) dX7_canHaveBeen_140 (by decide) ?_
          refine ev_ireturn dX7_canHaveBeen_144 ?_
          first
            | (have z1 : nx = -1 := h_103; exact ⟨by rw [bC_congr hC, bC_t ⟨by omega, Or.inl z1⟩], hS2⟩)
            | (rw [← hX3, ← hX4] at hC
               refine ⟨?_, hS2⟩
               by_cases z1 : dst σ P n nr nl w wt f t b 0 1 p X ≤ σ.1 68 nx - m
               · (rw [bC_congr hC, bC_t ⟨h_95, Or.inr z1⟩]) <;> (exfalso; omega)
               · (rw [bC_congr hC, bC_f (fun z => z.2.elim h_103 z1)]) <;> (exfalso; omega))
        · obtain ⟨X, hX1, hX2, hX3, hX4, hX5, hX6⟩ := hnx h_103
          have d2 := hdo p X hp hX1
          have s67 := hS2.at (c := 67) (by unfold sM; omega) nx
          have s68 := hS2.at (c := 68) (by unfold sM; omega) nx
          refine ev_aload_n dX7_canHaveBeen_106 rfl ?_
          refine ev_getR (r := 69) dX7_canHaveBeen_107 fl_X7_51 rfl rfl rfl ?_
          refine ev_iload_n dX7_canHaveBeen_110 rfl ?_
          refine ev_aload_n dX7_canHaveBeen_111 rfl ?_
          refine ev_getR (r := 65) dX7_canHaveBeen_112 fl_X7_44 rfl rfl rfl ?_
          refine ev_getR (r := 67) dX7_canHaveBeen_115 fl_X7_403 rfl rfl rfl ?_
          refine ev_iload dX7_canHaveBeen_118 rfl ?_
          refine ev_iaload dX7_canHaveBeen_120 rfl (by first | omega | (simp [wr_at]; omega) | (simp [wr_at, *]; omega)) (by first | omega | (simp [wr_at]; omega) | (simp [wr_at, *]; omega)) (by decide) ?_
          rw [s67, hX2]
          refine ev_callVI dX7_canHaveBeen_121 kv_X7_348 (k_between τ_78 p X (by omega) (by omega) (by omega) (by omega)) rfl rfl (ci := 6) rfl rfl ⟨by decide, by decide⟩ (Nat.le_of_ble_eq_true rfl) ?_
          refine ev_w (fun hR => ?_)
          refine ev_aload_n dX7_canHaveBeen_124 rfl ?_
          refine ev_getR (r := 65) dX7_canHaveBeen_125 fl_X7_44 rfl rfl rfl ?_
          refine ev_getR (r := 68) dX7_canHaveBeen_128 fl_X7_406 rfl rfl rfl ?_
          refine ev_iload dX7_canHaveBeen_131 rfl ?_
          refine ev_iaload dX7_canHaveBeen_133 rfl (by first | omega | (simp [wr_at]; omega) | (simp [wr_at, *]; omega)) (by first | omega | (simp [wr_at]; omega) | (simp [wr_at, *]; omega)) (by decide) ?_
          rw [s68, show τ_78.1 71 ((p : Int) * 8 + X) = mat τ_78 p X from rfl, hm2 p X hp hX1]
          refine ev_iload_n dX7_canHaveBeen_134 rfl ?_
          refine ev_isub dX7_canHaveBeen_135 ?_
          refine ev_icmp_gt (tgt := 143) dX7_canHaveBeen_136 (by decide) (by first | exact hR.1 _ _ | exact hR0.1 _ _ | assumption | exact ⟨by omega, by omega⟩ | exact ⟨by simp [wr_at]; omega, by simp [wr_at]; omega⟩ | exact b2_R _ | exact bC_R _ | exact band_R _ _ | exact bor_R _ _ | exact bshl_R _ _ | exact bshr_R _ _ | exact bxor_R _ _ | exact bs_R (by omega) | decide) (by first | exact hR.1 _ _ | exact hR0.1 _ _ | assumption | exact ⟨by omega, by omega⟩ | exact ⟨by simp [wr_at]; omega, by simp [wr_at]; omega⟩ | exact b2_R _ | exact bC_R _ | exact band_R _ _ | exact bor_R _ _ | exact bshl_R _ _ | exact bshr_R _ _ | exact bxor_R _ _ | exact bs_R (by omega) | decide) (fun h_136 => ?_) (fun h_136 => ?_)
          · refine ev_iconst dX7_canHaveBeen_143 ?_
            refine ev_ireturn dX7_canHaveBeen_144 ?_
            first
              | (have z1 : nx = -1 := h_103; exact ⟨by rw [bC_congr hC, bC_t ⟨by omega, Or.inl z1⟩], hS2⟩)
              | (rw [← hX3, ← hX4] at hC
                 refine ⟨?_, hS2⟩
                 by_cases z1 : dst σ P n nr nl w wt f t b 0 1 p X ≤ σ.1 68 nx - m
                 · (rw [bC_congr hC, bC_t ⟨h_95, Or.inr z1⟩]) <;> (exfalso; omega)
                 · (rw [bC_congr hC, bC_f (fun z => z.2.elim h_103 z1)]) <;> (exfalso; omega))
          · refine ev_iconst dX7_canHaveBeen_139 ?_
            refine ev_goto (tgt := 144) dX7_canHaveBeen_140 (by decide) ?_
            refine ev_ireturn dX7_canHaveBeen_144 ?_
            first
              | (have z1 : nx = -1 := h_103; exact ⟨by rw [bC_congr hC, bC_t ⟨by omega, Or.inl z1⟩], hS2⟩)
              | (rw [← hX3, ← hX4] at hC
                 refine ⟨?_, hS2⟩
                 by_cases z1 : dst σ P n nr nl w wt f t b 0 1 p X ≤ σ.1 68 nx - m
                 · (rw [bC_congr hC, bC_t ⟨h_95, Or.inr z1⟩]) <;> (exfalso; omega)
                 · (rw [bC_congr hC, bC_f (fun z => z.2.elim h_103 z1)]) <;> (exfalso; omega))
      · refine ev_iconst dX7_canHaveBeen_98 ?_
        refine ev_ireturn dX7_canHaveBeen_99 ?_
        exact ⟨by rw [bC_congr hC, bC_f (fun z => by omega)], hS2⟩
def wrongZ (D : Nat → Nat → Nat → Int) (H B Pl T : Nat → Int) (i : Nat) : Prop := T i - snc T (lstI B (B i) i) < D (B i).toNat (frm H Pl (B i).toNat (lstI B (B i) i)) (Pl i).toNat
theorem lstI_R (f : Nat → Int) (r : Int) (n : Nat) : -1 ≤ lstI f r n ∧ lstI f r n < n := by
  induction n with
  | zero => unfold lstI; omega
  | succ n ih => unfold lstI; split <;> omega
theorem k_isWrong (σ : Mem) (P n nr nb nl w wt : Nat) (f t : Nat → Nat) (hPO : PlanOk σ P n nr nb nl f t) (hPI : PlIs σ P) (hBt : Bits σ w wt) (k i : Nat) (hBk : BookOk σ n nb k) (hi : i < k) : Con yX7_isWrong cX7_isWrong 6 (some .boolean) 6 141 [.ref 0, .int (iI i)] σ (AnsIP (bC (wrongZ (fun b => dst σ P n nr nl w wt f t b 0 1) (fun i => σ.1 (P + 9) i) (fun i => σ.1 66 i) (fun i => σ.1 67 i) (fun i => σ.1 68 i) i)) (fun τ => Same sM σ τ)) := by
  refine con_of (by decide) rfl (Nat.le_of_ble_eq_true rfl) (ok_ZP rfl (bC_01 _)) ?_
  refine ev_w (fun hR => ?_)
  have hR0 := hR
  obtain ⟨hPR, ⟨hnb, hnb4⟩, ⟨hnl, hnl4⟩, hpo, hro, hbo, hlo⟩ := id hPO
  obtain ⟨hP, hn, hn8, hnr, hnr12, hft⟩ := id hPR
  obtain ⟨hw, hw2, hwt, hwt2⟩ := id hBt
  have hpl := hPI.q
  obtain ⟨hk, hk20, hbk⟩ := id hBk
  have hbi := hbk i hi
  obtain ⟨b, hbe⟩ : ∃ b : Nat, σ.1 66 i = b := ⟨(σ.1 66 i).toNat, by omega⟩
  obtain ⟨q, hqe⟩ : ∃ q : Nat, σ.1 67 i = q := ⟨(σ.1 67 i).toNat, by omega⟩
  have hb : b < nb := by omega
  have hq : q < n := by omega
  have hl := lstI_R (fun i => σ.1 66 i) (σ.1 66 i) i
  generalize hL : lstI (fun i => σ.1 66 i) (σ.1 66 i) i = la at hl
  have hhm := (hbo b hb).1
  have hF : ∃ F : Nat, F < n ∧ F = frm (fun i => σ.1 (P + 9) i) (fun i => σ.1 67 i) b la ∧ (la = -1 → σ.1 (P + 9) b = F) ∧ (la ≠ -1 → σ.1 67 la = F) := by
    by_cases e : la = -1
    · exact ⟨(σ.1 (P + 9) b).toNat, by omega, by unfold frm; rw [if_pos e], fun _ => by omega, fun z => absurd e z⟩
    · have q := (hbk la.toNat (by omega)).2.1
      rw [Int.toNat_of_nonneg (by omega)] at q
      refine ⟨(σ.1 67 la).toNat, by omega, ?_, fun z => absurd z e, fun _ => by omega⟩
      unfold frm
      rw [if_neg e]
      show _ = (σ.1 67 (la.toNat : Nat)).toNat
      rw [Int.toNat_of_nonneg (show 0 ≤ la by omega)]
  obtain ⟨F, hF8, hF2, hF3, hF4⟩ := hF
  have hSn : ∃ z : Int, z = snc (fun i => σ.1 68 i) la ∧ 0 ≤ z ∧ z ≤ 9999 ∧ (la = -1 → z = 0) ∧ (la ≠ -1 → σ.1 68 la = z) := by
    by_cases e : la = -1
    · exact ⟨0, by unfold snc; rw [if_pos e], by omega, by omega, fun _ => rfl, fun z => absurd e z⟩
    · have q := (hbk la.toNat (by omega)).2.2
      rw [Int.toNat_of_nonneg (by omega)] at q
      refine ⟨σ.1 68 la, ?_, by omega, by omega, fun z => absurd z e, fun _ => rfl⟩
      unfold snc
      rw [if_neg e]
      show _ = σ.1 68 (la.toNat : Nat)
      rw [Int.toNat_of_nonneg (show 0 ≤ la by omega)]
  obtain ⟨sn, hsn1, hsn2, hsn3, hsn4, hsn5⟩ := hSn
  have hdo := dst_ok (w := w) (wt := wt) (b := b) (s := 0) (dry := 1) hPO hb F q hF8 hq
  have hC : (wrongZ (fun b => dst σ P n nr nl w wt f t b 0 1) (fun i => σ.1 (P + 9) i) (fun i => σ.1 66 i) (fun i => σ.1 67 i) (fun i => σ.1 68 i) i) ↔ σ.1 68 i - sn < dst σ P n nr nl w wt f t b 0 1 F q := by
    unfold wrongZ
    rw [hL, ← hsn1]
    show σ.1 68 i - sn < dst σ P n nr nl w wt f t (σ.1 66 i).toNat 0 1 (frm (fun i => σ.1 (P + 9) i) (fun i => σ.1 67 i) (σ.1 66 i).toNat la) (σ.1 67 i).toNat ↔ _
    rw [hbe, hqe, show ((b : Int)).toNat = b from rfl, show ((q : Int)).toNat = q from rfl, ← hF2]
  refine ev_aload_n dX7_isWrong_0 rfl ?_
  refine ev_getR (r := 65) dX7_isWrong_1 fl_X7_44 rfl rfl rfl ?_
  refine ev_getR (r := 66) dX7_isWrong_4 fl_X7_408 rfl rfl rfl ?_
  refine ev_iload_n dX7_isWrong_7 rfl ?_
  refine ev_iaload dX7_isWrong_8 rfl (by first | omega | (simp [wr_at]; omega) | (simp [wr_at, *]; omega)) (by first | omega | (simp [wr_at]; omega) | (simp [wr_at, *]; omega)) (by decide) ?_
  rw [hbe]
  refine ev_istore_n dX7_isWrong_9 rfl (by decide) rfl ?_
  refine ev_aload_n dX7_isWrong_10 rfl ?_
  refine ev_getR (r := 65) dX7_isWrong_11 fl_X7_44 rfl rfl rfl ?_
  refine ev_iload_n dX7_isWrong_14 rfl ?_
  refine ev_callVI dX7_isWrong_15 kv_X7_411 (k_toldAhead σ i (by omega)) rfl rfl (ci := 0) rfl rfl ⟨by decide, by decide⟩ (Nat.le_of_ble_eq_true rfl) ?_
  refine ev_w (fun hR => ?_)
  rw [hL]
  refine ev_istore_n dX7_isWrong_18 rfl (by decide) rfl ?_
  refine ev_iload_n dX7_isWrong_19 rfl ?_
  refine ev_iconst dX7_isWrong_20 ?_
  refine ev_icmp_ne (tgt := 36) dX7_isWrong_21 (by decide) (by first | exact hR.1 _ _ | exact hR0.1 _ _ | assumption | exact ⟨by omega, by omega⟩ | exact ⟨by simp [wr_at]; omega, by simp [wr_at]; omega⟩ | exact b2_R _ | exact bC_R _ | exact band_R _ _ | exact bor_R _ _ | exact bshl_R _ _ | exact bshr_R _ _ | exact bxor_R _ _ | exact bs_R (by omega) | decide) (by first | exact hR.1 _ _ | exact hR0.1 _ _ | assumption | exact ⟨by omega, by omega⟩ | exact ⟨by simp [wr_at]; omega, by simp [wr_at]; omega⟩ | exact b2_R _ | exact bC_R _ | exact band_R _ _ | exact bor_R _ _ | exact bshl_R _ _ | exact bshr_R _ _ | exact bxor_R _ _ | exact bs_R (by omega) | decide) (fun h_21 => ?_) (fun h_21 => ?_)
  · refine ev_aload_n dX7_isWrong_36 rfl ?_
    refine ev_getR (r := 65) dX7_isWrong_37 fl_X7_44 rfl rfl rfl ?_
    refine ev_getR (r := 67) dX7_isWrong_40 fl_X7_403 rfl rfl rfl ?_
    refine ev_iload_n dX7_isWrong_43 rfl ?_
    refine ev_iaload dX7_isWrong_44 rfl (by first | omega | (simp [wr_at]; omega) | (simp [wr_at, *]; omega)) (by first | omega | (simp [wr_at]; omega) | (simp [wr_at, *]; omega)) (by decide) ?_
    first
      | rw [hF3 h_21]
      | rw [hF4 h_21]
    refine ev_istore dX7_isWrong_45 rfl (by decide) rfl ?_
    refine ev_iload_n dX7_isWrong_47 rfl ?_
    refine ev_iconst dX7_isWrong_48 ?_
    refine ev_icmp_ne (tgt := 56) dX7_isWrong_49 (by decide) (by first | exact hR.1 _ _ | exact hR0.1 _ _ | assumption | exact ⟨by omega, by omega⟩ | exact ⟨by simp [wr_at]; omega, by simp [wr_at]; omega⟩ | exact b2_R _ | exact bC_R _ | exact band_R _ _ | exact bor_R _ _ | exact bshl_R _ _ | exact bshr_R _ _ | exact bxor_R _ _ | exact bs_R (by omega) | decide) (by first | exact hR.1 _ _ | exact hR0.1 _ _ | assumption | exact ⟨by omega, by omega⟩ | exact ⟨by simp [wr_at]; omega, by simp [wr_at]; omega⟩ | exact b2_R _ | exact bC_R _ | exact band_R _ _ | exact bor_R _ _ | exact bshl_R _ _ | exact bshr_R _ _ | exact bxor_R _ _ | exact bs_R (by omega) | decide) (fun h_49 => ?_) (fun h_49 => ?_)
    · refine ev_aload_n dX7_isWrong_56 rfl ?_
      refine ev_getR (r := 65) dX7_isWrong_57 fl_X7_44 rfl rfl rfl ?_
      refine ev_getR (r := 68) dX7_isWrong_60 fl_X7_406 rfl rfl rfl ?_
      refine ev_iload_n dX7_isWrong_63 rfl ?_
      refine ev_iaload dX7_isWrong_64 rfl (by first | omega | (simp [wr_at]; omega) | (simp [wr_at, *]; omega)) (by first | omega | (simp [wr_at]; omega) | (simp [wr_at, *]; omega)) (by decide) ?_
      first
        | rw [show (0 : Int) = sn from (hsn4 h_49).symm]
        | rw [hsn5 h_49]
      refine ev_istore dX7_isWrong_65 rfl (by decide) rfl ?_
      refine ev_aload_n dX7_isWrong_67 rfl ?_
      refine ev_iload_n dX7_isWrong_68 rfl ?_
      refine ev_iload dX7_isWrong_69 rfl ?_
      refine ev_aload_n dX7_isWrong_71 rfl ?_
      refine ev_getR (r := 65) dX7_isWrong_72 fl_X7_44 rfl rfl rfl ?_
      refine ev_getR (r := 67) dX7_isWrong_75 fl_X7_403 rfl rfl rfl ?_
      refine ev_iload_n dX7_isWrong_78 rfl ?_
      refine ev_iaload dX7_isWrong_79 rfl (by first | omega | (simp [wr_at]; omega) | (simp [wr_at, *]; omega)) (by first | omega | (simp [wr_at]; omega) | (simp [wr_at, *]; omega)) (by decide) ?_
      rw [hqe]
      refine ev_iconst dX7_isWrong_80 ?_
      refine ev_callVP dX7_isWrong_81 kv_X7_258 (k_minutesBetween σ P n nr nb nl w wt f t hPO hPI hBt b F q 1 hb hF8 hq (Or.inr rfl)) rfl rfl (ci := 7) rfl rfl ⟨by decide, by decide⟩ (Nat.le_of_ble_eq_true rfl) ?_
      rintro v_81 τ_81 ⟨rfl, hS2⟩
      refine ev_w (fun hR => ?_)
      refine ev_aload_n dX7_isWrong_84 rfl ?_
      refine ev_getR (r := 65) dX7_isWrong_85 fl_X7_44 rfl rfl rfl ?_
      refine ev_getR (r := 68) dX7_isWrong_88 fl_X7_406 rfl rfl rfl ?_
      refine ev_iload_n dX7_isWrong_91 rfl ?_
      refine ev_iaload dX7_isWrong_92 rfl (by first | omega | (simp [wr_at]; omega) | (simp [wr_at, *]; omega)) (by first | omega | (simp [wr_at]; omega) | (simp [wr_at, *]; omega)) (by decide) ?_
      rw [hS2.at (by unfold sM; omega)]
      refine ev_iload dX7_isWrong_93 rfl ?_
      refine ev_isub dX7_isWrong_95 ?_
      refine ev_icmp_le (tgt := 103) dX7_isWrong_96 (by decide) (by first | exact hR.1 _ _ | exact hR0.1 _ _ | assumption | exact ⟨by omega, by omega⟩ | exact ⟨by simp [wr_at]; omega, by simp [wr_at]; omega⟩ | exact b2_R _ | exact bC_R _ | exact band_R _ _ | exact bor_R _ _ | exact bshl_R _ _ | exact bshr_R _ _ | exact bxor_R _ _ | exact bs_R (by omega) | decide) (by first | exact hR.1 _ _ | exact hR0.1 _ _ | assumption | exact ⟨by omega, by omega⟩ | exact ⟨by simp [wr_at]; omega, by simp [wr_at]; omega⟩ | exact b2_R _ | exact bC_R _ | exact band_R _ _ | exact bor_R _ _ | exact bshl_R _ _ | exact bshr_R _ _ | exact bxor_R _ _ | exact bs_R (by omega) | decide) (fun h_96 => ?_) (fun h_96 => ?_)
      · refine ev_iconst dX7_isWrong_103 ?_
        refine ev_ireturn dX7_isWrong_104 ?_
        refine ⟨?_, hS2⟩
        by_cases z1 : σ.1 68 i - sn < dst σ P n nr nl w wt f t b 0 1 F q
        · (rw [bC_congr hC, bC_t z1]) <;> (exfalso; omega)
        · (rw [bC_congr hC, bC_f z1]) <;> (exfalso; omega)
      · refine ev_iconst dX7_isWrong_99 ?_
        refine ev_goto (tgt := 104) dX7_isWrong_100 (by decide) ?_
        refine ev_ireturn dX7_isWrong_104 ?_
        refine ⟨?_, hS2⟩
        by_cases z1 : σ.1 68 i - sn < dst σ P n nr nl w wt f t b 0 1 F q
        · (rw [bC_congr hC, bC_t z1]) <;> (exfalso; omega)
        · (rw [bC_congr hC, bC_f z1]) <;> (exfalso; omega)
    · refine ev_iconst dX7_isWrong_52 ?_
      refine ev_goto (tgt := 65) dX7_isWrong_53 (by decide) ?_
      first
        | rw [show (0 : Int) = sn from (hsn4 h_49).symm]
        | rw [hsn5 h_49]
      refine ev_istore dX7_isWrong_65 rfl (by decide) rfl ?_
      refine ev_aload_n dX7_isWrong_67 rfl ?_
      refine ev_iload_n dX7_isWrong_68 rfl ?_
      refine ev_iload dX7_isWrong_69 rfl ?_
      refine ev_aload_n dX7_isWrong_71 rfl ?_
      refine ev_getR (r := 65) dX7_isWrong_72 fl_X7_44 rfl rfl rfl ?_
      refine ev_getR (r := 67) dX7_isWrong_75 fl_X7_403 rfl rfl rfl ?_
      refine ev_iload_n dX7_isWrong_78 rfl ?_
      refine ev_iaload dX7_isWrong_79 rfl (by first | omega | (simp [wr_at]; omega) | (simp [wr_at, *]; omega)) (by first | omega | (simp [wr_at]; omega) | (simp [wr_at, *]; omega)) (by decide) ?_
      rw [hqe]
      refine ev_iconst dX7_isWrong_80 ?_
      refine ev_callVP dX7_isWrong_81 kv_X7_258 (k_minutesBetween σ P n nr nb nl w wt f t hPO hPI hBt b F q 1 hb hF8 hq (Or.inr rfl)) rfl rfl (ci := 7) rfl rfl ⟨by decide, by decide⟩ (Nat.le_of_ble_eq_true rfl) ?_
      rintro v_81 τ_81 ⟨rfl, hS2⟩
      refine ev_w (fun hR => ?_)
      refine ev_aload_n dX7_isWrong_84 rfl ?_
      refine ev_getR (r := 65) dX7_isWrong_85 fl_X7_44 rfl rfl rfl ?_
      refine ev_getR (r := 68) dX7_isWrong_88 fl_X7_406 rfl rfl rfl ?_
      refine ev_iload_n dX7_isWrong_91 rfl ?_
      refine ev_iaload dX7_isWrong_92 rfl (by first | omega | (simp [wr_at]; omega) | (simp [wr_at, *]; omega)) (by first | omega | (simp [wr_at]; omega) | (simp [wr_at, *]; omega)) (by decide) ?_
      rw [hS2.at (by unfold sM; omega)]
      refine ev_iload dX7_isWrong_93 rfl ?_
      refine ev_isub dX7_isWrong_95 ?_
      refine ev_icmp_le (tgt := 103) dX7_isWrong_96 (by decide) (by first | exact hR.1 _ _ | exact hR0.1 _ _ | assumption | exact ⟨by omega, by omega⟩ | exact ⟨by simp [wr_at]; omega, by simp [wr_at]; omega⟩ | exact b2_R _ | exact bC_R _ | exact band_R _ _ | exact bor_R _ _ | exact bshl_R _ _ | exact bshr_R _ _ | exact bxor_R _ _ | exact bs_R (by omega) | decide) (by first | exact hR.1 _ _ | exact hR0.1 _ _ | assumption | exact ⟨by omega, by omega⟩ | exact ⟨by simp [wr_at]; omega, by simp [wr_at]; omega⟩ | exact b2_R _ | exact bC_R _ | exact band_R _ _ | exact bor_R _ _ | exact bshl_R _ _ | exact bshr_R _ _ | exact bxor_R _ _ | exact bs_R (by omega) | decide) (fun h_96 => ?_) (fun h_96 => ?_)
      · refine ev_iconst dX7_isWrong_103 ?_
        refine ev_ireturn dX7_isWrong_104 ?_
        refine ⟨?_, hS2⟩
        by_cases z1 : σ.1 68 i - sn < dst σ P n nr nl w wt f t b 0 1 F q
        · (rw [bC_congr hC, bC_t z1]) <;> (exfalso; omega)
        · (rw [bC_congr hC, bC_f z1]) <;> (exfalso; omega)
      · refine ev_iconst dX7_isWrong_99 ?_
        refine ev_goto (tgt := 104) dX7_isWrong_100 (by decide) ?_
        refine ev_ireturn dX7_isWrong_104 ?_
        refine ⟨?_, hS2⟩
        by_cases z1 : σ.1 68 i - sn < dst σ P n nr nl w wt f t b 0 1 F q
        · (rw [bC_congr hC, bC_t z1]) <;> (exfalso; omega)
        · (rw [bC_congr hC, bC_f z1]) <;> (exfalso; omega)
  · refine ev_aload_n dX7_isWrong_24 rfl ?_
    refine ev_getQ (r := P) dX7_isWrong_25 fl_X7_19 rfl rfl hpl ?_
    refine ev_getR (r := P + 9) dX7_isWrong_28 fl_X7_400 (plO hP) rfl rfl ?_
    refine ev_iload_n dX7_isWrong_31 rfl ?_
    refine ev_iaload dX7_isWrong_32 (plA9 hP) (by first | omega | (simp [wr_at]; omega) | (simp [wr_at, *]; omega)) (by first | omega | (simp [wr_at]; omega) | (simp [wr_at, *]; omega)) (by decide) ?_
    refine ev_goto (tgt := 45) dX7_isWrong_33 (by decide) ?_
    first
      | rw [hF3 h_21]
      | rw [hF4 h_21]
    refine ev_istore dX7_isWrong_45 rfl (by decide) rfl ?_
    refine ev_iload_n dX7_isWrong_47 rfl ?_
    refine ev_iconst dX7_isWrong_48 ?_
    refine ev_icmp_ne (tgt := 56) dX7_isWrong_49 (by decide) (by first | exact hR.1 _ _ | exact hR0.1 _ _ | assumption | exact ⟨by omega, by omega⟩ | exact ⟨by simp [wr_at]; omega, by simp [wr_at]; omega⟩ | exact b2_R _ | exact bC_R _ | exact band_R _ _ | exact bor_R _ _ | exact bshl_R _ _ | exact bshr_R _ _ | exact bxor_R _ _ | exact bs_R (by omega) | decide) (by first | exact hR.1 _ _ | exact hR0.1 _ _ | assumption | exact ⟨by omega, by omega⟩ | exact ⟨by simp [wr_at]; omega, by simp [wr_at]; omega⟩ | exact b2_R _ | exact bC_R _ | exact band_R _ _ | exact bor_R _ _ | exact bshl_R _ _ | exact bshr_R _ _ | exact bxor_R _ _ | exact bs_R (by omega) | decide) (fun h_49 => ?_) (fun h_49 => ?_)
    · refine ev_aload_n dX7_isWrong_56 rfl ?_
      refine ev_getR (r := 65) dX7_isWrong_57 fl_X7_44 rfl rfl rfl ?_
      refine ev_getR (r := 68) dX7_isWrong_60 fl_X7_406 rfl rfl rfl ?_
      refine ev_iload_n dX7_isWrong_63 rfl ?_
      refine ev_iaload dX7_isWrong_64 rfl (by first | omega | (simp [wr_at]; omega) | (simp [wr_at, *]; omega)) (by first | omega | (simp [wr_at]; omega) | (simp [wr_at, *]; omega)) (by decide) ?_
      first
        | rw [show (0 : Int) = sn from (hsn4 h_49).symm]
        | rw [hsn5 h_49]
      refine ev_istore dX7_isWrong_65 rfl (by decide) rfl ?_
      refine ev_aload_n dX7_isWrong_67 rfl ?_
      refine ev_iload_n dX7_isWrong_68 rfl ?_
      refine ev_iload dX7_isWrong_69 rfl ?_
      refine ev_aload_n dX7_isWrong_71 rfl ?_
      refine ev_getR (r := 65) dX7_isWrong_72 fl_X7_44 rfl rfl rfl ?_
      refine ev_getR (r := 67) dX7_isWrong_75 fl_X7_403 rfl rfl rfl ?_
      refine ev_iload_n dX7_isWrong_78 rfl ?_
      refine ev_iaload dX7_isWrong_79 rfl (by first | omega | (simp [wr_at]; omega) | (simp [wr_at, *]; omega)) (by first | omega | (simp [wr_at]; omega) | (simp [wr_at, *]; omega)) (by decide) ?_
      rw [hqe]
      refine ev_iconst dX7_isWrong_80 ?_
      refine ev_callVP dX7_isWrong_81 kv_X7_258 (k_minutesBetween σ P n nr nb nl w wt f t hPO hPI hBt b F q 1 hb hF8 hq (Or.inr rfl)) rfl rfl (ci := 7) rfl rfl ⟨by decide, by decide⟩ (Nat.le_of_ble_eq_true rfl) ?_
      rintro v_81 τ_81 ⟨rfl, hS2⟩
      refine ev_w (fun hR => ?_)
      refine ev_aload_n dX7_isWrong_84 rfl ?_
      refine ev_getR (r := 65) dX7_isWrong_85 fl_X7_44 rfl rfl rfl ?_
      refine ev_getR (r := 68) dX7_isWrong_88 fl_X7_406 rfl rfl rfl ?_
      refine ev_iload_n dX7_isWrong_91 rfl ?_
      refine ev_iaload dX7_isWrong_92 rfl (by first | omega | (simp [wr_at]; omega) | (simp [wr_at, *]; omega)) (by first | omega | (simp [wr_at]; omega) | (simp [wr_at, *]; omega)) (by decide) ?_
      rw [hS2.at (by unfold sM; omega)]
      refine ev_iload dX7_isWrong_93 rfl ?_
      refine ev_isub dX7_isWrong_95 ?_
      refine ev_icmp_le (tgt := 103) dX7_isWrong_96 (by decide) (by first | exact hR.1 _ _ | exact hR0.1 _ _ | assumption | exact ⟨by omega, by omega⟩ | exact ⟨by simp [wr_at]; omega, by simp [wr_at]; omega⟩ | exact b2_R _ | exact bC_R _ | exact band_R _ _ | exact bor_R _ _ | exact bshl_R _ _ | exact bshr_R _ _ | exact bxor_R _ _ | exact bs_R (by omega) | decide) (by first | exact hR.1 _ _ | exact hR0.1 _ _ | assumption | exact ⟨by omega, by omega⟩ | exact ⟨by simp [wr_at]; omega, by simp [wr_at]; omega⟩ | exact b2_R _ | exact bC_R _ | exact band_R _ _ | exact bor_R _ _ | exact bshl_R _ _ | exact bshr_R _ _ | exact bxor_R _ _ | exact bs_R (by omega) | decide) (fun h_96 => ?_) (fun h_96 => ?_)
      · refine ev_iconst dX7_isWrong_103 ?_
        refine ev_ireturn dX7_isWrong_104 ?_
        refine ⟨?_, hS2⟩
        by_cases z1 : σ.1 68 i - sn < dst σ P n nr nl w wt f t b 0 1 F q
        · (rw [bC_congr hC, bC_t z1]) <;> (exfalso; omega)
        · (rw [bC_congr hC, bC_f z1]) <;> (exfalso; omega)
      · refine ev_iconst dX7_isWrong_99 ?_
        refine ev_goto (tgt := 104) dX7_isWrong_100 (by decide) ?_
        refine ev_ireturn dX7_isWrong_104 ?_
        refine ⟨?_, hS2⟩
        by_cases z1 : σ.1 68 i - sn < dst σ P n nr nl w wt f t b 0 1 F q
        · (rw [bC_congr hC, bC_t z1]) <;> (exfalso; omega)
        · (rw [bC_congr hC, bC_f z1]) <;> (exfalso; omega)
    · refine ev_iconst dX7_isWrong_52 ?_
      refine ev_goto (tgt := 65) dX7_isWrong_53 (by decide) ?_
      first
        | rw [show (0 : Int) = sn from (hsn4 h_49).symm]
        | rw [hsn5 h_49]
      refine ev_istore dX7_isWrong_65 rfl (by decide) rfl ?_
      refine ev_aload_n dX7_isWrong_67 rfl ?_
      refine ev_iload_n dX7_isWrong_68 rfl ?_
      refine ev_iload dX7_isWrong_69 rfl ?_
      refine ev_aload_n dX7_isWrong_71 rfl ?_
      refine ev_getR (r := 65) dX7_isWrong_72 fl_X7_44 rfl rfl rfl ?_
      refine ev_getR (r := 67) dX7_isWrong_75 fl_X7_403 rfl rfl rfl ?_
      refine ev_iload_n dX7_isWrong_78 rfl ?_
      refine ev_iaload dX7_isWrong_79 rfl (by first | omega | (simp [wr_at]; omega) | (simp [wr_at, *]; omega)) (by first | omega | (simp [wr_at]; omega) | (simp [wr_at, *]; omega)) (by decide) ?_
      rw [hqe]
      refine ev_iconst dX7_isWrong_80 ?_
      refine ev_callVP dX7_isWrong_81 kv_X7_258 (k_minutesBetween σ P n nr nb nl w wt f t hPO hPI hBt b F q 1 hb hF8 hq (Or.inr rfl)) rfl rfl (ci := 7) rfl rfl ⟨by decide, by decide⟩ (Nat.le_of_ble_eq_true rfl) ?_
      rintro v_81 τ_81 ⟨rfl, hS2⟩
      refine ev_w (fun hR => ?_)
      refine ev_aload_n dX7_isWrong_84 rfl ?_
      refine ev_getR (r := 65) dX7_isWrong_85 fl_X7_44 rfl rfl rfl ?_
      refine ev_getR (r := 68) dX7_isWrong_88 fl_X7_406 rfl rfl rfl ?_
      refine ev_iload_n dX7_isWrong_91 rfl ?_
      refine ev_iaload dX7_isWrong_92 rfl (by first | omega | (simp [wr_at]; omega) | (simp [wr_at, *]; omega)) (by first | omega | (simp [wr_at]; omega) | (simp [wr_at, *]; omega)) (by decide) ?_
      rw [hS2.at (by unfold sM; omega)]
      refine ev_iload dX7_isWrong_93 rfl ?_
      refine ev_isub dX7_isWrong_95 ?_
      refine ev_icmp_le (tgt := 103) dX7_isWrong_96 (by decide) (by first | exact hR.1 _ _ | exact hR0.1 _ _ | assumption | exact ⟨by omega, by omega⟩ | exact ⟨by simp [wr_at]; omega, by simp [wr_at]; omega⟩ | exact b2_R _ | exact bC_R _ | exact band_R _ _ | exact bor_R _ _ | exact bshl_R _ _ | exact bshr_R _ _ | exact bxor_R _ _ | exact bs_R (by omega) | decide) (by first | exact hR.1 _ _ | exact hR0.1 _ _ | assumption | exact ⟨by omega, by omega⟩ | exact ⟨by simp [wr_at]; omega, by simp [wr_at]; omega⟩ | exact b2_R _ | exact bC_R _ | exact band_R _ _ | exact bor_R _ _ | exact bshl_R _ _ | exact bshr_R _ _ | exact bxor_R _ _ | exact bs_R (by omega) | decide) (fun h_96 => ?_) (fun h_96 => ?_)
      · refine ev_iconst dX7_isWrong_103 ?_
        refine ev_ireturn dX7_isWrong_104 ?_
        refine ⟨?_, hS2⟩
        by_cases z1 : σ.1 68 i - sn < dst σ P n nr nl w wt f t b 0 1 F q
        · (rw [bC_congr hC, bC_t z1]) <;> (exfalso; omega)
        · (rw [bC_congr hC, bC_f z1]) <;> (exfalso; omega)
      · refine ev_iconst dX7_isWrong_99 ?_
        refine ev_goto (tgt := 104) dX7_isWrong_100 (by decide) ?_
        refine ev_ireturn dX7_isWrong_104 ?_
        refine ⟨?_, hS2⟩
        by_cases z1 : σ.1 68 i - sn < dst σ P n nr nl w wt f t b 0 1 F q
        · (rw [bC_congr hC, bC_t z1]) <;> (exfalso; omega)
        · (rw [bC_congr hC, bC_f z1]) <;> (exfalso; omega)
