/-- the longest of the first b boys' rounds by a hand; a hand's worth; by any rounds Rn -/
def mxZ (Rn : Nat → Nat → Int) (h v : Nat) : Nat → Int
  | 0 => 0
  | b + 1 => max (mxZ Rn h v b) (Rn b (handS h v b))
def handZ (Rn : Nat → Nat → Int) (nb v h : Nat) : Int := if anyB (badL h nb v) 4 = false then mxZ Rn h v nb else 1000000
theorem dlR_congr {F G : Nat → Int} {n : Nat} (h : ∀ i, i < n → F i = G i) : dlR F n = dlR G n := by
  induction n with
  | zero => rfl
  | succ n ih => rw [dlR, dlR, ih (fun i hi => h i (by omega)), h n (by omega)]
theorem dlR_R {F : Nat → Int} (hF : ∀ i, 0 ≤ F i) (n : Nat) : (0 ≤ (dlR F n).1 ∧ (dlR F n).1 ≤ 1000000) ∧ (-1 ≤ (dlR F n).2 ∧ (dlR F n).2 < n) := by
  induction n with
  | zero => rw [dlR]; exact ⟨⟨by decide, by decide⟩, by decide, by decide⟩
  | succ n ih =>
    rw [dlR]
    split
    · have := hF n
      exact ⟨⟨this, by omega⟩, by show -1 ≤ (n : Int); omega, by show (n : Int) < _; omega⟩
    · exact ⟨ih.1, by omega, by omega⟩
theorem handS_sub (h v b : Nat) : andn (handS h v b) v = 0 := andn_zero.mpr (fun i hi => by
  unfold handS at hi
  rw [bs_test] at hi
  simp at hi
  exact hi.2.1)
def dealtZ (nl : Nat) (v : Nat) (d : Int × Int) (l : Int) : Int := if ¬ (l = -1 ∨ (0 ≤ l ∧ l < nl)) then -1000000001 else if l = -1 then orN d.1 else (if d.2 = -1 ∨ ¬ v.testBit l.toNat = true then -1 else (bin4 d.2.toNat l.toNat : Nat))
def sD (c : Nat) : Prop := sR c ∨ c = 77 ∨ c = 78
def sD76 (σ τ : Mem) : Prop := Same sD σ τ ∧ (∀ j, 0 ≤ τ.1 76 j ∧ τ.1 76 j ≤ 1000000) ∧ ∀ j, 0 ≤ τ.1 78 j ∧ τ.1 78 j ≤ 2000000
theorem k_dealt (σ : Mem) (P n nr nb nl w wt : Nat) (f t : Nat → Nat) (hPO : PlanOk σ P n nr nb nl f t) (hPI : PlIs σ P) (hBt : Bits σ w wt) (dv : Nat) (hdv : σ.1 37 5 = dv) (hdv2 : dv < 4096) (hRo : RoundOk σ n nb nl) (h78 : ∀ j, 0 ≤ σ.1 78 j ∧ σ.1 78 j ≤ 2000000) (x : Int) (hx : inR x) : Con yX7_dealt cX7_dealt 5 (some .int) 6 140 [.ref 0, .int (iI x)] σ (AnsIP (dealtZ nl (andn (2 ^ nl - 1) dv) (dlR (handZ (rndC σ P n nr nl w wt f t) nb (andn (2 ^ nl - 1) dv)) 256) x) (fun τ => sD76 σ τ)) := by
  refine con_of (by decide) rfl (Nat.le_of_ble_eq_true rfl) (ok_IP rfl) ?_
  refine ev_w (fun hR => ?_)
  have hR0 := hR
  obtain ⟨hPR, ⟨hnb, hnb4⟩, ⟨hnl, hnl4⟩, hpo, hro, hbo, hlo⟩ := id hPO
  obtain ⟨hP, hn, hn8, hnr, hnr12, hft⟩ := id hPR
  obtain ⟨hw, hw2, hwt, hwt2⟩ := id hBt
  have hpl := hPI.q
  have h2n : 2 ^ nl ≤ 2 ^ 4 := Nat.pow_le_pow_right (by decide) hnl4
  have h2p : 0 < 2 ^ nl := Nat.two_pow_pos nl
  have hvle := andn_le (2 ^ nl - 1) dv
  have hvN : andn (2 ^ nl - 1) dv < 2 ^ nl := by omega
  generalize hV : andn (2 ^ nl - 1) dv = v at hvN hvle ⊢
  have hv16 : v < 16 := by omega
  have nP : ∀ k, k ≤ 16 → ¬ sD (P + k) := fun k hk h => by unfold sD sR at h; omega
  have nP0 : ¬ sD P := nP 0 (by omega)
  have n0 : ¬ sD 0 := by unfold sD sR; omega
  have n37 : ¬ sD 37 := by unfold sD sR; omega
  have facts : ∀ τ : Mem, Same sD σ τ → (∀ j, 0 ≤ τ.1 76 j ∧ τ.1 76 j ≤ 1000000) → PlanOk τ P n nr nb nl f t ∧ PlIs τ P ∧ Bits τ w wt ∧ RoundOk τ n nb nl ∧ rndC τ P n nr nl w wt f t = rndC σ P n nr nl w wt f t := by
    intro τ hS h76
    refine ⟨hPO.same hS nP, by unfold PlIs; rw [hS.at n0]; exact hPI, by unfold Bits; rw [hS.at n37, hS.at n37]; exact hBt, ⟨?_, ?_, h76⟩, ?_⟩
    · rw [hS.1 42 (by unfold sD sR; omega)]; exact hRo.1
    · rw [hS.1 39 (by unfold sD sR; omega), hS.1 41 (by unfold sD sR; omega)]; exact hRo.2.1
    · funext b s
      unfold rndC
      rw [hS.1 39 (by unfold sD sR; omega), hS.1 41 (by unfold sD sR; omega), show (fun c => dst τ P n nr nl w wt f t b c 0) = (fun c => dst σ P n nr nl w wt f t b c 0) from funext fun c => dst_same hS nP]
      rw [show frZ τ P = frZ σ P from funext fun l => by unfold frZ; rw [hS.1 42 (by unfold sD sR; omega), hS.1 _ (nP 12 (by omega))], show toZ τ P = toZ σ P from funext fun l => by unfold toZ; rw [hS.1 _ (nP 13 (by omega))]]
  have subR : ∀ c, sR c → sD c := fun c h => Or.inl h
  have hRR := fun (b s : Nat) (hb : b < nb) (hs : s < 2 ^ nl) => rndC_R (w := w) (wt := wt) hPO hRo (b := b) (s := s) hb hs
  have loop : (x = -1 ∨ (0 ≤ x ∧ x < nl)) → ∀ i : Nat, i ≤ nb → ∀ (τ : Mem) (w4 : Option Value), Same sD σ τ → (∀ j, 0 ≤ τ.1 76 j ∧ τ.1 76 j ≤ 1000000) → (∀ j, 0 ≤ τ.1 78 j ∧ τ.1 78 j ≤ 2000000) → (∀ b s : Nat, b < i → andn s v = 0 → τ.1 78 ((b : Int) * 16 + s) = rndC σ P n nr nl w wt f t b s) → Ev RX7 cX7_dealt 5 6 140 (AnsIP (dealtZ nl (v) (dlR (handZ (rndC σ P n nr nl w wt f t) nb (v)) 256) x) (fun τ => sD76 σ τ)) 40 [some (.ref 0), some (.int (iI x)), some (.int (iI v)), some (.int (iI (i : Nat))), w4] [] τ := by
    intro hx2
    refine for_up nb (fun i hi ih τ w4 hS hb76 hb78 htab => ?_)
    refine ev_w (fun hR => ?_)
    obtain ⟨hPO2, hPI2, hBt2, hRo2, hrn2⟩ := facts τ hS hb76
    have hpl2 := hPI2.q
    have inner : i < nb → ∀ τ0 : Mem, (∀ s, andn s v = 0 → (if s = 0 then 0 else τ0.1 41 i + restA τ0 s 0 (σ.1 39 i).toNat) = rndC σ P n nr nl w wt f t i s) → Same sD σ τ0 → (∀ j, 0 ≤ τ0.1 76 j ∧ τ0.1 76 j ≤ 1000000) → ∀ s : Nat, s ≤ v + 1 → ∀ τ : Mem, Same (fun c => c = 78) τ0 τ → (∀ j, 0 ≤ τ.1 78 j ∧ τ.1 78 j ≤ 2000000) → (∀ b s : Nat, b < i → andn s v = 0 → τ.1 78 ((b : Int) * 16 + s) = rndC σ P n nr nl w wt f t b s) → (∀ s2 : Nat, s2 < s → andn s2 v = 0 → τ.1 78 ((i : Int) * 16 + s2) = rndC σ P n nr nl w wt f t i s2) → Ev RX7 cX7_dealt 5 6 140 (AnsIP (dealtZ nl (v) (dlR (handZ (rndC σ P n nr nl w wt f t) nb (v)) 256) x) (fun τ => sD76 σ τ)) 60 [some (.ref 0), some (.int (iI x)), some (.int (iI v)), some (.int (iI (i : Nat))), some (.int (iI (s : Nat)))] [] τ := by
      intro hin τ0 hval hS0 h760
      refine for_up (v + 1) (fun s hs ihs τ hS1 hb78 htab hrow => ?_)
      refine ev_w (fun hR => ?_)
      have hST : Same sD σ τ := hS0.tr (hS1.mono (fun c h => Or.inr (Or.inr h)))
      have hb76' : ∀ j, 0 ≤ τ.1 76 j ∧ τ.1 76 j ≤ 1000000 := fun j => by rw [hS1.at (by decide)]; exact h760 j
      have he8 := (hRo.2.1 i hin).1
      obtain ⟨e, he⟩ : ∃ e : Nat, σ.1 39 i = e := ⟨(σ.1 39 i).toNat, by omega⟩
      refine ev_iload dX7_dealt_60 rfl ?_
      refine ev_iload_n dX7_dealt_62 rfl ?_
      refine ev_icmp_gt (tgt := 104) dX7_dealt_63 (by decide) (by first | exact hR.1 _ _ | exact hR0.1 _ _ | assumption | exact ⟨by omega, by omega⟩ | exact ⟨by simp [wr_at]; omega, by simp [wr_at]; omega⟩ | exact b2_R _ | exact bC_R _ | exact band_R _ _ | exact bor_R _ _ | exact bshl_R _ _ | exact bshr_R _ _ | exact bxor_R _ _ | exact bs_R (by omega) | decide) (by first | exact hR.1 _ _ | exact hR0.1 _ _ | assumption | exact ⟨by omega, by omega⟩ | exact ⟨by simp [wr_at]; omega, by simp [wr_at]; omega⟩ | exact b2_R _ | exact bC_R _ | exact band_R _ _ | exact bor_R _ _ | exact bshl_R _ _ | exact bshr_R _ _ | exact bxor_R _ _ | exact bs_R (by omega) | decide) (fun h_63 => ?_) (fun h_63 => ?_)
      · refine ev_iinc dX7_dealt_104 rfl rfl (by decide) rfl ?_
        refine ev_goto (tgt := 40) dX7_dealt_107 (by decide) ?_
        refine ih (by omega) _ _ hST hb76' hb78 (fun b2 s2 h1 h2 => ?_)
        by_cases e2 : b2 = i
        · subst e2
          exact hrow s2 (by have := le_of_andn h2; omega) h2
        · exact htab b2 s2 (by omega) h2
      · refine ev_aload_n dX7_dealt_66 rfl ?_
        refine ev_getR (r := 77) dX7_dealt_67 fl_X7_65 rfl rfl rfl ?_
        refine ev_iload_n dX7_dealt_70 rfl ?_
        refine ev_iload dX7_dealt_71 rfl ?_
        refine ev_iload dX7_dealt_73 rfl ?_
        refine ev_iload_n dX7_dealt_75 rfl ?_
        refine ev_iconst dX7_dealt_76 ?_
        refine ev_ixor dX7_dealt_77 ?_
        refine ev_iand dX7_dealt_78 ?_
        rw [band_not s v (by omega)]
        have hale := andn_le s v
        refine ev_if_ne (tgt := 92) dX7_dealt_79 (by decide) (by first | exact hR.1 _ _ | exact hR0.1 _ _ | assumption | exact ⟨by omega, by omega⟩ | exact ⟨by simp [wr_at]; omega, by simp [wr_at]; omega⟩ | exact b2_R _ | exact bC_R _ | exact band_R _ _ | exact bor_R _ _ | exact bshl_R _ _ | exact bshr_R _ _ | exact bxor_R _ _ | exact bs_R (by omega) | decide) (fun h_79 => ?_) (fun h_79 => ?_)
        · refine ev_ldcw (z := 1000000) dX7_dealt_92 kc_X7_273 (by decide) ?_
          first
            | (have hz : andn s v = 0 := by omega
               have hv2 := hval s hz
               rw [he, show ((e : Int)).toNat = e from rfl] at hv2
               have hr41 := hS1.at (c := 41) (by decide) (i : Int)
               have hrr : restA τ s 0 e = restA τ0 s 0 e := by unfold restA; rw [hS1.at (by decide)]
               rw [hr41, hrr, hv2]
               have hrb := hRR i s hin (by omega))
            | skip
          refine ev_callVV dX7_dealt_95 kv_X7_274 (k_setRound τ i s _ (by omega) (by omega) (by exact ⟨by omega, by omega⟩)) rfl rfl (ci := 1) rfl rfl ⟨by decide, by decide⟩ (Nat.le_of_ble_eq_true rfl) ?_
          refine ev_w (fun hR => ?_)
          refine ev_iinc dX7_dealt_98 rfl rfl (by decide) rfl ?_
          refine ev_goto (tgt := 60) dX7_dealt_101 (by decide) ?_
          refine ihs (by omega) _ (hS1.wr rfl) (fun j => ?_) (fun b2 s2 h1 h2 => ?_) (fun s2 h1 h2 => ?_)
          · rw [wr_at]
            split
            · omega
            · exact hb78 j
          · have := le_of_andn h2
            rw [wr_nek _ (by omega)]
            exact htab b2 s2 h1 h2
          · by_cases e2 : s2 = s
            · subst e2
              first
                | (exfalso; omega)
                | rw [wr_eq]
            · rw [wr_nek _ (by omega)]
              exact hrow s2 (by omega) h2
        · refine ev_aload_n dX7_dealt_82 rfl ?_
          refine ev_iload_n dX7_dealt_83 rfl ?_
          refine ev_iload dX7_dealt_84 rfl ?_
          refine ev_callVI dX7_dealt_86 kv_X7_270 (k_roundOf τ i s e (by omega) (by omega) (by rw [hST.at (by unfold sD sR; omega)]; exact he) (by omega)) rfl rfl (ci := 7) rfl rfl ⟨by decide, by decide⟩ (Nat.le_of_ble_eq_true rfl) ?_
          refine ev_w (fun hR => ?_)
          refine ev_goto (tgt := 95) dX7_dealt_89 (by decide) ?_
          first
            | (have hz : andn s v = 0 := by omega
               have hv2 := hval s hz
               rw [he, show ((e : Int)).toNat = e from rfl] at hv2
               have hr41 := hS1.at (c := 41) (by decide) (i : Int)
               have hrr : restA τ s 0 e = restA τ0 s 0 e := by unfold restA; rw [hS1.at (by decide)]
               rw [hr41, hrr, hv2]
               have hrb := hRR i s hin (by omega))
            | skip
          refine ev_callVV dX7_dealt_95 kv_X7_274 (k_setRound τ i s _ (by omega) (by omega) (by exact ⟨by omega, by omega⟩)) rfl rfl (ci := 1) rfl rfl ⟨by decide, by decide⟩ (Nat.le_of_ble_eq_true rfl) ?_
          refine ev_w (fun hR => ?_)
          refine ev_iinc dX7_dealt_98 rfl rfl (by decide) rfl ?_
          refine ev_goto (tgt := 60) dX7_dealt_101 (by decide) ?_
          refine ihs (by omega) _ (hS1.wr rfl) (fun j => ?_) (fun b2 s2 h1 h2 => ?_) (fun s2 h1 h2 => ?_)
          · rw [wr_at]
            split
            · omega
            · exact hb78 j
          · have := le_of_andn h2
            rw [wr_nek _ (by omega)]
            exact htab b2 s2 h1 h2
          · by_cases e2 : s2 = s
            · subst e2
              first
                | (exfalso; omega)
                | rw [wr_eq]
            · rw [wr_nek _ (by omega)]
              exact hrow s2 (by omega) h2
    refine ev_iload_n dX7_dealt_40 rfl ?_
    refine ev_aload_n dX7_dealt_41 rfl ?_
    refine ev_getQ (r := P) dX7_dealt_42 fl_X7_19 rfl rfl hpl2 ?_
    refine ev_getI (kz := 2) dX7_dealt_45 fl_X7_101 (plO hP) rfl rfl ?_
    rw [hS.at nP0, hnb]
    refine ev_icmp_ge (tgt := 110) dX7_dealt_48 (by decide) (by first | exact hR.1 _ _ | exact hR0.1 _ _ | assumption | exact ⟨by omega, by omega⟩ | exact ⟨by simp [wr_at]; omega, by simp [wr_at]; omega⟩ | exact b2_R _ | exact bC_R _ | exact band_R _ _ | exact bor_R _ _ | exact bshl_R _ _ | exact bshr_R _ _ | exact bxor_R _ _ | exact bs_R (by omega) | decide) (by first | exact hR.1 _ _ | exact hR0.1 _ _ | assumption | exact ⟨by omega, by omega⟩ | exact ⟨by simp [wr_at]; omega, by simp [wr_at]; omega⟩ | exact b2_R _ | exact bC_R _ | exact band_R _ _ | exact bor_R _ _ | exact bshl_R _ _ | exact bshr_R _ _ | exact bxor_R _ _ | exact bs_R (by omega) | decide) (fun h_48 => ?_) (fun h_48 => ?_)
    · refine ev_aload_n dX7_dealt_110 rfl ?_
      refine ev_getR (r := 77) dX7_dealt_111 fl_X7_65 rfl rfl rfl ?_
      refine ev_aload_n dX7_dealt_114 rfl ?_
      refine ev_getQ (r := P) dX7_dealt_115 fl_X7_19 rfl rfl hpl2 ?_
      refine ev_getI (kz := 2) dX7_dealt_118 fl_X7_101 (plO hP) rfl rfl ?_
      rw [hS.at nP0, hnb]
      refine ev_iload_n dX7_dealt_121 rfl ?_
      refine ev_callVP dX7_dealt_122 kv_X7_278 (k_deal τ nb v (by omega) (by omega) hb78) rfl rfl (ci := 1) rfl rfl ⟨by decide, by decide⟩ (Nat.le_of_ble_eq_true rfl) ?_
      rintro v_122 τ_122 ⟨rfl, hS2, hd2, hd1⟩
      refine ev_w (fun hR => ?_)
      obtain rfl : i = nb := by omega
      have hdl : dlR (handV τ i v) 256 = dlR (handZ (rndC σ P n nr nl w wt f t) i v) 256 := by
        refine dlR_congr (fun h hh => ?_)
        unfold handV handZ
        have hm : ∀ b, b ≤ i → mxR τ h v b = mxZ (rndC σ P n nr nl w wt f t) h v b := by
          intro b
          induction b with
          | zero => intro _; rfl
          | succ b ihb => intro hb; rw [mxR, mxZ, ihb (by omega), htab b (handS h v b) (by omega) (handS_sub h v b)]
        rw [hm i (Nat.le_refl _)]
      rw [hdl] at hd2 hd1
      have hF0 : ∀ h, 0 ≤ handZ (rndC σ P n nr nl w wt f t) i v h := by
        intro h
        unfold handZ
        split
        · have : ∀ b, b ≤ i → 0 ≤ mxZ (rndC σ P n nr nl w wt f t) h v b := by
            intro b
            induction b with
            | zero => intro _; rw [mxZ]; omega
            | succ b ihb => intro hb; have := ihb (by omega); rw [mxZ]; omega
          exact this i (Nat.le_refl _)
        · decide
      have hdR := dlR_R hF0 256
      generalize hG : dlR (handZ (rndC σ P n nr nl w wt f t) i v) 256 = G2 at hd2 hd1 hdR ⊢
      have hS3 : Same sD σ τ_122 := hS.tr (hS2.mono (fun c h => Or.inr (Or.inl h)))
      have hfin : sD76 σ τ_122 := ⟨hS3, fun j => by rw [hS2.at (by decide)]; exact hb76 j, fun j => by rw [hS2.at (by decide)]; exact hb78 j⟩
      refine ev_iload_n dX7_dealt_125 rfl ?_
      refine ev_iconst dX7_dealt_126 ?_
      refine ev_icmp_ne (tgt := 143) dX7_dealt_127 (by decide) (by first | exact hR.1 _ _ | exact hR0.1 _ _ | assumption | exact ⟨by omega, by omega⟩ | exact ⟨by simp [wr_at]; omega, by simp [wr_at]; omega⟩ | exact b2_R _ | exact bC_R _ | exact band_R _ _ | exact bor_R _ _ | exact bshl_R _ _ | exact bshr_R _ _ | exact bxor_R _ _ | exact bs_R (by omega) | decide) (by first | exact hR.1 _ _ | exact hR0.1 _ _ | assumption | exact ⟨by omega, by omega⟩ | exact ⟨by simp [wr_at]; omega, by simp [wr_at]; omega⟩ | exact b2_R _ | exact bC_R _ | exact band_R _ _ | exact bor_R _ _ | exact bshl_R _ _ | exact bshr_R _ _ | exact bxor_R _ _ | exact bs_R (by omega) | decide) (fun h_127 => ?_) (fun h_127 => ?_)
      · refine ev_aload_n dX7_dealt_143 rfl ?_
        refine ev_getR (r := 77) dX7_dealt_144 fl_X7_65 rfl rfl rfl ?_
        refine ev_iload_n dX7_dealt_147 rfl ?_
        refine ev_iload_n dX7_dealt_148 rfl ?_
        obtain ⟨y, hy⟩ : ∃ y : Nat, x = y := ⟨x.toNat, by omega⟩
        subst hy
        refine ev_callVI dX7_dealt_149 kv_X7_284 (k_boyOf τ_122 y v (by omega) (by omega) (by rw [hd1]; omega)) rfl rfl (ci := 1) rfl rfl ⟨by decide, by decide⟩ (Nat.le_of_ble_eq_true rfl) ?_
        refine ev_w (fun hR => ?_)
        refine ev_ireturn dX7_dealt_152 ?_
        refine ⟨?_, hfin⟩
        first
          | (have z : x = -1 := Decidable.not_not.mp h_127
             rw [dealtZ, if_neg (c := ¬ (x = -1 ∨ (0 ≤ x ∧ x < nl))) (fun y => y hx2), if_pos z]; rfl)
          | (have z : x = -1 := h_127
             rw [dealtZ, if_neg (c := ¬ (x = -1 ∨ (0 ≤ x ∧ x < nl))) (fun y => y hx2), if_pos z]; rfl)
          | (rw [dealtZ, if_neg (c := ¬ ((y : Int) = -1 ∨ (0 ≤ (y : Int) ∧ (y : Int) < nl))) (fun z => z hx2), if_neg (c := (y : Int) = -1) (by omega), ← hd1]; rfl)
      · refine ev_aload_n dX7_dealt_130 rfl ?_
        refine ev_getR (r := 77) dX7_dealt_131 fl_X7_65 rfl rfl rfl ?_
        refine ev_getI (kz := 2) dX7_dealt_134 fl_X7_281 rfl rfl rfl ?_
        rw [hd2]
        refine ev_callSI dX7_dealt_137 ks_X7_261 (k_orNone τ_122 _ (by exact ⟨by omega, by omega⟩)) rfl rfl ⟨by decide, by decide⟩ (Nat.le_of_ble_eq_true rfl) ?_
        refine ev_w (fun hR => ?_)
        refine ev_goto (tgt := 152) dX7_dealt_140 (by decide) ?_
        refine ev_ireturn dX7_dealt_152 ?_
        refine ⟨?_, hfin⟩
        first
          | (have z : x = -1 := Decidable.not_not.mp h_127
             rw [dealtZ, if_neg (c := ¬ (x = -1 ∨ (0 ≤ x ∧ x < nl))) (fun y => y hx2), if_pos z]; rfl)
          | (have z : x = -1 := h_127
             rw [dealtZ, if_neg (c := ¬ (x = -1 ∨ (0 ≤ x ∧ x < nl))) (fun y => y hx2), if_pos z]; rfl)
          | (rw [dealtZ, if_neg (c := ¬ ((y : Int) = -1 ∨ (0 ≤ (y : Int) ∧ (y : Int) < nl))) (fun z => z hx2), if_neg (c := (y : Int) = -1) (by omega), ← hd1]; rfl)
    · refine ev_aload_n dX7_dealt_51 rfl ?_
      refine ev_iload_n dX7_dealt_52 rfl ?_
      refine ev_iload_n dX7_dealt_53 rfl ?_
      refine ev_callVP dX7_dealt_54 kv_X7_267 (k_learnRounds τ P n nr nb nl w wt f t hPO2 hPI2 hBt2 i v (frZ τ P) (toZ τ P) (by omega) hvN (hRo2.fr hPO2 _) hb76) rfl rfl (ci := 7) rfl rfl ⟨by decide, by decide⟩ (Nat.le_of_ble_eq_true rfl) ?_
      rintro v_54 τ_54 ⟨rfl, hRn⟩
      refine ev_w (fun hR => ?_)
      refine ev_iconst dX7_dealt_57 ?_
      refine ev_istore dX7_dealt_58 rfl (by decide) rfl ?_
      refine inner (by omega) τ_54 (fun s hs => ?_) (hS.tr (hRn.1.mono subR)) hRn.2.1 0 (by omega) τ_54 Same.rf (fun j => by rw [hRn.1.at (by unfold sR; omega)]; exact hb78 j) (fun b2 s2 h1 h2 => by rw [hRn.1.at (by unfold sR; omega)]; exact htab b2 s2 h1 h2) (fun s2 h => by omega)
      rw [← hrn2, ← rnd_of hPO2 hRo2 hvN (by omega) hRn hs, hS.1 39 (by unfold sD sR; omega)]
  refine ev_iload_n dX7_dealt_0 rfl ?_
  refine ev_iconst dX7_dealt_1 ?_
  refine ev_icmp_eq (tgt := 16) dX7_dealt_2 (by decide) (by first | exact hR.1 _ _ | exact hR0.1 _ _ | assumption | exact ⟨by omega, by omega⟩ | exact ⟨by simp [wr_at]; omega, by simp [wr_at]; omega⟩ | exact b2_R _ | exact bC_R _ | exact band_R _ _ | exact bor_R _ _ | exact bshl_R _ _ | exact bshr_R _ _ | exact bxor_R _ _ | exact bs_R (by omega) | decide) (by first | exact hR.1 _ _ | exact hR0.1 _ _ | assumption | exact ⟨by omega, by omega⟩ | exact ⟨by simp [wr_at]; omega, by simp [wr_at]; omega⟩ | exact b2_R _ | exact bC_R _ | exact band_R _ _ | exact bor_R _ _ | exact bshl_R _ _ | exact bshr_R _ _ | exact bxor_R _ _ | exact bs_R (by omega) | decide) (fun h_2 => ?_) (fun h_2 => ?_)
  · refine ev_iconst dX7_dealt_16 ?_
    refine ev_aload_n dX7_dealt_17 rfl ?_
    refine ev_getQ (r := P) dX7_dealt_18 fl_X7_19 rfl rfl hpl ?_
    refine ev_getI (kz := 3) dX7_dealt_21 fl_X7_104 (plO hP) rfl rfl ?_
    rw [hnl]
    refine ev_ishl dX7_dealt_24 ?_
    rw [bshl1 nl (by omega)]
    refine ev_iconst dX7_dealt_25 ?_
    refine ev_isub dX7_dealt_26 ?_
    refine ev_aload_n dX7_dealt_27 rfl ?_
    refine ev_getR (r := 37) dX7_dealt_28 fl_X7_29 rfl rfl rfl ?_
    refine ev_getI (kz := 5) dX7_dealt_31 fl_X7_113 rfl rfl rfl ?_
    rw [hdv]
    refine ev_iconst dX7_dealt_34 ?_
    refine ev_ixor dX7_dealt_35 ?_
    refine ev_iand dX7_dealt_36 ?_
    rw [show ((2 ^ nl : Nat) : Int) - 1 = ((2 ^ nl - 1 : Nat) : Int) by omega, band_not _ dv (by omega), hV]
    refine ev_istore_n dX7_dealt_37 rfl (by decide) rfl ?_
    refine ev_iconst dX7_dealt_38 ?_
    refine ev_istore_n dX7_dealt_39 rfl (by decide) rfl ?_
    have hx2 : x = -1 ∨ (0 ≤ x ∧ x < nl) := by
      first
        | exact Or.inl h_2
        | exact Or.inr (b2_ne h_10)
    exact loop hx2 0 (by omega) σ _ Same.rf hRo.2.2 h78 (fun b s h => by omega)
  · refine ev_aload_n dX7_dealt_5 rfl ?_
    refine ev_iload_n dX7_dealt_6 rfl ?_
    refine ev_callVI dX7_dealt_7 kv_X7_195 (k_isLoad σ x P hx hP hpl) rfl rfl (ci := 7) rfl rfl ⟨by decide, by decide⟩ (Nat.le_of_ble_eq_true rfl) ?_
    refine ev_w (fun hR => ?_)
    rw [hnl]
    refine ev_if_ne (tgt := 16) dX7_dealt_10 (by decide) (by first | exact hR.1 _ _ | exact hR0.1 _ _ | assumption | exact ⟨by omega, by omega⟩ | exact ⟨by simp [wr_at]; omega, by simp [wr_at]; omega⟩ | exact b2_R _ | exact bC_R _ | exact band_R _ _ | exact bor_R _ _ | exact bshl_R _ _ | exact bshr_R _ _ | exact bxor_R _ _ | exact bs_R (by omega) | decide) (fun h_10 => ?_) (fun h_10 => ?_)
    · refine ev_iconst dX7_dealt_16 ?_
      refine ev_aload_n dX7_dealt_17 rfl ?_
      refine ev_getQ (r := P) dX7_dealt_18 fl_X7_19 rfl rfl hpl ?_
      refine ev_getI (kz := 3) dX7_dealt_21 fl_X7_104 (plO hP) rfl rfl ?_
      rw [hnl]
      refine ev_ishl dX7_dealt_24 ?_
      rw [bshl1 nl (by omega)]
      refine ev_iconst dX7_dealt_25 ?_
      refine ev_isub dX7_dealt_26 ?_
      refine ev_aload_n dX7_dealt_27 rfl ?_
      refine ev_getR (r := 37) dX7_dealt_28 fl_X7_29 rfl rfl rfl ?_
      refine ev_getI (kz := 5) dX7_dealt_31 fl_X7_113 rfl rfl rfl ?_
      rw [hdv]
      refine ev_iconst dX7_dealt_34 ?_
      refine ev_ixor dX7_dealt_35 ?_
      refine ev_iand dX7_dealt_36 ?_
      rw [show ((2 ^ nl : Nat) : Int) - 1 = ((2 ^ nl - 1 : Nat) : Int) by omega, band_not _ dv (by omega), hV]
      refine ev_istore_n dX7_dealt_37 rfl (by decide) rfl ?_
      refine ev_iconst dX7_dealt_38 ?_
      refine ev_istore_n dX7_dealt_39 rfl (by decide) rfl ?_
      have hx2 : x = -1 ∨ (0 ≤ x ∧ x < nl) := by
        first
          | exact Or.inl h_2
          | exact Or.inr (b2_ne h_10)
      exact loop hx2 0 (by omega) σ _ Same.rf hRo.2.2 h78 (fun b s h => by omega)
    · refine ev_ldc (z := -1000000001) dX7_dealt_13 kc_X7_126 (by decide) ?_
      refine ev_ireturn dX7_dealt_15 ?_
      have z := b2_eq (by omega : b2 (0 ≤ x ∧ x < (nl : Int)) = 0)
      exact ⟨by rw [dealtZ, if_pos (fun y => y.elim (by assumption) z)], Same.rf, hRo.2.2, h78⟩
