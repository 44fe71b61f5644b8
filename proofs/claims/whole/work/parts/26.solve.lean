theorem andn_le (a b : Nat) : andn a b ≤ a := by
  have h1 : andn a b &&& a = andn a b := by
    apply Nat.eq_of_testBit_eq
    intro i
    rw [Nat.testBit_and, andn_test]
    cases a.testBit i <;> simp
  rw [← h1]
  exact Nat.and_le_right
theorem andn_lt_self {c k : Nat} (h : c.testBit k = true) : andn c (2 ^ k) < c := by
  refine Nat.lt_of_le_of_ne (andn_le c _) (fun e => ?_)
  have h1 := andn_test c (2 ^ k) k
  rw [e, test_pow, h] at h1
  simp at h1
theorem le_of_andn {a v : Nat} (h : andn a v = 0) : a ≤ v := by
  have h1 : a &&& v = a := by
    apply Nat.eq_of_testBit_eq
    intro i
    have h2 := andn_test a v i
    rw [h, Nat.zero_testBit] at h2
    rw [Nat.testBit_and]
    cases ha : a.testBit i <;> cases hv : v.testBit i <;> simp_all
  rw [← h1]
  exact Nat.and_le_right
def ixR (l c p : Nat) : Nat := (l * 16 + c) * 8 + p
theorem restA_ix (σ : Mem) (l c p : Nat) : restA σ l c p = σ.1 76 (ixR l c p : Nat) := by
  unfold restA ixR
  congr 1
/-- sets that the search goes through -/
def okS (v l c : Nat) : Prop := l < 16 ∧ c < 16 ∧ andn l v = 0 ∧ andn c v = 0 ∧ l &&& c = 0 ∧ cnt c.testBit 12 ≤ 2
theorem lfR_cg {Wy Rs Rs' : Nat → Nat → Nat → Int} {fr to : Nat → Nat} {l c p : Nat} (h : ∀ k, k < 4 → (c.testBit k = true → Rs l (andn c (2 ^ k)) (to k) = Rs' l (andn c (2 ^ k)) (to k)) ∧ (l.testBit k = true → Rs (andn l (2 ^ k)) (c ||| 2 ^ k) (fr k) = Rs' (andn l (2 ^ k)) (c ||| 2 ^ k) (fr k))) : ∀ k, k ≤ 4 → lfR Wy Rs fr to l c p k = lfR Wy Rs' fr to l c p k := by
  intro k
  induction k with
  | zero => intro _; rfl
  | succ k ih =>
    intro hk
    rw [lfR, lfR, ih (by omega)]
    have h2 := h k (by omega)
    by_cases c1 : c.testBit k = true
    · rw [if_pos c1, if_pos c1, h2.1 c1]
    · rw [if_neg c1, if_neg c1]
      by_cases c2 : l.testBit k = true ∧ cnt c.testBit 12 < 2
      · rw [if_pos c2, if_pos c2, h2.2 c2.1]
      · rw [if_neg c2, if_neg c2]
theorem lfV_cg {Wy Rs Rs' : Nat → Nat → Nat → Int} {fr to : Nat → Nat} {l c p : Nat} (h : ∀ k, k < 4 → (c.testBit k = true → Rs l (andn c (2 ^ k)) (to k) = Rs' l (andn c (2 ^ k)) (to k)) ∧ (l.testBit k = true → Rs (andn l (2 ^ k)) (c ||| 2 ^ k) (fr k) = Rs' (andn l (2 ^ k)) (c ||| 2 ^ k) (fr k))) : lfV Wy Rs fr to l c p = lfV Wy Rs' fr to l c p := by
  unfold lfV
  rw [lfR_cg h 4 (Nat.le_refl _)]
def InvS (σ τ : Mem) (v n : Nat) (fr to : Nat → Nat) (m : Nat) : Prop := Same (fun c => c = 76) σ τ ∧ (∀ j, 0 ≤ τ.1 76 j ∧ τ.1 76 j ≤ 1000000) ∧ ∀ l c p, okS v l c → p < n → ixR l c p < m → restA τ l c p = lfV (wayA σ) (restA τ) fr to l c p
theorem InvS.mono {σ τ : Mem} {v n : Nat} {fr to : Nat → Nat} {m m' : Nat} (h : InvS σ τ v n fr to m) (hm : ∀ l c p, okS v l c → p < n → ixR l c p < m' → ixR l c p < m) : InvS σ τ v n fr to m' := ⟨h.1, h.2.1, fun l c p h1 h2 h3 => h.2.2 l c p h1 h2 (hm l c p h1 h2 h3)⟩
theorem InvS.step {σ τ : Mem} {v n : Nat} {fr to : Nat → Nat} {l c p : Nat} (h : InvS σ τ v n fr to (ixR l c p)) (hS : okS v l c) (hp : p < n) (hn : n ≤ 8) (hft : ∀ k, k < 4 → v.testBit k = true → fr k < n ∧ to k < n) (hb : 0 ≤ lfV (wayA σ) (restA τ) fr to l c p ∧ lfV (wayA σ) (restA τ) fr to l c p ≤ 1000000) : InvS σ (wr τ 76 (ixR l c p : Nat) (lfV (wayA σ) (restA τ) fr to l c p)) v n fr to (ixR l c p + 1) := by
  obtain ⟨h1, h2, h3⟩ := h
  have key : ∀ l' c' p', ixR l' c' p' < ixR l c p → restA (wr τ 76 (ixR l c p : Nat) (lfV (wayA σ) (restA τ) fr to l c p)) l' c' p' = restA τ l' c' p' := by
    intro l' c' p' hlt
    rw [restA_ix, restA_ix, wr_nek τ (by omega)]
  have low : ∀ l' c' p', okS v l' c' → p' < n → ixR l' c' p' ≤ ixR l c p → ∀ k, k < 4 → (c'.testBit k = true → restA (wr τ 76 (ixR l c p : Nat) (lfV (wayA σ) (restA τ) fr to l c p)) l' (andn c' (2 ^ k)) (to k) = restA τ l' (andn c' (2 ^ k)) (to k)) ∧ (l'.testBit k = true → restA (wr τ 76 (ixR l c p : Nat) (lfV (wayA σ) (restA τ) fr to l c p)) (andn l' (2 ^ k)) (c' ||| 2 ^ k) (fr k) = restA τ (andn l' (2 ^ k)) (c' ||| 2 ^ k) (fr k)) := by
    intro l' c' p' hS' hp' hle k hk
    refine ⟨fun hb1 => key _ _ _ ?_, fun hb1 => key _ _ _ ?_⟩
    · have a1 := andn_lt_self hb1
      have a2 := hft k hk (sub_of_andn hS'.2.2.2.1 hb1)
      unfold ixR at hle ⊢
      omega
    · have a1 := andn_lt_self hb1
      have a2 := hft k hk (sub_of_andn hS'.2.2.1 hb1)
      have a3 : c' ||| 2 ^ k < 2 ^ 4 := Nat.or_lt_two_pow hS'.2.1 (Nat.pow_lt_pow_right (by decide) hk)
      unfold ixR at hle ⊢
      omega
  refine ⟨h1.wr rfl, fun j => ?_, fun l' c' p' hS' hp' hlt => ?_⟩
  · rw [wr_at]
    split
    · exact hb
    · exact h2 j
  · rw [lfV_cg (Rs' := restA τ) (low l' c' p' hS' hp' (by omega))]
    by_cases e : ixR l' c' p' = ixR l c p
    · have e3 : l' = l ∧ c' = c ∧ p' = p := by
        have := hS.2.1
        have := hS'.2.1
        unfold ixR at e
        omega
      obtain ⟨rfl, rfl, rfl⟩ := e3
      rw [restA_ix, wr_eq]
    · rw [key l' c' p' (by omega)]
      exact h3 l' c' p' hS' hp' (by omega)
theorem k_solve (σ : Mem) (v n : Nat) (fr to : Nat → Nat) (hn : n ≤ 8) (hv : v < 16) (hFT : FT σ v n fr to) (hW : WyOk σ v n) (hRs : ∀ j, 0 ≤ σ.1 76 j ∧ σ.1 76 j ≤ 1000000) : Con yX4_solve cX4_solve 6 none 2 50 [.ref 72, .int (iI n), .int (iI v)] σ (AnsVP (fun τ => InvS σ τ v n fr to 4096)) := by
  refine con_of (by decide) rfl (Nat.le_of_ble_eq_true rfl) (ok_VP rfl) ?_
  refine ev_w (fun hR => ?_)
  have hR0 := hR
  have hft : ∀ k, k < 4 → v.testBit k = true → fr k < n ∧ to k < n := fun k hk h => (hFT k hk h).2.2
  have hway : ∀ τ : Mem, Same (fun c => c = 76) σ τ → wayA τ = wayA σ := fun τ h => by
    funext c p q; unfold wayA; rw [h.at (by decide)]
  have hFT2 : ∀ τ : Mem, Same (fun c => c = 76) σ τ → FT τ v n fr to := fun τ h k hk hb => by
    rw [h.at (by decide), h.at (by decide)]; exact hFT k hk hb
  have hval : ∀ (τ : Mem) l c p, Same (fun c => c = 76) σ τ → (∀ j, 0 ≤ τ.1 76 j ∧ τ.1 76 j ≤ 1000000) → okS v l c → p < n → 0 ≤ lfV (wayA σ) (restA τ) fr to l c p ∧ lfV (wayA σ) (restA τ) fr to l c p ≤ 1000000 := by
    intro τ l c p hs hb hS hp
    unfold lfV
    split
    · omega
    · refine lfR_R (fun k hk => ⟨fun h1 => ?_, fun h1 h2 h3 => ?_⟩) 4 (Nat.le_refl _)
      · have e := hft k hk (sub_of_andn hS.2.2.2.1 h1)
        have a1 := hW c hS.2.1 hS.2.2.2.1 hS.2.2.2.2.2 p (to k) hp e.2
        have a2 := hb (((l : Int) * 16 + (andn c (2 ^ k) : Nat)) * 8 + (to k : Nat))
        unfold restA
        omega
      · have e := hft k hk (sub_of_andn hS.2.2.1 h2)
        have a1 := hW c hS.2.1 hS.2.2.2.1 hS.2.2.2.2.2 p (fr k) hp e.1
        have a2 := hb ((((andn l (2 ^ k) : Nat) : Int) * 16 + (c ||| 2 ^ k : Nat)) * 8 + (fr k : Nat))
        unfold restA
        omega
  have loop : ∀ l : Nat, l ≤ v + 1 → ∀ (τ : Mem) (w4 w5 : Option Value), InvS σ τ v n fr to (ixR l 0 0) → Ev RX4 cX4_solve 6 2 50 (AnsVP (fun τ => InvS σ τ v n fr to 4096)) 2 [some (.ref 72), some (.int (iI n)), some (.int (iI v)), some (.int (iI (l : Nat))), w4, w5] [] τ := by
    refine for_up (v + 1) (fun l hl ih τ w4 w5 hI => ?_)
    refine ev_w (fun hR => ?_)
    have inner : l ≤ v → andn l v = 0 → ∀ c : Nat, c ≤ v + 1 → ∀ (τ : Mem) (w5 : Option Value), InvS σ τ v n fr to (ixR l c 0) → Ev RX4 cX4_solve 6 2 50 (AnsVP (fun τ => InvS σ τ v n fr to 4096)) 21 [some (.ref 72), some (.int (iI n)), some (.int (iI v)), some (.int (iI (l : Nat))), some (.int (iI (c : Nat))), w5] [] τ := by
      intro hlv hl0
      refine for_up (v + 1) (fun c hc ihc τ w5 hI => ?_)
      refine ev_w (fun hR => ?_)
      have deep : c ≤ v → okS v l c → ∀ p : Nat, p ≤ n → ∀ τ : Mem, InvS σ τ v n fr to (ixR l c p) → Ev RX4 cX4_solve 6 2 50 (AnsVP (fun τ => InvS σ τ v n fr to 4096)) 49 [some (.ref 72), some (.int (iI n)), some (.int (iI v)), some (.int (iI (l : Nat))), some (.int (iI (c : Nat))), some (.int (iI (p : Nat)))] [] τ := by
        intro hcv hS
        refine for_up n (fun p hp ihp τ hI => ?_)
        refine ev_w (fun hR => ?_)
        refine ev_iload dX4_solve_49 rfl ?_
        refine ev_iload_n dX4_solve_51 rfl ?_
        refine ev_icmp_ge (tgt := 88) dX4_solve_52 (by decide) (by first | exact hR.1 _ _ | exact hR0.1 _ _ | assumption | exact ⟨by omega, by omega⟩ | exact ⟨by simp [wr_at]; omega, by simp [wr_at]; omega⟩ | exact b2_R _ | exact band_R _ _ | exact bor_R _ _ | exact bshl_R _ _ | exact bshr_R _ _ | exact bxor_R _ _ | exact bs_R (by omega) | decide) (by first | exact hR.1 _ _ | exact hR0.1 _ _ | assumption | exact ⟨by omega, by omega⟩ | exact ⟨by simp [wr_at]; omega, by simp [wr_at]; omega⟩ | exact b2_R _ | exact band_R _ _ | exact bor_R _ _ | exact bshl_R _ _ | exact bshr_R _ _ | exact bxor_R _ _ | exact bs_R (by omega) | decide) (fun h_52 => ?_) (fun h_52 => ?_)
        · refine ev_iinc dX4_solve_88 rfl rfl (by decide) rfl ?_
          refine ev_goto (tgt := 21) dX4_solve_91 (by decide) ?_
          refine ihc (by omega) _ _ (hI.mono (fun l2 c2 p2 h2 h3 h4 => ?_))
          have := h2.2.1
          unfold ixR at h4 ⊢
          omega
        · have hvl := hval τ l c p hI.1 hI.2.1 hS (by omega)
          refine ev_aload_n dX4_solve_55 rfl ?_
          refine ev_getR (r := 76) dX4_solve_56 fl_X4_21 rfl rfl rfl ?_
          refine ev_iload_n dX4_solve_59 rfl ?_
          refine ev_bipush dX4_solve_60 (by decide) ?_
          refine ev_imul dX4_solve_62 ?_
          refine ev_iload dX4_solve_63 rfl ?_
          refine ev_iadd dX4_solve_65 ?_
          refine ev_bipush dX4_solve_66 (by decide) ?_
          refine ev_imul dX4_solve_68 ?_
          refine ev_iload dX4_solve_69 rfl ?_
          refine ev_iadd dX4_solve_71 ?_
          refine ev_aload_n dX4_solve_72 rfl ?_
          refine ev_iload_n dX4_solve_73 rfl ?_
          refine ev_iload dX4_solve_74 rfl ?_
          refine ev_iload dX4_solve_76 rfl ?_
          refine ev_callVI dX4_solve_78 kv_X4_45 (k_leastFrom τ v n l c p fr to hn (by omega) (by omega) (by omega) hS.2.2.1 hS.2.2.2.1 (hFT2 τ hI.1) (fun q hq => by rw [hway τ hI.1]; exact hW c (by omega) hS.2.2.2.1 hS.2.2.2.2.2 p q (by omega) hq) (fun l c p _ _ _ => hI.2.1 _)) rfl rfl (ci := 4) rfl rfl ⟨by decide, by decide⟩ (Nat.le_of_ble_eq_true rfl) ?_
          refine ev_w (fun hR => ?_)
          rw [hway τ hI.1]
          refine ev_iastore dX4_solve_81 rfl (by first | omega | (simp [wr_at]; omega) | (simp [wr_at, *]; omega)) (by first | omega | (simp [wr_at]; omega) | (simp [wr_at, *]; omega)) (by decide) ⟨by omega, by omega⟩ ?_
          refine ev_w (fun hR => ?_)
          refine ev_iinc dX4_solve_82 rfl rfl (by decide) rfl ?_
          refine ev_goto (tgt := 49) dX4_solve_85 (by decide) ?_
          refine ihp (by omega) _ ?_
          have e : (((l : Int) * 16 + c) * 8 + p) = ((ixR l c p : Nat) : Int) := by unfold ixR; omega
          rw [e]
          exact hI.step hS (by omega) hn hft hvl
      refine ev_iload dX4_solve_21 rfl ?_
      refine ev_iload_n dX4_solve_23 rfl ?_
      refine ev_icmp_gt (tgt := 94) dX4_solve_24 (by decide) (by first | exact hR.1 _ _ | exact hR0.1 _ _ | assumption | exact ⟨by omega, by omega⟩ | exact ⟨by simp [wr_at]; omega, by simp [wr_at]; omega⟩ | exact b2_R _ | exact band_R _ _ | exact bor_R _ _ | exact bshl_R _ _ | exact bshr_R _ _ | exact bxor_R _ _ | exact bs_R (by omega) | decide) (by first | exact hR.1 _ _ | exact hR0.1 _ _ | assumption | exact ⟨by omega, by omega⟩ | exact ⟨by simp [wr_at]; omega, by simp [wr_at]; omega⟩ | exact b2_R _ | exact band_R _ _ | exact bor_R _ _ | exact bshl_R _ _ | exact bshr_R _ _ | exact bxor_R _ _ | exact bs_R (by omega) | decide) (fun h_24 => ?_) (fun h_24 => ?_)
      · refine ev_iinc dX4_solve_94 rfl rfl (by decide) rfl ?_
        refine ev_goto (tgt := 2) dX4_solve_97 (by decide) ?_
        refine ih (by omega) _ _ _ (hI.mono (fun l2 c2 p2 h2 h3 h4 => ?_))
        have hc2 := h2.2.1
        have hc3 := le_of_andn h2.2.2.2.1
        unfold ixR at h4 ⊢
        omega
      · refine ev_iload dX4_solve_27 rfl ?_
        refine ev_iload_n dX4_solve_29 rfl ?_
        refine ev_iand dX4_solve_30 ?_
        rw [band_nat c l (by omega)]
        refine ev_if_ne (tgt := 88) dX4_solve_31 (by decide) (by have := Nat.and_le_left (n := c) (m := l); exact ⟨by omega, by omega⟩) (fun h_31 => ?_) (fun h_31 => ?_)
        · refine ev_iinc dX4_solve_88 rfl rfl (by decide) rfl ?_
          refine ev_goto (tgt := 21) dX4_solve_91 (by decide) ?_
          refine ihc (by omega) _ _ (hI.mono (fun l2 c2 p2 h2 h3 h4 => ?_))
          have hc2 := h2.2.1
          by_cases e : l2 = l ∧ c2 = c
          · obtain ⟨rfl, rfl⟩ := e
            exfalso
            first
              | exact (b2_eq h_40) ⟨h2.2.2.2.1, h2.2.2.2.2.2⟩
              | (have hz := h2.2.2.2.2.1; rw [Nat.and_comm] at hz; omega)
          · unfold ixR at h4 ⊢
            omega
        · refine ev_iload dX4_solve_34 rfl ?_
          refine ev_iload_n dX4_solve_36 rfl ?_
          refine ev_callSI dX4_solve_37 ks_X4_41 (k_canBeCarried τ c v (by omega) (by omega)) rfl rfl ⟨by decide, by decide⟩ (Nat.le_of_ble_eq_true rfl) ?_
          refine ev_w (fun hR => ?_)
          refine ev_if_ne (tgt := 46) dX4_solve_40 (by decide) (by first | exact hR.1 _ _ | exact hR0.1 _ _ | assumption | exact ⟨by omega, by omega⟩ | exact ⟨by simp [wr_at]; omega, by simp [wr_at]; omega⟩ | exact b2_R _ | exact band_R _ _ | exact bor_R _ _ | exact bshl_R _ _ | exact bshr_R _ _ | exact bxor_R _ _ | exact bs_R (by omega) | decide) (fun h_40 => ?_) (fun h_40 => ?_)
          · refine ev_iconst dX4_solve_46 ?_
            refine ev_istore dX4_solve_47 rfl (by decide) rfl ?_
            have hq := b2_ne h_40
            refine deep (by omega) ⟨by omega, by omega, hl0, hq.1, ?_, hq.2⟩ 0 (by omega) τ hI
            rw [Nat.and_comm]; omega
          · refine ev_goto (tgt := 88) dX4_solve_43 (by decide) ?_
            refine ev_iinc dX4_solve_88 rfl rfl (by decide) rfl ?_
            refine ev_goto (tgt := 21) dX4_solve_91 (by decide) ?_
            refine ihc (by omega) _ _ (hI.mono (fun l2 c2 p2 h2 h3 h4 => ?_))
            have hc2 := h2.2.1
            by_cases e : l2 = l ∧ c2 = c
            · obtain ⟨rfl, rfl⟩ := e
              exfalso
              first
                | exact (b2_eq h_40) ⟨h2.2.2.2.1, h2.2.2.2.2.2⟩
                | (have hz := h2.2.2.2.2.1; rw [Nat.and_comm] at hz; omega)
            · unfold ixR at h4 ⊢
              omega
    refine ev_iload_n dX4_solve_2 rfl ?_
    refine ev_iload_n dX4_solve_3 rfl ?_
    refine ev_icmp_gt (tgt := 100) dX4_solve_4 (by decide) (by first | exact hR.1 _ _ | exact hR0.1 _ _ | assumption | exact ⟨by omega, by omega⟩ | exact ⟨by simp [wr_at]; omega, by simp [wr_at]; omega⟩ | exact b2_R _ | exact band_R _ _ | exact bor_R _ _ | exact bshl_R _ _ | exact bshr_R _ _ | exact bxor_R _ _ | exact bs_R (by omega) | decide) (by first | exact hR.1 _ _ | exact hR0.1 _ _ | assumption | exact ⟨by omega, by omega⟩ | exact ⟨by simp [wr_at]; omega, by simp [wr_at]; omega⟩ | exact b2_R _ | exact band_R _ _ | exact bor_R _ _ | exact bshl_R _ _ | exact bshr_R _ _ | exact bxor_R _ _ | exact bs_R (by omega) | decide) (fun h_4 => ?_) (fun h_4 => ?_)
    · refine ev_return dX4_solve_100 ?_
      refine ⟨rfl, hI.mono (fun l2 c2 p2 h2 h3 h4 => ?_)⟩
      have hc3 := le_of_andn h2.2.2.1
      have hc4 := h2.2.1
      unfold ixR
      omega
    · refine ev_iload_n dX4_solve_7 rfl ?_
      refine ev_iload_n dX4_solve_8 rfl ?_
      refine ev_iconst dX4_solve_9 ?_
      refine ev_ixor dX4_solve_10 ?_
      refine ev_iand dX4_solve_11 ?_
      rw [band_not l v (by omega)]
      have hal := andn_lt (n := 12) v (show l < 2 ^ 12 by omega)
      refine ev_if_eq (tgt := 18) dX4_solve_12 (by decide) (by first | exact hR.1 _ _ | exact hR0.1 _ _ | assumption | exact ⟨by omega, by omega⟩ | exact ⟨by simp [wr_at]; omega, by simp [wr_at]; omega⟩ | exact b2_R _ | exact band_R _ _ | exact bor_R _ _ | exact bshl_R _ _ | exact bshr_R _ _ | exact bxor_R _ _ | exact bs_R (by omega) | decide) (fun h_12 => ?_) (fun h_12 => ?_)
      · refine ev_iconst dX4_solve_18 ?_
        refine ev_istore dX4_solve_19 rfl (by decide) rfl ?_
        exact inner (by omega) (by omega) 0 (by omega) τ _ hI
      · refine ev_goto (tgt := 94) dX4_solve_15 (by decide) ?_
        refine ev_iinc dX4_solve_94 rfl rfl (by decide) rfl ?_
        refine ev_goto (tgt := 2) dX4_solve_97 (by decide) ?_
        refine ih (by omega) _ _ _ (hI.mono (fun l2 c2 p2 h2 h3 h4 => ?_))
        have hc2 := h2.2.1
        by_cases e : l2 = l
        · subst e
          have := h2.2.2.1
          omega
        · unfold ixR at h4 ⊢
          omega
  refine ev_iconst dX4_solve_0 ?_
  refine ev_istore_n dX4_solve_1 rfl (by decide) rfl ?_
  exact loop 0 (by omega) σ _ _ ⟨Same.rf, hRs, fun l c p _ _ h => by unfold ixR at h; omega⟩
