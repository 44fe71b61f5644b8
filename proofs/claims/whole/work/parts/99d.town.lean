theorem plan_of {υ : Mem} {Q : Nat} {d : PD} (hQ : Q = 3 ∨ Q = 20) (hK : PDok d) (hD : PRep υ Q d) (hA : RAt υ Q d) : PlanOk υ Q (d.1 0) (d.1 1) (d.1 2) (d.1 3) (fun r => (d.2 5 r).toNat) (fun r => (d.2 6 r).toNat) := by
  obtain ⟨k0, k1, k2, k3, kp, kr, kb, kl⟩ := id hK
  have R : ∀ j, row j → ∀ p : Nat, p < d.1 (grp j) → υ.1 (Q + j) p = d.2 j p := hD.2
  have R9 : ∀ j, 1 ≤ j ∧ j ≤ 16 ∧ j ≠ 4 → ∀ p : Nat, p < d.1 (grp j) → υ.1 (Q + j) p = d.2 j p := hD.2
  refine ⟨⟨hQ, hD.1 0 (by decide), k0, hD.1 1 (by decide), k1, fun r hr => ?_⟩, ⟨hD.1 2 (by decide), k2⟩, ⟨hD.1 3 (by decide), k3⟩, fun p hp => ?_, fun r hr => ?_, fun b hb => ?_, fun l hl => ?_⟩
  · have q := kr r hr
    rw [R9 5 (by decide) r hr, R9 6 (by decide) r hr]
    dsimp only
    refine ⟨by omega, by omega, by omega, by omega, by omega⟩
  · have q := kp p hp
    rw [R9 1 (by decide) p hp, R9 2 (by decide) p hp, R9 3 (by decide) p hp, hA p (by omega)]
    refine ⟨q.1, q.2.1, q.2.2, ?_⟩
    rw [bs_congr (q := fun r => decide ((d.2 5 r).toNat = p ∨ (d.2 6 r).toNat = p)) (fun r hr => decide_eq_decide.mpr (by have q9 := kr r hr; omega))]
  · have q := kr r hr
    rw [R9 7 (by decide) r hr, R9 8 (by decide) r hr]
    exact q.2.2.2
  · rw [R9 9 (by decide) b hb, R9 10 (by decide) b hb, R9 11 (by decide) b hb]
    exact kb b hb
  · rw [R9 12 (by decide) l hl, R9 13 (by decide) l hl, R9 14 (by decide) l hl, R9 15 (by decide) l hl, R9 16 (by decide) l hl]
    exact kl l hl
section
variable {υ : Mem} {P Q nr : Nat}
theorem tw_c {c : Nat} (h : c ≠ 0 ∧ c ≠ 1 ∧ c ≠ 65 ∧ ¬ (37 ≤ c ∧ c ≤ 43)) : (townM υ P Q nr).1 c = υ.1 c := by
  funext k
  unfold townM
  rw [wr_nec _ (by omega), wr_nec _ (by omega), beginM_c (by omega), wr_nec _ (by omega), wr_nec _ (by omega), wr_nec _ (by omega)]
theorem tw_0 : (townM υ P Q nr).1 0 1 = Q ∧ (townM υ P Q nr).1 0 2 = P ∧ (townM υ P Q nr).1 0 5 = 0 := by
  unfold townM
  refine ⟨?_, ?_, wr_eq _ _ _ _⟩
  · rw [wr_nek _ (by decide), wr_nec _ (by decide), beginM_c (by omega), wr_nek _ (by decide), wr_eq]
  · rw [wr_nek _ (by decide), wr_nec _ (by decide), beginM_c (by omega), wr_eq]
theorem tw_1 : (townM υ P Q nr).1 1 1 = 0 ∧ (townM υ P Q nr).1 1 3 = υ.1 1 3 ∧ (townM υ P Q nr).1 65 0 = 0 := by
  unfold townM
  refine ⟨?_, ?_, ?_⟩
  · rw [wr_nec _ (by decide), wr_nec _ (by decide), beginM_c (by omega), wr_nec _ (by decide), wr_nec _ (by decide), wr_eq]
  · rw [wr_nec _ (by decide), wr_nec _ (by decide), beginM_c (by omega), wr_nec _ (by decide), wr_nec _ (by decide), wr_nek _ (by decide)]
  · rw [wr_nec _ (by decide), wr_eq]
theorem tw_b {c : Nat} (h1 : c ≠ 0) (h2 : c ≠ 65) (k : Int) : (townM υ P Q nr).1 c k = (beginM (wr (wr (wr υ 1 1 0) 0 1 (Q : Nat)) 0 2 (P : Nat)) Q nr).1 c k := by
  unfold townM
  rw [wr_nec _ h1, wr_nec _ h2]
theorem be_at (σ : Mem) (P nr c : Nat) (k : Int) : (beginM σ P nr).1 c k = if c = 42 ∧ 0 ≤ k ∧ k < 0 + 4 then (cpyM (fillM (fillM (fillM (fillM (wr (wr (wr (wr (wr (wr σ 37 0 0) 37 1 0) 37 3 ((2 ^ nr : Nat) - 1)) 37 4 0) 37 5 0) 37 6 0) 38 0 12) 40 (-1) 4) 41 0 4) 43 (-1) 4) (P + 9) 39 0 0 4).1 (P + 12) (0 + (k - 0)) else if c = 39 ∧ 0 ≤ k ∧ k < 0 + 4 then (fillM (fillM (fillM (fillM (wr (wr (wr (wr (wr (wr σ 37 0 0) 37 1 0) 37 3 ((2 ^ nr : Nat) - 1)) 37 4 0) 37 5 0) 37 6 0) 38 0 12) 40 (-1) 4) 41 0 4) 43 (-1) 4).1 (P + 9) (0 + (k - 0)) else if c = 43 ∧ 0 ≤ k ∧ k < ((4 : Nat) : Int) then -1 else if c = 41 ∧ 0 ≤ k ∧ k < ((4 : Nat) : Int) then 0 else if c = 40 ∧ 0 ≤ k ∧ k < ((4 : Nat) : Int) then -1 else if c = 38 ∧ 0 ≤ k ∧ k < ((12 : Nat) : Int) then 0 else (wr (wr (wr (wr (wr (wr σ 37 0 0) 37 1 0) 37 3 ((2 ^ nr : Nat) - 1)) 37 4 0) 37 5 0) 37 6 0).1 c k := rfl
theorem be_src {σ : Mem} {c : Nat} (hc : ¬ (37 ≤ c ∧ c ≤ 43)) (k : Int) : (fillM (fillM (fillM (fillM (wr (wr (wr (wr (wr (wr σ 37 0 0) 37 1 0) 37 3 ((2 ^ nr : Nat) - 1)) 37 4 0) 37 5 0) 37 6 0) 38 0 12) 40 (-1) 4) 41 0 4) 43 (-1) 4).1 c k = σ.1 c k := by
  show (if c = 43 ∧ 0 ≤ k ∧ k < ((4 : Nat) : Int) then (-1 : Int) else if c = 41 ∧ 0 ≤ k ∧ k < ((4 : Nat) : Int) then 0 else if c = 40 ∧ 0 ≤ k ∧ k < ((4 : Nat) : Int) then -1 else if c = 38 ∧ 0 ≤ k ∧ k < ((12 : Nat) : Int) then 0 else (wr (wr (wr (wr (wr (wr σ 37 0 0) 37 1 0) 37 3 ((2 ^ nr : Nat) - 1)) 37 4 0) 37 5 0) 37 6 0).1 c k) = _
  rw [if_neg (by omega), if_neg (by omega), if_neg (by omega), if_neg (by omega), wr_nec _ (by omega), wr_nec _ (by omega), wr_nec _ (by omega), wr_nec _ (by omega), wr_nec _ (by omega), wr_nec _ (by omega)]
theorem tw_37 {k : Int} : (townM υ P Q nr).1 37 k = if k = 6 then 0 else if k = 5 then 0 else if k = 4 then 0 else if k = 3 then ((2 ^ nr : Nat) : Int) - 1 else if k = 1 then 0 else if k = 0 then 0 else υ.1 37 k := by
  rw [tw_b (by decide) (by decide), be_at, if_neg (by omega), if_neg (by omega), if_neg (by omega), if_neg (by omega), if_neg (by omega), if_neg (by omega)]
  simp only [wr_at, true_and]
  simp
theorem tw_r {k : Int} (h0 : 0 ≤ k) (h1 : k < 4) (hQ : Q = 3 ∨ Q = 20) : (townM υ P Q nr).1 39 k = υ.1 (Q + 9) k ∧ (townM υ P Q nr).1 40 k = -1 ∧ (townM υ P Q nr).1 41 k = 0 ∧ (townM υ P Q nr).1 42 k = υ.1 (Q + 12) k ∧ (townM υ P Q nr).1 43 k = -1 := by
  refine ⟨?_, ?_, ?_, ?_, ?_⟩
  · rw [tw_b (by decide) (by decide), be_at, if_neg (by omega), if_pos (by omega), be_src (by omega), wr_nec _ (by omega), wr_nec _ (by omega), wr_nec _ (by omega), show (0 : Int) + (k - 0) = k by omega]
  · rw [tw_b (by decide) (by decide), be_at, if_neg (by omega), if_neg (by omega), if_neg (by omega), if_neg (by omega), if_pos (by omega)]
  · rw [tw_b (by decide) (by decide), be_at, if_neg (by omega), if_neg (by omega), if_neg (by omega), if_pos (by omega)]
  · rw [tw_b (by decide) (by decide), be_at, if_pos (by omega), cpyM_at, if_neg (by omega), be_src (by omega), wr_nec _ (by omega), wr_nec _ (by omega), wr_nec _ (by omega), show (0 : Int) + (k - 0) = k by omega]
  · rw [tw_b (by decide) (by decide), be_at, if_neg (by omega), if_neg (by omega), if_pos (by omega)]
theorem tw_38 {k : Int} (h0 : 0 ≤ k) (h1 : k < 12) : (townM υ P Q nr).1 38 k = 0 := by
  rw [tw_b (by decide) (by decide), be_at, if_neg (by omega), if_neg (by omega), if_neg (by omega), if_neg (by omega), if_neg (by omega), if_pos (by omega)]
end
theorem town_dyn {υ : Mem} {P Q : Nat} {d : PD} (hQ : Q = 3 ∨ Q = 20) (hK : PDok d) (hD : PRep υ Q d) (h2 : 0 ≤ υ.1 37 2) : DynOk (townM υ P Q (d.1 1)) Q (d.1 0) (d.1 1) (d.1 2) (d.1 3) 0 (2 ^ d.1 1 - 1) 0 0 := by
  obtain ⟨k0, k1, k2, k3, kp, kr, kb, kl⟩ := id hK
  have R9 : ∀ j, 1 ≤ j ∧ j ≤ 16 ∧ j ≠ 4 → ∀ p : Nat, p < d.1 (grp j) → υ.1 (Q + j) p = d.2 j p := hD.2
  have hp1 : 0 < 2 ^ d.1 1 := Nat.pow_pos (by decide)
  have hp3 : 0 < 2 ^ d.1 3 := Nat.pow_pos (by decide)
  have e37 := fun k => tw_37 (υ := υ) (P := P) (Q := Q) (nr := d.1 1) (k := k)
  refine ⟨?_, ?_, ?_, ?_, ?_, ?_, ?_, fun r hr => ?_, fun b hb => ?_, fun b c hb hc h3 h4 => ?_, fun l hl => ?_⟩
  · rw [e37 0]; simp
  · rw [e37 1]; simp; omega
  · rw [e37 2]; simpa using h2
  · rw [e37 3]
    generalize 2 ^ d.1 1 = M at *
    refine ⟨?_, by omega⟩
    simp
    omega
  · rw [e37 4]; exact ⟨by simp, hp1⟩
  · rw [e37 5]; exact ⟨by simp, hp3⟩
  · rw [e37 6]; simp
  · rw [tw_38 (by omega) (by omega)]
    exact ⟨by decide, by decide, fun _ => by decide⟩
  · obtain ⟨g1, g2, g3, g4, g5⟩ := tw_r (υ := υ) (P := P) (Q := Q) (nr := d.1 1) (k := (b : Int)) (by omega) (by omega) hQ
    rw [g1, g2, g3, R9 9 (by decide) b hb]
    exact ⟨(kb b hb).1, Or.inl ⟨rfl, rfl⟩⟩
  · obtain ⟨g1, g2, g3, g4, g5⟩ := tw_r (υ := υ) (P := P) (Q := Q) (nr := d.1 1) (k := (b : Int)) (by omega) (by omega) hQ
    exact absurd g2 h4
  · obtain ⟨g1, g2, g3, g4, g5⟩ := tw_r (υ := υ) (P := P) (Q := Q) (nr := d.1 1) (k := (l : Int)) (by omega) (by omega) hQ
    have q := kl l hl
    refine Or.inr (Or.inl ?_)
    rw [g4, g5, tw_c (by omega), R9 12 (by decide) l hl, R9 13 (by decide) l hl]
    exact ⟨Nat.zero_testBit l, rfl, q.1.1, q.1.2, q.2.2.1⟩
theorem s_town {N : Nat} {σ : Mem} (h : Sim N σ) : Two N (fun Ψ => Con yX7_town cX7_town 3 (some .int) 12 282 [.ref 0] σ (Ψ)) (fun τ Ψ => Con yX8_town cX8_town 3 (some .int) 6 143 [.ref 79] τ (Ψ)) := by
  obtain ⟨P, Q, n, nr, nb, nl, mb, w, wt, dv, k, kp, L, f, t, hW⟩ := id h
  have hL5 := hW.tx.2.1
  have hP := hW.hP
  have hpq := hW.pq
  have hQ : Q = 3 ∨ Q = 20 := by omega
  have hPd : 0 ≤ σ.1 37 2 := hW.mok.2.1.2.2.1
  generalize hR0 : parR (fun j : Nat => σ.1 2 j) L (L + 1) d00 0 = R0
  have kc := k_town σ P Q L hP hQ (by omega) hW.pl hW.np hW.len hL5
  rw [hR0] at kc
  have mc : ∀ τ, Hi σ τ → Con yX8_town cX8_town 3 (some .int) 6 143 [.ref 79] τ (AnsQ (TwnM τ R0)) := fun τ hτ => by
    have q := m_town τ (fun j : Nat => σ.1 2 j) L (hW.ref hτ).tx
    rw [hR0] at q
    exact q
  refine two_d (σ := σ) kc mc (fun v τ hv => ?_)
  obtain ⟨z, rfl, hz⟩ := hv
  rcases hz with ⟨f9, w9, υ, rfl, rfl, ⟨b1, b2, b3, b4⟩, rfl⟩ | ⟨d, υ, rfl, rfl, hK, hs, h13, hD, hA, rfl⟩
  · have hc1 : ∀ c, c ≠ 1 → ¬ (Q ≤ c ∧ c ≤ Q + 16) → (wr υ 1 1 0).1 c = σ.1 c := fun c a b => by
      rw [← b1.1 c (by unfold SP; omega)]; funext k9; exact wr_nec _ a
    have hH : Hi σ (wr υ 1 1 0) := fun c hc => hc1 c (by omega) (by omega)
    refine ⟨hH, _, rfl, fun v2 ν h2 => ?_⟩
    obtain ⟨z2, rfl, h3⟩ := h2
    rcases h3 with ⟨f2, w2, e1, rfl, f0, f4, hT, h36, h37⟩ | ⟨d, ν1, ν2, e1, -⟩
    · injection e1 with e2
      injection e2 with e3 e4
      subst e3
      subst e4
      refine ⟨rfl, ?_⟩
      have h11 : (wr υ 1 1 0).1 1 1 = 0 := wr_eq _ _ _ _
      have h13 : (wr υ 1 1 0).1 1 3 = w9 := by rw [wr_nek _ (by decide)]; exact b4
      generalize wr υ 1 1 0 = τ at *
      have hν : ∀ c, ¬ (c = 79 ∨ (108 ≤ c ∧ c ≤ 122)) → ν.1 c = τ.1 c := hT.1
      refine ⟨P, Q, n, nr, nb, nl, mb, w, wt, dv, k, kp, 0, f, t, hW.io (Nat.le_succ _) ?_ (fun k hk => ?_) (fun c a b => ?_) ?_ ?_ (fun c hc => ?_) (fun k9 g1 g3 => ?_) ?_ ⟨h36, by decide, fun j hj => absurd hj (Nat.not_lt_zero _)⟩ ?_⟩
      · rw [hν _ (by omega), hc1 _ (by omega) (by omega)]
      · rw [hν _ (by omega), hc1 _ (by omega) (by omega)]
      · rw [hν _ (by omega), hc1 _ (by omega) (by omega)]
      · rw [hν _ (by omega), hc1 _ (by omega) (by omega)]
      · rw [hν _ (by omega), hc1 _ (by omega) (by omega)]
      · rw [hν _ (by omega), hc1 _ (by omega) (by omega)]
      · rw [hT.2 k9 g1 g3, hc1 _ (by omega) (by omega)]
      · rw [hν _ (by omega), h11]; rfl
      · rw [h37, hν _ (by omega), h13]
    · cases e1
  · have hυ : ∀ c, c ≠ 1 → ¬ (Q ≤ c ∧ c ≤ Q + 16) → υ.1 c = σ.1 c := fun c a b => hs.1 c (by unfold SP; omega)
    have hPO := plan_of hQ hK hD hA
    have hDy := town_dyn (P := P) hQ hK hD (by rw [hυ 37 (by omega) (by omega)]; exact hPd)
    have R9 : ∀ j, 1 ≤ j ∧ j ≤ 16 ∧ j ≠ 4 → ∀ p : Nat, p < d.1 (grp j) → υ.1 (Q + j) p = d.2 j p := hD.2
    have hTc : ∀ c, c ≠ 0 ∧ c ≠ 1 ∧ c ≠ 65 ∧ ¬ (37 ≤ c ∧ c ≤ 43) → (townM υ P Q (d.1 1)).1 c = υ.1 c := fun c h => tw_c h
    have hT0 := tw_0 (υ := υ) (P := P) (Q := Q) (nr := d.1 1)
    have hT1 := tw_1 (υ := υ) (P := P) (Q := Q) (nr := d.1 1)
    have hT37 := fun k => tw_37 (υ := υ) (P := P) (Q := Q) (nr := d.1 1) (k := k)
    have hTr := fun (k : Int) h0 h1 => tw_r (υ := υ) (P := P) (Q := Q) (nr := d.1 1) (k := k) h0 h1 hQ
    have hT38 := fun (k : Int) h0 h1 => tw_38 (υ := υ) (P := P) (Q := Q) (nr := d.1 1) (k := k) h0 h1
    have hH : Hi σ (townM υ P Q (d.1 1)) := fun c hc => by rw [hTc c (by omega), hυ c (by omega) (by omega)]
    refine ⟨hH, _, rfl, fun v2 ν h2 => ?_⟩
    obtain ⟨z2, rfl, h3⟩ := h2
    rcases h3 with ⟨f2, w2, e1, -⟩ | ⟨d2, ν1, ν2, e1, rfl, -, hRT, h36, h37, hPm, hU1, hU2⟩
    · cases e1
    · injection e1 with e2
      subst e2
      refine ⟨rfl, ?_⟩
      generalize townM υ P Q (d.1 1) = T at *
      obtain ⟨k0, k1, k2, k3, kp9, kr, kb, kl⟩ := id hK
      have hν : ∀ c, c ≤ 78 → ν.1 c = T.1 c := fun c hc => by
        funext k9
        rw [hU2.1 c k9 (by unfold beS; omega), hU1.1 c k9 (by unfold cpS; omega), hRT.1 c (by omega)]
      have mr : ∀ j, 1 ≤ j ∧ j ≤ 16 ∧ j ≠ 4 → ∀ p : Nat, p < d.1 (grp j) → ν1.1 (mM j) p = d.2 j p := hPm.2
      have mf : ∀ k, k < 4 → ν1.1 79 (fM k) = d.1 k := hPm.1
      have cpv : ∀ c (p : Int), tcD c p → ¬ beS c p → ν.1 c p = cpE ν1 c p := fun c p h1 h2 => by rw [hU2.1 c p h2, hU1.2 c p h1]
      have cpr : ∀ c (p : Nat), ((80 ≤ c ∧ c ≤ 82) ∧ p < 8) ∨ ((83 ≤ c ∧ c ≤ 86) ∧ p < 12) ∨ ((87 ≤ c ∧ c ≤ 94) ∧ p < 4) → ν.1 c p = ν1.1 (c + 28) p := fun c p h => by
        rw [cpv c p ?_ (by unfold beS; omega)]
        · unfold cpE; rw [if_neg (by omega), if_neg (by omega)]
        · refine Or.inl (Or.inl (Or.inl ?_))
          rcases h with h | h | h
          · exact Or.inl (Or.inr ⟨by omega, by omega, by omega, by omega⟩)
          · exact Or.inl (Or.inl (Or.inr ⟨by omega, by omega, by omega, by omega⟩))
          · exact Or.inr ⟨by omega, by omega, by omega, by omega⟩
      have F0 : tcD 79 0 := by unfold tcD tcR Rw cpF; simp
      have F4 : tcD 79 4 := by unfold tcD tcR Rw cpF; simp
      have F9 : tcD 79 9 := by unfold tcD tcR Rw cpF; simp
      have F13 : tcD 79 13 := by unfold tcD tcR Rw cpF; simp
      have F68 : tcD 79 68 := by unfold tcD; simp
      have G0 : tcD 133 0 := by unfold tcD; simp
      have G1 : tcD 133 1 := by unfold tcD; simp
      have bev : ∀ c (p : Int), tbD c p → ν.1 c p = beE ν2 c p := hU2.2
      have B29 : tbD 79 29 := by unfold tbD Rw beF; simp
      have B30 : tbD 79 30 := by unfold tbD Rw beF; simp
      have B31 : tbD 79 31 := by unfold tbD Rw beF; simp
      have Br : ∀ c (p : Nat), (95 ≤ c ∧ c ≤ 97) ∧ p < 12 → tbD c p := fun c p h => Or.inl (Or.inr ⟨by omega, by omega, by omega, by omega⟩)
      have Bb : ∀ c (p : Nat), (98 ≤ c ∧ c ≤ 104) ∧ p < 4 → tbD c p := fun c p h => Or.inr ⟨by omega, by omega, by omega, by omega⟩
      have c2v : ∀ (p : Nat), p < 4 → ν2.1 87 p = ν1.1 115 p ∧ ν2.1 90 p = ν1.1 118 p := fun p hp => by
        have a1 := cpr 87 p (by omega)
        have a2 := cpr 90 p (by omega)
        rw [hU2.1 87 _ (by unfold beS; omega)] at a1
        rw [hU2.1 90 _ (by unfold beS; omega)] at a2
        exact ⟨a1, a2⟩
      have hse : ν.1 79 34 = T.1 37 2 := by
        rw [hU2.1 79 34 (by unfold beS; omega), hU1.1 79 34 (by unfold cpS; omega), hRT.2 34 (by unfold PF; omega) (by decide), hH 79 (by decide), hT37 2]
        have q := hW.mok.2.2.2.1.2.2.2
        rw [hυ 37 (by omega) (by omega)]
        simpa using q
      have hTQ : ∀ k, 1 ≤ k → k ≤ 16 → T.1 (Q + k) = υ.1 (Q + k) := fun k a b => hTc _ (by omega)
      have hTQ0 : ∀ k, k ≤ 16 → T.1 (Q + k) = υ.1 (Q + k) := fun k b => hTc _ (by omega)
      have hMP : MPl ν T Q (d.1 0) (d.1 1) (d.1 2) (d.1 3) := by
        refine ⟨⟨?_, ?_, ?_, ?_⟩, fun p hp => ⟨?_, ?_, ?_⟩, fun r hr => ⟨?_, ?_, ?_, ?_⟩, fun b hb => ⟨?_, ?_, ?_⟩, fun l hl => ⟨?_, ?_, ?_, ?_, ?_⟩⟩
        · rw [cpv 79 0 F0 (by unfold beS; omega)]; exact mf 0 (by decide)
        · rw [cpv 79 4 F4 (by unfold beS; omega)]; exact mf 1 (by decide)
        · rw [cpv 79 9 F9 (by unfold beS; omega)]; exact mf 2 (by decide)
        · rw [cpv 79 13 F13 (by unfold beS; omega)]; exact mf 3 (by decide)
        · rw [cpr 80 p (by omega), hTQ 1 (by decide) (by decide), R9 1 (by decide) p hp]; exact mr 1 (by decide) p hp
        · rw [cpr 81 p (by omega), hTQ 2 (by decide) (by decide), R9 2 (by decide) p hp]; exact mr 2 (by decide) p hp
        · rw [cpr 82 p (by omega), hTQ 3 (by decide) (by decide), R9 3 (by decide) p hp]; exact mr 3 (by decide) p hp
        · rw [cpr 83 r (by omega), hTQ 5 (by decide) (by decide), R9 5 (by decide) r hr]; exact mr 5 (by decide) r hr
        · rw [cpr 84 r (by omega), hTQ 6 (by decide) (by decide), R9 6 (by decide) r hr]; exact mr 6 (by decide) r hr
        · rw [cpr 85 r (by omega), hTQ 7 (by decide) (by decide), R9 7 (by decide) r hr]; exact mr 7 (by decide) r hr
        · rw [cpr 86 r (by omega), hTQ 8 (by decide) (by decide), R9 8 (by decide) r hr]; exact mr 8 (by decide) r hr
        · rw [cpr 87 b (by omega), hTQ 9 (by decide) (by decide), R9 9 (by decide) b hb]; exact mr 9 (by decide) b hb
        · rw [cpr 88 b (by omega), hTQ 10 (by decide) (by decide), R9 10 (by decide) b hb]; exact mr 10 (by decide) b hb
        · rw [cpr 89 b (by omega), hTQ 11 (by decide) (by decide), R9 11 (by decide) b hb]; exact mr 11 (by decide) b hb
        · rw [cpr 90 l (by omega), hTQ 12 (by decide) (by decide), R9 12 (by decide) l hl]; exact mr 12 (by decide) l hl
        · rw [cpr 91 l (by omega), hTQ 13 (by decide) (by decide), R9 13 (by decide) l hl]; exact mr 13 (by decide) l hl
        · rw [cpr 92 l (by omega), hTQ 14 (by decide) (by decide), R9 14 (by decide) l hl]; exact mr 14 (by decide) l hl
        · rw [cpr 93 l (by omega), hTQ 15 (by decide) (by decide), R9 15 (by decide) l hl]; exact mr 15 (by decide) l hl
        · rw [cpr 94 l (by omega), hTQ 16 (by decide) (by decide), R9 16 (by decide) l hl]; exact mr 16 (by decide) l hl
      have hMD : MDy ν T (d.1 1) (d.1 2) (d.1 3) := by
        refine ⟨⟨?_, ?_, ?_, hse⟩, fun r hr => ⟨?_, ?_, ?_⟩, fun b hb => ?_, fun l hl => ⟨?_, ?_, ?_⟩, fun i hi => ?_⟩
        · rw [bev 79 29 B29, hT37 0]; simp [beE]
        · rw [bev 79 30 B30, hT37 1]; simp [beE]
        · rw [bev 79 31 B31, hT37 6]; simp [beE]
        · rw [bev 95 r (Br 95 r (by omega))]; show beE ν2 95 r = T.1 38 r; rw [hT38 r (by omega) (by omega)]; simp [beE]
        · rw [bev 96 r (Br 96 r (by omega)), hT37 4]; simp [beE, b2]
        · rw [bev 97 r (Br 97 r (by omega)), hT37 3]
          have e : (((2 ^ d.1 1 : Nat) : Int) - 1).toNat.testBit r = true := by
            rw [show (((2 ^ d.1 1 : Nat) : Int) - 1).toNat = 2 ^ d.1 1 - 1 by omega, Nat.testBit_two_pow_sub_one]
            simpa using hr
          simp only [if_neg (show ¬ (3 : Int) = 6 by decide), if_neg (show ¬ (3 : Int) = 5 by decide), if_neg (show ¬ (3 : Int) = 4 by decide), if_true]
          rw [e]
          rfl
        · obtain ⟨g1, g2, g3, g4, g5⟩ := hTr (b : Int) (by omega) (by omega)
          refine ⟨?_, ?_, fun _ => ?_, fun y => absurd g2 y⟩
          · rw [bev 99 b (Bb 99 b (by omega))]; show beE ν2 99 b = T.1 40 b; rw [g2]; simp [beE]
          · rw [bev 101 b (Bb 101 b (by omega))]; show beE ν2 101 b = T.1 41 b; rw [g3]; simp [beE]
          · rw [bev 98 b (Bb 98 b (by omega))]; show ν2.1 87 b = T.1 39 b; rw [g1, (c2v b (by omega)).1, R9 9 (by decide) b hb]; exact mr 9 (by decide) b hb
        · obtain ⟨g1, g2, g3, g4, g5⟩ := hTr (l : Int) (by omega) (by omega)
          rw [bev 102 l (Bb 102 l (by omega))]; show ν2.1 90 l = T.1 42 l; rw [g4, (c2v l (by omega)).2, R9 12 (by decide) l hl]; exact mr 12 (by decide) l hl
        · obtain ⟨g1, g2, g3, g4, g5⟩ := hTr (l : Int) (by omega) (by omega)
          rw [bev 103 l (Bb 103 l (by omega))]; show beE ν2 103 l = T.1 43 l; rw [g5]; simp [beE]
        · rw [bev 104 l (Bb 104 l (by omega)), hT37 5]; simp [beE, b2]
        · rw [hT37 6] at hi; simp at hi; omega
      refine ⟨Q, P, d.1 0, d.1 1, d.1 2, d.1 3, 0, 2 ^ d.1 1 - 1, 0, 0, 0, 0, 0, (fun r => (d.2 5 r).toNat), (fun r => (d.2 6 r).toNat), ⟨by omega, ?_, ?_, ⟨hPO.cg (fun k hk => by rw [hν _ (by omega), hTQ0 k hk]), hDy.cg (fun c a b => hν c (by omega)) (hν _ (by omega)), hMP.cg (fun k hk => hν _ (by omega)) (fun _ _ _ => rfl), hMD.cg (fun c a b => hν c (by omega)) (fun _ _ _ => rfl) rfl⟩, Nat.zero_le _, ⟨?_, by decide, fun i hi => absurd hi (Nat.not_lt_zero _)⟩, ⟨?_, fun i hi => absurd hi (Nat.not_lt_zero _)⟩, ?_, by decide, fun i hi => ⟨?_, fun y => absurd y (by rw [Nat.zero_testBit]; decide)⟩, ?_, ⟨?_, by decide, fun j hj => absurd hj (Nat.not_lt_zero _)⟩, ?_, ?_, ?_⟩⟩
      · unfold PlIs; rw [hν 0 (by omega)]; exact hT0.1
      · rw [hν 0 (by omega)]; exact hT0.2.1
      · rw [hν 65 (by omega)]; exact hT1.2.2
      · rw [cpv 79 68 F68 (by unfold beS; omega)]; rfl
      · rw [hν 0 (by omega)]; exact hT0.2.2
      · rw [b2_f (by rw [Nat.zero_testBit]; decide)]
        rcases (by omega : i = 0 ∨ i = 1) with rfl | rfl
        · exact cpv 133 0 G0 (by unfold beS; omega)
        · exact cpv 133 1 G1 (by unfold beS; omega)
      · rw [hν 1 (by omega)]; exact hT1.1
      · rw [hU2.1 79 36 (by unfold beS; omega), hU1.1 79 36 (by unfold cpS; omega), h36]; rfl
      · rw [hU2.1 79 37 (by unfold beS; omega), hU1.1 79 37 (by unfold cpS; omega), h37, hν 1 (by omega), hT1.2.1, h13]
      · rw [hν 76 (by omega), hTc 76 (by omega), hυ 76 (by omega) (by omega)]; exact hW.c76
      · rw [hν 78 (by omega), hTc 78 (by omega), hυ 78 (by omega) (by omega)]; exact hW.c78
