noncomputable def bC (p : Prop) : Int := @b2 p (Classical.propDecidable p)
theorem bC_t {p : Prop} (h : p) : bC p = 1 := @b2_t p (Classical.propDecidable p) h
theorem bC_f {p : Prop} (h : ¬ p) : bC p = 0 := @b2_f p (Classical.propDecidable p) h
theorem bC_01 (p : Prop) : bC p = 0 ∨ bC p = 1 := @b2_01 p (Classical.propDecidable p)
theorem bC_ne {p : Prop} (h : ¬ bC p = 0) : p := @b2_ne p (Classical.propDecidable p) h
theorem bC_eq {p : Prop} (h : bC p = 0) : ¬ p := @b2_eq p (Classical.propDecidable p) h
theorem bC_R (p : Prop) : inR (bC p) := @b2_R p (Classical.propDecidable p)
theorem bC_congr {p q : Prop} (h : p ↔ q) : bC p = bC q := by rw [propext h]
set_option maxRecDepth 100000 in
theorem lowb_256 : ∀ T, T < 256 → T ≠ 0 → ∃ a, a < 8 ∧ lowb (T : Nat) = (2 ^ a : Nat) ∧ T.testBit a = true ∧ ∀ i, i < a → T.testBit i = false := by decide +kernel
/-- p can be reached from a by the ropes of S -/
def Rch (f t : Nat → Nat) (nr S a p : Nat) : Prop := ∀ X : Nat → Prop, X a → (∀ r, r < nr → S.testBit r = true → (X (f r) ↔ X (t r))) → X p
theorem cnt_more {p q : Nat → Bool} {n i : Nat} (hi : i < n) (hp : p i = false) (hq : q i = true) (h : ∀ j, j < n → p j = true → q j = true) : cnt p n + 1 ≤ cnt q n := by
  induction n with
  | zero => omega
  | succ n ih =>
    unfold cnt
    by_cases e : i = n
    · subst e
      have mono : ∀ m, (∀ j, j < m → p j = true → q j = true) → cnt p m ≤ cnt q m := by
        intro m
        induction m with
        | zero => intro _; exact Nat.le_refl _
        | succ m ihm =>
          intro hm
          have a := ihm (fun j hj => hm j (by omega))
          have c := hm m (by omega)
          unfold cnt
          cases hpm : p m
          · simp; omega
          · rw [c hpm]; simp; exact a
      have a := mono i (fun j hj => h j (by omega))
      rw [hp, hq]; simp; omega
    · have a := ih (by omega) (fun j hj => h j (by omega))
      have c := h n (by omega)
      cases hpm : p n
      · simp; omega
      · rw [c hpm]; simp; omega
theorem cnt_mono {p q : Nat → Bool} {n : Nat} (h : ∀ j, j < n → p j = true → q j = true) : cnt p n ≤ cnt q n := by
  induction n with
  | zero => exact Nat.le_refl _
  | succ n ih =>
    have a := ih (fun j hj => h j (by omega))
    have c := h n (by omega)
    unfold cnt
    cases hpm : p n
    · simp; omega
    · rw [c hpm]; simp; exact a
theorem and_ends {R a b : Nat} : (2 ^ a ||| 2 ^ b) &&& R = 0 ↔ R.testBit a = false ∧ R.testBit b = false := by
  constructor
  · intro h
    have h1 := congrArg (fun z => z.testBit a) h
    have h2 := congrArg (fun z => z.testBit b) h
    simp only [Nat.testBit_and, Nat.testBit_or, test_pow, Nat.zero_testBit] at h1 h2
    simp at h1 h2
    exact ⟨h1, h2⟩
  · rintro ⟨h1, h2⟩
    apply Nat.eq_of_testBit_eq
    intro i
    rw [Nat.testBit_and, Nat.testBit_or, test_pow, test_pow, Nat.zero_testBit]
    by_cases c1 : a = i
    · subst c1; simp [h1]
    · by_cases c2 : b = i
      · subst c2; simp [h2]
      · simp [c1, c2]
theorem andn_ends {R a b : Nat} : andn (2 ^ a ||| 2 ^ b) R = 0 ↔ R.testBit a = true ∧ R.testBit b = true := by
  constructor
  · intro h
    have h1 := congrArg (fun z => z.testBit a) h
    have h2 := congrArg (fun z => z.testBit b) h
    simp only [andn_test, Nat.testBit_or, test_pow, Nat.zero_testBit] at h1 h2
    simp at h1 h2
    exact ⟨h1, h2⟩
  · rintro ⟨h1, h2⟩
    apply Nat.eq_of_testBit_eq
    intro i
    rw [andn_test, Nat.testBit_or, test_pow, test_pow, Nat.zero_testBit]
    by_cases c1 : a = i
    · subst c1; simp [h1]
    · by_cases c2 : b = i
      · subst c2; simp [h2]
      · simp [c1, c2]
theorem andn_zero {a b : Nat} : andn a b = 0 ↔ ∀ i, a.testBit i = true → b.testBit i = true := by
  constructor
  · intro h i hi; exact sub_of_andn h hi
  · intro h
    apply Nat.eq_of_testBit_eq
    intro i
    rw [andn_test, Nat.zero_testBit]
    cases ha : a.testBit i
    · rfl
    · rw [h i ha]; rfl
theorem or_ends_test {R a b i : Nat} : (R ||| (2 ^ a ||| 2 ^ b)).testBit i = (R.testBit i || decide (a = i) || decide (b = i)) := by
  rw [Nat.testBit_or, Nat.testBit_or, test_pow, test_pow, Bool.or_assoc]
theorem or_lt8 {R a b n : Nat} (h : R < 2 ^ n) (ha : a < n) (hb : b < n) : R ||| (2 ^ a ||| 2 ^ b) < 2 ^ n := Nat.or_lt_two_pow h (Nat.or_lt_two_pow (Nat.pow_lt_pow_right (by decide) ha) (Nat.pow_lt_pow_right (by decide) hb))
theorem k_joins (σ : Mem) (P n nr nb nl w wt : Nat) (f t : Nat → Nat) (hPO : PlanOk σ P n nr nb nl f t) (hPI : PlIs σ P) (hBt : Bits σ w wt) (S T a : Nat) (hS : S < 4096) (hT : T < 2 ^ n) (ha : lowb (T : Nat) = (2 ^ a : Nat)) (ha2 : T.testBit a = true) : Con yX7_joins cX7_joins 8 (some .boolean) 1 21 [.ref 0, .int (iI S), .int (iI T)] σ (AnsI (bC (∀ p, T.testBit p = true → Rch f t nr S a p)) σ) := by
  refine con_of (by decide) rfl (Nat.le_of_ble_eq_true rfl) (ok_Z rfl (bC_01 _)) ?_
  refine ev_w (fun hR => ?_)
  have hR0 := hR
  obtain ⟨hPR, ⟨hnb, hnb4⟩, ⟨hnl, hnl4⟩, hpo, hro, hbo, hlo⟩ := id hPO
  obtain ⟨hP, hn, hn8, hnr, hnr12, hft⟩ := id hPR
  obtain ⟨hw, hw2, hwt, hwt2⟩ := id hBt
  have hpl := hPI.q
  have h2n : 2 ^ n ≤ 2 ^ 8 := Nat.pow_le_pow_right (by decide) hn8
  have han := lt_of_test ha2 hT
  have fin : ∀ R : Nat, R < 2 ^ n → R.testBit a = true → (∀ p, R.testBit p = true → Rch f t nr S a p) → (∀ r, r < nr → S.testBit r = true → R.testBit (f r) = R.testBit (t r)) → (andn T R = 0 ↔ (∀ p, T.testBit p = true → Rch f t nr S a p)) := by
    intro R hR1 hRa hRr hcl
    rw [andn_zero]
    constructor
    · intro h p hp; exact hRr p (h p hp)
    · intro h p hp
      exact h p hp (fun p => R.testBit p = true) hRa (fun r hr hs => by rw [hcl r hr hs])
  have loop : ∀ i : Nat, i ≤ 8 → ∀ (R : Nat) (g : Int) (w6 w7 : Option Value), R < 2 ^ n → R.testBit a = true → (∀ p, R.testBit p = true → Rch f t nr S a p) → ((g = 0 ∧ (∀ r, r < nr → S.testBit r = true → R.testBit (f r) = R.testBit (t r))) ∨ (g = 1 ∧ i + 1 ≤ cnt R.testBit 8)) → Ev RX7 cX7_joins 8 1 21 (AnsI (bC (∀ p, T.testBit p = true → Rch f t nr S a p)) σ) 11 [some (.ref 0), some (.int (iI S)), some (.int (iI T)), some (.int (iI (R : Nat))), some (.int (iI g)), some (.int (iI (i : Nat))), w6, w7] [] σ := by
    refine for_up 8 (fun i hi ih R g w6 w7 hR1 hRa hRr hg => ?_)
    refine ev_w (fun hR => ?_)
    have inner : i < 8 → i + 1 ≤ cnt R.testBit 8 → ∀ r : Nat, r ≤ nr → ∀ (R2 : Nat) (g2 : Int) (w7 : Option Value), R2 < 2 ^ n → R2.testBit a = true → (∀ p, R2.testBit p = true → Rch f t nr S a p) → (∀ p, R.testBit p = true → R2.testBit p = true) → ((g2 = 0 ∧ R2 = R ∧ (∀ k, k < r → S.testBit k = true → R.testBit (f k) = R.testBit (t k))) ∨ (g2 = 1 ∧ cnt R.testBit 8 + 1 ≤ cnt R2.testBit 8)) → Ev RX7 cX7_joins 8 1 21 (AnsI (bC (∀ p, T.testBit p = true → Rch f t nr S a p)) σ) 29 [some (.ref 0), some (.int (iI S)), some (.int (iI T)), some (.int (iI (R2 : Nat))), some (.int (iI g2)), some (.int (iI (i : Nat))), some (.int (iI (r : Nat))), w7] [] σ := by
      intro hi8 hcn
      refine for_up nr (fun r hr ihr R2 g2 w7 h1 h2 h3 h4 hg2 => ?_)
      refine ev_w (fun hR => ?_)
      have hg01 : inR g2 := by rcases hg2 with ⟨e, -⟩ | ⟨e, -⟩ <;> rw [e] <;> decide
      refine ev_iload dX7_joins_29 rfl ?_
      refine ev_aload_n dX7_joins_31 rfl ?_
      refine ev_getQ (r := P) dX7_joins_32 fl_X7_19 rfl rfl hpl ?_
      refine ev_getI (kz := 1) dX7_joins_35 fl_X7_98 (plO hP) rfl rfl ?_
      rw [hnr]
      refine ev_icmp_ge (tgt := 95) dX7_joins_38 (by decide) (by first | exact hR.1 _ _ | exact hR0.1 _ _ | assumption | exact ⟨by omega, by omega⟩ | exact ⟨by simp [wr_at]; omega, by simp [wr_at]; omega⟩ | exact b2_R _ | exact band_R _ _ | exact bor_R _ _ | exact bshl_R _ _ | exact bshr_R _ _ | exact bxor_R _ _ | exact bs_R (by omega) | decide) (by first | exact hR.1 _ _ | exact hR0.1 _ _ | assumption | exact ⟨by omega, by omega⟩ | exact ⟨by simp [wr_at]; omega, by simp [wr_at]; omega⟩ | exact b2_R _ | exact band_R _ _ | exact bor_R _ _ | exact bshl_R _ _ | exact bshr_R _ _ | exact bxor_R _ _ | exact bs_R (by omega) | decide) (fun h_38 => ?_) (fun h_38 => ?_)
      · refine ev_iinc dX7_joins_95 rfl rfl (by decide) rfl ?_
        refine ev_goto (tgt := 11) dX7_joins_98 (by decide) ?_
        obtain rfl : r = nr := by omega
        refine ih (by omega) R2 g2 _ _ h1 h2 h3 ?_
        rcases hg2 with ⟨e1, e2, e3⟩ | ⟨e1, e2⟩
        · subst e2; exact Or.inl ⟨e1, e3⟩
        · exact Or.inr ⟨e1, by omega⟩
      · refine ev_iload_n dX7_joins_41 rfl ?_
        refine ev_iload dX7_joins_42 rfl ?_
        refine ev_callSI dX7_joins_44 ks_X7_237 (k_has σ S r (by omega) (by omega)) rfl rfl ⟨by decide, by decide⟩ (Nat.le_of_ble_eq_true rfl) ?_
        refine ev_w (fun hR => ?_)
        refine ev_if_eq (tgt := 62) dX7_joins_47 (by decide) (by first | exact hR.1 _ _ | exact hR0.1 _ _ | assumption | exact ⟨by omega, by omega⟩ | exact ⟨by simp [wr_at]; omega, by simp [wr_at]; omega⟩ | exact b2_R _ | exact band_R _ _ | exact bor_R _ _ | exact bshl_R _ _ | exact bshr_R _ _ | exact bxor_R _ _ | exact bs_R (by omega) | decide) (fun h_47 => ?_) (fun h_47 => ?_)
        · refine ev_iconst dX7_joins_62 ?_
          refine ev_istore dX7_joins_63 rfl (by decide) rfl ?_
          refine ev_iload dX7_joins_65 rfl ?_
          refine ev_iload_n dX7_joins_67 rfl ?_
          refine ev_iand dX7_joins_68 ?_
          first
            | rw [band_nat _ _ (by omega)]
            | rw [show band 0 (R2 : Int) = 0 from (by have := band_nat 0 R2 (by omega); rw [Nat.zero_and] at this; exact this)]
          refine ev_if_eq (tgt := 89) dX7_joins_69 (by decide) (by first | decide | (have := Nat.and_le_left (n := 2 ^ f r ||| 2 ^ t r) (m := R2); exact ⟨by omega, by omega⟩)) (fun h_69 => ?_) (fun h_69 => ?_)
          · refine ev_iinc dX7_joins_89 rfl rfl (by decide) rfl ?_
            refine ev_goto (tgt := 29) dX7_joins_92 (by decide) ?_
            first
              | (have q1 := b2_ne h_47
                 refine ihr (by omega) _ _ _ (or_lt8 h1 hf8 ht8) ?_ ?_ ?_ (Or.inr ⟨rfl, ?_⟩)
                 · rw [or_ends_test, h2]; rfl
                 · intro p hp X hX hXr
                   rw [or_ends_test] at hp
                   have q2 : R2.testBit (f r) = true ∨ R2.testBit (t r) = true := by
                     cases c1 : R2.testBit (f r)
                     · cases c2 : R2.testBit (t r)
                       · exact absurd (and_ends.mpr ⟨c1, c2⟩) (by omega)
                       · exact Or.inr rfl
                     · exact Or.inl rfl
                   have e := hXr r (by omega) q1
                   have both : X (f r) ∧ X (t r) := by
                     rcases q2 with c | c
                     · have := h3 _ c X hX hXr
                       exact ⟨this, e.mp this⟩
                     · have := h3 _ c X hX hXr
                       exact ⟨e.mpr this, this⟩
                   simp only [Bool.or_eq_true, decide_eq_true_eq] at hp
                   rcases hp with (hp | hp) | hp
                   · exact h3 p hp X hX hXr
                   · rw [← hp]; exact both.1
                   · rw [← hp]; exact both.2
                 · intro p hp
                   rw [or_ends_test, h4 p hp]; rfl
                 · have q3 : ∃ j, j < 8 ∧ R2.testBit j = false ∧ (R2 ||| (2 ^ f r ||| 2 ^ t r)).testBit j = true := by
                     cases c1 : R2.testBit (f r)
                     · exact ⟨f r, by omega, c1, by rw [or_ends_test]; simp⟩
                     · cases c2 : R2.testBit (t r)
                       · exact ⟨t r, by omega, c2, by rw [or_ends_test]; simp⟩
                       · exact absurd (andn_ends.mpr ⟨c1, c2⟩) (by omega)
                   obtain ⟨j, hj1, hj2, hj3⟩ := q3
                   have m1 := cnt_more (n := 8) hj1 hj2 hj3 (fun k _ hk => by rw [or_ends_test, hk]; rfl)
                   have m2 := cnt_mono (p := R.testBit) (q := R2.testBit) (n := 8) (fun k _ hk => h4 k hk)
                   omega)
              | (refine ihr (by omega) _ _ _ h1 h2 h3 h4 ?_
                 rcases hg2 with ⟨e1, e2, e3⟩ | hg2
                 · refine Or.inl ⟨e1, e2, fun k hk hs => ?_⟩
                   by_cases ek : k = r
                   · subst ek
                     subst e2
                     first
                       | exact absurd hs (b2_eq h_47)
                       | (have q := and_ends.mp (show (2 ^ f k ||| 2 ^ t k) &&& R2 = 0 by omega); rw [q.1, q.2])
                       | (have q := andn_ends.mp (show andn (2 ^ f k ||| 2 ^ t k) R2 = 0 by omega); rw [q.1, q.2])
                   · exact e3 k (by omega) hs
                 · exact Or.inr hg2)
          · first
              | exact absurd rfl h_69
              | (refine ev_iload dX7_joins_72 rfl ?_
                 refine ev_iload_n dX7_joins_74 rfl ?_
                 refine ev_iconst dX7_joins_75 ?_
                 refine ev_ixor dX7_joins_76 ?_
                 refine ev_iand dX7_joins_77 ?_
                 rw [band_not _ _ (by omega)]
                 refine ev_if_eq (tgt := 89) dX7_joins_78 (by decide) (by have := andn_le (2 ^ f r ||| 2 ^ t r) R2; exact ⟨by omega, by omega⟩) (fun h_78 => ?_) (fun h_78 => ?_)
                 · refine ev_iinc dX7_joins_89 rfl rfl (by decide) rfl ?_
                   refine ev_goto (tgt := 29) dX7_joins_92 (by decide) ?_
                   first
                     | (have q1 := b2_ne h_47
                        refine ihr (by omega) _ _ _ (or_lt8 h1 hf8 ht8) ?_ ?_ ?_ (Or.inr ⟨rfl, ?_⟩)
                        · rw [or_ends_test, h2]; rfl
                        · intro p hp X hX hXr
                          rw [or_ends_test] at hp
                          have q2 : R2.testBit (f r) = true ∨ R2.testBit (t r) = true := by
                            cases c1 : R2.testBit (f r)
                            · cases c2 : R2.testBit (t r)
                              · exact absurd (and_ends.mpr ⟨c1, c2⟩) (by omega)
                              · exact Or.inr rfl
                            · exact Or.inl rfl
                          have e := hXr r (by omega) q1
                          have both : X (f r) ∧ X (t r) := by
                            rcases q2 with c | c
                            · have := h3 _ c X hX hXr
                              exact ⟨this, e.mp this⟩
                            · have := h3 _ c X hX hXr
                              exact ⟨e.mpr this, this⟩
                          simp only [Bool.or_eq_true, decide_eq_true_eq] at hp
                          rcases hp with (hp | hp) | hp
                          · exact h3 p hp X hX hXr
                          · rw [← hp]; exact both.1
                          · rw [← hp]; exact both.2
                        · intro p hp
                          rw [or_ends_test, h4 p hp]; rfl
                        · have q3 : ∃ j, j < 8 ∧ R2.testBit j = false ∧ (R2 ||| (2 ^ f r ||| 2 ^ t r)).testBit j = true := by
                            cases c1 : R2.testBit (f r)
                            · exact ⟨f r, by omega, c1, by rw [or_ends_test]; simp⟩
                            · cases c2 : R2.testBit (t r)
                              · exact ⟨t r, by omega, c2, by rw [or_ends_test]; simp⟩
                              · exact absurd (andn_ends.mpr ⟨c1, c2⟩) (by omega)
                          obtain ⟨j, hj1, hj2, hj3⟩ := q3
                          have m1 := cnt_more (n := 8) hj1 hj2 hj3 (fun k _ hk => by rw [or_ends_test, hk]; rfl)
                          have m2 := cnt_mono (p := R.testBit) (q := R2.testBit) (n := 8) (fun k _ hk => h4 k hk)
                          omega)
                     | (refine ihr (by omega) _ _ _ h1 h2 h3 h4 ?_
                        rcases hg2 with ⟨e1, e2, e3⟩ | hg2
                        · refine Or.inl ⟨e1, e2, fun k hk hs => ?_⟩
                          by_cases ek : k = r
                          · subst ek
                            subst e2
                            first
                              | exact absurd hs (b2_eq h_47)
                              | (have q := and_ends.mp (show (2 ^ f k ||| 2 ^ t k) &&& R2 = 0 by omega); rw [q.1, q.2])
                              | (have q := andn_ends.mp (show andn (2 ^ f k ||| 2 ^ t k) R2 = 0 by omega); rw [q.1, q.2])
                          · exact e3 k (by omega) hs
                        · exact Or.inr hg2)
                 · refine ev_iload_n dX7_joins_81 rfl ?_
                   refine ev_iload dX7_joins_82 rfl ?_
                   refine ev_ior dX7_joins_84 ?_
                   rw [bor_nat _ _ (by omega) (by omega)]
                   refine ev_istore_n dX7_joins_85 rfl (by decide) rfl ?_
                   refine ev_iconst dX7_joins_86 ?_
                   refine ev_istore dX7_joins_87 rfl (by decide) rfl ?_
                   refine ev_iinc dX7_joins_89 rfl rfl (by decide) rfl ?_
                   refine ev_goto (tgt := 29) dX7_joins_92 (by decide) ?_
                   first
                     | (have q1 := b2_ne h_47
                        refine ihr (by omega) _ _ _ (or_lt8 h1 hf8 ht8) ?_ ?_ ?_ (Or.inr ⟨rfl, ?_⟩)
                        · rw [or_ends_test, h2]; rfl
                        · intro p hp X hX hXr
                          rw [or_ends_test] at hp
                          have q2 : R2.testBit (f r) = true ∨ R2.testBit (t r) = true := by
                            cases c1 : R2.testBit (f r)
                            · cases c2 : R2.testBit (t r)
                              · exact absurd (and_ends.mpr ⟨c1, c2⟩) (by omega)
                              · exact Or.inr rfl
                            · exact Or.inl rfl
                          have e := hXr r (by omega) q1
                          have both : X (f r) ∧ X (t r) := by
                            rcases q2 with c | c
                            · have := h3 _ c X hX hXr
                              exact ⟨this, e.mp this⟩
                            · have := h3 _ c X hX hXr
                              exact ⟨e.mpr this, this⟩
                          simp only [Bool.or_eq_true, decide_eq_true_eq] at hp
                          rcases hp with (hp | hp) | hp
                          · exact h3 p hp X hX hXr
                          · rw [← hp]; exact both.1
                          · rw [← hp]; exact both.2
                        · intro p hp
                          rw [or_ends_test, h4 p hp]; rfl
                        · have q3 : ∃ j, j < 8 ∧ R2.testBit j = false ∧ (R2 ||| (2 ^ f r ||| 2 ^ t r)).testBit j = true := by
                            cases c1 : R2.testBit (f r)
                            · exact ⟨f r, by omega, c1, by rw [or_ends_test]; simp⟩
                            · cases c2 : R2.testBit (t r)
                              · exact ⟨t r, by omega, c2, by rw [or_ends_test]; simp⟩
                              · exact absurd (andn_ends.mpr ⟨c1, c2⟩) (by omega)
                          obtain ⟨j, hj1, hj2, hj3⟩ := q3
                          have m1 := cnt_more (n := 8) hj1 hj2 hj3 (fun k _ hk => by rw [or_ends_test, hk]; rfl)
                          have m2 := cnt_mono (p := R.testBit) (q := R2.testBit) (n := 8) (fun k _ hk => h4 k hk)
                          omega)
                     | (refine ihr (by omega) _ _ _ h1 h2 h3 h4 ?_
                        rcases hg2 with ⟨e1, e2, e3⟩ | hg2
                        · refine Or.inl ⟨e1, e2, fun k hk hs => ?_⟩
                          by_cases ek : k = r
                          · subst ek
                            subst e2
                            first
                              | exact absurd hs (b2_eq h_47)
                              | (have q := and_ends.mp (show (2 ^ f k ||| 2 ^ t k) &&& R2 = 0 by omega); rw [q.1, q.2])
                              | (have q := andn_ends.mp (show andn (2 ^ f k ||| 2 ^ t k) R2 = 0 by omega); rw [q.1, q.2])
                          · exact e3 k (by omega) hs
                        · exact Or.inr hg2))
        · obtain ⟨hfr, htr, hf8, ht8, -⟩ := hft r (by omega)
          have hpf : 2 ^ f r < 2 ^ 8 := Nat.pow_lt_pow_right (by decide) (by omega)
          have hpt : 2 ^ t r < 2 ^ 8 := Nat.pow_lt_pow_right (by decide) (by omega)
          have hor : 2 ^ f r ||| 2 ^ t r < 2 ^ 8 := Nat.or_lt_two_pow hpf hpt
          refine ev_aload_n dX7_joins_50 rfl ?_
          refine ev_getQ (r := P) dX7_joins_51 fl_X7_19 rfl rfl hpl ?_
          refine ev_iload dX7_joins_54 rfl ?_
          refine ev_callVI dX7_joins_56 kv_X7_382 (k_endsOf σ P (f r) (t r) r hP (by omega) (by omega) hfr htr (by omega) (by omega)) rfl (plO hP) (ci := 2) rfl rfl ⟨by decide, by decide⟩ (Nat.le_of_ble_eq_true rfl) ?_
          refine ev_w (fun hR => ?_)
          refine ev_goto (tgt := 63) dX7_joins_59 (by decide) ?_
          refine ev_istore dX7_joins_63 rfl (by decide) rfl ?_
          refine ev_iload dX7_joins_65 rfl ?_
          refine ev_iload_n dX7_joins_67 rfl ?_
          refine ev_iand dX7_joins_68 ?_
          first
            | rw [band_nat _ _ (by omega)]
            | rw [show band 0 (R2 : Int) = 0 from (by have := band_nat 0 R2 (by omega); rw [Nat.zero_and] at this; exact this)]
          refine ev_if_eq (tgt := 89) dX7_joins_69 (by decide) (by first | decide | (have := Nat.and_le_left (n := 2 ^ f r ||| 2 ^ t r) (m := R2); exact ⟨by omega, by omega⟩)) (fun h_69 => ?_) (fun h_69 => ?_)
          · refine ev_iinc dX7_joins_89 rfl rfl (by decide) rfl ?_
            refine ev_goto (tgt := 29) dX7_joins_92 (by decide) ?_
            first
              | (have q1 := b2_ne h_47
                 refine ihr (by omega) _ _ _ (or_lt8 h1 hf8 ht8) ?_ ?_ ?_ (Or.inr ⟨rfl, ?_⟩)
                 · rw [or_ends_test, h2]; rfl
                 · intro p hp X hX hXr
                   rw [or_ends_test] at hp
                   have q2 : R2.testBit (f r) = true ∨ R2.testBit (t r) = true := by
                     cases c1 : R2.testBit (f r)
                     · cases c2 : R2.testBit (t r)
                       · exact absurd (and_ends.mpr ⟨c1, c2⟩) (by omega)
                       · exact Or.inr rfl
                     · exact Or.inl rfl
                   have e := hXr r (by omega) q1
                   have both : X (f r) ∧ X (t r) := by
                     rcases q2 with c | c
                     · have := h3 _ c X hX hXr
                       exact ⟨this, e.mp this⟩
                     · have := h3 _ c X hX hXr
                       exact ⟨e.mpr this, this⟩
                   simp only [Bool.or_eq_true, decide_eq_true_eq] at hp
                   rcases hp with (hp | hp) | hp
                   · exact h3 p hp X hX hXr
                   · rw [← hp]; exact both.1
                   · rw [← hp]; exact both.2
                 · intro p hp
                   rw [or_ends_test, h4 p hp]; rfl
                 · have q3 : ∃ j, j < 8 ∧ R2.testBit j = false ∧ (R2 ||| (2 ^ f r ||| 2 ^ t r)).testBit j = true := by
                     cases c1 : R2.testBit (f r)
                     · exact ⟨f r, by omega, c1, by rw [or_ends_test]; simp⟩
                     · cases c2 : R2.testBit (t r)
                       · exact ⟨t r, by omega, c2, by rw [or_ends_test]; simp⟩
                       · exact absurd (andn_ends.mpr ⟨c1, c2⟩) (by omega)
                   obtain ⟨j, hj1, hj2, hj3⟩ := q3
                   have m1 := cnt_more (n := 8) hj1 hj2 hj3 (fun k _ hk => by rw [or_ends_test, hk]; rfl)
                   have m2 := cnt_mono (p := R.testBit) (q := R2.testBit) (n := 8) (fun k _ hk => h4 k hk)
                   omega)
              | (refine ihr (by omega) _ _ _ h1 h2 h3 h4 ?_
                 rcases hg2 with ⟨e1, e2, e3⟩ | hg2
                 · refine Or.inl ⟨e1, e2, fun k hk hs => ?_⟩
                   by_cases ek : k = r
                   · subst ek
                     subst e2
                     first
                       | exact absurd hs (b2_eq h_47)
                       | (have q := and_ends.mp (show (2 ^ f k ||| 2 ^ t k) &&& R2 = 0 by omega); rw [q.1, q.2])
                       | (have q := andn_ends.mp (show andn (2 ^ f k ||| 2 ^ t k) R2 = 0 by omega); rw [q.1, q.2])
                   · exact e3 k (by omega) hs
                 · exact Or.inr hg2)
          · first
              | exact absurd rfl h_69
              | (refine ev_iload dX7_joins_72 rfl ?_
                 refine ev_iload_n dX7_joins_74 rfl ?_
                 refine ev_iconst dX7_joins_75 ?_
                 refine ev_ixor dX7_joins_76 ?_
                 refine ev_iand dX7_joins_77 ?_
                 rw [band_not _ _ (by omega)]
                 refine ev_if_eq (tgt := 89) dX7_joins_78 (by decide) (by have := andn_le (2 ^ f r ||| 2 ^ t r) R2; exact ⟨by omega, by omega⟩) (fun h_78 => ?_) (fun h_78 => ?_)
                 · refine ev_iinc dX7_joins_89 rfl rfl (by decide) rfl ?_
                   refine ev_goto (tgt := 29) dX7_joins_92 (by decide) ?_
                   first
                     | (have q1 := b2_ne h_47
                        refine ihr (by omega) _ _ _ (or_lt8 h1 hf8 ht8) ?_ ?_ ?_ (Or.inr ⟨rfl, ?_⟩)
                        · rw [or_ends_test, h2]; rfl
                        · intro p hp X hX hXr
                          rw [or_ends_test] at hp
                          have q2 : R2.testBit (f r) = true ∨ R2.testBit (t r) = true := by
                            cases c1 : R2.testBit (f r)
                            · cases c2 : R2.testBit (t r)
                              · exact absurd (and_ends.mpr ⟨c1, c2⟩) (by omega)
                              · exact Or.inr rfl
                            · exact Or.inl rfl
                          have e := hXr r (by omega) q1
                          have both : X (f r) ∧ X (t r) := by
                            rcases q2 with c | c
                            · have := h3 _ c X hX hXr
                              exact ⟨this, e.mp this⟩
                            · have := h3 _ c X hX hXr
                              exact ⟨e.mpr this, this⟩
                          simp only [Bool.or_eq_true, decide_eq_true_eq] at hp
                          rcases hp with (hp | hp) | hp
                          · exact h3 p hp X hX hXr
                          · rw [← hp]; exact both.1
                          · rw [← hp]; exact both.2
                        · intro p hp
                          rw [or_ends_test, h4 p hp]; rfl
                        · have q3 : ∃ j, j < 8 ∧ R2.testBit j = false ∧ (R2 ||| (2 ^ f r ||| 2 ^ t r)).testBit j = true := by
                            cases c1 : R2.testBit (f r)
                            · exact ⟨f r, by omega, c1, by rw [or_ends_test]; simp⟩
                            · cases c2 : R2.testBit (t r)
                              · exact ⟨t r, by omega, c2, by rw [or_ends_test]; simp⟩
                              · exact absurd (andn_ends.mpr ⟨c1, c2⟩) (by omega)
                          obtain ⟨j, hj1, hj2, hj3⟩ := q3
                          have m1 := cnt_more (n := 8) hj1 hj2 hj3 (fun k _ hk => by rw [or_ends_test, hk]; rfl)
                          have m2 := cnt_mono (p := R.testBit) (q := R2.testBit) (n := 8) (fun k _ hk => h4 k hk)
                          omega)
                     | (refine ihr (by omega) _ _ _ h1 h2 h3 h4 ?_
                        rcases hg2 with ⟨e1, e2, e3⟩ | hg2
                        · refine Or.inl ⟨e1, e2, fun k hk hs => ?_⟩
                          by_cases ek : k = r
                          · subst ek
                            subst e2
                            first
                              | exact absurd hs (b2_eq h_47)
                              | (have q := and_ends.mp (show (2 ^ f k ||| 2 ^ t k) &&& R2 = 0 by omega); rw [q.1, q.2])
                              | (have q := andn_ends.mp (show andn (2 ^ f k ||| 2 ^ t k) R2 = 0 by omega); rw [q.1, q.2])
                          · exact e3 k (by omega) hs
                        · exact Or.inr hg2)
                 · refine ev_iload_n dX7_joins_81 rfl ?_
                   refine ev_iload dX7_joins_82 rfl ?_
                   refine ev_ior dX7_joins_84 ?_
                   rw [bor_nat _ _ (by omega) (by omega)]
                   refine ev_istore_n dX7_joins_85 rfl (by decide) rfl ?_
                   refine ev_iconst dX7_joins_86 ?_
                   refine ev_istore dX7_joins_87 rfl (by decide) rfl ?_
                   refine ev_iinc dX7_joins_89 rfl rfl (by decide) rfl ?_
                   refine ev_goto (tgt := 29) dX7_joins_92 (by decide) ?_
                   first
                     | (have q1 := b2_ne h_47
                        refine ihr (by omega) _ _ _ (or_lt8 h1 hf8 ht8) ?_ ?_ ?_ (Or.inr ⟨rfl, ?_⟩)
                        · rw [or_ends_test, h2]; rfl
                        · intro p hp X hX hXr
                          rw [or_ends_test] at hp
                          have q2 : R2.testBit (f r) = true ∨ R2.testBit (t r) = true := by
                            cases c1 : R2.testBit (f r)
                            · cases c2 : R2.testBit (t r)
                              · exact absurd (and_ends.mpr ⟨c1, c2⟩) (by omega)
                              · exact Or.inr rfl
                            · exact Or.inl rfl
                          have e := hXr r (by omega) q1
                          have both : X (f r) ∧ X (t r) := by
                            rcases q2 with c | c
                            · have := h3 _ c X hX hXr
                              exact ⟨this, e.mp this⟩
                            · have := h3 _ c X hX hXr
                              exact ⟨e.mpr this, this⟩
                          simp only [Bool.or_eq_true, decide_eq_true_eq] at hp
                          rcases hp with (hp | hp) | hp
                          · exact h3 p hp X hX hXr
                          · rw [← hp]; exact both.1
                          · rw [← hp]; exact both.2
                        · intro p hp
                          rw [or_ends_test, h4 p hp]; rfl
                        · have q3 : ∃ j, j < 8 ∧ R2.testBit j = false ∧ (R2 ||| (2 ^ f r ||| 2 ^ t r)).testBit j = true := by
                            cases c1 : R2.testBit (f r)
                            · exact ⟨f r, by omega, c1, by rw [or_ends_test]; simp⟩
                            · cases c2 : R2.testBit (t r)
                              · exact ⟨t r, by omega, c2, by rw [or_ends_test]; simp⟩
                              · exact absurd (andn_ends.mpr ⟨c1, c2⟩) (by omega)
                          obtain ⟨j, hj1, hj2, hj3⟩ := q3
                          have m1 := cnt_more (n := 8) hj1 hj2 hj3 (fun k _ hk => by rw [or_ends_test, hk]; rfl)
                          have m2 := cnt_mono (p := R.testBit) (q := R2.testBit) (n := 8) (fun k _ hk => h4 k hk)
                          omega)
                     | (refine ihr (by omega) _ _ _ h1 h2 h3 h4 ?_
                        rcases hg2 with ⟨e1, e2, e3⟩ | hg2
                        · refine Or.inl ⟨e1, e2, fun k hk hs => ?_⟩
                          by_cases ek : k = r
                          · subst ek
                            subst e2
                            first
                              | exact absurd hs (b2_eq h_47)
                              | (have q := and_ends.mp (show (2 ^ f k ||| 2 ^ t k) &&& R2 = 0 by omega); rw [q.1, q.2])
                              | (have q := andn_ends.mp (show andn (2 ^ f k ||| 2 ^ t k) R2 = 0 by omega); rw [q.1, q.2])
                          · exact e3 k (by omega) hs
                        · exact Or.inr hg2))
    refine ev_iload dX7_joins_11 rfl ?_
    refine ev_bipush dX7_joins_13 (by decide) ?_
    refine ev_icmp_ge (tgt := 101) dX7_joins_15 (by decide) (by first | exact hR.1 _ _ | exact hR0.1 _ _ | assumption | exact ⟨by omega, by omega⟩ | exact ⟨by simp [wr_at]; omega, by simp [wr_at]; omega⟩ | exact b2_R _ | exact band_R _ _ | exact bor_R _ _ | exact bshl_R _ _ | exact bshr_R _ _ | exact bxor_R _ _ | exact bs_R (by omega) | decide) (by first | exact hR.1 _ _ | exact hR0.1 _ _ | assumption | exact ⟨by omega, by omega⟩ | exact ⟨by simp [wr_at]; omega, by simp [wr_at]; omega⟩ | exact b2_R _ | exact band_R _ _ | exact bor_R _ _ | exact bshl_R _ _ | exact bshr_R _ _ | exact bxor_R _ _ | exact bs_R (by omega) | decide) (fun h_15 => ?_) (fun h_15 => ?_)
    · refine ev_iload_n dX7_joins_101 rfl ?_
      refine ev_iload_n dX7_joins_102 rfl ?_
      refine ev_iconst dX7_joins_103 ?_
      refine ev_ixor dX7_joins_104 ?_
      refine ev_iand dX7_joins_105 ?_
      have hcl : ∀ r, r < nr → S.testBit r = true → R.testBit (f r) = R.testBit (t r) := by
        rcases hg with ⟨-, e⟩ | ⟨e1, e2⟩
        · exact e
        · exfalso
          have := cnt_le R.testBit 8
          omega
      have hX := fin R hR1 hRa hRr hcl
      rw [band_not T R (by omega)]
      have hle := andn_le T R
      refine ev_if_ne (tgt := 113) dX7_joins_106 (by decide) (by first | exact hR.1 _ _ | exact hR0.1 _ _ | assumption | exact ⟨by omega, by omega⟩ | exact ⟨by simp [wr_at]; omega, by simp [wr_at]; omega⟩ | exact b2_R _ | exact band_R _ _ | exact bor_R _ _ | exact bshl_R _ _ | exact bshr_R _ _ | exact bxor_R _ _ | exact bs_R (by omega) | decide) (fun h_106 => ?_) (fun h_106 => ?_)
      · refine ev_iconst dX7_joins_113 ?_
        refine ev_ireturn dX7_joins_114 ?_
        first
          | (have q := hX.mp (by omega); exact ⟨by rw [bC_t q], rfl⟩)
          | (have q : ¬ (∀ p, T.testBit p = true → Rch f t nr S a p) := fun z => h_106 (by have := hX.mpr z; omega); exact ⟨by rw [bC_f q], rfl⟩)
      · refine ev_iconst dX7_joins_109 ?_
        refine ev_goto (tgt := 114) dX7_joins_110 (by decide) ?_
        refine ev_ireturn dX7_joins_114 ?_
        first
          | (have q := hX.mp (by omega); exact ⟨by rw [bC_t q], rfl⟩)
          | (have q : ¬ (∀ p, T.testBit p = true → Rch f t nr S a p) := fun z => h_106 (by have := hX.mpr z; omega); exact ⟨by rw [bC_f q], rfl⟩)
    · refine ev_iload dX7_joins_18 rfl ?_
      refine ev_if_eq (tgt := 101) dX7_joins_20 (by decide) (by rcases hg with ⟨e, -⟩ | ⟨e, -⟩ <;> rw [e] <;> decide) (fun h_20 => ?_) (fun h_20 => ?_)
      · refine ev_iload_n dX7_joins_101 rfl ?_
        refine ev_iload_n dX7_joins_102 rfl ?_
        refine ev_iconst dX7_joins_103 ?_
        refine ev_ixor dX7_joins_104 ?_
        refine ev_iand dX7_joins_105 ?_
        have hcl : ∀ r, r < nr → S.testBit r = true → R.testBit (f r) = R.testBit (t r) := by
          rcases hg with ⟨-, e⟩ | ⟨e1, e2⟩
          · exact e
          · exfalso
            have := cnt_le R.testBit 8
            omega
        have hX := fin R hR1 hRa hRr hcl
        rw [band_not T R (by omega)]
        have hle := andn_le T R
        refine ev_if_ne (tgt := 113) dX7_joins_106 (by decide) (by first | exact hR.1 _ _ | exact hR0.1 _ _ | assumption | exact ⟨by omega, by omega⟩ | exact ⟨by simp [wr_at]; omega, by simp [wr_at]; omega⟩ | exact b2_R _ | exact band_R _ _ | exact bor_R _ _ | exact bshl_R _ _ | exact bshr_R _ _ | exact bxor_R _ _ | exact bs_R (by omega) | decide) (fun h_106 => ?_) (fun h_106 => ?_)
        · refine ev_iconst dX7_joins_113 ?_
          refine ev_ireturn dX7_joins_114 ?_
          first
            | (have q := hX.mp (by omega); exact ⟨by rw [bC_t q], rfl⟩)
            | (have q : ¬ (∀ p, T.testBit p = true → Rch f t nr S a p) := fun z => h_106 (by have := hX.mpr z; omega); exact ⟨by rw [bC_f q], rfl⟩)
        · refine ev_iconst dX7_joins_109 ?_
          refine ev_goto (tgt := 114) dX7_joins_110 (by decide) ?_
          refine ev_ireturn dX7_joins_114 ?_
          first
            | (have q := hX.mp (by omega); exact ⟨by rw [bC_t q], rfl⟩)
            | (have q : ¬ (∀ p, T.testBit p = true → Rch f t nr S a p) := fun z => h_106 (by have := hX.mpr z; omega); exact ⟨by rw [bC_f q], rfl⟩)
      · refine ev_iconst dX7_joins_23 ?_
        refine ev_istore dX7_joins_24 rfl (by decide) rfl ?_
        refine ev_iconst dX7_joins_26 ?_
        refine ev_istore dX7_joins_27 rfl (by decide) rfl ?_
        have hcn : i + 1 ≤ cnt R.testBit 8 := by
          rcases hg with ⟨e, -⟩ | ⟨-, e⟩
          · omega
          · exact e
        exact inner (by omega) hcn 0 (by omega) R 0 _ hR1 hRa hRr (fun p hp => hp) (Or.inl ⟨rfl, rfl, fun k hk => by omega⟩)
  refine ev_iload_n dX7_joins_0 rfl ?_
  refine ev_callSI dX7_joins_1 ks_X7_379 (k_lowest σ T) rfl rfl ⟨by decide, by decide⟩ (Nat.le_of_ble_eq_true rfl) ?_
  refine ev_w (fun hR => ?_)
  rw [ha]
  refine ev_istore_n dX7_joins_4 rfl (by decide) rfl ?_
  refine ev_iconst dX7_joins_5 ?_
  refine ev_istore dX7_joins_6 rfl (by decide) rfl ?_
  refine ev_iconst dX7_joins_8 ?_
  refine ev_istore dX7_joins_9 rfl (by decide) rfl ?_
  refine loop 0 (by omega) (2 ^ a) 1 _ _ (Nat.pow_lt_pow_right (by decide) han) (by rw [test_pow]; simp) (fun p hp X hX _ => ?_) (Or.inr ⟨rfl, ?_⟩)
  · rw [test_pow] at hp
    have : a = p := by simpa using hp
    rw [← this]; exact hX
  · have := cnt_more (p := fun _ => false) (q := (2 ^ a).testBit) (n := 8) (i := a) (by omega) rfl (by rw [test_pow]; simp) (fun j _ h => by simp at h)
    omega
