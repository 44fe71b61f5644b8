/-- the reference's memory, but for its state -/
def MSame (μ ν : Mem) : Prop := (∀ c, ¬ (c = 79 ∨ (95 ≤ c ∧ c ≤ 106)) → ν.1 c = μ.1 c) ∧ (∀ k : Int, k ≠ 29 → k ≠ 30 → k ≠ 31 → k ≠ 34 → ν.1 79 k = μ.1 79 k) ∧ ν.2 = μ.2
theorem MSame.rf {μ : Mem} : MSame μ μ := ⟨fun _ _ => rfl, fun _ _ _ _ _ => rfl, rfl⟩
theorem MSame.tr {μ ν ρ : Mem} (h1 : MSame μ ν) (h2 : MSame ν ρ) : MSame μ ρ := ⟨fun c hc => (h2.1 c hc).trans (h1.1 c hc), fun k a b c d => (h2.2.1 k a b c d).trans (h1.2.1 k a b c d), h2.2.2.trans h1.2.2⟩
theorem MSame.wrc {μ ν : Mem} (h : MSame μ ν) {c : Nat} (k z : Int) (h1 : 95 ≤ c) (h2 : c ≤ 106) : MSame μ (wr ν c k z) := by
  refine ⟨fun c' hc' => ?_, fun k' a b d e => ?_, h.2.2⟩
  · rw [← h.1 c' hc']
    funext k'
    exact wr_nec ν (by omega)
  · rw [wr_nec ν (by omega)]
    exact h.2.1 k' a b d e
theorem MSame.wf {μ ν : Mem} (h : MSame μ ν) {k : Int} (z : Int) (hk : k = 29 ∨ k = 30 ∨ k = 31 ∨ k = 34) : MSame μ (wr ν 79 k z) := by
  refine ⟨fun c' hc' => ?_, fun k' a b d e => ?_, h.2.2⟩
  · rw [← h.1 c' hc']
    funext k'
    exact wr_nec ν (by omega)
  · rw [wr_nek ν (by omega)]
    exact h.2.1 k' a b d e
theorem MPl.same {μ ν σ : Mem} {P n nr nb nl : Nat} (h : MPl μ σ P n nr nb nl) (hs : MSame μ ν) : MPl ν σ P n nr nb nl := by
  obtain ⟨⟨a1, a2, a3, a4⟩, hp, hr, hb, hl⟩ := h
  have e : ∀ c, 80 ≤ c → c ≤ 94 → ν.1 c = μ.1 c := fun c h1 h2 => hs.1 c (by omega)
  have e2 : ∀ k : Int, k ≠ 29 → k ≠ 30 → k ≠ 31 → k ≠ 34 → ν.1 79 k = μ.1 79 k := hs.2.1
  refine ⟨⟨?_, ?_, ?_, ?_⟩, ?_, ?_, ?_, ?_⟩
  · rw [e2 _ (by decide) (by decide) (by decide) (by decide)]; exact a1
  · rw [e2 _ (by decide) (by decide) (by decide) (by decide)]; exact a2
  · rw [e2 _ (by decide) (by decide) (by decide) (by decide)]; exact a3
  · rw [e2 _ (by decide) (by decide) (by decide) (by decide)]; exact a4
  · rw [e 80 (by decide) (by decide), e 81 (by decide) (by decide), e 82 (by decide) (by decide)]; exact hp
  · rw [e 83 (by decide) (by decide), e 84 (by decide) (by decide), e 85 (by decide) (by decide), e 86 (by decide) (by decide)]; exact hr
  · rw [e 87 (by decide) (by decide), e 88 (by decide) (by decide), e 89 (by decide) (by decide)]; exact hb
  · rw [e 90 (by decide) (by decide), e 91 (by decide) (by decide), e 92 (by decide) (by decide), e 93 (by decide) (by decide), e 94 (by decide) (by decide)]; exact hl
/-- the plan's cells did not change -/
theorem MPl.to {μ σ τ : Mem} {P n nr nb nl : Nat} (h : MPl μ σ P n nr nb nl) (hs : ∀ k, k ≤ 16 → τ.1 (P + k) = σ.1 (P + k)) : MPl μ τ P n nr nb nl := by
  obtain ⟨a, hp, hr, hb, hl⟩ := h
  refine ⟨a, ?_, ?_, ?_, ?_⟩
  · rw [hs 1 (by decide), hs 2 (by decide), hs 3 (by decide)]; exact hp
  · rw [hs 5 (by decide), hs 6 (by decide), hs 7 (by decide), hs 8 (by decide)]; exact hr
  · rw [hs 9 (by decide), hs 10 (by decide), hs 11 (by decide)]; exact hb
  · rw [hs 12 (by decide), hs 13 (by decide), hs 14 (by decide), hs 15 (by decide), hs 16 (by decide)]; exact hl
theorem tB {x : Int} {w : Nat} (h : x = (w : Nat)) : x.toNat = w := by omega
theorem andn_bit (w r i : Nat) : (andn w (2 ^ r)).testBit i = (w.testBit i && !decide (r = i)) := by rw [andn_test, test_pow]
theorem or_bit (w r i : Nat) : (w ||| 2 ^ r).testBit i = (w.testBit i || decide (r = i)) := by rw [Nat.testBit_or, test_pow]
theorem MDy.go {μ σ : Mem} {nr nb nl : Nat} (h : MDy μ σ nr nb nl) {b : Nat} (hb0 : b < nb) {r to m : Int} (hr0 : r ≠ -1) : MDy (wr (wr (wr (wr μ 98 b (-1)) 99 b r) 100 b to) 101 b m) (wr (wr (wr σ 39 b to) 40 b r) 41 b m) nr nb nl := by
  obtain ⟨⟨a1, a2, a3, a4⟩, hr, hb, hl, hi⟩ := h
  unfold MDy StRel
  refine ⟨⟨?_, ?_, ?_, ?_⟩, fun r9 hr9 => ?_, fun b9 hb9 => ?_, fun l9 hl9 => ?_, fun i9 hi9 => ?_⟩
  · repeat rw [wr_at]
    repeat' (first | rw [if_pos (by omega)] | rw [if_neg (by omega)])
    exact a1
  · repeat rw [wr_at]
    repeat' (first | rw [if_pos (by omega)] | rw [if_neg (by omega)])
    exact a2
  · repeat rw [wr_at]
    repeat' (first | rw [if_pos (by omega)] | rw [if_neg (by omega)])
    exact a3
  · repeat rw [wr_at]
    repeat' (first | rw [if_pos (by omega)] | rw [if_neg (by omega)])
    exact a4
  · have z := hr r9 hr9
    refine ⟨?_, ?_, ?_⟩
    · repeat rw [wr_at]
      repeat' (first | rw [if_pos (by omega)] | rw [if_neg (by omega)])
      exact z.1
    · repeat rw [wr_at]
      repeat' (first | rw [if_pos (by omega)] | rw [if_neg (by omega)])
      exact z.2.1
    · repeat rw [wr_at]
      repeat' (first | rw [if_pos (by omega)] | rw [if_neg (by omega)])
      exact z.2.2
  · have z := hb b9 hb9
    by_cases e : b9 = b
    · subst e
      repeat rw [wr_at]
      repeat' (first | rw [if_pos (by omega)] | rw [if_neg (by omega)])
      exact ⟨rfl, rfl, fun q => absurd q hr0, fun _ => ⟨rfl, rfl⟩⟩
    · repeat rw [wr_at]
      repeat' (first | rw [if_pos (by omega)] | rw [if_neg (by omega)])
      exact z
  · have z := hl l9 hl9
    refine ⟨?_, ?_, ?_⟩
    · repeat rw [wr_at]
      repeat' (first | rw [if_pos (by omega)] | rw [if_neg (by omega)])
      exact z.1
    · repeat rw [wr_at]
      repeat' (first | rw [if_pos (by omega)] | rw [if_neg (by omega)])
      exact z.2.1
    · repeat rw [wr_at]
      repeat' (first | rw [if_pos (by omega)] | rw [if_neg (by omega)])
      exact z.2.2
  · have z := hi i9 (by
      have hi2 := hi9
      repeat rw [wr_at] at hi2
      repeat (first | rw [if_pos (by omega)] at hi2 | rw [if_neg (by omega)] at hi2)
      exact hi2)
    refine ⟨?_, ?_⟩
    · repeat rw [wr_at]
      repeat' (first | rw [if_pos (by omega)] | rw [if_neg (by omega)])
      exact z.1
    · repeat rw [wr_at]
      repeat' (first | rw [if_pos (by omega)] | rw [if_neg (by omega)])
      exact z.2
theorem MDy.load {μ σ : Mem} {nr nb nl : Nat} (h : MDy μ σ nr nb nl) (l : Nat) (p b : Int) : MDy (wr (wr μ 102 l p) 103 l b) (wr (wr σ 42 l p) 43 l b) nr nb nl := by
  obtain ⟨⟨a1, a2, a3, a4⟩, hr, hb, hl, hi⟩ := h
  unfold MDy StRel
  refine ⟨⟨?_, ?_, ?_, ?_⟩, fun r9 hr9 => ?_, fun b9 hb9 => ?_, fun l9 hl9 => ?_, fun i9 hi9 => ?_⟩
  · repeat rw [wr_at]
    repeat' (first | rw [if_pos (by omega)] | rw [if_neg (by omega)])
    exact a1
  · repeat rw [wr_at]
    repeat' (first | rw [if_pos (by omega)] | rw [if_neg (by omega)])
    exact a2
  · repeat rw [wr_at]
    repeat' (first | rw [if_pos (by omega)] | rw [if_neg (by omega)])
    exact a3
  · repeat rw [wr_at]
    repeat' (first | rw [if_pos (by omega)] | rw [if_neg (by omega)])
    exact a4
  · have z := hr r9 hr9
    refine ⟨?_, ?_, ?_⟩
    · repeat rw [wr_at]
      repeat' (first | rw [if_pos (by omega)] | rw [if_neg (by omega)])
      exact z.1
    · repeat rw [wr_at]
      repeat' (first | rw [if_pos (by omega)] | rw [if_neg (by omega)])
      exact z.2.1
    · repeat rw [wr_at]
      repeat' (first | rw [if_pos (by omega)] | rw [if_neg (by omega)])
      exact z.2.2
  · have z := hb b9 hb9
    repeat rw [wr_at]
    repeat' (first | rw [if_pos (by omega)] | rw [if_neg (by omega)])
    exact z
  · have z := hl l9 hl9
    by_cases e : l9 = l
    · subst e
      repeat rw [wr_at]
      repeat' (first | rw [if_pos (by omega)] | rw [if_neg (by omega)])
      exact ⟨rfl, rfl, z.2.2⟩
    · repeat rw [wr_at]
      repeat' (first | rw [if_pos (by omega)] | rw [if_neg (by omega)])
      exact z
  · have z := hi i9 (by
      have hi2 := hi9
      repeat rw [wr_at] at hi2
      repeat (first | rw [if_pos (by omega)] at hi2 | rw [if_neg (by omega)] at hi2)
      exact hi2)
    refine ⟨?_, ?_⟩
    · repeat rw [wr_at]
      repeat' (first | rw [if_pos (by omega)] | rw [if_neg (by omega)])
      exact z.1
    · repeat rw [wr_at]
      repeat' (first | rw [if_pos (by omega)] | rw [if_neg (by omega)])
      exact z.2
theorem MDy.cutS {μ σ : Mem} {nr nb nl : Nat} (h : MDy μ σ nr nb nl) (w r : Nat) (hw : σ.1 37 3 = w) : MDy (wr μ 97 r 1) (wr σ 37 3 (andn w (2 ^ r) : Nat)) nr nb nl := by
  obtain ⟨⟨a1, a2, a3, a4⟩, hr, hb, hl, hi⟩ := h
  unfold MDy StRel
  refine ⟨⟨?_, ?_, ?_, ?_⟩, fun r9 hr9 => ?_, fun b9 hb9 => ?_, fun l9 hl9 => ?_, fun i9 hi9 => ?_⟩
  · repeat rw [wr_at]
    repeat' (first | rw [if_pos (by omega)] | rw [if_neg (by omega)])
    exact a1
  · repeat rw [wr_at]
    repeat' (first | rw [if_pos (by omega)] | rw [if_neg (by omega)])
    exact a2
  · repeat rw [wr_at]
    repeat' (first | rw [if_pos (by omega)] | rw [if_neg (by omega)])
    exact a3
  · repeat rw [wr_at]
    repeat' (first | rw [if_pos (by omega)] | rw [if_neg (by omega)])
    exact a4
  · have z := hr r9 hr9
    refine ⟨?_, ?_, ?_⟩
    · repeat rw [wr_at]
      repeat' (first | rw [if_pos (by omega)] | rw [if_neg (by omega)])
      exact z.1
    · repeat rw [wr_at]
      repeat' (first | rw [if_pos (by omega)] | rw [if_neg (by omega)])
      exact z.2.1
    · by_cases e : r9 = r
      · subst e
        repeat rw [wr_at]
        repeat' (first | rw [if_pos (by omega)] | rw [if_neg (by omega)])
        rw [show (((andn w (2 ^ r9) : Nat) : Int)).toNat = andn w (2 ^ r9) from rfl, b2_t (by rw [andn_bit]; simp)]
      · repeat rw [wr_at]
        repeat' (first | rw [if_pos (by omega)] | rw [if_neg (by omega)])
        rw [show (((andn w (2 ^ r) : Nat) : Int)).toNat = andn w (2 ^ r) from rfl, b2_congr (show ((andn w (2 ^ r)).testBit r9 = false) ↔ (w.testBit r9 = false) by rw [andn_bit]; simp [Ne.symm e]), ← tB hw]
        exact z.2.2
  · have z := hb b9 hb9
    repeat rw [wr_at]
    repeat' (first | rw [if_pos (by omega)] | rw [if_neg (by omega)])
    exact z
  · have z := hl l9 hl9
    refine ⟨?_, ?_, ?_⟩
    · repeat rw [wr_at]
      repeat' (first | rw [if_pos (by omega)] | rw [if_neg (by omega)])
      exact z.1
    · repeat rw [wr_at]
      repeat' (first | rw [if_pos (by omega)] | rw [if_neg (by omega)])
      exact z.2.1
    · repeat rw [wr_at]
      repeat' (first | rw [if_pos (by omega)] | rw [if_neg (by omega)])
      exact z.2.2
  · have z := hi i9 (by
      have hi2 := hi9
      repeat rw [wr_at] at hi2
      repeat (first | rw [if_pos (by omega)] at hi2 | rw [if_neg (by omega)] at hi2)
      exact hi2)
    refine ⟨?_, ?_⟩
    · repeat rw [wr_at]
      repeat' (first | rw [if_pos (by omega)] | rw [if_neg (by omega)])
      exact z.1
    · repeat rw [wr_at]
      repeat' (first | rw [if_pos (by omega)] | rw [if_neg (by omega)])
      exact z.2
theorem MDy.spliceS {μ σ : Mem} {nr nb nl : Nat} (h : MDy μ σ nr nb nl) (w r : Nat) (hw : σ.1 37 3 = w) : MDy (wr (wr μ 97 r 0) 95 r 0) (wr (wr σ 37 3 (w ||| 2 ^ r : Nat)) 38 r 0) nr nb nl := by
  obtain ⟨⟨a1, a2, a3, a4⟩, hr, hb, hl, hi⟩ := h
  unfold MDy StRel
  refine ⟨⟨?_, ?_, ?_, ?_⟩, fun r9 hr9 => ?_, fun b9 hb9 => ?_, fun l9 hl9 => ?_, fun i9 hi9 => ?_⟩
  · repeat rw [wr_at]
    repeat' (first | rw [if_pos (by omega)] | rw [if_neg (by omega)])
    exact a1
  · repeat rw [wr_at]
    repeat' (first | rw [if_pos (by omega)] | rw [if_neg (by omega)])
    exact a2
  · repeat rw [wr_at]
    repeat' (first | rw [if_pos (by omega)] | rw [if_neg (by omega)])
    exact a3
  · repeat rw [wr_at]
    repeat' (first | rw [if_pos (by omega)] | rw [if_neg (by omega)])
    exact a4
  · have z := hr r9 hr9
    refine ⟨?_, ?_, ?_⟩
    · by_cases e : r9 = r
      · subst e
        repeat rw [wr_at]
        repeat' (first | rw [if_pos (by omega)] | rw [if_neg (by omega)])
        done
      · repeat rw [wr_at]
        repeat' (first | rw [if_pos (by omega)] | rw [if_neg (by omega)])
        exact z.1
    · repeat rw [wr_at]
      repeat' (first | rw [if_pos (by omega)] | rw [if_neg (by omega)])
      exact z.2.1
    · by_cases e : r9 = r
      · subst e
        repeat rw [wr_at]
        repeat' (first | rw [if_pos (by omega)] | rw [if_neg (by omega)])
        rw [show (((w ||| 2 ^ r9 : Nat) : Int)).toNat = w ||| 2 ^ r9 from rfl, b2_f (by rw [or_bit]; simp)]
      · repeat rw [wr_at]
        repeat' (first | rw [if_pos (by omega)] | rw [if_neg (by omega)])
        rw [show (((w ||| 2 ^ r : Nat) : Int)).toNat = w ||| 2 ^ r from rfl, b2_congr (show ((w ||| 2 ^ r).testBit r9 = false) ↔ (w.testBit r9 = false) by rw [or_bit]; simp [Ne.symm e]), ← tB hw]
        exact z.2.2
  · have z := hb b9 hb9
    repeat rw [wr_at]
    repeat' (first | rw [if_pos (by omega)] | rw [if_neg (by omega)])
    exact z
  · have z := hl l9 hl9
    refine ⟨?_, ?_, ?_⟩
    · repeat rw [wr_at]
      repeat' (first | rw [if_pos (by omega)] | rw [if_neg (by omega)])
      exact z.1
    · repeat rw [wr_at]
      repeat' (first | rw [if_pos (by omega)] | rw [if_neg (by omega)])
      exact z.2.1
    · repeat rw [wr_at]
      repeat' (first | rw [if_pos (by omega)] | rw [if_neg (by omega)])
      exact z.2.2
  · have z := hi i9 (by
      have hi2 := hi9
      repeat rw [wr_at] at hi2
      repeat (first | rw [if_pos (by omega)] at hi2 | rw [if_neg (by omega)] at hi2)
      exact hi2)
    refine ⟨?_, ?_⟩
    · repeat rw [wr_at]
      repeat' (first | rw [if_pos (by omega)] | rw [if_neg (by omega)])
      exact z.1
    · repeat rw [wr_at]
      repeat' (first | rw [if_pos (by omega)] | rw [if_neg (by omega)])
      exact z.2
theorem MDy.wetS {μ σ : Mem} {nr nb nl : Nat} (h : MDy μ σ nr nb nl) (w r : Nat) (hw : σ.1 37 4 = w) (x : Int) (hx : x = 0 ∨ x = 1) : MDy (wr μ 96 r x) (wetM σ r w x) nr nb nl := by
  obtain ⟨⟨a1, a2, a3, a4⟩, hr, hb, hl, hi⟩ := h
  unfold MDy StRel
  unfold wetM
  refine ⟨⟨?_, ?_, ?_, ?_⟩, fun r9 hr9 => ?_, fun b9 hb9 => ?_, fun l9 hl9 => ?_, fun i9 hi9 => ?_⟩
  · repeat rw [wr_at]
    repeat' (first | rw [if_pos (by omega)] | rw [if_neg (by omega)])
    exact a1
  · repeat rw [wr_at]
    repeat' (first | rw [if_pos (by omega)] | rw [if_neg (by omega)])
    exact a2
  · repeat rw [wr_at]
    repeat' (first | rw [if_pos (by omega)] | rw [if_neg (by omega)])
    exact a3
  · repeat rw [wr_at]
    repeat' (first | rw [if_pos (by omega)] | rw [if_neg (by omega)])
    exact a4
  · have z := hr r9 hr9
    refine ⟨?_, ?_, ?_⟩
    · repeat rw [wr_at]
      repeat' (first | rw [if_pos (by omega)] | rw [if_neg (by omega)])
      exact z.1
    · rcases hx with rfl | rfl
      · rw [if_pos rfl]
        by_cases e : r9 = r
        · subst e
          repeat rw [wr_at]
          repeat' (first | rw [if_pos (by omega)] | rw [if_neg (by omega)])
          rw [show (((andn w (2 ^ r9) : Nat) : Int)).toNat = andn w (2 ^ r9) from rfl, b2_f (by rw [andn_bit]; simp)]
        · repeat rw [wr_at]
          repeat' (first | rw [if_pos (by omega)] | rw [if_neg (by omega)])
          rw [show (((andn w (2 ^ r) : Nat) : Int)).toNat = andn w (2 ^ r) from rfl, b2_congr (show ((andn w (2 ^ r)).testBit r9 = true) ↔ (w.testBit r9 = true) by rw [andn_bit]; simp [Ne.symm e]), ← tB hw]
          exact z.2.1
      · rw [if_neg (by decide)]
        by_cases e : r9 = r
        · subst e
          repeat rw [wr_at]
          repeat' (first | rw [if_pos (by omega)] | rw [if_neg (by omega)])
          rw [show (((w ||| 2 ^ r9 : Nat) : Int)).toNat = w ||| 2 ^ r9 from rfl, b2_t (by rw [or_bit]; simp)]
        · repeat rw [wr_at]
          repeat' (first | rw [if_pos (by omega)] | rw [if_neg (by omega)])
          rw [show (((w ||| 2 ^ r : Nat) : Int)).toNat = w ||| 2 ^ r from rfl, b2_congr (show ((w ||| 2 ^ r).testBit r9 = true) ↔ (w.testBit r9 = true) by rw [or_bit]; simp [Ne.symm e]), ← tB hw]
          exact z.2.1
    · repeat rw [wr_at]
      repeat' (first | rw [if_pos (by omega)] | rw [if_neg (by omega)])
      exact z.2.2
  · have z := hb b9 hb9
    repeat rw [wr_at]
    repeat' (first | rw [if_pos (by omega)] | rw [if_neg (by omega)])
    exact z
  · have z := hl l9 hl9
    refine ⟨?_, ?_, ?_⟩
    · repeat rw [wr_at]
      repeat' (first | rw [if_pos (by omega)] | rw [if_neg (by omega)])
      exact z.1
    · repeat rw [wr_at]
      repeat' (first | rw [if_pos (by omega)] | rw [if_neg (by omega)])
      exact z.2.1
    · repeat rw [wr_at]
      repeat' (first | rw [if_pos (by omega)] | rw [if_neg (by omega)])
      exact z.2.2
  · have z := hi i9 (by
      have hi2 := hi9
      repeat rw [wr_at] at hi2
      repeat (first | rw [if_pos (by omega)] at hi2 | rw [if_neg (by omega)] at hi2)
      exact hi2)
    refine ⟨?_, ?_⟩
    · repeat rw [wr_at]
      repeat' (first | rw [if_pos (by omega)] | rw [if_neg (by omega)])
      exact z.1
    · repeat rw [wr_at]
      repeat' (first | rw [if_pos (by omega)] | rw [if_neg (by omega)])
      exact z.2
theorem MDy.seedS {μ σ : Mem} {nr nb nl : Nat} (h : MDy μ σ nr nb nl) (z0 : Int) : MDy (wr μ 79 34 z0) (wr σ 37 2 z0) nr nb nl := by
  obtain ⟨⟨a1, a2, a3, a4⟩, hr, hb, hl, hi⟩ := h
  unfold MDy StRel
  refine ⟨⟨?_, ?_, ?_, ?_⟩, fun r9 hr9 => ?_, fun b9 hb9 => ?_, fun l9 hl9 => ?_, fun i9 hi9 => ?_⟩
  · repeat rw [wr_at]
    repeat' (first | rw [if_pos (by omega)] | rw [if_neg (by omega)])
    exact a1
  · repeat rw [wr_at]
    repeat' (first | rw [if_pos (by omega)] | rw [if_neg (by omega)])
    exact a2
  · repeat rw [wr_at]
    repeat' (first | rw [if_pos (by omega)] | rw [if_neg (by omega)])
    exact a3
  · repeat rw [wr_at]
    repeat' (first | rw [if_pos (by omega)] | rw [if_neg (by omega)])
  · have z := hr r9 hr9
    refine ⟨?_, ?_, ?_⟩
    · repeat rw [wr_at]
      repeat' (first | rw [if_pos (by omega)] | rw [if_neg (by omega)])
      exact z.1
    · repeat rw [wr_at]
      repeat' (first | rw [if_pos (by omega)] | rw [if_neg (by omega)])
      exact z.2.1
    · repeat rw [wr_at]
      repeat' (first | rw [if_pos (by omega)] | rw [if_neg (by omega)])
      exact z.2.2
  · have z := hb b9 hb9
    repeat rw [wr_at]
    repeat' (first | rw [if_pos (by omega)] | rw [if_neg (by omega)])
    exact z
  · have z := hl l9 hl9
    refine ⟨?_, ?_, ?_⟩
    · repeat rw [wr_at]
      repeat' (first | rw [if_pos (by omega)] | rw [if_neg (by omega)])
      exact z.1
    · repeat rw [wr_at]
      repeat' (first | rw [if_pos (by omega)] | rw [if_neg (by omega)])
      exact z.2.1
    · repeat rw [wr_at]
      repeat' (first | rw [if_pos (by omega)] | rw [if_neg (by omega)])
      exact z.2.2
  · have z := hi i9 (by
      have hi2 := hi9
      repeat rw [wr_at] at hi2
      repeat (first | rw [if_pos (by omega)] at hi2 | rw [if_neg (by omega)] at hi2)
      exact hi2)
    refine ⟨?_, ?_⟩
    · repeat rw [wr_at]
      repeat' (first | rw [if_pos (by omega)] | rw [if_neg (by omega)])
      exact z.1
    · repeat rw [wr_at]
      repeat' (first | rw [if_pos (by omega)] | rw [if_neg (by omega)])
      exact z.2
