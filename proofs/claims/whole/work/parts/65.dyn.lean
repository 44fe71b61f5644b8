theorem ringM_at (σ : Mem) (r : Int) (c : Nat) (k : Int) : (ringM σ r).1 c k = if c = 37 ∧ k = 6 ∧ σ.1 37 6 < 200 then σ.1 37 6 + 1 else if c = 45 ∧ k = σ.1 37 6 ∧ σ.1 37 6 < 200 then r else if c = 44 ∧ k = σ.1 37 6 ∧ σ.1 37 6 < 200 then σ.1 37 0 else σ.1 c k := by
  unfold ringM
  by_cases h : σ.1 37 6 < 200
  · rw [if_pos h]
    simp only [wr_at, h, and_true]
  · rw [if_neg h]
    simp only [h, and_false, if_false]
theorem ringM_same {S : Nat → Prop} {σ τ : Mem} {r : Int} (h : Same S σ τ) (h37 : S 37) (h44 : S 44) (h45 : S 45) : Same S σ (ringM τ r) := by
  unfold ringM
  split
  · exact ((h.wr h44).wr h45).wr h37
  · exact h
theorem goM_same {σ : Mem} {b r to m : Int} : Same sN σ (goM σ b r to m) := by
  unfold goM
  have a : ∀ c, 37 ≤ c → c ≤ 45 → sN c := fun c h1 h2 => ⟨h1, h2⟩
  exact ringM_same (((Same.rf.wr (a 39 (by decide) (by decide))).wr (a 40 (by decide) (by decide))).wr (a 41 (by decide) (by decide))) (a 37 (by decide) (by decide)) (a 44 (by decide) (by decide)) (a 45 (by decide) (by decide))
theorem othE_P {a b p : Int} (h : othE a b p ≠ -1) : othE a b p = a ∨ othE a b p = b := by
  unfold othE at *
  by_cases h1 : a = p
  · rw [if_pos h1]; exact Or.inr rfl
  · rw [if_neg h1] at *
    by_cases h2 : b = p
    · rw [if_pos h2]; exact Or.inl rfl
    · rw [if_neg h2] at h; exact absurd rfl h
theorem minB_w {σ : Mem} {P nl w wt : Nat} {b r : Int} (h : minB σ P nl w wt b r ≠ -1) : w.testBit r.toNat = true := by
  unfold minB minZ at h
  by_cases q : w.testBit r.toNat = true
  · exact q
  · rw [if_neg (fun z => q z.1)] at h; exact absurd rfl h
theorem fstI_mem {f : Nat → Int} {r : Int} {n b : Nat} (hb : b < n) (h : fstI f r n = -1) : f b ≠ r := by
  induction n with
  | zero => omega
  | succ n ih =>
    rw [fstI] at h
    by_cases q : fstI f r n = -1
    · rw [if_pos q] at h
      by_cases e : b = n
      · subst e
        intro z
        rw [if_pos z] at h
        omega
      · exact ih (by omega) q
    · rw [if_neg q] at h; exact absurd h q

theorem LoadOk.keep {σ τ : Mem} {P n nb dv l : Nat} (h : LoadOk σ P n nb dv l) (h42 : τ.1 42 l = σ.1 42 l) (h43 : τ.1 43 l = σ.1 43 l) (hP : τ.1 (P + 13) l = σ.1 (P + 13) l) (hb : ∀ b : Nat, b < nb → τ.1 40 b = -1 → σ.1 40 b = -1 ∧ τ.1 39 b = σ.1 39 b) : LoadOk τ P n nb dv l := by
  unfold LoadOk at *
  rw [h42, h43, hP]
  rcases h with h | h | h
  · exact Or.inl h
  · exact Or.inr (Or.inl h)
  · refine Or.inr (Or.inr ⟨h.1, h.2.1, h.2.2.1, h.2.2.2.1, fun z => ?_⟩)
    obtain ⟨q, hq⟩ := Int.eq_ofNat_of_zero_le h.2.2.1
    rw [hq] at z ⊢
    have y := hb q (by omega) z
    rw [y.2]
    have := h.2.2.2.2
    rw [hq] at this
    exact this y.1
theorem go_ok {σ : Mem} {P n nr nb nl mb w wt dv : Nat} {f t : Nat → Nat} (hPO : PlanOk σ P n nr nb nl f t) (hDy : DynOk σ P n nr nb nl mb w wt dv) {b r : Nat} (hb : b < nb) (hr : r < nr) (h1 : fstI (fun i => σ.1 40 i) r nb = -1) {to m : Int} (ht0 : 0 ≤ to) (ht1 : to < n) (hm1 : 1 ≤ m) (hm2 : m ≤ 400) (hw : w.testBit r = true) : DynOk (goM σ b r to m) P n nr nb nl mb w wt dv := by
  have hP := hPO.1.1
  obtain ⟨k1, k2, k3, k4, k5, k6, k7, k8, k9, k10, k11⟩ := id hDy
  have at9 : ∀ (c : Nat) (k : Int), (goM σ b r to m).1 c k = if c = 37 ∧ k = 6 ∧ σ.1 37 6 < 200 then σ.1 37 6 + 1 else if c = 45 ∧ k = σ.1 37 6 ∧ σ.1 37 6 < 200 then r else if c = 44 ∧ k = σ.1 37 6 ∧ σ.1 37 6 < 200 then σ.1 37 0 else if c = 41 ∧ k = b then m else if c = 40 ∧ k = b then r else if c = 39 ∧ k = b then to else σ.1 c k := by
    intro c k
    unfold goM
    rw [ringM_at]
    simp only [wr_at]
    rfl
  have e37 : ∀ k : Int, k ≠ 6 → (goM σ b r to m).1 37 k = σ.1 37 k := fun k hk => by
    rw [at9]
    repeat' (first | rw [if_pos (by omega)] | rw [if_neg (by omega)])
  have eo : ∀ c, c ≠ 37 → c ≠ 45 → c ≠ 44 → c ≠ 41 → c ≠ 40 → c ≠ 39 → ∀ k, (goM σ b r to m).1 c k = σ.1 c k := fun c a1 a2 a3 a4 a5 a6 k => by
    rw [at9]
    repeat' (first | rw [if_pos (by omega)] | rw [if_neg (by omega)])
  unfold DynOk
  rw [e37 0 (by decide), e37 1 (by decide), e37 2 (by decide), e37 3 (by decide), e37 4 (by decide), e37 5 (by decide)]
  refine ⟨k1, k2, k3, k4, k5, k6, ?_, ?_, ?_, ?_, ?_⟩
  · rw [at9]
    by_cases q : σ.1 37 6 < 200
    · rw [if_pos ⟨rfl, rfl, q⟩]; omega
    · repeat' (first | rw [if_pos (by omega)] | rw [if_neg (by omega)])
      exact k7
  · intro r9 hr9
    rw [eo 38 (by decide) (by decide) (by decide) (by decide) (by decide) (by decide)]
    exact k8 r9 hr9
  · intro b9 hb9
    rw [at9, at9, at9]
    by_cases e : b9 = b
    · subst e
      repeat' (first | rw [if_pos (by omega)] | rw [if_neg (by omega)])
      exact ⟨⟨ht0, ht1⟩, Or.inr ⟨by omega, by omega, hm1, hm2, by simpa using hw⟩⟩
    · repeat' (first | rw [if_pos (by omega)] | rw [if_neg (by omega)])
      exact k9 b9 hb9
  · intro b9 c9 hb9 hc9
    rw [at9, at9]
    have z1 := fstI_mem hb9 h1
    have z2 := fstI_mem hc9 h1
    have z3 := k10 b9 c9 hb9 hc9
    by_cases e : b9 = b
    · by_cases e2 : c9 = b
      · intro _ _; omega
      · repeat' (first | rw [if_pos (by omega)] | rw [if_neg (by omega)])
        intro y; exact absurd y.symm z2
    · by_cases e2 : c9 = b
      · repeat' (first | rw [if_pos (by omega)] | rw [if_neg (by omega)])
        intro y; exact absurd y z1
      · repeat' (first | rw [if_pos (by omega)] | rw [if_neg (by omega)])
        exact z3
  · intro l9 hl9
    refine (k11 l9 hl9).keep (eo 42 (by decide) (by decide) (by decide) (by decide) (by decide) (by decide) _) (eo 43 (by decide) (by decide) (by decide) (by decide) (by decide) (by decide) _) (eo _ (by omega) (by omega) (by omega) (by omega) (by omega) (by omega) _) (fun b9 hb9 => ?_)
    rw [at9, at9]
    by_cases e : b9 = b
    · repeat' (first | rw [if_pos (by omega)] | rw [if_neg (by omega)])
      intro y; omega
    · repeat' (first | rw [if_pos (by omega)] | rw [if_neg (by omega)])
      intro y; exact ⟨y, rfl⟩
theorem load_ok {σ : Mem} {P n nr nb nl mb w wt dv : Nat} {f t : Nat → Nat} (hPO : PlanOk σ P n nr nb nl f t) (hDy : DynOk σ P n nr nb nl mb w wt dv) {l : Nat} {p b : Int} (hL : LoadOk (wr (wr σ 42 l p) 43 l b) P n nb dv l) : DynOk (wr (wr σ 42 l p) 43 l b) P n nr nb nl mb w wt dv := by
  have hP := hPO.1.1
  obtain ⟨k1, k2, k3, k4, k5, k6, k7, k8, k9, k10, k11⟩ := id hDy
  have eo : ∀ c, c ≠ 42 → c ≠ 43 → (wr (wr σ 42 l p) 43 l b).1 c = σ.1 c := fun c a1 a2 => funext fun k => by
    rw [wr_nec _ a2, wr_nec _ a1]
  unfold DynOk
  rw [eo 37 (by decide) (by decide), eo 38 (by decide) (by decide), eo 39 (by decide) (by decide), eo 40 (by decide) (by decide), eo 41 (by decide) (by decide)]
  refine ⟨k1, k2, k3, k4, k5, k6, k7, k8, k9, k10, fun l9 hl9 => ?_⟩
  by_cases e : l9 = l
  · subst e; exact hL
  · refine (k11 l9 hl9).keep (by rw [wr_nec _ (by decide), wr_nek _ (by omega)]) (by rw [wr_nek _ (by omega), wr_nec _ (by decide)]) (by rw [eo _ (by omega) (by omega)]) (fun b9 hb9 y => ?_)
    rw [eo 40 (by decide) (by decide)] at y
    rw [eo 39 (by decide) (by decide)]
    exact ⟨y, rfl⟩
theorem cut_ok {σ : Mem} {P n nr nb nl mb w wt dv : Nat} {f t : Nat → Nat} (hPO : PlanOk σ P n nr nb nl f t) (hDy : DynOk σ P n nr nb nl mb w wt dv) {r : Nat} (hf : fstI (fun i => σ.1 40 i) r nb = -1) : DynOk (wr σ 37 3 (andn w (2 ^ r) : Nat)) P n nr nb nl mb (andn w (2 ^ r)) wt dv := by
  have hP := hPO.1.1
  obtain ⟨k1, k2, k3, k4, k5, k6, k7, k8, k9, k10, k11⟩ := id hDy
  have eo : ∀ c, c ≠ 37 → (wr σ 37 3 (andn w (2 ^ r) : Nat)).1 c = σ.1 c := fun c a1 => funext fun k => by
    rw [wr_nec _ a1]
  have ek : ∀ k : Int, k ≠ 3 → (wr σ 37 3 (andn w (2 ^ r) : Nat)).1 37 k = σ.1 37 k := fun k hk => by rw [wr_nek _ hk]
  unfold DynOk
  rw [ek 0 (by decide), ek 1 (by decide), ek 2 (by decide), ek 4 (by decide), ek 5 (by decide), ek 6 (by decide), wr_eq, eo 38 (by decide), eo 39 (by decide), eo 40 (by decide), eo 41 (by decide)]
  refine ⟨k1, k2, k3, ⟨rfl, Nat.lt_of_le_of_lt (andn_le _ _) k4.2⟩, k5, k6, k7, fun r9 hr9 => ⟨(k8 r9 hr9).1, (k8 r9 hr9).2.1, fun y => (k8 r9 hr9).2.2 ?_⟩, fun b9 hb9 => ⟨(k9 b9 hb9).1, ?_⟩, k10, fun l9 hl9 => ?_⟩
  · rw [andn_bit] at y
    simp only [Bool.and_eq_true] at y
    exact y.1
  · rcases (k9 b9 hb9).2 with h | h
    · exact Or.inl h
    · refine Or.inr ⟨h.1, h.2.1, h.2.2.1, h.2.2.2.1, ?_⟩
      rw [andn_bit, h.2.2.2.2]
      have := fstI_mem hb9 hf
      have h3 : ¬ r = (σ.1 40 b9).toNat := fun z => this (by show σ.1 40 b9 = r; omega)
      simp [h3]
  · exact (k11 l9 hl9).keep (by rw [eo _ (by decide)]) (by rw [eo _ (by decide)]) (by rw [eo _ (by omega)]) (fun b9 hb9 y => by rw [eo _ (by decide)] at y; rw [eo _ (by decide)]; exact ⟨y, rfl⟩)
theorem splice_ok {σ : Mem} {P n nr nb nl mb w wt dv : Nat} {f t : Nat → Nat} (hPO : PlanOk σ P n nr nb nl f t) (hDy : DynOk σ P n nr nb nl mb w wt dv) {r : Nat} (hr : r < nr) : DynOk (wr (wr σ 37 3 (w ||| 2 ^ r : Nat)) 38 r 0) P n nr nb nl mb (w ||| 2 ^ r) wt dv := by
  have hP := hPO.1.1
  obtain ⟨k1, k2, k3, k4, k5, k6, k7, k8, k9, k10, k11⟩ := id hDy
  have eo : ∀ c, c ≠ 37 → c ≠ 38 → (wr (wr σ 37 3 (w ||| 2 ^ r : Nat)) 38 r 0).1 c = σ.1 c := fun c a1 a2 => funext fun k => by
    rw [wr_nec _ a2, wr_nec _ a1]
  have ek : ∀ k : Int, k ≠ 3 → (wr (wr σ 37 3 (w ||| 2 ^ r : Nat)) 38 r 0).1 37 k = σ.1 37 k := fun k hk => by rw [wr_nec _ (by decide), wr_nek _ hk]
  unfold DynOk
  rw [ek 0 (by decide), ek 1 (by decide), ek 2 (by decide), ek 4 (by decide), ek 5 (by decide), ek 6 (by decide), eo 39 (by decide) (by decide), eo 40 (by decide) (by decide), eo 41 (by decide) (by decide)]
  refine ⟨k1, k2, k3, ⟨by rw [wr_nec _ (by decide), wr_eq], Nat.or_lt_two_pow k4.2 (Nat.pow_lt_pow_right (by decide) hr)⟩, k5, k6, k7, fun r9 hr9 => ?_, fun b9 hb9 => ⟨(k9 b9 hb9).1, ?_⟩, k10, fun l9 hl9 => ?_⟩
  · by_cases e : r9 = r
    · subst e
      rw [wr_eq]
      exact ⟨by decide, by decide, fun _ => by decide⟩
    · rw [wr_nek _ (by omega), wr_nec _ (by decide)]
      refine ⟨(k8 r9 hr9).1, (k8 r9 hr9).2.1, fun y => (k8 r9 hr9).2.2 ?_⟩
      rw [or_bit] at y
      have h3 : ¬ r = r9 := fun z => e z.symm
      simpa [h3] using y
  · rcases (k9 b9 hb9).2 with h | h
    · exact Or.inl h
    · refine Or.inr ⟨h.1, h.2.1, h.2.2.1, h.2.2.2.1, ?_⟩
      rw [or_bit, h.2.2.2.2]
      rfl
  · exact (k11 l9 hl9).keep (by rw [eo _ (by decide) (by decide)]) (by rw [eo _ (by decide) (by decide)]) (by rw [eo _ (by omega) (by omega)]) (fun b9 hb9 y => by rw [eo _ (by decide) (by decide)] at y; rw [eo _ (by decide) (by decide)]; exact ⟨y, rfl⟩)
theorem wet_ok {σ : Mem} {P n nr nb nl mb w wt dv : Nat} {f t : Nat → Nat} (hPO : PlanOk σ P n nr nb nl f t) (hDy : DynOk σ P n nr nb nl mb w wt dv) {r : Nat} (hr : r < nr) (x : Int) : ∃ wt', DynOk (wetM σ r wt x) P n nr nb nl mb w wt' dv := by
  have hP := hPO.1.1
  obtain ⟨k1, k2, k3, k4, k5, k6, k7, k8, k9, k10, k11⟩ := id hDy
  have eo : ∀ c, c ≠ 37 → (wetM σ r wt x).1 c = σ.1 c := fun c a1 => funext fun k => by
    unfold wetM; rw [wr_nec _ a1]
  have ek : ∀ k : Int, k ≠ 4 → (wetM σ r wt x).1 37 k = σ.1 37 k := fun k hk => by unfold wetM; rw [wr_nek _ hk]
  refine ⟨if x = 0 then andn wt (2 ^ r) else wt ||| 2 ^ r, ?_⟩
  unfold DynOk
  rw [ek 0 (by decide), ek 1 (by decide), ek 2 (by decide), ek 3 (by decide), ek 5 (by decide), ek 6 (by decide), eo 38 (by decide), eo 39 (by decide), eo 40 (by decide), eo 41 (by decide)]
  refine ⟨k1, k2, k3, k4, ?_, k6, k7, k8, k9, k10, fun l9 hl9 => ?_⟩
  · unfold wetM
    rw [wr_eq]
    split
    · exact ⟨rfl, Nat.lt_of_le_of_lt (andn_le _ _) k5.2⟩
    · exact ⟨rfl, Nat.or_lt_two_pow k5.2 (Nat.pow_lt_pow_right (by decide) hr)⟩
  · exact (k11 l9 hl9).keep (by rw [eo _ (by decide)]) (by rw [eo _ (by decide)]) (by rw [eo _ (by omega)]) (fun b9 hb9 y => by rw [eo _ (by decide)] at y; rw [eo _ (by decide)]; exact ⟨y, rfl⟩)
theorem seed_ok {σ : Mem} {P n nr nb nl mb w wt dv : Nat} {f t : Nat → Nat} (hPO : PlanOk σ P n nr nb nl f t) (hDy : DynOk σ P n nr nb nl mb w wt dv) {z : Int} (hz : 0 ≤ z) : DynOk (wr σ 37 2 z) P n nr nb nl mb w wt dv := by
  have hP := hPO.1.1
  obtain ⟨k1, k2, k3, k4, k5, k6, k7, k8, k9, k10, k11⟩ := id hDy
  have eo : ∀ c, c ≠ 37 → (wr σ 37 2 z).1 c = σ.1 c := fun c a1 => funext fun k => by
    rw [wr_nec _ a1]
  have ek : ∀ k : Int, k ≠ 2 → (wr σ 37 2 z).1 37 k = σ.1 37 k := fun k hk => by rw [wr_nek _ hk]
  unfold DynOk
  rw [ek 0 (by decide), ek 1 (by decide), ek 3 (by decide), ek 4 (by decide), ek 5 (by decide), ek 6 (by decide), wr_eq, eo 38 (by decide), eo 39 (by decide), eo 40 (by decide), eo 41 (by decide)]
  exact ⟨k1, k2, hz, k4, k5, k6, k7, k8, k9, k10, fun l9 hl9 => (k11 l9 hl9).keep (by rw [eo _ (by decide)]) (by rw [eo _ (by decide)]) (by rw [eo _ (by omega)]) (fun b9 hb9 y => by rw [eo _ (by decide)] at y; rw [eo _ (by decide)]; exact ⟨y, rfl⟩)⟩
theorem MDy.ring {μ σ : Mem} {nr nb nl : Nat} (h : MDy μ σ nr nb nl) (h0 : 0 ≤ σ.1 37 6) (h1 : σ.1 37 6 < 200) (r : Int) : MDy (wr (wr (wr μ 105 (μ.1 79 31) (μ.1 79 29)) 106 (μ.1 79 31) r) 79 31 (μ.1 79 31 + 1)) (ringM σ r) nr nb nl := by
  obtain ⟨⟨a1, a2, a3, a4⟩, hr, hb, hl, hi⟩ := h
  unfold MDy StRel
  unfold ringM
  rw [if_pos h1]
  refine ⟨⟨?_, ?_, ?_, ?_⟩, fun r9 hr9 => ?_, fun b9 hb9 => ?_, fun l9 hl9 => ?_, fun i9 hi9 => ?_⟩
  · repeat rw [wr_at]
    repeat' (first | rw [if_pos (by omega)] | rw [if_neg (by omega)])
    exact a1
  · repeat rw [wr_at]
    repeat' (first | rw [if_pos (by omega)] | rw [if_neg (by omega)])
    exact a2
  · repeat rw [wr_at]
    repeat' (first | rw [if_pos (by omega)] | rw [if_neg (by omega)])
    rw [a3]
  · repeat rw [wr_at]
    repeat' (first | rw [if_pos (by omega)] | rw [if_neg (by omega)])
    exact a4
  · have z := hr r9 hr9
    refine ⟨?_, ?_, ?_⟩
    · repeat rw [wr_at]
      repeat' (first | rw [if_pos (by omega)] | rw [if_neg (by omega)])
      exact z.1
    · repeat rw [wr_at]
      repeat' (first | rw [if_pos (by omega)] | rw [if_neg (by omega)])
      exact z.2.1
    · repeat rw [wr_at]
      repeat' (first | rw [if_pos (by omega)] | rw [if_neg (by omega)])
      exact z.2.2
  · have z := hb b9 hb9
    repeat rw [wr_at]
    repeat' (first | rw [if_pos (by omega)] | rw [if_neg (by omega)])
    exact z
  · have z := hl l9 hl9
    refine ⟨?_, ?_, ?_⟩
    · repeat rw [wr_at]
      repeat' (first | rw [if_pos (by omega)] | rw [if_neg (by omega)])
      exact z.1
    · repeat rw [wr_at]
      repeat' (first | rw [if_pos (by omega)] | rw [if_neg (by omega)])
      exact z.2.1
    · repeat rw [wr_at]
      repeat' (first | rw [if_pos (by omega)] | rw [if_neg (by omega)])
      exact z.2.2
  · have z := hi i9
    rw [wr_eq] at hi9
    by_cases e : (i9 : Int) = σ.1 37 6
    · repeat rw [wr_at]
      rw [a3, a1]
      repeat' (first | rw [if_pos (by omega)] | rw [if_neg (by omega)])
      exact ⟨rfl, rfl⟩
    · have z2 := z (by omega)
      repeat rw [wr_at]
      rw [a3]
      repeat' (first | rw [if_pos (by omega)] | rw [if_neg (by omega)])
      exact z2
