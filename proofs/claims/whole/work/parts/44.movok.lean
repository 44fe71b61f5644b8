def sN (c : Nat) : Prop := 37 ≤ c ∧ c ≤ 45
theorem wearM_at (σ : Mem) (r more : Int) (w rn c : Nat) (k : Int) : (wearM σ r more w rn).1 c k = if c = 38 ∧ k = r then σ.1 38 r + more else if c = 37 ∧ k = 3 ∧ ¬ σ.1 38 r + more < 100 then ((andn w (2 ^ rn) : Nat) : Int) else σ.1 c k := by
  unfold wearM
  by_cases h : σ.1 38 r + more < 100
  · rw [if_pos h, wr_at]
    by_cases h1 : c = 38 ∧ k = r
    · rw [if_pos h1, if_pos h1]
    · rw [if_neg h1, if_neg h1, if_neg (fun q => q.2.2 h)]
  · rw [if_neg h, wr_at, wr_at]
    by_cases h1 : c = 38 ∧ k = r
    · rw [if_neg (by omega), if_pos h1, if_pos h1]
    · rw [if_neg h1]
      by_cases h2 : c = 37 ∧ k = 3
      · rw [if_pos h2, if_neg h1, if_pos ⟨h2.1, h2.2, h⟩]
      · rw [if_neg h2, if_neg h1, if_neg (fun q => h2 ⟨q.1, q.2.1⟩)]
theorem wearM_same {S : Nat → Prop} {σ τ : Mem} (h : Same S σ τ) (h37 : S 37) (h38 : S 38) {r more : Int} {w rn : Nat} : Same S σ (wearM τ r more w rn) := by
  unfold wearM
  split
  · exact h.wr h38
  · exact (h.wr h38).wr h37
theorem arF_same {S : Nat → Prop} {σ τ : Mem} (h : Same S σ τ) (h37 : S 37) (h43 : S 43) {p : Nat → Bool} {g : Nat → Int} {dv l : Nat} : Same S σ (arF τ p g dv l) := by
  refine ⟨fun c hc => ?_, h.2⟩
  rw [← h.1 c hc]
  funext k
  exact arF_c (fun q => hc (by rw [q]; exact h43)) (fun q => hc (by rw [q]; exact h37)) k
theorem movM_same {σ : Mem} {P nb nl w dv b : Nat} : Same sN σ (movM σ P nb nl w dv b) := by
  have n41 : sN 41 := by unfold sN; omega
  have n37 : sN 37 := by unfold sN; omega
  have n38 : sN 38 := by unfold sN; omega
  have n40 : sN 40 := by unfold sN; omega
  have n43 : sN 43 := by unfold sN; omega
  unfold movM
  split
  · exact Same.rf.wr n41
  · split
    · exact (Same.rf.wr n41).wr n41
    · unfold arvM
      exact wearM_same (arF_same ((Same.rf.wr n41).wr n40) n37 n43) n37 n38
theorem bs_or_pow {p : Nat → Bool} {l : Nat} (h : p l = true) : bs p (l + 1) = bs p l ||| 2 ^ l := by rw [bs_t h, or_pow (bs_lt p l)]
theorem had_R {dv nl : Nat} {p : Nat → Bool} {g : Nat → Int} (hnl : nl ≤ 4) (hp : ∀ i, i < nl → p i = true → dv.testBit i = false) (hg : ∀ i, i < nl → 0 ≤ g i ∧ g i ≤ 999) : ∀ l, l ≤ nl → 0 ≤ sumI (fun i => if p i then g i else 0) l ∧ sumI (fun i => if p i then g i else 0) l + 1000 * (cnt dv.testBit 12 : Nat) ≤ 1000 * (cnt (dv ||| bs p l).testBit 12 : Nat) := by
  intro l
  induction l with
  | zero => intro _; rw [sumI, bs, Nat.or_zero]; omega
  | succ l ih =>
    intro hl
    have h1 := ih (by omega)
    have h2 := hg l (by omega)
    rw [sumI]
    by_cases c : p l = true
    · have hb : (dv ||| bs p l).testBit l = false := by
        rw [Nat.testBit_or, hp l (by omega) c, bs_test]; simp
      rw [bs_or_pow c, ← Nat.or_assoc, cnt_or (by omega) hb, if_pos c]
      omega
    · rw [bs_f (by simpa using c), if_neg c]
      omega
set_option maxHeartbeats 1000000 in
/-- what holds of the state holds behind a boy's minute -/
theorem mov_ok {σ : Mem} {P n nr nb nl mb w wt dv b : Nat} {f t : Nat → Nat} (hPO : PlanOk σ P n nr nb nl f t) (hDy : DynOk σ P n nr nb nl mb w wt dv) (hb : b < nb) (hbr : σ.1 40 b ≠ -1) : ∃ w' dv', DynOk (movM σ P nb nl w dv b) P n nr nb nl mb w' wt dv' := by
  have hP := hPO.1.1
  have hnl4 := hPO.2.2.1.2
  have hnr12 := hPO.1.2.2.2.2.1
  obtain ⟨d1, d2, d3, ⟨hw, hw2⟩, ⟨hwt, hwt2⟩, ⟨hdv, hdv2⟩, d7, d8, d9, d10, d11⟩ := id hDy
  have hon : 0 ≤ σ.1 40 b ∧ σ.1 40 b < nr ∧ 1 ≤ σ.1 41 b ∧ σ.1 41 b ≤ 400 ∧ w.testBit (σ.1 40 b).toNat = true := (d9 b hb).2.resolve_left (fun q => hbr q.1)
  have simple : ∀ z : Int, 1 ≤ z → z ≤ 400 → ∀ τ : Mem, (∀ c k, τ.1 c k = if c = 41 ∧ k = b then z else σ.1 c k) → DynOk τ P n nr nb nl mb w wt dv := by
    intro z hz1 hz2 τ hτ
    have e : ∀ c k, c ≠ 41 → τ.1 c k = σ.1 c k := fun c k hc => by rw [hτ, if_neg (fun q => hc q.1)]
    refine ⟨by rw [e _ _ (by decide)]; exact d1, by rw [e _ _ (by decide)]; exact d2, by rw [e _ _ (by decide)]; exact d3, by rw [e _ _ (by decide)]; exact ⟨hw, hw2⟩, by rw [e _ _ (by decide)]; exact ⟨hwt, hwt2⟩, by rw [e _ _ (by decide)]; exact ⟨hdv, hdv2⟩, by rw [e _ _ (by decide)]; exact d7, fun r hr => by rw [e _ _ (by decide)]; exact d8 r hr, fun c hc => ?_, fun c1 c2 h1 h2 h3 h4 => ?_, fun l hl => ?_⟩
    · rw [e 39 _ (by decide), e 40 _ (by decide)]
      refine ⟨(d9 c hc).1, ?_⟩
      by_cases q : c = b
      · subst q
        rw [hτ, if_pos ⟨rfl, rfl⟩]
        exact Or.inr ⟨hon.1, hon.2.1, hz1, hz2, hon.2.2.2.2⟩
      · rw [hτ, if_neg (by omega)]
        exact (d9 c hc).2
    · rw [e 40 _ (by decide)] at h3 h4
      rw [e 40 _ (by decide)] at h3
      exact d10 c1 c2 h1 h2 h3 h4
    · have := d11 l hl
      unfold LoadOk at this ⊢
      rw [e 42 _ (by decide), e 43 _ (by decide), e 40 _ (by decide), e 39 _ (by decide), e (P + 13) _ (by omega)]
      exact this
  unfold movM
  by_cases c1 : 0 < σ.1 41 b - 1
  · rw [if_pos c1]
    exact ⟨w, dv, simple (σ.1 41 b - 1) (by omega) (by omega) _ (fun c k => wr_at _ _ _ _ _ _)⟩
  · rw [if_neg c1]
    by_cases c2 : σ.1 (P + 3) (σ.1 39 b) ≤ (cnt (atS σ nb (σ.1 39 b)).testBit 12 : Nat)
    · rw [if_pos c2]
      refine ⟨w, dv, simple 1 (by omega) (by omega) _ (fun c k => ?_)⟩
      rw [wr_at, wr_at]
      by_cases q : c = 41 ∧ k = b
      · rw [if_pos q, if_pos q]
      · rw [if_neg q, if_neg q, if_neg q]
    · rw [if_neg c2]
      obtain ⟨r, hre⟩ : ∃ r : Nat, σ.1 40 b = r := ⟨(σ.1 40 b).toNat, by omega⟩
      have hrn : r < nr := by omega
      have hrw : w.testBit r = true := by have := hon.2.2.2.2; rw [hre] at this; exact this
      rw [hre, show ((r : Int)).toNat = r from rfl]
      generalize hs1 : wr σ 41 b (σ.1 41 b - 1) = σ1
      have hsz : Same (fun c => c = 41) σ σ1 := by rw [← hs1]; exact Same.wr Same.rf rfl
      have hPO1 := hPO.same hsz (fun k hk => by omega)
      have hwb := wearBy_R hPO1 hb
      generalize hm : wearBy σ1 P nl b = m at hwb
      generalize hp : dlvP σ1 P nl b = p
      have g1 : ∀ i, i < nl → 0 ≤ gain σ1 P i ∧ gain σ1 P i ≤ 999 := fun i hi => gain_R hPO1 hi
      generalize hg : gain σ1 P = g at g1
      have pf : ∀ i, i < nl → p i = true → σ.1 43 i = b ∧ σ.1 (P + 13) i = σ.1 39 b := by
        intro i hi hpi
        rw [← hp] at hpi
        unfold dlvP carS at hpi
        rw [bs_test, hsz.1 43 (by decide), hsz.1 (P + 13) (by omega), hsz.1 39 (by decide)] at hpi
        simp at hpi
        exact ⟨hpi.1.2, hpi.2⟩
      have pn : ∀ i, i < nl → p i = false → ¬ (σ.1 43 i = b ∧ σ.1 (P + 13) i = σ.1 39 b) := by
        intro i hi hpi
        rw [← hp] at hpi
        unfold dlvP carS at hpi
        rw [bs_test, hsz.1 43 (by decide), hsz.1 (P + 13) (by omega), hsz.1 39 (by decide)] at hpi
        simp at hpi
        exact fun q => hpi hi q.1 q.2
      have pdv : ∀ i, i < nl → p i = true → dv.testBit i = false := by
        intro i hi hpi
        have a := (pf i hi hpi).1
        have l := d11 i hi
        unfold LoadOk at l
        rcases l with l | l | l
        · omega
        · omega
        · exact l.1
      have hh := had_R (g := g) hnl4 pdv g1 nl (Nat.le_refl _)
      have hwr := d8 r hrn
      have hwr1 := hwr.2.2 hrw
      have hav : arvM σ1 P nl w dv b r = wearM (arF (wr σ1 40 b (-1)) p g dv nl) r m w r := by unfold arvM; rw [hm, hp, hg]
      rw [hav]
      generalize hτ : wearM (arF (wr σ1 40 b (-1)) p g dv nl) r m w r = τ
      have e1 : ∀ c k, σ1.1 c k = if c = 41 ∧ k = b then σ.1 41 b - 1 else σ.1 c k := fun c k => by rw [← hs1]; exact wr_at _ _ _ _ _ _
      have s38 : (arF (wr σ1 40 b (-1)) p g dv nl).1 38 r = σ.1 38 r := by rw [arF_c (by decide) (by decide), wr_nec _ (by decide), e1, if_neg (by omega)]
      have rd : ∀ c k, τ.1 c k = if c = 38 ∧ k = r then σ.1 38 r + m else if c = 37 ∧ k = 3 ∧ ¬ σ.1 38 r + m < 100 then ((andn w (2 ^ r) : Nat) : Int) else (arF (wr σ1 40 b (-1)) p g dv nl).1 c k := fun c k => by rw [← hτ, wearM_at, s38]
      have r37 : ∀ k, k ≠ 3 → k ≠ 5 → k ≠ 1 → τ.1 37 k = σ.1 37 k := fun k h3 h5 h1 => by rw [rd, if_neg (by omega), if_neg (by omega), arF_37 h5 h1, wr_nec _ (by decide), e1, if_neg (by omega)]
      have rest : ∀ c k, c ≠ 37 → c ≠ 38 → c ≠ 40 → c ≠ 41 → c ≠ 43 → τ.1 c k = σ.1 c k := fun c k a1 a2 a3 a4 a5 => by rw [rd, if_neg (by omega), if_neg (by omega), arF_c a5 a1, wr_nec _ a3, e1, if_neg (by omega)]
      have r40 : ∀ k, τ.1 40 k = if k = b then -1 else σ.1 40 k := fun k => by
        rw [rd, if_neg (by omega), if_neg (by omega), arF_c (by decide) (by decide), wr_at]
        by_cases q : k = b
        · rw [if_pos ⟨rfl, q⟩, if_pos q]
        · rw [if_neg (fun z => q z.2), if_neg q, e1, if_neg (by omega)]
      have r41 : ∀ k, τ.1 41 k = if k = b then 0 else σ.1 41 k := fun k => by
        rw [rd, if_neg (by omega), if_neg (by omega), arF_c (by decide) (by decide), wr_nec _ (by decide), e1]
        by_cases q : k = b
        · rw [if_pos ⟨rfl, q⟩, if_pos q]; omega
        · rw [if_neg (fun z => q z.2), if_neg q]
      have r43 : ∀ i : Nat, i < nl → τ.1 43 i = if p i = true then -1 else σ.1 43 i := fun i hi => by
        rw [rd, if_neg (by omega), if_neg (by omega), arF_at]
        by_cases q : p i = true
        · rw [if_pos ⟨rfl, by omega, by omega, q⟩, if_pos q]
        · rw [if_neg (fun z => q z.2.2.2), if_neg (by omega), if_neg (by omega), if_neg q, wr_nec _ (by decide), e1, if_neg (by omega)]
      have r5 : τ.1 37 5 = ((dv ||| bs p nl : Nat) : Int) := by rw [rd, if_neg (by omega), if_neg (by omega), arF_5]
      have r1 : τ.1 37 1 = σ.1 37 1 + sumI (fun i => if p i then g i else 0) nl := by rw [rd, if_neg (by omega), if_neg (by omega), arF_1, wr_nec _ (by decide), e1, if_neg (by omega)]
      have hbsl := bs_lt p nl
      refine ⟨if σ.1 38 r + m < 100 then w else andn w (2 ^ r), dv ||| bs p nl, by rw [r37 0 (by decide) (by decide) (by decide)]; exact d1, by rw [r1]; omega, by rw [r37 2 (by decide) (by decide) (by decide)]; exact d3, ?_, by rw [r37 4 (by decide) (by decide) (by decide)]; exact ⟨hwt, hwt2⟩, ⟨r5, Nat.or_lt_two_pow hdv2 hbsl⟩, by rw [r37 6 (by decide) (by decide) (by decide)]; exact d7, ?_, ?_, ?_, ?_⟩
      · by_cases q : σ.1 38 r + m < 100
        · rw [if_pos q, rd, if_neg (by omega), if_neg (fun z => z.2.2 q), arF_37 (by decide) (by decide), wr_nec _ (by decide), e1, if_neg (by omega)]
          exact ⟨hw, hw2⟩
        · rw [if_neg q, rd, if_neg (by omega), if_pos ⟨rfl, rfl, q⟩]
          exact ⟨rfl, andn_lt _ hw2⟩
      · intro j hj
        rw [rd]
        by_cases q : j = r
        · subst q
          rw [if_pos ⟨rfl, rfl⟩]
          refine ⟨by omega, by omega, fun z => ?_⟩
          by_cases q2 : σ.1 38 j + m < 100
          · exact q2
          · rw [if_neg q2, andn_test, test_pow] at z
            simp at z
        · rw [if_neg (by omega), if_neg (by omega), arF_c (by decide) (by decide), wr_nec _ (by decide), e1, if_neg (by omega)]
          refine ⟨(d8 j hj).1, (d8 j hj).2.1, fun z => (d8 j hj).2.2 ?_⟩
          split at z
          · exact z
          · rw [andn_test] at z
            simp at z
            exact z.1
      · intro c hc
        rw [rest 39 _ (by decide) (by decide) (by decide) (by decide) (by decide), r40, r41]
        refine ⟨(d9 c hc).1, ?_⟩
        by_cases q : c = b
        · subst q
          rw [if_pos rfl, if_pos rfl]
          exact Or.inl ⟨rfl, rfl⟩
        · rw [if_neg (by omega), if_neg (by omega)]
          rcases (d9 c hc).2 with h | h
          · exact Or.inl h
          · refine Or.inr ⟨h.1, h.2.1, h.2.2.1, h.2.2.2.1, ?_⟩
            have hne : (σ.1 40 c).toNat ≠ r := by
              intro z
              have : σ.1 40 c = σ.1 40 b := by omega
              exact q (d10 c b hc hb this (by omega))
            split
            · exact h.2.2.2.2
            · rw [andn_test, h.2.2.2.2, test_pow]
              simp [Ne.symm hne]
      · intro x1 x2 h1 h2 h3 h4
        rw [r40] at h3 h4
        rw [r40] at h3
        by_cases q1 : (x1 : Int) = b
        · rw [if_pos q1] at h4; exact absurd rfl h4
        · rw [if_neg q1] at h3 h4
          by_cases q2 : (x2 : Int) = b
          · rw [if_pos q2] at h3; exact absurd h3 h4
          · rw [if_neg q2] at h3
            exact d10 x1 x2 h1 h2 h3 h4
      · intro l hl
        have hL := d11 l hl
        have bt : (dv ||| bs p nl).testBit l = (dv.testBit l || p l) := by rw [Nat.testBit_or, bs_test]; simp [hl]
        unfold LoadOk at hL ⊢
        rw [bt, r43 l hl, rest 42 _ (by decide) (by decide) (by decide) (by decide) (by decide), rest (P + 13) _ (by omega) (by omega) (by omega) (by omega) (by omega)]
        by_cases q : p l = true
        · have a := pf l hl q
          refine Or.inl ⟨by rw [q]; simp, ?_, by rw [if_pos q]⟩
          rcases hL with h | h | h
          · exact h.2.1
          · omega
          · exact h.2.1
        · have qf : p l = false := by simpa using q
          rw [if_neg q, qf, Bool.or_false]
          rcases hL with h | h | h
          · exact Or.inl h
          · exact Or.inr (Or.inl h)
          · refine Or.inr (Or.inr ⟨h.1, h.2.1, h.2.2.1, h.2.2.2.1, ?_⟩)
            rw [r40, rest 39 _ (by decide) (by decide) (by decide) (by decide) (by decide)]
            by_cases q2 : σ.1 43 l = b
            · intro _ z
              exact pn l hl qf ⟨q2, by rw [q2] at z; exact z.symm⟩
            · rw [if_neg q2]
              exact h.2.2.2.2
