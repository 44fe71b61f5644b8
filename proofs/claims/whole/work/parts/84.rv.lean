/-! rounds: what a boy's least minutes satisfy -/
section RV
variable {Wy Rs : Nat → Nat → Nat → Int} {fr to : Nat → Nat} {l c p : Nat}
theorem lfR_ub : ∀ m, lfR Wy Rs fr to l c p m ≤ 1000000 := by
  intro m
  induction m with
  | zero => exact Int.le_refl _
  | succ m ih =>
    rw [lfR]
    split
    · omega
    · split <;> omega
theorem lfR_dec : ∀ m j, j ≤ m → lfR Wy Rs fr to l c p m ≤ lfR Wy Rs fr to l c p j := by
  intro m
  induction m with
  | zero => intro j hj; obtain rfl : j = 0 := by omega
            exact Int.le_refl _
  | succ m ih =>
    intro j hj
    by_cases e : j = m + 1
    · subst e; exact Int.le_refl _
    · have := ih j (by omega)
      rw [lfR]
      split
      · omega
      · split <;> omega
theorem lfR_le_c {m k : Nat} (hk : k < m) (hc : c.testBit k = true) : lfR Wy Rs fr to l c p m ≤ Wy c p (to k) + Rs l (andn c (2 ^ k)) (to k) := by
  have := lfR_dec (Wy := Wy) (Rs := Rs) (fr := fr) (to := to) (l := l) (c := c) (p := p) m (k + 1) hk
  rw [lfR, if_pos hc] at this
  omega
theorem lfR_le_l {m k : Nat} (hk : k < m) (hc : c.testBit k = false) (hl : l.testBit k = true) (h2 : cnt c.testBit 12 < 2) : lfR Wy Rs fr to l c p m ≤ Wy c p (fr k) + Rs (andn l (2 ^ k)) (c ||| 2 ^ k) (fr k) := by
  have := lfR_dec (Wy := Wy) (Rs := Rs) (fr := fr) (to := to) (l := l) (c := c) (p := p) m (k + 1) hk
  rw [lfR, if_neg (by rw [hc]; decide), if_pos ⟨hl, h2⟩] at this
  omega
theorem lfR_cases : ∀ m, lfR Wy Rs fr to l c p m = 1000000 ∨ (∃ k, k < m ∧ c.testBit k = true ∧ lfR Wy Rs fr to l c p m = Wy c p (to k) + Rs l (andn c (2 ^ k)) (to k)) ∨ ∃ k, k < m ∧ c.testBit k = false ∧ l.testBit k = true ∧ cnt c.testBit 12 < 2 ∧ lfR Wy Rs fr to l c p m = Wy c p (fr k) + Rs (andn l (2 ^ k)) (c ||| 2 ^ k) (fr k) := by
  intro m
  induction m with
  | zero => exact Or.inl rfl
  | succ m ih =>
    have keep : lfR Wy Rs fr to l c p (m + 1) = lfR Wy Rs fr to l c p m → (lfR Wy Rs fr to l c p (m + 1) = 1000000 ∨ (∃ k, k < m + 1 ∧ c.testBit k = true ∧ lfR Wy Rs fr to l c p (m + 1) = Wy c p (to k) + Rs l (andn c (2 ^ k)) (to k)) ∨ ∃ k, k < m + 1 ∧ c.testBit k = false ∧ l.testBit k = true ∧ cnt c.testBit 12 < 2 ∧ lfR Wy Rs fr to l c p (m + 1) = Wy c p (fr k) + Rs (andn l (2 ^ k)) (c ||| 2 ^ k) (fr k)) := by
      intro e
      rw [e]
      rcases ih with h | ⟨k, h1, h2, h3⟩ | ⟨k, h1, h2, h3, h4, h5⟩
      · exact Or.inl h
      · exact Or.inr (Or.inl ⟨k, by omega, h2, h3⟩)
      · exact Or.inr (Or.inr ⟨k, by omega, h2, h3, h4, h5⟩)
    have un : lfR Wy Rs fr to l c p (m + 1) = (if c.testBit m = true then min (lfR Wy Rs fr to l c p m) (Wy c p (to m) + Rs l (andn c (2 ^ m)) (to m)) else if l.testBit m = true ∧ cnt c.testBit 12 < 2 then min (lfR Wy Rs fr to l c p m) (Wy c p (fr m) + Rs (andn l (2 ^ m)) (c ||| 2 ^ m) (fr m)) else lfR Wy Rs fr to l c p m) := rfl
    by_cases c1 : c.testBit m = true
    · rw [if_pos c1] at un
      by_cases q : lfR Wy Rs fr to l c p m ≤ Wy c p (to m) + Rs l (andn c (2 ^ m)) (to m)
      · exact keep (by omega)
      · exact Or.inr (Or.inl ⟨m, by omega, c1, by omega⟩)
    · rw [if_neg c1] at un
      by_cases c2 : l.testBit m = true ∧ cnt c.testBit 12 < 2
      · rw [if_pos c2] at un
        by_cases q : lfR Wy Rs fr to l c p m ≤ Wy c p (fr m) + Rs (andn l (2 ^ m)) (c ||| 2 ^ m) (fr m)
        · exact keep (by omega)
        · exact Or.inr (Or.inr ⟨m, by omega, by simpa using c1, c2.1, c2.2, by omega⟩)
      · rw [if_neg c2] at un
        exact keep un
end RV
/-- the least minutes that are left, by as much fuel as is needed -/
def Vf (Wy : Nat → Nat → Nat → Int) (fr to : Nat → Nat) (l c p : Nat) : Int := rsV Wy fr to (2 * cnt l.testBit 12 + cnt c.testBit 12 + 1) l c p
section VF
variable {Wy : Nat → Nat → Nat → Int} {fr to : Nat → Nat} {l c p : Nat}
theorem Vf_0 : Vf Wy fr to 0 0 p = 0 := by
  unfold Vf
  rw [rsV]
  unfold lfV
  rw [if_pos ⟨rfl, rfl⟩]
theorem Vf_lf (h : ¬ (l = 0 ∧ c = 0)) : Vf Wy fr to l c p = lfR Wy (rsV Wy fr to (2 * cnt l.testBit 12 + cnt c.testBit 12)) fr to l c p 4 := by
  unfold Vf
  rw [rsV]
  unfold lfV
  rw [if_neg h]
theorem Vf_c {k : Nat} (hk : k < 4) (hc : c.testBit k = true) : rsV Wy fr to (2 * cnt l.testBit 12 + cnt c.testBit 12) l (andn c (2 ^ k)) p = Vf Wy fr to l (andn c (2 ^ k)) p := by
  unfold Vf
  have := cnt_andn (n := 12) (by omega) hc
  rw [show 2 * cnt l.testBit 12 + cnt (andn c (2 ^ k)).testBit 12 + 1 = 2 * cnt l.testBit 12 + cnt c.testBit 12 by omega]
theorem Vf_l {k : Nat} (hk : k < 4) (hc : c.testBit k = false) (hl : l.testBit k = true) : rsV Wy fr to (2 * cnt l.testBit 12 + cnt c.testBit 12) (andn l (2 ^ k)) (c ||| 2 ^ k) p = Vf Wy fr to (andn l (2 ^ k)) (c ||| 2 ^ k) p := by
  unfold Vf
  have e1 := cnt_andn (n := 12) (by omega) hl
  have e2 := cnt_or (n := 12) (c := c) (k := k) (by omega) hc
  rw [show 2 * cnt (andn l (2 ^ k)).testBit 12 + cnt (c ||| 2 ^ k).testBit 12 + 1 = 2 * cnt l.testBit 12 + cnt c.testBit 12 by omega]
theorem bit_ne {l k : Nat} (h : l.testBit k = true) : l ≠ 0 := by
  rintro rfl
  simp at h
theorem V_le_c {k : Nat} (hk : k < 4) (hc : c.testBit k = true) : Vf Wy fr to l c p ≤ Wy c p (to k) + Vf Wy fr to l (andn c (2 ^ k)) (to k) := by
  rw [Vf_lf (fun z => bit_ne hc z.2)]
  have := lfR_le_c (Wy := Wy) (Rs := rsV Wy fr to (2 * cnt l.testBit 12 + cnt c.testBit 12)) (fr := fr) (to := to) (l := l) (p := p) hk hc
  rw [Vf_c hk hc] at this
  exact this
theorem V_le_l {k : Nat} (hk : k < 4) (hc : c.testBit k = false) (hl : l.testBit k = true) (h2 : cnt c.testBit 12 < 2) : Vf Wy fr to l c p ≤ Wy c p (fr k) + Vf Wy fr to (andn l (2 ^ k)) (c ||| 2 ^ k) (fr k) := by
  rw [Vf_lf (fun z => bit_ne hl z.1)]
  have := lfR_le_l (Wy := Wy) (Rs := rsV Wy fr to (2 * cnt l.testBit 12 + cnt c.testBit 12)) (fr := fr) (to := to) (l := l) (p := p) hk hc hl h2
  rw [Vf_l hk hc hl] at this
  exact this
theorem V_cases (Wy : Nat → Nat → Nat → Int) (fr to : Nat → Nat) (l c p : Nat) : (l = 0 ∧ c = 0) ∨ Vf Wy fr to l c p = 1000000 ∨ (∃ k, k < 4 ∧ c.testBit k = true ∧ Vf Wy fr to l c p = Wy c p (to k) + Vf Wy fr to l (andn c (2 ^ k)) (to k)) ∨ ∃ k, k < 4 ∧ c.testBit k = false ∧ l.testBit k = true ∧ cnt c.testBit 12 < 2 ∧ Vf Wy fr to l c p = Wy c p (fr k) + Vf Wy fr to (andn l (2 ^ k)) (c ||| 2 ^ k) (fr k) := by
  by_cases h : l = 0 ∧ c = 0
  · exact Or.inl h
  · right
    rw [Vf_lf h]
    rcases lfR_cases (Wy := Wy) (Rs := rsV Wy fr to (2 * cnt l.testBit 12 + cnt c.testBit 12)) (fr := fr) (to := to) (l := l) (c := c) (p := p) 4 with e | ⟨k, h1, h2, h3⟩ | ⟨k, h1, h2, h3, h4, h5⟩
    · exact Or.inl e
    · rw [Vf_c h1 h2] at h3
      exact Or.inr (Or.inl ⟨k, h1, h2, h3⟩)
    · rw [Vf_l h1 h2 h3] at h5
      exact Or.inr (Or.inr ⟨k, h1, h2, h3, h4, h5⟩)
theorem V_ub : Vf Wy fr to l c p ≤ 1000000 := by
  by_cases h : l = 0 ∧ c = 0
  · obtain ⟨rfl, rfl⟩ := h
    rw [Vf_0]; decide
  · rw [Vf_lf h]; exact lfR_ub 4
end VF
/-- more fuel than is needed changes nothing -/
theorem rsV_fuel {Wy : Nat → Nat → Nat → Int} {fr to : Nat → Nat} : ∀ k l c p, 2 * cnt l.testBit 12 + cnt c.testBit 12 < k → rsV Wy fr to k l c p = Vf Wy fr to l c p := by
  intro k
  induction k with
  | zero => intro l c p h; omega
  | succ k ih =>
    intro l c p h
    rw [rsV]
    unfold lfV
    by_cases e : l = 0 ∧ c = 0
    · obtain ⟨rfl, rfl⟩ := e
      rw [if_pos ⟨rfl, rfl⟩, Vf_0]
    · rw [if_neg e, Vf_lf e]
      have key : ∀ j, j ≤ 4 → lfR Wy (rsV Wy fr to k) fr to l c p j = lfR Wy (rsV Wy fr to (2 * cnt l.testBit 12 + cnt c.testBit 12)) fr to l c p j := by
        intro j
        induction j with
        | zero => intro _; rfl
        | succ j ihj =>
          intro hj
          rw [lfR, lfR, ihj (by omega)]
          by_cases c1 : c.testBit j = true
          · have e := cnt_andn (n := 12) (by omega) c1
            rw [if_pos c1, if_pos c1, ih l (andn c (2 ^ j)) (to j) (by omega), Vf_c (by omega) c1]
          · rw [if_neg c1, if_neg c1]
            have c1' : c.testBit j = false := by simpa using c1
            by_cases c2 : l.testBit j = true ∧ cnt c.testBit 12 < 2
            · have e := cnt_andn (n := 12) (by omega) c2.1
              have e2 := cnt_or (n := 12) (c := c) (k := j) (by omega) c1'
              rw [if_pos c2, if_pos c2, ih (andn l (2 ^ j)) (c ||| 2 ^ j) (fr j) (by omega), Vf_l (by omega) c1' c2.1]
            · rw [if_neg c2, if_neg c2]
      exact key 4 (Nat.le_refl _)
/-- ways with what is carried: distances, shorter with less -/
def WyOk2 (Wy : Nat → Nat → Nat → Int) (n : Nat) : Prop := (∀ c p q, p < n → q < n → 0 ≤ Wy c p q) ∧ (∀ c p, p < n → Wy c p p = 0) ∧ (∀ c p j q, p < n → j < n → q < n → Wy c p q ≤ Wy c p j + Wy c j q) ∧ ∀ c c' p q, (∀ i, c'.testBit i = true → c.testBit i = true) → p < n → q < n → Wy c' p q ≤ Wy c p q
/-- the loads of live: where they lie, where they go -/
def FtOk (live n : Nat) (fr to : Nat → Nat) : Prop := ∀ k, k < 4 → live.testBit k = true → fr k < n ∧ to k < n ∧ fr k ≠ to k
def Sub (a b : Nat) : Prop := ∀ i, a.testBit i = true → b.testBit i = true
theorem sub_andn {a b k : Nat} (h : Sub a b) : Sub (andn a (2 ^ k)) b := fun i hi => by
  rw [andn_bit] at hi
  simp only [Bool.and_eq_true] at hi
  exact h i hi.1
theorem sub_or {a b k : Nat} (h : Sub a b) (hk : b.testBit k = true) : Sub (a ||| 2 ^ k) b := fun i hi => by
  rw [or_bit] at hi
  simp only [Bool.or_eq_true, decide_eq_true_eq] at hi
  rcases hi with hi | rfl
  · exact h i hi
  · exact hk
theorem sub_andn2 {a b k : Nat} (h : Sub a b) (hk : a.testBit k = false) : Sub a (andn b (2 ^ k)) := fun i hi => by
  rw [andn_bit, h i hi]
  by_cases e : k = i
  · subst e; rw [hk] at hi; exact absurd hi (by decide)
  · simp [e]
theorem sub_both {a b k : Nat} (h : Sub a b) : Sub (andn a (2 ^ k)) (andn b (2 ^ k)) := andn_sub h
theorem sub_or2 {a b k : Nat} (h : Sub a b) : Sub (a ||| 2 ^ k) (b ||| 2 ^ k) := fun i hi => by
  rw [or_bit] at *
  simp only [Bool.or_eq_true] at *
  exact hi.imp (h i) id
theorem sub_cnt {a b : Nat} (h : Sub a b) : cnt a.testBit 12 ≤ cnt b.testBit 12 := cnt_mono (fun j _ hj => h j hj)
theorem V_nn {Wy : Nat → Nat → Nat → Int} {fr to : Nat → Nat} {live n : Nat} (hW : WyOk2 Wy n) (hF : FtOk live n fr to) : ∀ m l c p, 2 * cnt l.testBit 12 + cnt c.testBit 12 < m → Sub l live → Sub c live → p < n → 0 ≤ Vf Wy fr to l c p := by
  intro m
  induction m with
  | zero => intro l c p h; omega
  | succ m ih =>
    intro l c p h hl hc hp
    rcases V_cases Wy fr to l c p with ⟨rfl, rfl⟩ | e | ⟨k, h1, h2, h3⟩ | ⟨k, h1, h2, h3, h4, h5⟩
    · rw [Vf_0]; exact Int.le_refl _
    · rw [e]; decide
    · have f := hF k h1 (hc k h2)
      have e := cnt_andn (n := 12) (by omega) h2
      have i := ih l (andn c (2 ^ k)) (to k) (by omega) hl (sub_andn hc) f.2.1
      have w := hW.1 c p (to k) hp f.2.1
      omega
    · have f := hF k h1 (hl k h3)
      have e := cnt_andn (n := 12) (by omega) h3
      have e2 := cnt_or (n := 12) (c := c) (k := k) (by omega) h2
      have i := ih (andn l (2 ^ k)) (c ||| 2 ^ k) (fr k) (by omega) (sub_andn hl) (sub_or hc (hl k h3)) f.1
      have w := hW.1 c p (fr k) hp f.1
      omega
theorem V_tri {Wy : Nat → Nat → Nat → Int} {fr to : Nat → Nat} {live n l c p q : Nat} (hW : WyOk2 Wy n) (hF : FtOk live n fr to) (hl : Sub l live) (hc : Sub c live) (hp : p < n) (hq : q < n) : Vf Wy fr to l c p ≤ Wy c p q + Vf Wy fr to l c q := by
  have w0 := hW.1 c p q hp hq
  have v0 := V_nn hW hF _ l c q (Nat.lt_succ_self _) hl hc hq
  rcases V_cases Wy fr to l c q with ⟨rfl, rfl⟩ | e | ⟨k, h1, h2, h3⟩ | ⟨k, h1, h2, h3, h4, h5⟩
  · rw [Vf_0]; omega
  · have := V_ub (Wy := Wy) (fr := fr) (to := to) (l := l) (c := c) (p := p)
    omega
  · have f := hF k h1 (hc k h2)
    have a := V_le_c (Wy := Wy) (fr := fr) (to := to) (l := l) (p := p) h1 h2
    have t := hW.2.2.1 c p q (to k) hp hq f.2.1
    omega
  · have f := hF k h1 (hl k h3)
    have a := V_le_l (Wy := Wy) (fr := fr) (to := to) (l := l) (p := p) h1 h2 h3 h4
    have t := hW.2.2.1 c p q (fr k) hp hq f.1
    omega
theorem V_mono {Wy : Nat → Nat → Nat → Int} {fr to : Nat → Nat} {live n : Nat} (hW : WyOk2 Wy n) (hF : FtOk live n fr to) : ∀ m l c c' p, 2 * cnt l.testBit 12 + cnt c.testBit 12 < m → Sub c' c → Sub l live → Sub c live → (∀ i, l.testBit i = true → c.testBit i = false) → p < n → Vf Wy fr to l c' p ≤ Vf Wy fr to l c p := by
  intro m
  induction m with
  | zero => intro l c c' p h; omega
  | succ m ih =>
    intro l c c' p h hs hl hc hd hp
    have hc' : Sub c' live := fun i hi => hc i (hs i hi)
    rcases V_cases Wy fr to l c p with ⟨rfl, rfl⟩ | e | ⟨k, h1, h2, h3⟩ | ⟨k, h1, h2, h3, h4, h5⟩
    · have e : c' = 0 := Nat.eq_of_testBit_eq (fun i => by
        cases hi : c'.testBit i with
        | false => simp
        | true => have := hs i hi; simp at this)
      subst e
      exact Int.le_refl _
    · rw [e]; exact V_ub
    · have f := hF k h1 (hc k h2)
      have e := cnt_andn (n := 12) (by omega) h2
      have w := hW.2.2.2 c c' p (to k) hs hp f.2.1
      have hd2 : ∀ i, l.testBit i = true → (andn c (2 ^ k)).testBit i = false := fun i hi => by rw [andn_bit, hd i hi]; rfl
      cases hk : c'.testBit k with
      | true =>
        have a := V_le_c (Wy := Wy) (fr := fr) (to := to) (l := l) (p := p) h1 hk
        have i := ih l (andn c (2 ^ k)) (andn c' (2 ^ k)) (to k) (by omega) (sub_both hs) hl (sub_andn hc) hd2 f.2.1
        omega
      | false =>
        have a := V_tri hW hF hl hc' hp f.2.1
        have i := ih l (andn c (2 ^ k)) c' (to k) (by omega) (sub_andn2 hs hk) hl (sub_andn hc) hd2 f.2.1
        omega
    · have f := hF k h1 (hl k h3)
      have e := cnt_andn (n := 12) (by omega) h3
      have e2 := cnt_or (n := 12) (c := c) (k := k) (by omega) h2
      have hk : c'.testBit k = false := by
        cases hk : c'.testBit k with
        | false => rfl
        | true => rw [hs k hk] at h2; exact absurd h2 (by decide)
      have sc := (sub_cnt hs)
      have a := V_le_l (Wy := Wy) (fr := fr) (to := to) (p := p) h1 hk h3 (by omega)
      have w := hW.2.2.2 c c' p (fr k) hs hp f.1
      have i := ih (andn l (2 ^ k)) (c ||| 2 ^ k) (c' ||| 2 ^ k) (fr k) (by omega) (sub_or2 hs) (sub_andn hl) (sub_or hc (hl k h3)) (fun i hi => by
        rw [andn_bit] at hi
        simp only [Bool.and_eq_true, Bool.not_eq_true', decide_eq_false_iff_not] at hi
        rw [or_bit, hd i hi.1]
        simp [hi.2]) f.1
      omega
