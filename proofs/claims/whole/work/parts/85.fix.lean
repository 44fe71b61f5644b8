/-! the reference's states of a round: a figure of three a load: 0 lies, 1 carried, 2 done -/
def fig (st l : Nat) : Nat := st / 3 ^ l % 3
def cSet (st : Nat) : Nat := bs (fun l => decide (fig st l = 1)) 4
def lSet (st : Nat) : Nat := bs (fun l => decide (fig st l = 0)) 4
def enc (l c : Nat) : Nat := (if l.testBit 0 then 0 else if c.testBit 0 then 1 else 2) + (if l.testBit 1 then 0 else if c.testBit 1 then 3 else 6) + (if l.testBit 2 then 0 else if c.testBit 2 then 9 else 18) + (if l.testBit 3 then 0 else if c.testBit 3 then 27 else 54)
set_option maxRecDepth 100000 in
theorem st_up0 : ∀ st, st < 81 → ∀ x, x < 4 → fig st x = 0 → st + 3 ^ x < 81 ∧ lSet (st + 3 ^ x) = andn (lSet st) (2 ^ x) ∧ cSet (st + 3 ^ x) = cSet st ||| 2 ^ x := by decide +kernel
set_option maxRecDepth 100000 in
theorem st_up1 : ∀ st, st < 81 → ∀ x, x < 4 → fig st x = 1 → st + 3 ^ x < 81 ∧ lSet (st + 3 ^ x) = lSet st ∧ cSet (st + 3 ^ x) = andn (cSet st) (2 ^ x) ∧ ∀ k, k < 4 → fig (st + 3 ^ x) k = if k = x then 2 else fig st k := by decide +kernel
set_option maxRecDepth 100000 in
theorem st_enc : ∀ st, st < 81 → enc (lSet st) (cSet st) = st := by decide +kernel
set_option maxRecDepth 100000 in
theorem enc_st : ∀ l, l < 16 → ∀ c, c < 16 → l &&& c = 0 → enc l c < 81 ∧ lSet (enc l c) = l ∧ cSet (enc l c) = c := by decide +kernel
theorem fig_lt (st x : Nat) : fig st x < 3 := Nat.mod_lt _ (by decide)
theorem cSet_bit (st x : Nat) : (cSet st).testBit x = (decide (x < 4) && decide (fig st x = 1)) := bs_test _ _ _
theorem lSet_bit (st x : Nat) : (lSet st).testBit x = (decide (x < 4) && decide (fig st x = 0)) := bs_test _ _ _
theorem cSet_lt (st : Nat) : cSet st < 16 := bs_lt _ 4
theorem lSet_lt (st : Nat) : lSet st < 16 := bs_lt _ 4
theorem lt16_bit {a i : Nat} (h : a < 16) (hi : a.testBit i = true) : i < 4 := by
  refine Classical.byContradiction (fun hn => ?_)
  have : a.testBit i = false := Nat.testBit_lt_two_pow (Nat.lt_of_lt_of_le h (show 2 ^ 4 ≤ 2 ^ i from Nat.pow_le_pow_right (by decide) (by omega)))
  rw [this] at hi
  exact absurd hi (by decide)
theorem sub_lt16 {a b : Nat} (h : Sub a b) (hb : b < 16) : a < 16 := Nat.lt_of_le_of_lt (le_of_andn (andn_zero.mpr h)) hb
/-- what is laid down where a boy comes by -/
def laidN (q : Nat → Bool) (st : Nat) : Nat → Nat
  | 0 => st
  | k + 1 => laidN q st k + (if fig st k = 1 ∧ q k = true then 3 ^ k else 0)
theorem laid_ok {q : Nat → Bool} {st : Nat} (hst : st < 81) : ∀ n, n ≤ 4 → laidN q st n < 81 ∧ lSet (laidN q st n) = lSet st ∧ ∀ k, k < 4 → fig (laidN q st n) k = if k < n ∧ fig st k = 1 ∧ q k = true then 2 else fig st k := by
  intro n
  induction n with
  | zero => intro _; exact ⟨hst, rfl, fun k _ => by rw [if_neg (by omega)]; rfl⟩
  | succ n ih =>
    intro hn
    obtain ⟨h1, h2, h3⟩ := ih (by omega)
    rw [laidN]
    by_cases c : fig st n = 1 ∧ q n = true
    · rw [if_pos c]
      have e : fig (laidN q st n) n = 1 := by rw [h3 n (by omega), if_neg (by omega), c.1]
      obtain ⟨u1, u2, u3, u4⟩ := st_up1 _ h1 n (by omega) e
      refine ⟨u1, by rw [u2, h2], fun k hk => ?_⟩
      rw [u4 k hk]
      by_cases ek : k = n
      · subst ek; rw [if_pos rfl, if_pos ⟨by omega, c⟩]
      · rw [if_neg ek, h3 k hk]
        by_cases z : k < n ∧ fig st k = 1 ∧ q k = true
        · rw [if_pos z, if_pos ⟨by omega, z.2⟩]
        · rw [if_neg z, if_neg (fun y => z ⟨by omega, y.2⟩)]
    · rw [if_neg c, Nat.add_zero]
      refine ⟨h1, h2, fun k hk => ?_⟩
      rw [h3 k hk]
      by_cases z : k < n ∧ fig st k = 1 ∧ q k = true
      · rw [if_pos z, if_pos ⟨by omega, z.2⟩]
      · rw [if_neg z, if_neg (fun y => by
          by_cases ek : k = n
          · subst ek; exact c y.2
          · exact z ⟨by omega, y.2⟩)]
theorem laid_c {q : Nat → Bool} {st n x : Nat} (hst : st < 81) (hn : n ≤ 4) : (cSet (laidN q st n)).testBit x = ((cSet st).testBit x && !(decide (x < n) && q x)) := by
  obtain ⟨h1, h2, h3⟩ := laid_ok (q := q) hst n hn
  rw [cSet_bit, cSet_bit]
  by_cases hx : x < 4
  · rw [h3 x hx]
    by_cases c : x < n ∧ fig st x = 1 ∧ q x = true
    · rw [if_pos c]; simp [c.1, c.2.2]
    · rw [if_neg c]
      by_cases c1 : fig st x = 1
      · have : ¬ (x < n ∧ q x = true) := fun z => c ⟨z.1, c1, z.2⟩
        by_cases c2 : x < n
        · have c3 : q x = false := by simpa [c2] using this
          simp [c1, c3]
        · simp [c1, c2]
      · simp [c1]
  · simp [hx]
def okst (live st : Nat) : Prop := cnt (cSet st).testBit 12 ≤ 2 ∧ Sub (lSet st) live ∧ Sub (cSet st) live
section ROUND
variable {Wy : Nat → Nat → Nat → Int} {fr to : Nat → Nat} {live n : Nat}
theorem st_apart (st : Nat) : ∀ i, (lSet st).testBit i = true → (cSet st).testBit i = false := by
  intro i hi
  rw [lSet_bit] at hi
  rw [cSet_bit]
  simp only [Bool.and_eq_true, decide_eq_true_eq] at hi
  simp [hi.2]
theorem e_pick (hW : WyOk2 Wy n) {st x p : Nat} (hst : st < 81) (hx : x < 4) (ho : okst live st) (hf : fig st x = 0) (hp : p < n) (hfr : fr x = p) (h2 : cnt (cSet st).testBit 12 < 2) : okst live (st + 3 ^ x) ∧ Vf Wy fr to (lSet st) (cSet st) p ≤ Vf Wy fr to (lSet (st + 3 ^ x)) (cSet (st + 3 ^ x)) p := by
  obtain ⟨u1, u2, u3⟩ := st_up0 st hst x hx hf
  have hl : (lSet st).testBit x = true := by rw [lSet_bit]; simp [hx, hf]
  have hc := st_apart st x hl
  have e2 := cnt_or (n := 12) (c := cSet st) (k := x) (by omega) hc
  unfold okst
  rw [u2, u3]
  refine ⟨⟨by omega, sub_andn ho.2.1, sub_or ho.2.2 (ho.2.1 x hl)⟩, ?_⟩
  have a := V_le_l (Wy := Wy) (fr := fr) (to := to) (l := lSet st) (p := p) hx hc hl h2
  rw [hfr, hW.2.1 _ p hp] at a
  omega
theorem e_laid (hW : WyOk2 Wy n) {st p : Nat} {q : Nat → Bool} (hst : st < 81) (ho : okst live st) (hp : p < n) (hq : ∀ k, k < 4 → q k = true → to k = p) : ∀ m, m ≤ 4 → okst live (laidN q st m) ∧ Vf Wy fr to (lSet st) (cSet st) p ≤ Vf Wy fr to (lSet (laidN q st m)) (cSet (laidN q st m)) p := by
  intro m
  induction m with
  | zero => intro _; exact ⟨ho, Int.le_refl _⟩
  | succ m ih =>
    intro hm
    obtain ⟨i1, i2⟩ := ih (by omega)
    obtain ⟨h1, h2, h3⟩ := laid_ok (q := q) hst m (by omega)
    rw [laidN]
    by_cases c : fig st m = 1 ∧ q m = true
    · rw [if_pos c]
      have e : fig (laidN q st m) m = 1 := by rw [h3 m (by omega), if_neg (by omega), c.1]
      obtain ⟨u1, u2, u3, u4⟩ := st_up1 _ h1 m (by omega) e
      have hc : (cSet (laidN q st m)).testBit m = true := by rw [cSet_bit, e]; simp; omega
      have e2 := cnt_andn (n := 12) (by omega) hc
      unfold okst
      rw [u2, u3]
      have i1' := i1.1
      refine ⟨⟨by omega, i1.2.1, sub_andn i1.2.2⟩, ?_⟩
      have a := V_le_c (Wy := Wy) (fr := fr) (to := to) (l := lSet (laidN q st m)) (p := p) (show m < 4 by omega) hc
      rw [hq m (by omega) c.2, hW.2.1 _ p hp] at a
      omega
    · rw [if_neg c, Nat.add_zero]
      exact ⟨i1, i2⟩
theorem e_rope (hW : WyOk2 Wy n) (hF : FtOk live n fr to) {st p z m : Nat} {q : Nat → Bool} (hst : st < 81) (ho : okst live st) (hp : p < n) (hz : z < n) (hm : m ≤ 4) (hq : ∀ k, k < 4 → q k = true → to k = z) {e : Int} (he : Wy (cSet st) p z ≤ e) : okst live (laidN q st m) ∧ Vf Wy fr to (lSet st) (cSet st) p ≤ e + Vf Wy fr to (lSet (laidN q st m)) (cSet (laidN q st m)) z := by
  obtain ⟨a1, a2⟩ := e_laid (fr := fr) hW hst ho hz hq m hm
  have t := V_tri hW hF ho.2.1 ho.2.2 hp hz
  exact ⟨a1, by omega⟩
end ROUND
/-- the least over those below N that P names; 1000000 if none -/
noncomputable def infB (g : Nat → Int) (P : Nat → Prop) : Nat → Int
  | 0 => 1000000
  | k + 1 => if dC (P k) = true then min (infB g P k) (g k) else infB g P k
theorem infB_ub (g : Nat → Int) (P : Nat → Prop) : ∀ k, infB g P k ≤ 1000000 := by
  intro k
  induction k with
  | zero => exact Int.le_refl _
  | succ k ih => rw [infB]; split <;> omega
theorem infB_le {g : Nat → Int} {P : Nat → Prop} {i : Nat} (hP : P i) : ∀ k, i < k → infB g P k ≤ g i := by
  intro k
  induction k with
  | zero => intro h; omega
  | succ k ih =>
    intro h
    rw [infB]
    by_cases e : i = k
    · subst e; rw [if_pos (dC_t hP)]; omega
    · have := ih (by omega)
      split <;> omega
theorem infB_at (g : Nat → Int) (P : Nat → Prop) : ∀ k, infB g P k = 1000000 ∨ ∃ i, i < k ∧ P i ∧ infB g P k = g i := by
  intro k
  induction k with
  | zero => exact Or.inl rfl
  | succ k ih =>
    rw [infB]
    by_cases c : P k
    · rw [if_pos (dC_t c)]
      by_cases q : infB g P k ≤ g k
      · rw [show min (infB g P k) (g k) = infB g P k by omega]
        rcases ih with h | ⟨i, h1, h2, h3⟩
        · exact Or.inl h
        · exact Or.inr ⟨i, by omega, h2, h3⟩
      · exact Or.inr ⟨k, by omega, c, by omega⟩
    · rw [if_neg (by rw [dC_f c]; decide)]
      rcases ih with h | ⟨i, h1, h2, h3⟩
      · exact Or.inl h
      · exact Or.inr ⟨i, by omega, h2, h3⟩
/-- costs of ropes by what is carried -/
def CostOk (cost : Nat → Nat → Int) (nr : Nat) : Prop := ∀ r, r < nr → ∀ c, (cost c r = -1 ∨ 1 ≤ cost c r) ∧ ∀ c', Sub c' c → cost c r ≠ -1 → cost c' r ≠ -1 ∧ cost c' r ≤ cost c r
theorem wy_ok2 {Wy : Nat → Nat → Nat → Int} {cost : Nat → Nat → Int} {f t : Nat → Nat} {n nr : Nat} (hC : CostOk cost nr) (hD : ∀ c, isDist (Wy c) f t (cost c) n nr) : WyOk2 Wy n := by
  refine ⟨fun c p q hp hq => ((hD c).1 p q hp hq).1, fun c p hp => (hD c).2.1 p hp, fun c p j q hp hj hq => (hD c).2.2.1 p j q hp hj hq, fun c c' p q hs hp hq => ?_⟩
  have z := (hD c).2.2.2.2 (Wy c' p) (fun a b ha hb => by
    have h1 := (hD c').1 p a hp ha
    have h2 := (hD c').1 p b hp hb
    omega) (fun r hr hcr => by
    obtain ⟨m1, m2⟩ := (hC r hr c).2 c' hs hcr
    have := (hD c').2.2.2.1 p hp r hr m1
    omega) p q hp hq
  rw [(hD c').2.1 p hp] at z
  omega
/-- no edge of the reference's graph of states lowers B any more -/
def RFea (B : Nat → Nat → Int) (cost : Nat → Nat → Int) (f t fr to : Nat → Nat) (n nr nl : Nat) : Prop := ∀ p st, p < n → st < 81 → B p st < 1000000 →
  (∀ x, x < nl → fig st x = 0 → fr x = p → cnt (cSet st).testBit 12 < 2 → B p (st + 3 ^ x) ≤ B p st) ∧
  ∀ r, r < nr → cost (cSet st) r ≠ -1 → (f r = p → B (t r) (laidN (fun k => decide (to k = t r)) st nl) ≤ B p st + cost (cSet st) r) ∧ (t r = p → B (f r) (laidN (fun k => decide (to k = f r)) st nl) ≤ B p st + cost (cSet st) r)
theorem fix_le {B : Nat → Nat → Int} {Wy : Nat → Nat → Nat → Int} {cost : Nat → Nat → Int} {f t fr to : Nat → Nat} {live n nr nl : Nat} {Ls : Int} (hC : CostOk cost nr) (hD : ∀ c, isDist (Wy c) f t (cost c) n nr) (hF : FtOk live n fr to) (hft : ∀ r, r < nr → f r < n ∧ t r < n) (hlv : live < 2 ^ nl) (hnl : nl ≤ 4) (hB : ∀ p st, p < n → st < 81 → 0 ≤ B p st ∧ B p st ≤ 1000000) (hE : RFea B cost f t fr to n nr nl) (hL : ∀ p, p < n → Ls ≤ B p 80) (hL2 : Ls ≤ 1000000) :
    ∀ m l c p, 2 * cnt l.testBit 12 + cnt c.testBit 12 < m → l < 16 → c < 16 → l &&& c = 0 → Sub l live → Sub c live → cnt c.testBit 12 ≤ 2 → p < n → (∀ k, c.testBit k = true → to k ≠ p) → Ls ≤ B p (enc l c) + Vf Wy fr to l c p := by
  have hW := wy_ok2 hC hD
  have hlk : ∀ k, live.testBit k = true → k < nl := fun k hk => by
    refine Classical.byContradiction (fun hn => ?_)
    have : live.testBit k = false := Nat.testBit_lt_two_pow (Nat.lt_of_lt_of_le hlv (Nat.pow_le_pow_right (by decide) (by omega)))
    rw [this] at hk
    exact absurd hk (by decide)
  intro m
  induction m with
  | zero => intro l c p h; omega
  | succ m ih =>
    intro l c p h hl16 hc16 hlc hl hc hc2 hp hv
    have hd : ∀ i, l.testBit i = true → c.testBit i = false := fun i hi => bit_apart hlc hi
    obtain ⟨en1, en2, en3⟩ := enc_st l hl16 c hc16 hlc
    have b0 := hB p (enc l c) hp en1
    have subd : ∀ c', Sub c' c → l &&& c' = 0 := fun c' hs => by
      apply Nat.eq_of_testBit_eq
      intro i
      rw [Nat.testBit_and, Nat.zero_testBit]
      cases h1 : l.testBit i with
      | false => rfl
      | true =>
        cases h2 : c'.testBit i with
        | false => rfl
        | true => have z := hd i h1; rw [hs i h2] at z; exact absurd z (by decide)
    -- the potential: the least of B over what may still be carried of c
    have hFdef : ∃ F : Nat → Int, F = fun q => infB (fun c' => B q (enc l c')) (fun c' => Sub c' c ∧ ∀ k, c'.testBit k = true → to k ≠ q) 16 := ⟨_, rfl⟩
    obtain ⟨F, hFe⟩ := hFdef
    have fub : ∀ q, F q ≤ 1000000 := fun q => by rw [hFe]; exact infB_ub _ _ _
    have fle : ∀ q c', Sub c' c → (∀ k, c'.testBit k = true → to k ≠ q) → F q ≤ B q (enc l c') := fun q c' h1 h2 => by
      rw [hFe]
      exact infB_le (P := fun c' => Sub c' c ∧ ∀ k, c'.testBit k = true → to k ≠ q) ⟨h1, h2⟩ 16 (sub_lt16 h1 hc16)
    have fat : ∀ q, F q = 1000000 ∨ ∃ c', Sub c' c ∧ (∀ k, c'.testBit k = true → to k ≠ q) ∧ F q = B q (enc l c') := fun q => by
      rw [hFe]
      rcases infB_at (fun c' => B q (enc l c')) (fun c' => Sub c' c ∧ ∀ k, c'.testBit k = true → to k ≠ q) 16 with h | ⟨i, -, h2, h3⟩
      · exact Or.inl h
      · exact Or.inr ⟨i, h2.1, h2.2, h3⟩
    have fnn : ∀ q, q < n → 0 ≤ F q := fun q hq => by
      rcases fat q with h | ⟨c', h1, -, h3⟩
      · omega
      · rw [h3]
        have h16 := sub_lt16 h1 hc16
        exact (hB q _ hq (enc_st l hl16 c' h16 (subd c' h1)).1).1
    have one : ∀ (r x y : Nat), r < nr → x < n → y < n → cost c r ≠ -1 → (∀ c', Sub c' c → B x (enc l c') < 1000000 → cost c' r ≠ -1 → B y (laidN (fun k => decide (to k = y)) (enc l c') nl) ≤ B x (enc l c') + cost c' r) → F y ≤ F x + cost c r := by
      intro r x y hr hx hy hcr hedge
      have c1 := (hC r hr c).1
      have uy := fub y
      rcases fat x with h | ⟨c', h1, h2, h3⟩
      · omega
      · have h16 := sub_lt16 h1 hc16
        obtain ⟨e1, e2, e3⟩ := enc_st l hl16 c' h16 (subd c' h1)
        by_cases q : B x (enc l c') < 1000000
        · obtain ⟨m1, m2⟩ := (hC r hr c).2 c' h1 hcr
          have g := hedge c' h1 q m1
          obtain ⟨l1, l2, l3⟩ := laid_ok (q := fun k => decide (to k = y)) e1 nl hnl
          have bits : ∀ i, (cSet (laidN (fun k => decide (to k = y)) (enc l c') nl)).testBit i = (c'.testBit i && !(decide (i < nl) && decide (to i = y))) := fun i => by
            rw [laid_c e1 hnl, e3]
          have g2 := fle y (cSet (laidN (fun k => decide (to k = y)) (enc l c') nl)) (fun i hi => by
            rw [bits] at hi
            simp only [Bool.and_eq_true] at hi
            exact h1 i hi.1) (fun k hk => by
            rw [bits] at hk
            simp only [Bool.and_eq_true, Bool.not_eq_true', Bool.and_eq_false_iff, decide_eq_false_iff_not] at hk
            rcases hk.2 with z | z
            · exact absurd (hlk k (hc k (h1 k hk.1))) z
            · exact z)
          have ee := st_enc _ l1
          rw [l2, e2] at ee
          rw [ee] at g2
          omega
        · omega
    have hFF : Fea F f t (cost c) nr := by
      intro r hr hcr
      have hf := hft r hr
      constructor
      · refine one r (t r) (f r) hr hf.2 hf.1 hcr (fun c' hs hb hc9 => ?_)
        have h16 := sub_lt16 hs hc16
        obtain ⟨e1, e2, e3⟩ := enc_st l hl16 c' h16 (subd c' hs)
        have := (hE (t r) (enc l c') hf.2 e1 hb).2 r hr (by rw [e3]; exact hc9)
        rw [e3] at this
        exact this.2 rfl
      · refine one r (f r) (t r) hr hf.1 hf.2 hcr (fun c' hs hb hc9 => ?_)
        have h16 := sub_lt16 hs hc16
        obtain ⟨e1, e2, e3⟩ := enc_st l hl16 c' h16 (subd c' hs)
        have := (hE (f r) (enc l c') hf.1 e1 hb).2 r hr (by rw [e3]; exact hc9)
        rw [e3] at this
        exact this.1 rfl
    have fdist : ∀ q, q < n → F q ≤ F p + Wy c p q := fun q hq => (hD c).2.2.2.2 F (fun a b ha hb => by
      have := fub b
      have := fnn a ha
      omega) hFF p q hp hq
    have fp : F p ≤ B p (enc l c) := fle p c (fun i hi => hi) hv
    rcases V_cases Wy fr to l c p with ⟨rfl, rfl⟩ | e | ⟨k, h1, h2, h3⟩ | ⟨k, h1, h2, h3, h4, h5⟩
    · rw [Vf_0]
      have := hL p hp
      rw [show enc 0 0 = 80 from by decide]
      omega
    · omega
    · have ff := hF k h1 (hc k h2)
      have e := cnt_andn (n := 12) (by omega) h2
      have fd := fdist (to k) ff.2.1
      have vn := V_nn hW hF _ l (andn c (2 ^ k)) (to k) (Nat.lt_succ_self _) hl (sub_andn hc) ff.2.1
      rcases fat (to k) with q | ⟨c', s1, s2, s3⟩
      · omega
      · have ck : c'.testBit k = false := by
          cases z : c'.testBit k with
          | false => rfl
          | true => exact absurd rfl (s2 k z)
        have s4 := sub_andn2 s1 ck
        have cc := sub_cnt s4
        have i := ih l c' (to k) (by omega) hl16 (sub_lt16 s1 hc16) (subd c' s1) hl (fun i hi => hc i (s1 i hi)) (by omega) ff.2.1 s2
        have vm := V_mono hW hF _ l (andn c (2 ^ k)) c' (to k) (Nat.lt_succ_self _) s4 hl (sub_andn hc) (fun i hi => by rw [andn_bit, hd i hi]; rfl) ff.2.1
        omega
    · have ff := hF k h1 (hl k h3)
      have e := cnt_andn (n := 12) (by omega) h3
      have e2 := cnt_or (n := 12) (c := c) (k := k) (by omega) h2
      have fd := fdist (fr k) ff.1
      have vn := V_nn hW hF _ (andn l (2 ^ k)) (c ||| 2 ^ k) (fr k) (Nat.lt_succ_self _) (sub_andn hl) (sub_or hc (hl k h3)) ff.1
      rcases fat (fr k) with q | ⟨c', s1, s2, s3⟩
      · omega
      · have h16 := sub_lt16 s1 hc16
        obtain ⟨q1, q2, q3⟩ := enc_st l hl16 c' h16 (subd c' s1)
        have ck : c'.testBit k = false := by
          cases z : c'.testBit k with
          | false => rfl
          | true => rw [s1 k z] at h2; exact absurd h2 (by decide)
        have cc := sub_cnt s1
        have e3 := cnt_or (n := 12) (c := c') (k := k) (by omega) ck
        have fg : fig (enc l c') k = 0 := by
          have := lSet_bit (enc l c') k
          rw [q2, h3] at this
          simp only [Bool.true_eq, Bool.and_eq_true, decide_eq_true_eq] at this
          exact this.2
        by_cases fin : B (fr k) (enc l c') < 1000000
        · have g := (hE (fr k) (enc l c') ff.1 q1 fin).1 k (hlk k (hl k h3)) fg rfl (by rw [q3]; omega)
          obtain ⟨u1, u2, u3⟩ := st_up0 _ q1 k h1 fg
          have ee := st_enc _ u1
          rw [u2, u3, q2, q3] at ee
          have vm := V_mono hW hF _ (andn l (2 ^ k)) (c ||| 2 ^ k) (c' ||| 2 ^ k) (fr k) (Nat.lt_succ_self _) (sub_or2 s1) (sub_andn hl) (sub_or hc (hl k h3)) (fun i hi => by
            rw [andn_bit] at hi
            simp only [Bool.and_eq_true, Bool.not_eq_true', decide_eq_false_iff_not] at hi
            rw [or_bit, hd i hi.1]
            simp [hi.2]) ff.1
          have i := ih (andn l (2 ^ k)) (c' ||| 2 ^ k) (fr k) (by omega) (Nat.lt_of_le_of_lt (andn_le _ _) hl16) (Nat.or_lt_two_pow (n := 4) h16 (Nat.pow_lt_pow_right (by decide) h1)) (by
            apply Nat.eq_of_testBit_eq
            intro i
            rw [Nat.testBit_and, Nat.zero_testBit, andn_bit, or_bit]
            by_cases ei : k = i
            · subst ei; simp
            · cases z : l.testBit i with
              | false => rfl
              | true =>
                have := bit_apart (subd c' s1) z
                simp [this, ei]) (sub_andn hl) (fun i hi => sub_or hc (hl k h3) i (sub_or2 s1 i hi)) (by omega) ff.1 (fun j hj => by
            rw [or_bit] at hj
            simp only [Bool.or_eq_true, decide_eq_true_eq] at hj
            rcases hj with hj | rfl
            · exact s2 j hj
            · exact Ne.symm ff.2.2)
          rw [ee] at i
          omega
        · omega
