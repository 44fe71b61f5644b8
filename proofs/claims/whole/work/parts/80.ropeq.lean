theorem edg_sym {f t : Nat → Nat} {c : Nat → Int} : ∀ r p q, edg f t c r p q = edg f t c r q p := by
  intro r
  induction r with
  | zero =>
    intro p q
    show (if p = q then (0 : Int) else 1000000) = (if q = p then (0 : Int) else 1000000)
    by_cases e : p = q
    · rw [if_pos e, if_pos e.symm]
    · rw [if_neg e, if_neg (fun z => e z.symm)]
  | succ r ih =>
    intro p q
    rw [show edg f t c (r + 1) p q = (if c r ≠ -1 ∧ ((p = f r ∧ q = t r) ∨ (p = t r ∧ q = f r)) then min (edg f t c r p q) (c r) else edg f t c r p q) from rfl, show edg f t c (r + 1) q p = (if c r ≠ -1 ∧ ((q = f r ∧ p = t r) ∨ (q = t r ∧ p = f r)) then min (edg f t c r q p) (c r) else edg f t c r q p) from rfl, ih p q]
    by_cases e : c r ≠ -1 ∧ ((p = f r ∧ q = t r) ∨ (p = t r ∧ q = f r))
    · rw [if_pos e, if_pos (by omega)]
    · rw [if_neg e, if_neg (by omega)]
/-- the reference's first sums: 999 where no rope is; the first m ropes; then one rope more -/
def e1D (f t : Nat → Nat) (c : Nat → Int) (m i j : Nat) : Int := min (edg f t c m i j) 999
def e2D (f t : Nat → Nat) (c : Nat → Int) (m a b : Nat) (wd : Int) (i j : Nat) : Int := if (i = a ∧ j = b) ∨ (i = b ∧ j = a) then min (e1D f t c m i j) wd else e1D f t c m i j
/-- finite distances are short: every 99 feet there is a pole -/
theorem dist_short {n : Nat} (hn : n ≤ 8) {R : Nat → Int} {i : Nat} (hi : i < n) (h0 : R i = 0) (hR : ∀ y, y < n → 0 ≤ R y ∧ R y ≤ 1000000) {Ok : (Nat → Int) → Prop} (hOk : ∀ v : Int, 0 ≤ v → (¬ ∃ z, z < n ∧ v < R z ∧ R z ≤ v + 99) → Ok (fun y => if R y ≤ v then R y else 1000000)) (hg : ∀ h : Nat → Int, Ok h → ∀ y, y < n → h y ≤ h i + R y) : ∀ y, y < n → R y < 1000000 → R y ≤ 792 := by
  intro y hy hfin
  refine Classical.byContradiction (fun hlong => ?_)
  have gap : ∀ v : Int, 0 ≤ v → v < R y → ∃ z, z < n ∧ v < R z ∧ R z ≤ v + 99 := by
    intro v hv hvy
    refine Classical.byContradiction (fun hno => ?_)
    have := hg _ (hOk v hv hno) y hy
    rw [if_neg (by omega), h0, if_pos (by omega)] at this
    omega
  have up : ∀ k : Nat, k ≤ 8 → k + 1 ≤ cnt (fun x => decide (R x ≤ 99 * k)) n := by
    intro k
    induction k with
    | zero =>
      intro _
      exact cnt_pos hi (by rw [h0]; decide)
    | succ k ih =>
      intro hk
      have ihk := ih (by omega)
      obtain ⟨z, hz, h1, h2⟩ := gap (99 * k) (by omega) (by omega)
      have := cnt_more (p := fun x => decide (R x ≤ 99 * (k : Int))) (q := fun x => decide (R x ≤ 99 * ((k + 1 : Nat) : Int))) hz (decide_eq_false (by omega)) (decide_eq_true (by omega)) (fun j _ hj => decide_eq_true (by have := of_decide_eq_true hj; omega))
      omega
  have h8 := up 8 (Nat.le_refl _)
  have hc := cnt_le (fun x => decide (R x ≤ 99 * ((8 : Nat) : Int))) n
  omega
theorem rope_eq {D : Nat → Nat → Int} {f t : Nat → Nat} {c : Nat → Int} {n nr : Nat} (hD : isDist D f t c n nr) (hc : ∀ r, r < nr → c r = -1 ∨ (1 ≤ c r ∧ c r ≤ 99)) (hft : ∀ r, r < nr → f r < n ∧ t r < n ∧ f r ≠ t r) (hn : n ≤ 8) {a b : Nat} (ha : a < n) (hb : b < n) (hab : a ≠ b) {wd : Int} (hw0 : 1 ≤ wd) (hw1 : wd ≤ 99) : ∀ i j, i < n → j < n → fwN (e2D f t c nr a b wd) n i j = cap9 (withR D a b wd i j) := by
  obtain ⟨dok, ddg, dtr, dfe, dpo⟩ := id hD
  have hc0 : ∀ r, r < nr → c r = -1 ∨ (0 ≤ c r ∧ c r ≤ 1000000) := fun r hr => by have := hc r hr; omega
  have eok : ∀ p q, 0 ≤ edg f t c nr p q ∧ edg f t c nr p q ≤ 1000000 := fun p q => edg_ok hc0 nr (Nat.le_refl _) p q
  have edg0 : ∀ p, edg f t c nr p p = 0 := fun p => edg_diag (fun r hr => (hft r hr).2.2) nr (Nat.le_refl _) p
  have ok2 : ∀ p q, 0 ≤ e2D f t c nr a b wd p q ∧ e2D f t c nr a b wd p q ≤ 999 := by
    intro p q
    have := eok p q
    unfold e2D e1D
    split <;> omega
  have ok2' : okD n (e2D f t c nr a b wd) := fun p q _ _ => by have := ok2 p q; omega
  have dg2 : ∀ p, p < n → e2D f t c nr a b wd p p = 0 := by
    intro p _
    have := edg0 p
    unfold e2D e1D
    split <;> omega
  have wok := fwN_ok ok2' n (Nat.le_refl _)
  have wdg := fwN_diag ok2' dg2 n (Nat.le_refl _)
  have wtr := fw_tri ok2' dg2 n (Nat.le_refl _)
  have wle := fw_le (n := n) (D := e2D f t c nr a b wd) n
  have wpo : ∀ h : Nat → Int, (∀ p q, p < n → q < n → h q ≤ h p + 999) → Fea h f t c nr → h a ≤ h b + wd → h b ≤ h a + wd → ∀ p q, p < n → q < n → h q ≤ h p + fwN (e2D f t c nr a b wd) n p q := by
    intro h h9 hF hab1 hab2 p q hp hq
    refine fw_pot (fun p q hp hq => ?_) n (Nat.le_refl _) p q hp hq
    have z := edg_pot (fun p q hp hq => by have := h9 p q hp hq; omega) nr hF p q hp hq
    have z9 := h9 p q hp hq
    unfold e2D e1D
    split
    next e => rcases e with ⟨rfl, rfl⟩ | ⟨rfl, rfl⟩ <;> omega
    next => omega
  generalize hW : fwN (e2D f t c nr a b wd) n = W at *
  have w999 : ∀ p q, W p q ≤ 999 := fun p q => by have := wle p q; have := ok2 p q; omega
  have xdef : ∀ i j, withR D a b wd i j = min (D i j) (min (D i a + wd + D b j) (D i b + wd + D a j)) := fun i j => rfl
  have daa := ddg a ha
  have dbb := ddg b hb
  -- the sums with the rope, from i
  have xfe : ∀ i, i < n → Fea (withR D a b wd i) f t c nr := by
    intro i hi r hr hcr
    have h1 := dfe i hi r hr hcr
    have h2 := dfe a ha r hr hcr
    have h3 := dfe b hb r hr hcr
    rw [xdef, xdef]
    omega
  have xab : ∀ i, i < n → withR D a b wd i a ≤ withR D a b wd i b + wd ∧ withR D a b wd i b ≤ withR D a b wd i a + wd := by
    intro i hi
    have h1 := (dok a b ha hb).1
    have h2 := (dok b a hb ha).1
    have h3 := (dok i a hi ha).1
    have h4 := (dok i b hi hb).1
    rw [xdef, xdef]
    omega
  have xpo : ∀ h : Nat → Int, (∀ p q, p < n → q < n → h q ≤ h p + 1000000) → Fea h f t c nr → h a ≤ h b + wd → h b ≤ h a + wd → ∀ i j, i < n → j < n → h j ≤ h i + withR D a b wd i j := by
    intro h h9 hF hab1 hab2 i j hi hj
    have z := dpo h h9 hF
    have z1 := z i j hi hj
    have z2 := z i a hi ha
    have z3 := z b j hb hj
    have z4 := z i b hi hb
    have z5 := z a j ha hj
    rw [xdef]
    omega
  intro i j hi hj
  have xii : withR D a b wd i i = 0 := by
    have h1 := ddg i hi
    have h2 := (dok i a hi ha).1
    have h3 := (dok b i hb hi).1
    have h4 := (dok i b hi hb).1
    have h5 := (dok a i ha hi).1
    rw [xdef]
    omega
  have xR : ∀ y, y < n → 0 ≤ withR D a b wd i y ∧ withR D a b wd i y ≤ 1000000 := by
    intro y hy
    have h1 := dok i y hi hy
    have h2 := (dok i a hi ha).1
    have h3 := (dok b y hb hy).1
    have h4 := (dok i b hi hb).1
    have h5 := (dok a y ha hy).1
    rw [xdef]
    omega
  have short := dist_short hn hi xii xR (Ok := fun h => (∀ p q, p < n → q < n → h q ≤ h p + 1000000) ∧ Fea h f t c nr ∧ h a ≤ h b + wd ∧ h b ≤ h a + wd) (fun v hv hno => by
    have key : ∀ x y (e : Int), x < n → y < n → 1 ≤ e → e ≤ 99 → withR D a b wd i y ≤ withR D a b wd i x + e → (if withR D a b wd i y ≤ v then withR D a b wd i y else 1000000) ≤ (if withR D a b wd i x ≤ v then withR D a b wd i x else 1000000) + e := by
      intro x y e hx hy h1 h2 h3
      have r1 := xR x hx
      have r2 := xR y hy
      by_cases q : withR D a b wd i x ≤ v
      · by_cases q2 : withR D a b wd i y ≤ v
        · rw [if_pos q, if_pos q2]; exact h3
        · exact absurd ⟨y, hy, by omega, by omega⟩ hno
      · rw [if_neg q]
        split <;> omega
    refine ⟨fun p q hp hq => ?_, fun r hr hcr => ?_, ?_, ?_⟩
    · have r1 := xR p hp
      have r2 := xR q hq
      dsimp only
      split <;> split <;> omega
    · have hf := hft r hr
      have hcc := (hc r hr).resolve_left hcr
      have z := xfe i hi r hr hcr
      exact ⟨key (t r) (f r) (c r) hf.2.1 hf.1 hcc.1 hcc.2 z.1, key (f r) (t r) (c r) hf.1 hf.2.1 hcc.1 hcc.2 z.2⟩
    · exact key b a wd hb ha hw0 hw1 (xab i hi).1
    · exact key a b wd ha hb hw0 hw1 (xab i hi).2) (fun h hh y hy => xpo h hh.1 hh.2.1 hh.2.2.1 hh.2.2.2 i y hi hy)
  have cR : ∀ y, y < n → 0 ≤ cap9 (withR D a b wd i y) ∧ cap9 (withR D a b wd i y) ≤ 999 := by
    intro y hy
    have r := xR y hy
    unfold cap9
    split
    next q => have := short y hy q; omega
    next => omega
  have le1 : W i j ≤ cap9 (withR D a b wd i j) := by
    have z := xpo (W i) (fun p q hp hq => by
      have := wok i p hi hp
      have := w999 i q
      omega) (fun r hr hcr => by
      have hf := hft r hr
      have e := edg_le (f := f) (t := t) hr hcr
      have l1 := wle (f r) (t r)
      have l2 := wle (t r) (f r)
      have t1 := wtr (t r) i (f r) hf.2.1 hi hf.1
      have t2 := wtr (f r) i (t r) hf.1 hi hf.2.1
      have g1 : e2D f t c nr a b wd (f r) (t r) ≤ edg f t c nr (f r) (t r) := by unfold e2D e1D; split <;> omega
      have g2 : e2D f t c nr a b wd (t r) (f r) ≤ edg f t c nr (t r) (f r) := by unfold e2D e1D; split <;> omega
      omega) (by
      have t1 := wtr b i a hb hi ha
      have l1 := wle b a
      have g1 : e2D f t c nr a b wd b a ≤ wd := by unfold e2D; rw [if_pos (Or.inr ⟨rfl, rfl⟩)]; omega
      omega) (by
      have t1 := wtr a i b ha hi hb
      have l1 := wle a b
      have g1 : e2D f t c nr a b wd a b ≤ wd := by unfold e2D; rw [if_pos (Or.inl ⟨rfl, rfl⟩)]; omega
      omega) i j hi hj
    have w0 := wdg i hi
    have w9 := w999 i j
    unfold cap9
    split <;> omega
  have le2 : cap9 (withR D a b wd i j) ≤ W i j := by
    have key : ∀ x y (e : Int), x < n → y < n → 1 ≤ e → withR D a b wd i y ≤ withR D a b wd i x + e → e ≤ 99 → cap9 (withR D a b wd i y) ≤ cap9 (withR D a b wd i x) + e := by
      intro x y e hx hy h1 h2 h3
      have r1 := cR y hy
      by_cases q : withR D a b wd i x < 1000000
      · have s1 := short x hx q
        have e1 : cap9 (withR D a b wd i x) = withR D a b wd i x := by unfold cap9; rw [if_pos q]
        have e2 : cap9 (withR D a b wd i y) = withR D a b wd i y := by unfold cap9; rw [if_pos (by omega)]
        omega
      · have e1 : cap9 (withR D a b wd i x) = 999 := by unfold cap9; rw [if_neg q]
        omega
    have z := wpo (fun y => cap9 (withR D a b wd i y)) (fun p q hp hq => by
      have := cR p hp
      have := cR q hq
      omega) (fun r hr hcr => by
      have hf := hft r hr
      have hcc := (hc r hr).resolve_left hcr
      have z := xfe i hi r hr hcr
      exact ⟨key (t r) (f r) (c r) hf.2.1 hf.1 hcc.1 z.1 hcc.2, key (f r) (t r) (c r) hf.1 hf.2.1 hcc.1 z.2 hcc.2⟩) (key b a wd hb ha hw0 (xab i hi).1 hw1) (key a b wd ha hb hw0 (xab i hi).2 hw1) i j hi hj
    have c0 : cap9 (withR D a b wd i i) = 0 := by rw [xii]; decide
    omega
  omega
theorem dstF_dist {σ : Mem} {P n nr nb nl : Nat} {f t : Nat → Nat} (h : PlanOk σ P n nr nb nl f t) (w : Nat) : isDist (dstF f t (fun r => σ.1 (P + 7) r) n nr w) f t (costF (fun r => σ.1 (P + 7) r) w) n nr := by
  unfold dstF
  refine fw_dist (fun r hr => ?_) (fun r hr => (h.1.2.2.2.2.2 r hr).2.2)
  have q := (h.2.2.2.2.1 r hr).1
  show (if w.testBit r then σ.1 (P + 7) r else -1) = -1 ∨ (0 ≤ (if w.testBit r then σ.1 (P + 7) r else -1) ∧ (if w.testBit r then σ.1 (P + 7) r else -1) ≤ 1000000)
  split <;> omega
