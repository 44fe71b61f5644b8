/-! distances: least sums by ropes are the greatest potentials -/
theorem fw_le {n : Nat} {D : Nat → Nat → Int} : ∀ k p q, fwN D k p q ≤ D p q := by
  intro k
  induction k with
  | zero => intro p q; exact Int.le_refl _
  | succ k ih =>
    intro p q
    have h1 := ih p q
    show min _ _ ≤ _
    omega
theorem fw_tri {n : Nat} {D : Nat → Nat → Int} (h : okD n D) (h0 : ∀ p, p < n → D p p = 0) : ∀ k, k ≤ n → ∀ j p q, j < k → p < n → q < n → fwN D k p q ≤ fwN D k p j + fwN D k j q := by
  intro k
  induction k with
  | zero => intro _ j p q hj; omega
  | succ k ih =>
    intro hk j p q hj hp hq
    have hkn : k < n := by omega
    have ok := fwN_ok h k (by omega)
    have dg := fwN_diag h h0 k (by omega) k hkn
    have I := ih (by omega)
    have hjn : j < n := by omega
    show min (fwN D k p q) (fwN D k p k + fwN D k k q) ≤ min (fwN D k p j) (fwN D k p k + fwN D k k j) + min (fwN D k j q) (fwN D k j k + fwN D k k q)
    have a1 := ok p k hp hkn
    have a2 := ok k q hkn hq
    have a3 := ok k j hkn hjn
    have a4 := ok j k hjn hkn
    by_cases e : j = k
    · subst e
      omega
    · have b1 := I j p q (by omega) hp hq
      have b2 := I j p k (by omega) hp hkn
      have b3 := I j k q (by omega) hkn hq
      omega
theorem fw_pot {n : Nat} {D : Nat → Nat → Int} {h : Nat → Int} (hD : ∀ p q, p < n → q < n → h q ≤ h p + D p q) : ∀ k, k ≤ n → ∀ p q, p < n → q < n → h q ≤ h p + fwN D k p q := by
  intro k
  induction k with
  | zero => intro _; exact hD
  | succ k ih =>
    intro hk p q hp hq
    have a1 := ih (by omega) p q hp hq
    have a2 := ih (by omega) p k hp (by omega)
    have a3 := ih (by omega) k q (by omega) hq
    show _ ≤ _ + min _ _
    omega
theorem edg_mono {f t : Nat → Nat} {c : Nat → Int} : ∀ r m p q, r ≤ m → edg f t c m p q ≤ edg f t c r p q := by
  intro r m p q h
  induction m with
  | zero => obtain rfl : r = 0 := by omega
            exact Int.le_refl _
  | succ m ih =>
    by_cases e : r = m + 1
    · subst e; exact Int.le_refl _
    · have := ih (by omega)
      rw [show edg f t c (m + 1) p q = (if c m ≠ -1 ∧ ((p = f m ∧ q = t m) ∨ (p = t m ∧ q = f m)) then min (edg f t c m p q) (c m) else edg f t c m p q) from rfl]
      split <;> omega
theorem edg_le {f t : Nat → Nat} {c : Nat → Int} {nr r : Nat} (hr : r < nr) (hc : c r ≠ -1) : edg f t c nr (f r) (t r) ≤ c r ∧ edg f t c nr (t r) (f r) ≤ c r := by
  have m1 := edg_mono (f := f) (t := t) (c := c) (r + 1) nr (f r) (t r) hr
  have m2 := edg_mono (f := f) (t := t) (c := c) (r + 1) nr (t r) (f r) hr
  rw [show edg f t c (r + 1) (f r) (t r) = (if c r ≠ -1 ∧ ((f r = f r ∧ t r = t r) ∨ (f r = t r ∧ t r = f r)) then min (edg f t c r (f r) (t r)) (c r) else edg f t c r (f r) (t r)) from rfl, if_pos ⟨hc, Or.inl ⟨rfl, rfl⟩⟩] at m1
  rw [show edg f t c (r + 1) (t r) (f r) = (if c r ≠ -1 ∧ ((t r = f r ∧ f r = t r) ∨ (t r = t r ∧ f r = f r)) then min (edg f t c r (t r) (f r)) (c r) else edg f t c r (t r) (f r)) from rfl, if_pos ⟨hc, Or.inr ⟨rfl, rfl⟩⟩] at m2
  omega
/-- h rises by no rope's cost -/
def Fea (h : Nat → Int) (f t : Nat → Nat) (c : Nat → Int) (nr : Nat) : Prop := ∀ r, r < nr → c r ≠ -1 → h (f r) ≤ h (t r) + c r ∧ h (t r) ≤ h (f r) + c r
theorem edg_pot {f t : Nat → Nat} {c : Nat → Int} {h : Nat → Int} {n : Nat} (hb : ∀ p q, p < n → q < n → h q ≤ h p + 1000000) : ∀ nr, Fea h f t c nr → ∀ p q, p < n → q < n → h q ≤ h p + edg f t c nr p q := by
  intro nr
  induction nr with
  | zero =>
    intro _ p q hp hq
    have := hb p q hp hq
    show _ ≤ _ + (if p = q then (0 : Int) else 1000000)
    split
    next e => subst e; omega
    next => omega
  | succ nr ih =>
    intro hF p q hp hq
    have i := ih (fun r hr => hF r (by omega)) p q hp hq
    rw [show edg f t c (nr + 1) p q = (if c nr ≠ -1 ∧ ((p = f nr ∧ q = t nr) ∨ (p = t nr ∧ q = f nr)) then min (edg f t c nr p q) (c nr) else edg f t c nr p q) from rfl]
    split
    next e =>
      have w := hF nr (by omega) e.1
      rcases e.2 with ⟨rfl, rfl⟩ | ⟨rfl, rfl⟩
      · omega
      · omega
    next => exact i
/-- what a matrix of distances is -/
def isDist (D : Nat → Nat → Int) (f t : Nat → Nat) (c : Nat → Int) (n nr : Nat) : Prop := okD n D ∧ (∀ p, p < n → D p p = 0) ∧ (∀ p j q, p < n → j < n → q < n → D p q ≤ D p j + D j q) ∧ (∀ p, p < n → Fea (D p) f t c nr) ∧
  ∀ h : Nat → Int, (∀ p q, p < n → q < n → h q ≤ h p + 1000000) → Fea h f t c nr → ∀ p q, p < n → q < n → h q ≤ h p + D p q
theorem fw_dist {f t : Nat → Nat} {c : Nat → Int} {n nr : Nat} (hc : ∀ r, r < nr → c r = -1 ∨ (0 ≤ c r ∧ c r ≤ 1000000)) (hft : ∀ r, r < nr → f r < n ∧ t r < n ∧ f r ≠ t r) : isDist (fwN (edg f t c nr) n) f t c n nr := by
  have ok : okD n (edg f t c nr) := fun p q _ _ => edg_ok hc nr (Nat.le_refl _) p q
  have dg : ∀ p, p < n → edg f t c nr p p = 0 := fun p _ => edg_diag (fun r hr => (hft r hr).2.2) nr (Nat.le_refl _) p
  have tr := fw_tri ok dg n (Nat.le_refl _)
  refine ⟨fwN_ok ok n (Nat.le_refl _), fwN_diag ok dg n (Nat.le_refl _), fun p j q hp hj hq => tr j p q hj hp hq, fun p hp r hr hcr => ?_, fun h hb hF p q hp hq => fw_pot (edg_pot hb nr hF) n (Nat.le_refl _) p q hp hq⟩
  have hf := hft r hr
  have e := edg_le (f := f) (t := t) hr hcr
  have l1 := fw_le (n := n) (D := edg f t c nr) n (f r) (t r)
  have l2 := fw_le (n := n) (D := edg f t c nr) n (t r) (f r)
  have t1 := tr (t r) p (f r) hf.2.1 hp hf.1
  have t2 := tr (f r) p (t r) hf.1 hp hf.2.1
  omega
/-- a potential that is 0 at a, above the distances, and rises by no rope's cost is the distance -/
theorem dist_eq {D : Nat → Nat → Int} {f t : Nat → Nat} {c : Nat → Int} {n nr : Nat} (hD : isDist D f t c n nr) {R : Nat → Int} {a : Nat} (ha : a < n) (h0 : R a = 0) (hlo : ∀ x, x < n → D a x ≤ R x) (hhi : ∀ x, x < n → R x ≤ 1000000) (hF : Fea R f t c nr) : ∀ x, x < n → R x = D a x := by
  intro x hx
  have h1 := hlo x hx
  have h2 := hD.2.2.2.2 R (fun p q hp hq => by
    have := hlo p hp
    have := (hD.1 a p ha hp).1
    have := hhi q hq
    omega) hF a x ha hx
  rw [h0] at h2
  omega
theorem dst_dist {σ : Mem} {P n nr nb nl : Nat} {f t : Nat → Nat} (h : PlanOk σ P n nr nb nl f t) {w wt b s : Nat} {dry : Int} (hb : b < nb) : isDist (dst σ P n nr nl w wt f t b s dry) f t (fun r => minZ σ P nl w wt r b s dry) n nr := by
  unfold dst
  refine fw_dist (fun r hr => ?_) (fun r hr => (h.1.2.2.2.2.2 r hr).2.2)
  have := h.min (w := w) (wt := wt) (s := s) (dry := dry) hr hb
  show minZ σ P nl w wt r b s dry = -1 ∨ _
  omega
