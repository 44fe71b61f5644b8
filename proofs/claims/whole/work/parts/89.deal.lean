/-! deals: the reference's numbers of them, and the class's -/
def lfK (nb v code : Nat) : Nat → Nat
  | 0 => code
  | k + 1 => if v.testBit (3 - k) then lfK nb v code k / nb else lfK nb v code k
def dgt (nb v code l : Nat) : Nat := lfK nb v code (3 - l) % nb
def hnd (nb v code : Nat) : Nat := (if v.testBit 0 then dgt nb v code 0 else 0) * 64 + (if v.testBit 1 then dgt nb v code 1 else 0) * 16 + (if v.testBit 2 then dgt nb v code 2 else 0) * 4 + (if v.testBit 3 then dgt nb v code 3 else 0)
def cds (nb v : Nat) : Nat → Nat
  | 0 => 1
  | l + 1 => cds nb v l * (if v.testBit l then nb else 1)
def cod (nb v h : Nat) : Nat → Nat
  | 0 => 0
  | l + 1 => if v.testBit l then cod nb v h l * nb + bin4 h l else cod nb v h l
def isBad (h nb v : Nat) : Nat := if anyB (badL h nb v) 4 then 1 else 0
set_option maxRecDepth 1000000 in
theorem hnd_ok1 : ∀ nb, nb < 5 → 1 ≤ nb → ∀ v, v < 16 → ∀ c, c < cds nb v 4 → hnd nb v c < 256 ∧ isBad (hnd nb v c) nb v = 0 := by decide +kernel
set_option maxRecDepth 1000000 in
theorem hnd_ok2 : ∀ nb, nb < 5 → 1 ≤ nb → ∀ v, v < 16 → ∀ c, c < cds nb v 4 → ∀ l, l < 4 → bin4 (hnd nb v c) l = if v.testBit l then dgt nb v c l else 0 := by decide +kernel
theorem bad_0 {h nb v : Nat} : isBad h nb v = 0 ↔ anyB (badL h nb v) 4 = false := by
  unfold isBad
  cases anyB (badL h nb v) 4 <;> simp
theorem hnd_ok {nb v c : Nat} (h1 : nb < 5) (h2 : 1 ≤ nb) (hv : v < 16) (hc : c < cds nb v 4) : hnd nb v c < 256 ∧ anyB (badL (hnd nb v c) nb v) 4 = false ∧ ∀ l, l < 4 → bin4 (hnd nb v c) l = if v.testBit l then dgt nb v c l else 0 := ⟨(hnd_ok1 nb h1 h2 v hv c hc).1, bad_0.mp (hnd_ok1 nb h1 h2 v hv c hc).2, hnd_ok2 nb h1 h2 v hv c hc⟩
set_option maxRecDepth 1000000 in
theorem hnd_up : ∀ nb, nb < 5 → 1 ≤ nb → ∀ v, v < 16 → ∀ c, c < cds nb v 4 → 0 < c → hnd nb v (c - 1) < hnd nb v c := by decide +kernel
def codB (nb v h : Nat) : Nat := if isBad h nb v = 0 then (if cod nb v h 4 < cds nb v 4 then (if hnd nb v (cod nb v h 4) = h then 0 else 1) else 1) else 0
set_option maxRecDepth 1000000 in
theorem cod_ok0 : ∀ nb, nb < 5 → 1 ≤ nb → ∀ v, v < 16 → ∀ h, h < 256 → codB nb v h = 0 := by decide +kernel
theorem cod_ok {nb v h : Nat} (h1 : nb < 5) (h2 : 1 ≤ nb) (hv : v < 16) (hh : h < 256) (hb : isBad h nb v = 0) : cod nb v h 4 < cds nb v 4 ∧ hnd nb v (cod nb v h 4) = h := by
  have z := cod_ok0 nb h1 h2 v hv h hh
  unfold codB at z
  rw [if_pos hb] at z
  by_cases q : cod nb v h 4 < cds nb v 4
  · rw [if_pos q] at z
    by_cases q2 : hnd nb v (cod nb v h 4) = h
    · exact ⟨q, q2⟩
    · rw [if_neg q2] at z; omega
  · rw [if_neg q] at z; omega
set_option maxRecDepth 1000000 in
theorem cds_le : ∀ nb, nb < 5 → ∀ v, v < 16 → ∀ l, l < 5 → cds nb v l ≤ 256 := by decide +kernel
set_option maxRecDepth 1000000 in
theorem cds_nl : ∀ m, m < 5 → ∀ nb, nb < 5 → ∀ v, v < 2 ^ m → cds nb v m = cds nb v 4 := by decide +kernel
theorem hnd_mono {nb v : Nat} (h1 : nb < 5) (h2 : 1 ≤ nb) (hv : v < 16) : ∀ a b, a < b → b < cds nb v 4 → hnd nb v a < hnd nb v b := by
  intro a b
  induction b with
  | zero => intro h; omega
  | succ b ih =>
    intro hab hb
    have s := hnd_up nb h1 h2 v hv (b + 1) hb (by omega)
    rw [Nat.add_sub_cancel] at s
    by_cases e : a = b
    · subst e; exact s
    · have := ih (by omega) (by omega)
      omega
theorem dlR_char (F : Nat → Int) : ∀ N, ((dlR F N).1 = 1000000 ∧ (dlR F N).2 = -1 ∧ ∀ h, h < N → 1000000 ≤ F h) ∨ ∃ h, h < N ∧ (dlR F N).1 = F h ∧ (dlR F N).2 = (h : Int) ∧ F h < 1000000 ∧ (∀ k, k < N → F h ≤ F k) ∧ ∀ k, k < h → F h < F k := by
  intro N
  induction N with
  | zero => exact Or.inl ⟨rfl, rfl, fun h hh => by omega⟩
  | succ N ih =>
    rw [dlR]
    rcases ih with ⟨i1, i2, i3⟩ | ⟨h, h1, h2, h3, h4, h5, h6⟩
    · by_cases q : F N < (dlR F N).1
      · rw [if_pos q]
        refine Or.inr ⟨N, by omega, rfl, rfl, by omega, fun k hk => ?_, fun k hk => ?_⟩
        · by_cases e : k = N
          · subst e; exact Int.le_refl _
          · have := i3 k (by omega); omega
        · have := i3 k hk; omega
      · rw [if_neg q]
        refine Or.inl ⟨i1, i2, fun k hk => ?_⟩
        by_cases e : k = N
        · subst e; omega
        · exact i3 k (by omega)
    · by_cases q : F N < (dlR F N).1
      · rw [if_pos q]
        refine Or.inr ⟨N, by omega, rfl, rfl, by omega, fun k hk => ?_, fun k hk => ?_⟩
        · by_cases e : k = N
          · subst e; exact Int.le_refl _
          · have := h5 k (by omega); omega
        · have := h5 k hk; omega
      · rw [if_neg q]
        refine Or.inr ⟨h, by omega, h2, h3, h4, fun k hk => ?_, h6⟩
        by_cases e : k = N
        · subst e; omega
        · exact h5 k (by omega)
theorem dl_eq {F G : Nat → Int} {φ : Nat → Nat} {M N : Nat} (hφ : ∀ c, c < M → φ c < N) (hmono : ∀ a b, a < b → b < M → φ a < φ b) (hG : ∀ c, c < M → G c = min (F (φ c)) 1000000) (hout : ∀ h, h < N → F h < 1000000 → ∃ c, c < M ∧ φ c = h) : (dlR G M).1 = (dlR F N).1 ∧ (((dlR G M).2 = -1 ∧ (dlR F N).2 = -1) ∨ ∃ c, c < M ∧ (dlR G M).2 = (c : Int) ∧ (dlR F N).2 = (φ c : Int)) := by
  rcases dlR_char G M with ⟨g1, g2, g3⟩ | ⟨c, c1, c2, c3, c4, c5, c6⟩
  · rcases dlR_char F N with ⟨f1, f2, f3⟩ | ⟨h, h1, h2, h3, h4, h5, h6⟩
    · exact ⟨by rw [g1, f1], Or.inl ⟨g2, f2⟩⟩
    · obtain ⟨c, hc, he⟩ := hout h h1 h4
      have a := g3 c hc
      rw [hG c hc, he] at a
      omega
  · have gc := hG c c1
    rcases dlR_char F N with ⟨f1, f2, f3⟩ | ⟨h, h1, h2, h3, h4, h5, h6⟩
    · have := f3 (φ c) (hφ c c1)
      omega
    · obtain ⟨d, hd, he⟩ := hout h h1 h4
      have gd := hG d hd
      rw [he] at gd
      have a1 := c5 d hd
      have a2 := h5 (φ c) (hφ c c1)
      have ec : c = d := by
        rcases Nat.lt_trichotomy c d with q | q | q
        · have m := hmono c d q hd
          rw [he] at m
          have := h6 (φ c) m
          omega
        · exact q
        · have := c6 d q
          omega
      subst ec
      exact ⟨by rw [c2, h2, gd]; omega, Or.inr ⟨c, c1, c3, by rw [h3, he]⟩⟩
