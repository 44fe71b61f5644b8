/-! bits of whole numbers -/
theorem iI_bv (n : Nat) : (iI (n : Int)).toBitVec = BitVec.ofNat 32 n := by
  rw [iI_nat]; rfl
theorem toInt_bv (x : Int32) (n : Nat) (h : x.toBitVec = BitVec.ofNat 32 n) (hn : n < 2 ^ 31) : x.toInt = (n : Int) := by
  have : x = nI n := Int32.toBitVec_inj.mp h
  rw [this, nI_toInt hn]
theorem band_nat (a b : Nat) (ha : a < 2 ^ 31) : band (a : Int) (b : Int) = ((a &&& b : Nat) : Int) := by
  unfold band
  refine toInt_bv _ _ ?_ (Nat.lt_of_le_of_lt Nat.and_le_left ha)
  rw [Int32.toBitVec_and, iI_bv, iI_bv, BitVec.ofNat_and]
theorem bor_nat (a b : Nat) (ha : a < 2 ^ 31) (hb : b < 2 ^ 31) : bor (a : Int) (b : Int) = ((a ||| b : Nat) : Int) := by
  unfold bor
  refine toInt_bv _ _ ?_ (Nat.or_lt_two_pow ha hb)
  rw [Int32.toBitVec_or, iI_bv, iI_bv, BitVec.ofNat_or]
theorem bxor_nat (a b : Nat) (ha : a < 2 ^ 31) (hb : b < 2 ^ 31) : bxor (a : Int) (b : Int) = ((a ^^^ b : Nat) : Int) := by
  unfold bxor
  refine toInt_bv _ _ ?_ (Nat.xor_lt_two_pow ha hb)
  rw [Int32.toBitVec_xor, iI_bv, iI_bv, BitVec.ofNat_xor]
theorem and31 {k : Nat} (hk : k < 32) : iI (k : Int) &&& 31 = iI (k : Int) := by
  have : ∀ k, k < 32 → iI ((k : Nat) : Int) &&& 31 = iI (k : Int) := by decide +kernel
  exact this k hk
theorem bshl_nat (a k : Nat) (hk : k < 31) (h : a * 2 ^ k < 2 ^ 31) : bshl (a : Int) (k : Int) = ((a * 2 ^ k : Nat) : Int) := by
  unfold bshl
  rw [and31 (by omega), iI_nat, iI_nat, pk_shlN (nI k) k ?_ (by omega), nI_toInt h]
  have : ∀ k, k < 31 → ((nI k).toBitVec.smod 32).toNat = k := by decide +kernel
  exact this k hk
theorem bshr_nat (a k : Nat) (hk : k < 31) (h : a < 2 ^ 31) : bshr (a : Int) (k : Int) = ((a / 2 ^ k : Nat) : Int) := by
  unfold bshr
  rw [and31 (by omega), iI_nat, iI_nat, pk_shrN h (nI k) k ?_, nI_toInt (Nat.lt_of_le_of_lt (Nat.div_le_self _ _) h)]
  have : ∀ k, k < 31 → ((nI k).toBitVec.smod 32).toNat = k := by decide +kernel
  exact this k hk
theorem bshl1 (k : Nat) (hk : k < 31) : bshl 1 (k : Int) = ((2 ^ k : Nat) : Int) := by
  have h : 2 ^ k < 2 ^ 31 := Nat.pow_lt_pow_right (by decide) hk
  have := bshl_nat 1 k hk (by rw [Nat.one_mul]; exact h)
  rw [Nat.one_mul] at this
  exact this
/-- the set of the numbers below n that p holds of, as a number -/
def bs (p : Nat → Bool) : Nat → Nat
  | 0 => 0
  | n + 1 => if p n then bs p n + 2 ^ n else bs p n
theorem bs_lt (p : Nat → Bool) (n : Nat) : bs p n < 2 ^ n := by
  induction n with
  | zero => exact Nat.one_pos
  | succ n ih =>
    unfold bs
    rw [Nat.pow_succ]
    split <;> omega
theorem bs_congr {p q : Nat → Bool} {n : Nat} (h : ∀ i, i < n → p i = q i) : bs p n = bs q n := by
  induction n with
  | zero => rfl
  | succ n ih =>
    unfold bs
    rw [ih (fun i hi => h i (by omega)), h n (by omega)]
theorem or_pow {a n : Nat} (h : a < 2 ^ n) : a ||| 2 ^ n = a + 2 ^ n := by
  have := Nat.two_pow_add_eq_or_of_lt h 1
  rw [Nat.mul_one] at this
  rw [Nat.or_comm, Nat.add_comm, this]
theorem bs_bor (p : Nat → Bool) {n : Nat} (hn : n < 31) : bor (bs p n : Int) (bshl 1 (n : Int)) = ((bs p n + 2 ^ n : Nat) : Int) := by
  have h1 : 2 ^ n < 2 ^ 31 := Nat.pow_lt_pow_right (by decide) hn
  rw [bshl1 n hn, bor_nat _ _ (Nat.lt_trans (bs_lt p n) h1) h1, or_pow (bs_lt p n)]
theorem bs_bor0 (p : Nat → Bool) {n : Nat} (hn : n < 31) : bor (bs p n : Int) 0 = (bs p n : Int) := by
  have h1 : 2 ^ n < 2 ^ 31 := Nat.pow_lt_pow_right (by decide) hn
  have := bor_nat (bs p n) 0 (Nat.lt_trans (bs_lt p n) h1) (by decide)
  rw [Nat.or_zero] at this
  exact this
theorem bs_test (p : Nat → Bool) (n i : Nat) : (bs p n).testBit i = (decide (i < n) && p i) := by
  induction n with
  | zero => simp [bs]
  | succ n ih =>
    unfold bs
    by_cases hp : p n = true
    · rw [if_pos hp, ← or_pow (bs_lt p n), Nat.testBit_or, ih, Nat.testBit_two_pow]
      by_cases hi : i = n
      · subst hi; simp [hp]
      · have h1 : ¬ n = i := fun h => hi h.symm
        by_cases h2 : i < n
        · simp [h1, h2, show i < n + 1 by omega]
        · simp [h1, h2, show ¬ i < n + 1 by omega]
    · rw [if_neg hp, ih]
      by_cases hi : i = n
      · subst hi; simp [hp]
      · by_cases h2 : i < n
        · simp [h2, show i < n + 1 by omega]
        · simp [h2, show ¬ i < n + 1 by omega]
/-- a bit of a set, as the machine asks for it -/
theorem bit_at (s k : Nat) (hs : s < 2 ^ 31) (hk : k < 31) : band (bshr (s : Int) (k : Int)) 1 = if s.testBit k then 1 else 0 := by
  rw [bshr_nat s k hk hs]
  have h1 := band_nat (s / 2 ^ k) 1 (Nat.lt_of_le_of_lt (Nat.div_le_self _ _) hs)
  rw [show ((1 : Nat) : Int) = 1 from rfl] at h1
  rw [h1, Nat.and_one_is_mod]
  have h2 : s.testBit k = decide (s / 2 ^ k % 2 = 1) := Nat.testBit_eq_decide_div_mod_eq
  rw [h2]
  have h3 : s / 2 ^ k % 2 = 0 ∨ s / 2 ^ k % 2 = 1 := by omega
  rcases h3 with h | h <;> simp [h]
/-- the first, and the last, place below n where f is r; else -1 -/
def fstI (f : Nat → Int) (r : Int) : Nat → Int
  | 0 => -1
  | n + 1 => if fstI f r n = -1 then (if f n = r then (n : Int) else -1) else fstI f r n
def lstI (f : Nat → Int) (r : Int) : Nat → Int
  | 0 => -1
  | n + 1 => if f n = r then (n : Int) else lstI f r n
theorem fstI_none {f : Nat → Int} {r : Int} {n : Nat} (h : ∀ b, b < n → f b ≠ r) : fstI f r n = -1 := by
  induction n with
  | zero => rfl
  | succ n ih =>
    unfold fstI
    rw [ih (fun b hb => h b (by omega)), if_pos rfl, if_neg (h n (by omega))]
theorem fstI_at {f : Nat → Int} {r : Int} {n i : Nat} (hi : i < n) (h : ∀ b, b < i → f b ≠ r) (hr : f i = r) : fstI f r n = i := by
  induction n with
  | zero => omega
  | succ n ih =>
    unfold fstI
    by_cases hin : i = n
    · subst hin
      rw [fstI_none h, if_pos rfl, if_pos hr]
    · rw [ih (by omega), if_neg (by omega)]
theorem bs_t {p : Nat → Bool} {n : Nat} (h : p n = true) : bs p (n + 1) = bs p n + 2 ^ n := by
  show (if p n then _ else _) = _
  rw [if_pos h]
theorem bs_f {p : Nat → Bool} {n : Nat} (h : p n = false) : bs p (n + 1) = bs p n := by
  show (if p n then _ else _) = _
  rw [if_neg (by rw [h]; decide)]
theorem bs_ort {p : Nat → Bool} {n : Nat} (hn : n < 31) (h : p n = true) : bor (bs p n : Int) (bshl 1 (n : Int)) = (bs p (n + 1) : Int) := by
  rw [bs_bor p hn, bs_t h]
theorem bs_or0 {p : Nat → Bool} {n : Nat} (hn : n < 31) (h : p n = false) : bor (bs p n : Int) 0 = (bs p (n + 1) : Int) := by
  rw [bs_bor0 p hn, bs_f h]
theorem bs_orf {p : Nat → Bool} {n : Nat} (h : p n = false) : (bs p n : Int) = (bs p (n + 1) : Int) := by
  rw [bs_f h]
theorem bs_R {p : Nat → Bool} {n : Nat} (hn : n ≤ 30) : inR (bs p n : Int) := by
  have h1 := bs_lt p n
  have h2 : 2 ^ n ≤ 2 ^ 30 := Nat.pow_le_pow_right (by decide) hn
  exact ⟨by omega, by omega⟩
theorem ev_ab {own : String} {cc : ByteArray} {nL fr lo : Nat} {Φ : Option Value → Mem → Prop} {pc : Nat} {ab ab' : List (Option Value)} {st : List Value} {σ : Mem} (h : ab = ab') (k : Ev own cc nL fr lo Φ pc ab' st σ) : Ev own cc nL fr lo Φ pc ab st σ := h ▸ k
theorem ev_σ {own : String} {cc : ByteArray} {nL fr lo : Nat} {Φ : Option Value → Mem → Prop} {pc : Nat} {ab : List (Option Value)} {st : List Value} {σ σ' : Mem} (h : σ = σ') (k : Ev own cc nL fr lo Φ pc ab st σ') : Ev own cc nL fr lo Φ pc ab st σ := h ▸ k
/-- a truth as a number -/
def b2 (p : Prop) [Decidable p] : Int := if p then 1 else 0
theorem b2_t {p : Prop} [Decidable p] (h : p) : b2 p = 1 := if_pos h
theorem b2_f {p : Prop} [Decidable p] (h : ¬ p) : b2 p = 0 := if_neg h
theorem b2_01 (p : Prop) [Decidable p] : b2 p = 0 ∨ b2 p = 1 := by
  by_cases h : p
  · exact Or.inr (b2_t h)
  · exact Or.inl (b2_f h)
theorem b2_R (p : Prop) [Decidable p] : inR (b2 p) := by
  rcases b2_01 p with h | h <;> rw [h] <;> decide
theorem b2_ne {p : Prop} [Decidable p] (h : ¬ b2 p = 0) : p := Decidable.byContradiction (fun q => h (b2_f q))
theorem b2_eq {p : Prop} [Decidable p] (h : b2 p = 0) : ¬ p := fun q => by rw [b2_t q] at h; exact absurd h (by decide)
