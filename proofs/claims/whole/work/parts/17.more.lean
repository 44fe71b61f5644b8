/-! more rows of the run, more of bits, sums -/
def bushr (a b : Int) : Int := ((iI a).toUInt32 >>> ((iI b).toUInt32 &&& Int32.toUInt32 31)).toInt32.toInt
theorem bushr_R (a b : Int) : inR (bushr a b) := inR_of _
section EVX
variable {own : String} {cc : ByteArray} {nL fr lo : Nat} {Φ : Option Value → Mem → Prop} {pc : Nat} {ab : List (Option Value)} {st : List Value} {σ : Mem}
theorem ev_iushr {x y : Int} (hd : decode cc pc = .ok (.iushr, 1)) (k : Ev own cc nL fr lo Φ (pc + 1) ab (.int (iI (bushr x y)) :: st) σ) : Ev own cc nL fr lo Φ pc ab (.int (iI y) :: .int (iI x) :: st) σ := by
  intro p l e R s m args below meth c g A H0 cells slots Q H locs ls C hW hS hL hret
  exact lv_iushr C.1 C.2.1 hd (iI_of _).symm (k p l e R s m args below meth c g A H0 cells slots Q H locs ls C hW hS hL hret)
theorem ev_alen {c n : Nat} (hd : decode cc pc = .ok (.arraylength, 1)) (hsh : shapes[c]? = some (.inr (0, n))) (kk : Ev own cc nL fr lo Φ (pc + 1) ab (.int (iI n) :: st) σ) : Ev own cc nL fr lo Φ pc ab (.ref c :: st) σ := by
  intro p l e R s m args below meth c0 g A H0 cells slots Q H locs ls Cx hW hS hL hret
  have hat := cellsG_at g σ (shapes_lt hsh)
  rw [ent_a hsh (by decide)] at hat
  exact va_alen Cx.1 Cx.2.1 Cx.2.2.2.2.2.1.1 hW.1 c 0 hat (tysG_at g rfl) (v := iI n) (iI_nat n).symm hd (kk p l e R s m args below meth c0 g A H0 cells slots Q H locs ls Cx hW hS hL hret)
theorem ev_lookup2 {dflt o0 o1 : Int} {k0 k1 : Int} {len : Nat} {z : Int} {tgt : Nat} {off : Int} (hd : decode cc pc = .ok (.lookupswitch dflt #[(k0, o0), (k1, o1)], len)) (hz : inR z) (hk : k0 < k1) (ho : off = if z = k0 then o0 else if z = k1 then o1 else dflt) (ht : (pc : Int) + off = (tgt : Int)) (k : Ev own cc nL fr lo Φ tgt ab st σ) : Ev own cc nL fr lo Φ pc ab (.int (iI z) :: st) σ := by
  intro p l e R s m args below meth c g A H0 cells slots Q H locs ls C hW hS hL hret
  refine lv_lookup C.1 C.2.1 hd (by simpa using hk) ?_ ht (k p l e R s m args below meth c g A H0 cells slots Q H locs ls C hW hS hL hret)
  rw [iI_toInt hz.1 hz.2, ho]
  show Op.lookupswitch.offset [(k0, o0), (k1, o1)] dflt z = _
  by_cases h0 : z = k0
  · simp [Op.lookupswitch.offset, h0]
  · by_cases h1 : z = k1
    · subst h1
      simp [Op.lookupswitch.offset, h0, Ne.symm h0]
    · simp [Op.lookupswitch.offset, h0, h1, Ne.symm h0, Ne.symm h1]
end EVX
/-- w without b -/
def andn (w b : Nat) : Nat := w ^^^ (w &&& b)
theorem andn_test (w b i : Nat) : (andn w b).testBit i = (w.testBit i && !b.testBit i) := by
  unfold andn
  rw [Nat.testBit_xor, Nat.testBit_and]
  cases w.testBit i <;> cases b.testBit i <;> rfl
theorem andn_lt {w n : Nat} (b : Nat) (h : w < 2 ^ n) : andn w b < 2 ^ n := Nat.xor_lt_two_pow h (Nat.lt_of_le_of_lt Nat.and_le_left h)
theorem bxor_m1 (b : Nat) : iI (bxor (b : Int) (-1)) = ~~~ (iI (b : Int)) := by
  unfold bxor
  rw [iI_of]
  apply Int32.toBitVec_inj.mp
  rw [Int32.toBitVec_xor, Int32.toBitVec_not]
  show _ ^^^ BitVec.allOnes 32 = _
  exact BitVec.xor_allOnes
theorem band_not (w b : Nat) (hw : w < 2 ^ 31) : band (w : Int) (bxor (b : Int) (-1)) = (andn w b : Int) := by
  unfold band
  rw [bxor_m1]
  refine toInt_bv _ _ ?_ (andn_lt b hw)
  rw [Int32.toBitVec_and, Int32.toBitVec_not, iI_bv, iI_bv]
  apply BitVec.eq_of_getLsbD_eq
  intro i hi
  rw [BitVec.getLsbD_and, BitVec.getLsbD_not, BitVec.getLsbD_ofNat, BitVec.getLsbD_ofNat, BitVec.getLsbD_ofNat, andn_test]
  simp [hi]
theorem test_pow (r i : Nat) : (2 ^ r).testBit i = decide (r = i) := Nat.testBit_two_pow
/-- how many of the numbers below n -/
def cnt (p : Nat → Bool) : Nat → Nat
  | 0 => 0
  | n + 1 => cnt p n + (if p n then 1 else 0)
def sumI (f : Nat → Int) : Nat → Int
  | 0 => 0
  | n + 1 => sumI f n + f n
def anyB (p : Nat → Bool) : Nat → Bool
  | 0 => false
  | n + 1 => anyB p n || p n
theorem anyB_iff {p : Nat → Bool} {n : Nat} : anyB p n = true ↔ ∃ i, i < n ∧ p i = true := by
  induction n with
  | zero => simp [anyB]
  | succ n ih =>
    unfold anyB
    rw [Bool.or_eq_true, ih]
    constructor
    · rintro (⟨i, h1, h2⟩ | h)
      · exact ⟨i, by omega, h2⟩
      · exact ⟨n, by omega, h⟩
    · rintro ⟨i, h1, h2⟩
      by_cases h : i = n
      · subst h; exact Or.inr h2
      · exact Or.inl ⟨i, by omega, h2⟩
theorem cnt_congr {p q : Nat → Bool} {n : Nat} (h : ∀ i, i < n → p i = q i) : cnt p n = cnt q n := by
  induction n with
  | zero => rfl
  | succ n ih => unfold cnt; rw [ih (fun i hi => h i (by omega)), h n (by omega)]
theorem sumI_congr {f g : Nat → Int} {n : Nat} (h : ∀ i, i < n → f i = g i) : sumI f n = sumI g n := by
  induction n with
  | zero => rfl
  | succ n ih => unfold sumI; rw [ih (fun i hi => h i (by omega)), h n (by omega)]
theorem anyB_congr {p q : Nat → Bool} {n : Nat} (h : ∀ i, i < n → p i = q i) : anyB p n = anyB q n := by
  induction n with
  | zero => rfl
  | succ n ih => unfold anyB; rw [ih (fun i hi => h i (by omega)), h n (by omega)]
theorem cnt_le (p : Nat → Bool) (n : Nat) : cnt p n ≤ n := by
  induction n with
  | zero => exact Nat.le_refl 0
  | succ n ih => unfold cnt; split <;> omega
/-- what bitCount computes, and that it counts -/
def bc1 (x : Int) : Int := x - band (bushr x 1) 1431655765
def bc2 (x : Int) : Int := band x 858993459 + band (bushr x 2) 858993459
def bc3 (x : Int) : Int := band (x + bushr x 4) 252645135
def bc4 (x : Int) : Int := x + bushr x 8
def bc5 (x : Int) : Int := x + bushr x 16
def bcount (x : Int) : Int := band (bc5 (bc4 (bc3 (bc2 (bc1 x))))) 63
set_option maxRecDepth 100000 in
theorem bcount_cnt : ∀ s, s < 4096 → bcount (s : Nat) = (cnt s.testBit 12 : Nat) := by decide +kernel
def lowb (x : Int) : Int := band x (-x)
/-- draws -/
def nseed (z : Int) : Int := (z * 1103515245 + 12345) % 2147483648
theorem nseed_R (z : Int) : 0 ≤ nseed z ∧ nseed z < 2147483648 := ⟨Int.emod_nonneg _ (by decide), Int.emod_lt_of_pos _ (by decide)⟩
theorem lI_nat (n : Nat) : lI (n : Int) = lN n := by
  show Int64.ofInt (n : Int) = Int64.ofNat n
  exact Int64.ofInt_eq_ofNat
theorem land31 {z : Int} (h0 : 0 ≤ z) : lI z &&& lI 2147483647 = lI (z % 2147483648) := by
  obtain ⟨n, rfl⟩ := Int.eq_ofNat_of_zero_le h0
  rw [show ((2147483647 : Int)) = ((2147483647 : Nat) : Int) from rfl, show ((n : Int) % 2147483648) = ((n % 2147483648 : Nat) : Int) from rfl, lI_nat, lI_nat, lI_nat]
  apply Int64.toBitVec_inj.mp
  rw [Int64.toBitVec_and]
  show BitVec.ofNat 64 n &&& BitVec.ofNat 64 2147483647 = BitVec.ofNat 64 (n % 2147483648)
  rw [← BitVec.ofNat_and]
  congr 1
  exact Nat.and_two_pow_sub_one_eq_mod n 31
theorem lrem31 {z : Int} (h0 : 0 ≤ z) (h1 : z ≤ 9223372036854775807) : lI z - lI z / lI 2147483648 * lI 2147483648 = lI (z % 2147483648) := by
  have hd : lI z / lI 2147483648 = lI (z / 2147483648) := by
    apply Int64.toInt_inj.mp
    have hne : lI 2147483648 ≠ -1 := by decide
    rw [Int64.toInt_div_of_ne_right _ _ hne, lI_toInt (by omega) (by omega), lI_toInt (by omega) (by omega), Int.tdiv_eq_ediv_of_nonneg h0, lI_toInt (by omega) (by omega)]
  rw [hd, lI_mul, lI_sub]
  congr 1
  omega
