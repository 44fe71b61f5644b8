/-! bytes of a long -/
def ub (x : Int64) (k : Nat) : Nat := x.toBitVec.toNat / 2 ^ (8 * k) % 256
def sg (u : Int) : Int := if u < 128 then u else u - 256
theorem sh8 : ∀ k, k < 8 → (iI ((8 * k : Nat) : Int)).toInt64.toUInt64 &&& Int64.toUInt64 63 = UInt64.ofNat (8 * k) := by decide +kernel
theorem sh8' : ∀ k, k < 8 → (iI ((8 * k : Nat) : Int)).toInt64 &&& 63 = Int64.ofNat (8 * k) := by decide +kernel
theorem lushr_b (x : Int64) (k : Nat) (hk : k < 8) : (x.toUInt64 >>> ((iI ((8 * k : Nat) : Int)).toInt64.toUInt64 &&& Int64.toUInt64 63)).toInt64 = lI ((x.toBitVec.toNat / 2 ^ (8 * k) : Nat) : Int) := by
  rw [sh8 k hk, lI_nat]
  apply Int64.toBitVec_inj.mp
  show (x.toUInt64 >>> UInt64.ofNat (8 * k)).toBitVec = BitVec.ofNat 64 _
  rw [UInt64.toBitVec_shiftRight]
  apply BitVec.eq_of_toNat_eq
  have h1 : ((UInt64.ofNat (8 * k)).toBitVec % 64#64).toNat = 8 * k := by
    have : ∀ k, k < 8 → ((UInt64.ofNat (8 * k)).toBitVec % 64#64).toNat = 8 * k := by decide +kernel
    exact this k hk
  have h2 : x.toBitVec.toNat < 2 ^ 64 := x.toBitVec.isLt
  rw [BitVec.toNat_ofNat]
  show (x.toBitVec >>> ((UInt64.ofNat (8 * k)).toBitVec % 64#64)).toNat = _
  rw [BitVec.ushiftRight_eq', BitVec.toNat_ushiftRight, h1, Nat.shiftRight_eq_div_pow, Nat.mod_eq_of_lt (Nat.lt_of_le_of_lt (Nat.div_le_self _ _) h2)]
theorem i2b_b (n : Nat) : (iI (n : Int)).toInt8.toInt32 = iI (sg ((n % 256 : Nat) : Int)) := by
  apply Int32.toInt_inj.mp
  have h8 : (iI (n : Int)).toInt8 = Int8.ofInt n := Int32.toInt8_ofInt
  rw [Int8.toInt_toInt32, h8, Int8.toInt_ofInt]
  unfold sg
  have hm : n % 256 < 256 := Nat.mod_lt _ (by decide)
  rw [iI_toInt (by split <;> omega) (by split <;> omega)]
  show Int.bmod _ 256 = _
  unfold Int.bmod
  have e : ((n : Int) % ((256 : Nat) : Int)) = ((n % 256 : Nat) : Int) := rfl
  rw [e]
  simp only []
  split <;> split <;> omega
theorem lshr_b (x : Int64) (k : Nat) (hk : k < 8) : (x >>> ((iI ((8 * k : Nat) : Int)).toInt64 &&& 63)) &&& lI 255 = lI (ub x k : Nat) := by
  rw [sh8' k hk, lI_nat, show lI 255 = lN 255 from lI_nat 255]
  apply Int64.toBitVec_inj.mp
  rw [Int64.toBitVec_and, Int64.toBitVec_shiftRight]
  have h1 : ((Int64.ofNat (8 * k)).toBitVec.smod 64#64).toNat = 8 * k := by
    have : ∀ k, k < 8 → ((Int64.ofNat (8 * k)).toBitVec.smod 64#64).toNat = 8 * k := by decide +kernel
    exact this k hk
  apply BitVec.eq_of_getLsbD_eq
  intro i hi
  show (x.toBitVec.sshiftRight' ((Int64.ofNat (8 * k)).toBitVec.smod 64#64) &&& BitVec.ofNat 64 255).getLsbD i = (BitVec.ofNat 64 (ub x k)).getLsbD i
  rw [BitVec.getLsbD_and, BitVec.sshiftRight_eq', h1, BitVec.getLsbD_sshiftRight, BitVec.getLsbD_ofNat, BitVec.getLsbD_ofNat]
  unfold ub
  have h255 : Nat.testBit 255 i = decide (i < 8) := by
    have := Nat.testBit_two_pow_sub_one 8 i
    exact this
  have hr : Nat.testBit (x.toBitVec.toNat / 2 ^ (8 * k) % 256) i = (decide (i < 8) && x.toBitVec.toNat.testBit (8 * k + i)) := by
    rw [show (256 : Nat) = 2 ^ 8 from rfl, Nat.testBit_mod_two_pow, Nat.testBit_div_two_pow, Nat.add_comm]
  rw [h255, hr]
  by_cases h8 : i < 8
  · have : ¬ 64 ≤ i := by omega
    have h3 : 8 * k + i < 64 := by omega
    simp [h8, hi, this, h3, BitVec.getLsbD]
  · simp [h8]
theorem ub_R (x : Int64) (k : Nat) : ub x k < 256 := Nat.mod_lt _ (by decide)
