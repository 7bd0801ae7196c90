theorem pLand255 (a : Int) : pLand a 255 = a % 256 := by
  unfold pLand
  rw [← Int64.toInt_toBitVec, Int64.toBitVec_and, show (i64 255).toBitVec = 255#64 from rfl, BitVec.toInt_eq_toNat_of_lt (by
    rw [BitVec.toNat_and]
    have : (i64 a).toBitVec.toNat &&& (255#64).toNat ≤ 255 := Nat.and_le_right
    omega), BitVec.toNat_and, show (255#64).toNat = 2 ^ 8 - 1 from rfl, Nat.and_two_pow_sub_one_eq_mod]
  have : (i64 a).toBitVec = BitVec.ofInt 64 a := rfl
  rw [this, BitVec.toNat_ofInt]
  omega
theorem pAnd255 (a : Int) : pAnd a 255 = a % 256 := by
  unfold pAnd
  rw [← Int32.toInt_toBitVec, Int32.toBitVec_and, show (i32 255).toBitVec = 255#32 from rfl, BitVec.toInt_eq_toNat_of_lt (by
    rw [BitVec.toNat_and]
    have : (i32 a).toBitVec.toNat &&& (255#32).toNat ≤ 255 := Nat.and_le_right
    omega), BitVec.toNat_and, show (255#32).toNat = 2 ^ 8 - 1 from rfl, Nat.and_two_pow_sub_one_eq_mod]
  have : (i32 a).toBitVec = BitVec.ofInt 32 a := rfl
  rw [this, BitVec.toNat_ofInt]
  omega
theorem pL2i_256 (a : Int) : pL2i a % 256 = a % 256 := by
  unfold pL2i
  rw [← Int32.toInt_toBitVec, Int64.toBitVec_toInt32, BitVec.signExtend_eq_setWidth_of_le _ (by decide), BitVec.toInt_setWidth]
  have : (i64 a).toBitVec = BitVec.ofInt 64 a := rfl
  rw [this, BitVec.toNat_ofInt]
  simp only [Int.bmod_def]
  omega
/-- the k-th byte of a rim -/
def byt (r k : Int) : Int := pLushr r (56 - 8 * k) % 256
theorem byt_bd {r k : Int} : 0 ≤ byt r k ∧ byt r k < 256 := by unfold byt; omega
theorem pL2i_byte (a : Int) : pL2i (a % 256) = a % 256 := by
  have h := pL2i_256 (a % 256)
  unfold pL2i at *
  rw [← Int32.toInt_toBitVec, Int64.toBitVec_toInt32, BitVec.signExtend_eq_setWidth_of_le _ (by decide), BitVec.toInt_setWidth]
  have : (i64 (a % 256)).toBitVec = BitVec.ofInt 64 (a % 256) := rfl
  rw [this, BitVec.toNat_ofInt]
  simp only [Int.bmod_def]
  omega
