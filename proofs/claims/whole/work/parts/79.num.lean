/-! numbers without sign -/
def uN (x : Int32) : Nat := x.toBitVec.toNat
def pl (x : Int32) : Int64 := x.toInt64 &&& (4294967295 : Int64)
theorem plain_pl (x : Int32) : f_X12_plain x = pl x := rfl
theorem unsigned_pl (x : Int32) : f_X11_unsigned x = pl x := rfl
theorem uN_lt (x : Int32) : uN x < 4294967296 := x.toBitVec.isLt
theorem pl_toNat (x : Int32) : (pl x).toBitVec.toNat = uN x := by
  unfold pl uN
  rw [Int64.toBitVec_and, BitVec.toNat_and, Int32.toBitVec_toInt64]
  rw [show (4294967295 : Int64).toBitVec.toNat = 2 ^ 32 - 1 from by decide, Nat.and_two_pow_sub_one_eq_mod, BitVec.toNat_signExtend]
  have h := x.toBitVec.isLt
  have e : BitVec.setWidth 64 x.toBitVec = BitVec.ofNat 64 x.toBitVec.toNat := by
    apply BitVec.eq_of_toNat_eq
    simp
  rw [e]
  simp only [BitVec.toNat_ofNat]
  split <;> omega
theorem pl_toInt (x : Int32) : (pl x).toInt = (uN x : Int) := by
  have h1 := pl_toNat x
  have h2 := uN_lt x
  have h3 : (pl x).toInt = (pl x).toBitVec.toInt := rfl
  rw [h3, BitVec.toInt_eq_toNat_cond, h1]
  rw [if_pos (by omega)]
theorem pl_lt {x y : Int32} : pl x < pl y ↔ uN x < uN y := by
  rw [Int64.lt_iff_toInt_lt, pl_toInt, pl_toInt]
  omega
theorem pl_le {x y : Int32} : pl x ≤ pl y ↔ uN x ≤ uN y := by
  rw [Int64.le_iff_toInt_le, pl_toInt, pl_toInt]
  omega
theorem uN_nI {n : Nat} (h : n < 4294967296) : uN (nI n) = n := by
  show (BitVec.ofNat 32 n).toNat = n
  rw [BitVec.toNat_ofNat]
  omega
theorem nI_uN {x : Int32} (h : uN x < 2147483648) : x = nI (uN x) := by
  apply Int32.toBitVec_inj.mp
  apply BitVec.eq_of_toNat_eq
  exact (uN_nI (n := uN x) (by omega)).symm
theorem nI64_toInt {n : Nat} (h : n < 2147483648) : (nI n).toInt64.toInt = (n : Int) := by
  rw [Int32.toInt_toInt64, nI_toInt h]
theorem pl_add_toInt {x : Int32} {z : Int64} {n : Nat} (hz : z.toInt = (n : Int)) (hn : n < 4294967296) : (pl x + z).toInt = ((uN x + n : Nat) : Int) := by
  rw [Int64.toInt_add, pl_toInt, hz]
  have h := uN_lt x
  rw [Int.bmod_eq_of_le (by omega) (by omega)]
  omega
theorem pl_add_le {x y : Int32} {z : Int64} {n : Nat} (hz : z.toInt = (n : Int)) (hn : n < 4294967296) : pl x + z ≤ pl y ↔ uN x + n ≤ uN y := by
  rw [Int64.le_iff_toInt_le, pl_add_toInt hz hn, pl_toInt]
  omega
theorem pl_add_gt {x y : Int32} {z : Int64} {n : Nat} (hz : z.toInt = (n : Int)) (hn : n < 4294967296) : pl y < pl x + z ↔ uN y < uN x + n := by
  rw [Int64.lt_iff_toInt_lt, pl_add_toInt hz hn, pl_toInt]
  omega
theorem uN_add {x : Int32} {z : Int64} {n : Nat} (hz : z.toInt = (n : Int)) (hn : n < 4294967296) (h : uN x + n < 4294967296) : uN (pl x + z).toInt32 = uN x + n := by
  have h1 := pl_add_toInt (x := x) hz hn
  have h2 : (pl x + z).toInt = (pl x + z).toBitVec.toInt := rfl
  rw [h2, BitVec.toInt_eq_toNat_cond] at h1
  have h3 := (pl x + z).toBitVec.isLt
  unfold uN at h h1 ⊢
  rw [Int64.toBitVec_toInt32, BitVec.signExtend_eq_setWidth_of_le _ (by decide), BitVec.toNat_setWidth]
  split at h1 <;> omega
theorem neg_uN {x : Int32} : x < 0 ↔ 2147483648 ≤ uN x := by
  rw [Int32.lt_iff_toInt_lt]
  have h2 : x.toInt = x.toBitVec.toInt := rfl
  rw [h2, BitVec.toInt_eq_toNat_cond]
  have h := uN_lt x
  unfold uN at h ⊢
  simp only [Int32.toInt_zero]
  split <;> omega
