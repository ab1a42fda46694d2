/-! a word's fields -/
theorem ush (b m : BitVec 32) (s : Nat) (h : ∀ i, i < 32 → 32 - s ≤ i → m.getLsbD i = false) : (b >>> s) &&& m = (b.sshiftRight s) &&& m := by
  apply BitVec.eq_of_getLsbD_eq
  intro i hi
  rw [BitVec.getLsbD_and, BitVec.getLsbD_and, BitVec.getLsbD_ushiftRight, BitVec.getLsbD_sshiftRight]
  by_cases hs : s + i < 32
  · simp [hs, show ¬ 32 ≤ i by omega]
  · simp [h i hi (by omega)]
theorem ush2 (b m : BitVec 32) (s : Nat) (h : ∀ i, i < 32 → 32 - s ≤ i → m.getLsbD i = false) (h2 : ∀ i, i < 32 - s → m.getLsbD i = true) : (b >>> s) = (b.sshiftRight s) &&& m := by
  apply BitVec.eq_of_getLsbD_eq
  intro i hi
  rw [BitVec.getLsbD_and, BitVec.getLsbD_ushiftRight, BitVec.getLsbD_sshiftRight]
  by_cases hs : s + i < 32
  · simp [hs, show ¬ 32 ≤ i by omega, h2 i (by omega)]
  · simp [h i hi (by omega), BitVec.getLsbD_of_ge b (s + i) (by omega)]
def fd (x : Int32) : Int32 := (x >>> ((7 : Int32) &&& 31)) &&& 31
def ff (x : Int32) : Int32 := (x >>> ((12 : Int32) &&& 31)) &&& 7
def fa (x : Int32) : Int32 := (x >>> ((15 : Int32) &&& 31)) &&& 31
def fb (x : Int32) : Int32 := (x >>> ((20 : Int32) &&& 31)) &&& 31
def fg (x : Int32) : Int32 := (x >>> ((25 : Int32) &&& 31)) &&& 127
theorem d_C (x : Int32) : f_X2_dField x = fd x := Int32.toBitVec_inj.mp (ush x.toBitVec 31 7 (by decide))
theorem f_C (x : Int32) : f_X2_f x = ff x := Int32.toBitVec_inj.mp (ush x.toBitVec 7 12 (by decide))
theorem a_C (x : Int32) : f_X2_aField x = fa x := Int32.toBitVec_inj.mp (ush x.toBitVec 31 15 (by decide))
theorem b_C (x : Int32) : f_X2_bField x = fb x := Int32.toBitVec_inj.mp (ush x.toBitVec 31 20 (by decide))
theorem g_C (x : Int32) : f_X2_g x = fg x := Int32.toBitVec_inj.mp (ush2 x.toBitVec 127 25 (by decide) (by decide))
theorem d_M (W : HV) : f_X12_d 0 W = fd (W 1081 0 0) := rfl
theorem f_M (W : HV) : f_X12_f 0 W = ff (W 1081 0 0) := rfl
theorem a_M (W : HV) : f_X12_a 0 W = fa (W 1081 0 0) := rfl
theorem b_M (W : HV) : f_X12_b 0 W = fb (W 1081 0 0) := rfl
theorem g_M (W : HV) : f_X12_g 0 W = fg (W 1081 0 0) := rfl
theorem and_nI (x m : Int32) (k : Nat) (hm : m.toBitVec.toNat = 2 ^ k - 1) (hk : k ≤ 30) : ∃ n, n < 2 ^ k ∧ x &&& m = nI n := by
  have h := inb_and (x := x) m k hm hk
  have h1 := h.1
  have h2 := h.2
  refine ⟨(x &&& m).toNatClampNeg, inb_lt h, ?_⟩
  obtain ⟨n, hn, e⟩ := nI_of (x := x &&& m) (by rw [Int32.lt_iff_toInt_lt]; simp; exact h1)
  rw [e, cl_nI hn]
theorem fd_n (x : Int32) : ∃ n, n < 32 ∧ fd x = nI n := and_nI _ 31 5 (by decide) (by decide)
theorem ff_n (x : Int32) : ∃ n, n < 8 ∧ ff x = nI n := and_nI _ 7 3 (by decide) (by decide)
theorem fa_n (x : Int32) : ∃ n, n < 32 ∧ fa x = nI n := and_nI _ 31 5 (by decide) (by decide)
theorem fb_n (x : Int32) : ∃ n, n < 32 ∧ fb x = nI n := and_nI _ 31 5 (by decide) (by decide)
theorem fg_n (x : Int32) : ∃ n, n < 128 ∧ fg x = nI n := and_nI _ 127 7 (by decide) (by decide)
theorem bo_C (x : Int32) : f_X2_branchOffset x = (((((x >>> ((31 : Int32) &&& 31)) <<< ((12 : Int32) &&& 31)) ||| (((x >>> ((7 : Int32) &&& 31)) &&& 1) <<< ((11 : Int32) &&& 31))) ||| (((x >>> ((25 : Int32) &&& 31)) &&& 63) <<< ((5 : Int32) &&& 31))) ||| (((x >>> ((8 : Int32) &&& 31)) &&& 15) <<< ((1 : Int32) &&& 31))) := by
  unfold f_X2_branchOffset
  have e1 : ((x.toUInt32 >>> (Int32.toUInt32 (7 : Int32) &&& Int32.toUInt32 31)).toInt32) &&& 1 = (x >>> ((7 : Int32) &&& 31)) &&& 1 := Int32.toBitVec_inj.mp (ush x.toBitVec 1 7 (by decide))
  have e2 : ((x.toUInt32 >>> (Int32.toUInt32 (25 : Int32) &&& Int32.toUInt32 31)).toInt32) &&& 63 = (x >>> ((25 : Int32) &&& 31)) &&& 63 := Int32.toBitVec_inj.mp (ush x.toBitVec 63 25 (by decide))
  have e3 : ((x.toUInt32 >>> (Int32.toUInt32 (8 : Int32) &&& Int32.toUInt32 31)).toInt32) &&& 15 = (x >>> ((8 : Int32) &&& 31)) &&& 15 := Int32.toBitVec_inj.mp (ush x.toBitVec 15 8 (by decide))
  rw [e1, e2, e3]
theorem jo_C (x : Int32) : f_X2_jumpOffset x = (((((x >>> ((31 : Int32) &&& 31)) <<< ((20 : Int32) &&& 31)) ||| (x &&& 1044480)) ||| (((x >>> ((20 : Int32) &&& 31)) &&& 1) <<< ((11 : Int32) &&& 31))) ||| (((x >>> ((21 : Int32) &&& 31)) &&& 1023) <<< ((1 : Int32) &&& 31))) := by
  unfold f_X2_jumpOffset
  have e0 : (((x.toUInt32 >>> (Int32.toUInt32 (12 : Int32) &&& Int32.toUInt32 31)).toInt32) &&& 255) <<< ((12 : Int32) &&& 31) = x &&& 1044480 := by
    apply Int32.toBitVec_inj.mp
    show ((x.toBitVec >>> 12) &&& 255#32) <<< 12 = x.toBitVec &&& 1044480#32
    apply BitVec.eq_of_getLsbD_eq
    intro i hi
    have key : ∀ i, i < 32 → (1044480#32).getLsbD i = (decide (¬ i < 12) && (255#32).getLsbD (i - 12)) := by decide
    rw [BitVec.getLsbD_shiftLeft, BitVec.getLsbD_and, BitVec.getLsbD_and, BitVec.getLsbD_ushiftRight, key i hi]
    by_cases h12 : i < 12
    · simp [h12]
    · simp [h12, hi, show 12 + (i - 12) = i by omega]
  have e1 : ((x.toUInt32 >>> (Int32.toUInt32 (20 : Int32) &&& Int32.toUInt32 31)).toInt32) &&& 1 = (x >>> ((20 : Int32) &&& 31)) &&& 1 := Int32.toBitVec_inj.mp (ush x.toBitVec 1 20 (by decide))
  have e2 : ((x.toUInt32 >>> (Int32.toUInt32 (21 : Int32) &&& Int32.toUInt32 31)).toInt32) &&& 1023 = (x >>> ((21 : Int32) &&& 31)) &&& 1023 := Int32.toBitVec_inj.mp (ush x.toBitVec 1023 21 (by decide))
  rw [e0, e1, e2]
theorem i_lt_le (x : Int32) (n : Nat) (hn : n < 1000) : (nI n < x) = (nI (n + 1) ≤ x) := by
  rw [Int32.lt_iff_toInt_lt, Int32.le_iff_toInt_le, nI_toInt (by omega), nI_toInt (by omega), eq_iff_iff]
  omega
theorem i_le_lt (x : Int32) (n : Nat) (hn : n < 1000) : (x ≤ nI n) = (x < nI (n + 1)) := by
  rw [Int32.lt_iff_toInt_lt, Int32.le_iff_toInt_le, nI_toInt (by omega), nI_toInt (by omega), eq_iff_iff]
  omega
theorem ifc {α : Type} {c : Prop} [Decidable c] {x y u v : α} (h1 : x = u) (h2 : y = v) : (if c then x else y) = if c then u else v := by rw [h1, h2]
theorem legal_C (x : Int32) (W : HV) (hW : W 1081 0 0 = x) : f_X2_isLegal x = f_X12_isRight 0 W := by
  unfold f_X2_isLegal f_X12_isRight f_X2_isLegalCapability
  simp only [lt_def, d_C, f_C, a_C, b_C, g_C, d_M, f_M, a_M, b_M, g_M, hW]
  have e5 : (5 < ff x) = (6 ≤ ff x) := i_lt_le _ 5 (by decide)
  have e3 : (3 < ff x) = (4 ≤ ff x) := i_lt_le _ 3 (by decide)
  have e3' : (ff x ≤ 3) = (ff x < 4) := i_le_lt _ 3 (by decide)
  have e1 : (fg x ≤ 1) = (fg x < 2) := i_le_lt _ 1 (by decide)
  have e7 : (7 < fg x) = (8 ≤ fg x) := i_lt_le _ 7 (by decide)
  have e12 : (12 < fb x) = (13 ≤ fb x) := i_lt_le _ 12 (by decide)
  simp only [e5, e3, e3', e1, e7, e12]
  have h4 : (ff x < 4) = ¬ (4 ≤ ff x) := by rw [eq_iff_iff]; exact Int32.not_le.symm
  have h1 : (1 < ff x) = ¬ (ff x = 0 ∨ ff x = 1) := by
    obtain ⟨n, hn, e⟩ := ff_n x
    rw [e, eq_iff_iff]
    have : n = 0 ∨ n = 1 ∨ n = 2 ∨ n = 3 ∨ n = 4 ∨ n = 5 ∨ n = 6 ∨ n = 7 := by omega
    rcases this with rfl | rfl | rfl | rfl | rfl | rfl | rfl | rfl <;> decide
  have h40 : ff x = 0 → ¬ 4 ≤ ff x := fun q => by rw [q]; decide
  have h41 : ff x = 1 → ¬ 4 ≤ ff x := fun q => by rw [q]; decide
  have h15 : ff x = 1 → ¬ ff x = 5 := fun q => by rw [q]; decide
  have h01 : ff x = 1 → ¬ ff x = 0 := fun q => by rw [q]; decide
  simp only [h4, h1]
  generalize ff x = f at *
  generalize fd x = d
  generalize fa x = a
  generalize fb x = b
  generalize fg x = g
  generalize x &&& 127 = op
  clear e5 e3 e3' e1 e7 e12 hW h4 h1
  refine ifc ?_ (ifc ?_ (ifc ?_ (ifc ?_ (ifc ?_ (ifc ?_ (ifc ?_ (ifc ?_ (ifc ?_ (ifc ?_ rfl)))))))))
  · by_cases c1 : 16 ≤ d <;> by_cases c2 : 16 ≤ a <;> simp [c1, c2]
  · by_cases c1 : 16 ≤ d <;> by_cases c2 : 16 ≤ a <;> simp [c1, c2]
    by_cases f1 : f = 1
    · simp [f1]
    · by_cases f5 : f = 5 <;> simp [f1, f5]
  · by_cases c1 : 16 ≤ d <;> simp [c1]
  · by_cases c1 : 16 ≤ b <;> by_cases c2 : 16 ≤ a <;> simp [c1, c2]
  · by_cases c1 : 16 ≤ d <;> by_cases c2 : 16 ≤ a <;> by_cases c3 : 16 ≤ b <;> simp [c1, c2, c3]
  · by_cases c1 : 16 ≤ d <;> simp [c1]
  · by_cases c1 : 16 ≤ d <;> by_cases c2 : 16 ≤ a <;> simp [c1, c2]
    by_cases f0 : f = 0
    · by_cases c3 : 16 ≤ b <;> by_cases c8 : 8 ≤ g <;> simp [f0, c3, c8, Int32.not_lt.mpr, Int32.not_le.mp]
    · by_cases f1 : f = 1
      · by_cases c13 : 13 ≤ b <;> by_cases g0 : g = 0 <;> simp [f1, g0, c13, Int32.not_lt.mpr, Int32.not_le.mp]
      · by_cases f4 : 4 ≤ f <;> simp [f0, f1, f4]
  · by_cases c1 : 16 ≤ b <;> by_cases c2 : 16 ≤ a <;> simp [c1, c2]
  · by_cases c1 : 16 ≤ d <;> by_cases c2 : 16 ≤ a <;> simp [c1, c2]
  · by_cases c1 : 16 ≤ d <;> simp [c1]
/-! numbers' operations -/
theorem comb_sums {f x y : Int32} {o : Bool} (h : f = 0 → o = false) : f_X2_combine f x y o = f_X12_sums f x y o := by
  unfold f_X2_combine f_X12_sums
  simp only [lt_def, unsigned_pl, plain_pl]
  by_cases h0 : f = 0
  · simp [h0, h h0]
  · simp [h0]
theorem sums_imm {f x w : Int32} {o : Bool} (h : f = 1 ∨ f = 5) : f_X12_sums f x (w >>> ((20 : Int32) &&& 31)) o = f_X12_sums f x (fb w) o := by
  unfold f_X12_sums
  have e : fb w &&& 31 = (w >>> ((20 : Int32) &&& 31)) &&& 31 := by
    unfold fb
    rw [Int32.and_assoc]
    rfl
  simp only [lt_def, plain_pl, e]
  rcases h with rfl | rfl <;> simp
theorem quot (x y : Int32) (hy : ¬ y = -1) : (x.toInt64 / y.toInt64).toInt32 = x / y := by
  rw [← Int32.toInt64_div_of_ne_right x y hy, Int32.toInt32_toInt64]
theorem i64_neg1 (a : Int64) (ha : a.toInt ≤ 2147483648 ∧ -2147483648 ≤ a.toInt) : a / (-1) = -a := by
  apply Int64.toInt_inj.mp
  rw [Int64.toInt_div, show (-1 : Int64).toInt = -1 from by decide, Int64.toInt_neg]
  congr 1
  rw [Int.tdiv_neg, Int.tdiv_one]
theorem quot_1 (x : Int32) : (x.toInt64 / (-1 : Int64)).toInt32 = -x := by
  rw [i64_neg1 _ (by rw [Int32.toInt_toInt64]; have h1 := x.toInt_lt; have h2 := x.le_toInt; omega)]
  rw [Int64.toInt32_neg, Int32.toInt32_toInt64]
theorem s64_0 {y : Int32} (h : ¬ y = 0) : ¬ y.toInt64 = 0 := by
  intro q
  apply h
  have := congrArg Int64.toInt32 q
  rw [Int32.toInt32_toInt64] at this
  exact this
theorem pl_0 {y : Int32} (h : ¬ y = 0) : ¬ pl y = 0 := by
  intro q
  apply h
  have h1 := congrArg (fun z => z.toBitVec.toNat) q
  simp only [pl_toNat] at h1
  have h2 : uN y = 0 := h1
  rw [nI_uN (x := y) (by omega), h2]
  rfl
theorem n8 {f : Int32} (h : ∃ n, n < 8 ∧ f = nI n) : f = 0 ∨ f = 1 ∨ f = 2 ∨ f = 3 ∨ f = 4 ∨ f = 5 ∨ f = 6 ∨ f = 7 := by
  obtain ⟨n, hn, rfl⟩ := h
  have : n = 0 ∨ n = 1 ∨ n = 2 ∨ n = 3 ∨ n = 4 ∨ n = 5 ∨ n = 6 ∨ n = 7 := by omega
  rcases this with rfl | rfl | rfl | rfl | rfl | rfl | rfl | rfl <;> decide
theorem prod_C {f x y : Int32} (h : ∃ n, n < 8 ∧ f = nI n) : (if 4 ≤ f then (f_X2_divide f x y) else some (f_X2_multiply f x y)) = f_X12_products f x y := by
  unfold f_X2_divide f_X2_multiply f_X12_products
  simp only [lt_def, jn_def, unsigned_pl, plain_pl]
  rcases n8 h with rfl | rfl | rfl | rfl | rfl | rfl | rfl | rfl
  · rfl
  · rfl
  · rfl
  · rfl
  · by_cases h0 : y = 0
    · simp [h0]
    · by_cases h1 : y = -1
      · subst h1
        simp [chk, quot_1]
      · have e := quot x y h1
        simp [h0, h1, chk, s64_0 h0]
        exact e
  · by_cases h0 : y = 0
    · simp [h0]
    · simp [h0, chk, pl_0 h0]
  · by_cases h0 : y = 0
    · simp [h0]
    · by_cases h1 : y = -1
      · subst h1
        simp [chk]
        rw [quot_1, Int32.mul_neg, Int32.mul_one, Int32.neg_neg, Int32.sub_self]
      · have e := quot x y h1
        simp [h0, h1, chk, s64_0 h0]
        rw [e]
  · by_cases h0 : y = 0
    · simp [h0]
    · simp [h0, chk, pl_0 h0]
/-! a capability as an authority -/
def flt (c : Cp) (need a n : Int32) : Int32 := if c.2.2.2.2.2 = true then (if c.2.2.2.2.1 = 0 then (if c.2.2.2.1 &&& need = need then (if pl a < pl c.2.1 then 4 else (if pl c.2.2.1 < pl a + n.toInt64 then 4 else (if a &&& (n - 1) = 0 then 0 else 5))) else 3) else 2) else 1
theorem fault_C (kb i : Nat) (need a n : Int32) (V : HV) : f_X0_faultFor kb i need a n V = flt (cC V i) need a n := by
  unfold f_X0_faultFor flt f_X0_has f_X0_holds cC
  simp only [lt_def, lg_cmp_lt, lg_cmp_gt, dec_tf]
  by_cases h1 : i2b (V 5 i 0) = true
  · simp only [h1, if_true]
    by_cases h2 : V 4 i 0 = 0
    · simp only [h2, if_true]
      by_cases h3 : V 3 i 0 &&& need = need
      · simp only [h3, decide_true, if_true]
        by_cases h4 : pl a < pl (V 1 i 0)
        · have h4' : a.toInt64 &&& 4294967295 < (V 1 i 0).toInt64 &&& 4294967295 := h4
          simp [h4, h4']
        · have h4' : ¬ a.toInt64 &&& 4294967295 < (V 1 i 0).toInt64 &&& 4294967295 := h4
          simp only [h4, h4', if_false]
          by_cases h5 : pl (V 2 i 0) < pl a + n.toInt64
          · have h5' : (V 2 i 0).toInt64 &&& 4294967295 < (a.toInt64 &&& 4294967295) + n.toInt64 := h5
            simp [h5, h5']
          · have h5' : ¬ (V 2 i 0).toInt64 &&& 4294967295 < (a.toInt64 &&& 4294967295) + n.toInt64 := h5
            simp [h5, h5']
      · simp [h3]
    · simp [h2]
  · simp [h1]
theorem i0_iff (x : Int32) : x = 0 ↔ x.toInt = 0 := by
  rw [← Int32.toInt_inj]
  rfl
theorem mod_and {a : Int32} {n : Nat} (hn : n = 1 ∨ n = 2 ∨ n = 4 ∨ n = 16) : (a - a / nI n * nI n = 0) ↔ (a &&& (nI n - 1) = 0) := by
  rw [i0_iff, rem_toInt a (nI n), nI_toInt (show n < 2147483648 by omega), i0_iff (a &&& (nI n - 1)), ← Int.dvd_iff_tmod_eq_zero]
  rcases hn with rfl | rfl | rfl | rfl
  · rw [show (nI 1 - 1 : Int32) = 0 from rfl, Int32.and_zero]
    simp
  · rw [show (nI 2 - 1 : Int32) = 1 from rfl, Jvm.Kit.i32_mask a 1 (k := 1) (by decide) (by decide)]
    omega
  · rw [show (nI 4 - 1 : Int32) = 3 from rfl, Jvm.Kit.i32_mask a 3 (k := 2) (by decide) (by decide)]
    omega
  · rw [show (nI 16 - 1 : Int32) = 15 from rfl, Jvm.Kit.i32_mask a 15 (k := 4) (by decide) (by decide)]
    omega
theorem fault_M {i n : Nat} {need a : Int32} {W : HV} (hi : i < 600) (hn : n = 1 ∨ n = 2 ∨ n = 4 ∨ n = 16) : f_X12_refuses 0 (nI i) need a (nI n) W = some (flt (cM W i) need a (nI n)) := by
  unfold f_X12_refuses flt cM
  have hn0 : ¬ nI n = 0 := by rcases hn with rfl | rfl | rfl | rfl <;> decide
  simp only [lt_def, lg_cmp_lt, lg_cmp_le, plain_pl, chk_t (inb_nI hi (by decide)), cl_nI (show i < 2147483648 by omega), chk_t hn0, mod_and hn]
  by_cases h1 : i2b (W 2900 0 i) = true
  · simp only [h1, if_true]
    by_cases h2 : W 2800 0 i = 0
    · simp only [h2, if_true]
      by_cases h3 : W 2700 0 i &&& need = need
      · simp only [h3, if_true]
        by_cases h4 : pl a < pl (W 2500 0 i)
        · simp [h4]
        · simp only [h4, if_false]
          by_cases h5 : pl (W 2600 0 i) < pl a + (nI n).toInt64
          · simp [h5, Int64.not_le.mpr h5]
          · simp [h5, Int64.not_lt.mp h5]
      · simp [h3]
    · simp [h2]
  · simp [h1]
