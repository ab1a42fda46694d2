/-! reading what was written -/
theorem byt_l (x : Int32) {k : Nat} (hk : k < 4) (i : Nat) : (byt x k &&& 255).toBitVec.getLsbD i = (decide (i < 8) && x.toBitVec.getLsbD (8 * k + i)) := by
  unfold byt
  rw [Int32.toBitVec_and, BitVec.getLsbD_and, Int8.toBitVec_toInt32, Int32.toBitVec_toInt8, byt_b x hk]
  by_cases h8 : i < 8
  · have : (255 : Int32).toBitVec.getLsbD i = true := by
      have key : ∀ i, i < 8 → (255 : Int32).toBitVec.getLsbD i = true := by decide
      exact key i h8
    rw [this, BitVec.getLsbD_signExtend, BitVec.getLsbD_signExtend, BitVec.getLsbD_sshiftRight]
    simp [h8, show i < 32 by omega, show ¬ 32 ≤ i by omega, show 8 * k + i < 32 by omega]
  · have : (255 : Int32).toBitVec.getLsbD i = false := by
      by_cases h32 : i < 32
      · have key : ∀ i, i < 32 → 8 ≤ i → (255 : Int32).toBitVec.getLsbD i = false := by decide
        exact key i h32 (by omega)
      · exact BitVec.getLsbD_of_ge _ _ (by omega)
    rw [this]
    simp [h8]
theorem shl8_l (x : Int32) (i : Nat) : (x <<< ((8 : Int32) &&& 31)).toBitVec.getLsbD i = (decide (i < 32) && decide (¬ i < 8) && x.toBitVec.getLsbD (i - 8)) := by
  have e : (x <<< ((8 : Int32) &&& 31)).toBitVec = x.toBitVec <<< 8 := rfl
  rw [e, BitVec.getLsbD_shiftLeft]
  by_cases h : i < 8 <;> simp [h, Nat.not_lt.mp]
theorem or_l (x y : Int32) (i : Nat) : (x ||| y).toBitVec.getLsbD i = (x.toBitVec.getLsbD i || y.toBitVec.getLsbD i) := by rw [Int32.toBitVec_or, BitVec.getLsbD_or]
theorem four (x : Int32) : (((((((0 : Int32) <<< ((8 : Int32) &&& 31)) ||| (byt x 3 &&& 255)) <<< ((8 : Int32) &&& 31)) ||| (byt x 2 &&& 255)) <<< ((8 : Int32) &&& 31)) ||| (byt x 1 &&& 255)) <<< ((8 : Int32) &&& 31) ||| (byt x 0 &&& 255) = x := by
  apply Int32.toBitVec_inj.mp
  apply BitVec.eq_of_getLsbD_eq
  intro i hi
  have z : (0 : Int32) <<< ((8 : Int32) &&& 31) = 0 := by decide
  have zl : ∀ j, (0 : Int32).toBitVec.getLsbD j = false := fun j => by simp
  rw [z]
  simp only [or_l, shl8_l, byt_l x (show 0 < 4 by decide), byt_l x (show 1 < 4 by decide), byt_l x (show 2 < 4 by decide), byt_l x (show 3 < 4 by decide), zl]
  have : i < 8 ∨ (8 ≤ i ∧ i < 16) ∨ (16 ≤ i ∧ i < 24) ∨ (24 ≤ i ∧ i < 32) := by omega
  rcases this with h | ⟨h, h'⟩ | ⟨h, h'⟩ | ⟨h, h'⟩
  · simp [h]
  · simp [show i < 32 by omega, show ¬ i < 8 by omega, show i - 8 < 8 by omega, show 8 + (i - 8) = i by omega]
  · simp [show i < 32 by omega, show i - 8 < 32 by omega, show ¬ i < 8 by omega, show ¬ i - 8 < 8 by omega, show i - 8 - 8 < 8 by omega, show 16 + (i - 8 - 8) = i by omega]
  · simp [show i < 32 by omega, show i - 8 < 32 by omega, show i - 8 - 8 < 32 by omega, show ¬ i < 8 by omega, show ¬ i - 8 < 8 by omega, show ¬ i - 8 - 8 < 8 by omega, show i - 8 - 8 - 8 < 8 by omega, show 24 + (i - 8 - 8 - 8) = i by omega]
theorem wr_in {M : Nat → Int32} {a n : Nat} {x : Int32} {k : Nat} (h : k < n) : wr M a n x (a + k) = byt x k := by
  unfold wr
  rw [if_pos (by omega), show a + k - a = k by omega]
theorem wr_out {M : Nat → Int32} {a n j : Nat} {x : Int32} (h : j < a ∨ a + n ≤ j) : wr M a n x j = M j := by
  unfold wr
  rw [if_neg (by omega)]
theorem mw_wr (M : Nat → Int32) (a : Nat) (x : Int32) : mw (wr M a 4 x) a = x := by
  unfold mw
  simp only [ldv]
  rw [wr_in (by decide), wr_in (by decide), wr_in (by decide), wr_in (by decide)]
  exact four x
theorem mw_out {M : Nat → Int32} {a n b : Nat} {x : Int32} (h : b + 4 ≤ a ∨ a + n ≤ b) : mw (wr M a n x) b = mw M b := ldv_congr 4 0 (fun j hj => wr_out (by omega))
theorem p_back {p y : Int32} (hp : p &&& 255 = p) : (p ||| (y <<< ((8 : Int32) &&& 31))) &&& 255 = p := by
  apply Int32.toBitVec_inj.mp
  apply BitVec.eq_of_getLsbD_eq
  intro i hi
  have hp' : ∀ i, p.toBitVec.getLsbD i = (p.toBitVec.getLsbD i && (255 : Int32).toBitVec.getLsbD i) := by
    intro i
    have := congrArg (fun z => z.toBitVec.getLsbD i) hp
    simp only [Int32.toBitVec_and, BitVec.getLsbD_and] at this
    exact this.symm
  rw [Int32.toBitVec_and, BitVec.getLsbD_and, or_l, shl8_l]
  by_cases h8 : i < 8
  · have key : ∀ i, i < 8 → (255 : Int32).toBitVec.getLsbD i = true := by decide
    rw [key i h8]
    simp [h8]
  · have key : ∀ i, i < 32 → 8 ≤ i → (255 : Int32).toBitVec.getLsbD i = false := by decide
    rw [hp' i, key i hi (by omega)]
    simp
theorem y_back {p y : Int32} (hp : p &&& 255 = p) (hy : y &&& 255 = y) : ((p ||| (y <<< ((8 : Int32) &&& 31))) >>> ((8 : Int32) &&& 31)) &&& 255 = y := by
  have hb : ∀ {z : Int32}, z &&& 255 = z → ∀ i, i < 32 → 8 ≤ i → z.toBitVec.getLsbD i = false := by
    intro z hz i hi h8
    have := congrArg (fun z => z.toBitVec.getLsbD i) hz
    simp only [Int32.toBitVec_and, BitVec.getLsbD_and] at this
    have key : ∀ i, i < 32 → 8 ≤ i → (255 : Int32).toBitVec.getLsbD i = false := by decide
    rw [key i hi h8] at this
    simp at this
    exact this
  apply Int32.toBitVec_inj.mp
  apply BitVec.eq_of_getLsbD_eq
  intro i hi
  have e : ((p ||| (y <<< ((8 : Int32) &&& 31))) >>> ((8 : Int32) &&& 31)).toBitVec = (p ||| (y <<< ((8 : Int32) &&& 31))).toBitVec.sshiftRight 8 := rfl
  rw [Int32.toBitVec_and, BitVec.getLsbD_and, e, BitVec.getLsbD_sshiftRight]
  by_cases h8 : i < 8
  · have key : ∀ i, i < 8 → (255 : Int32).toBitVec.getLsbD i = true := by decide
    rw [key i h8]
    simp only [show ¬ 32 ≤ i by omega, decide_false, Bool.not_false, show 8 + i < 32 by omega, if_true, Bool.true_and, Bool.and_true]
    rw [or_l, shl8_l, hb hp (8 + i) (by omega) (by omega)]
    simp [show 8 + i < 32 by omega]
  · have key : ∀ i, i < 32 → 8 ≤ i → (255 : Int32).toBitVec.getLsbD i = false := by decide
    rw [key i hi (by omega), hb hy i hi (by omega)]
    simp
/-- a capability's bytes, written -/
def wc (M : Nat → Int32) (a : Nat) (c : Cp) : Nat → Int32 := wr (wr (wr (wr M a 4 c.1) (a + 4) 4 c.2.1) (a + 8) 4 c.2.2.1) (a + 12) 4 (c.2.2.2.1 ||| (c.2.2.2.2.1 <<< ((8 : Int32) &&& 31)))
theorem mC_wc {M g : Nat → Int32} {q : Nat} {c : Cp} (hp : c.2.2.2.1 &&& 255 = c.2.2.2.1) (hy : c.2.2.2.2.1 &&& 255 = c.2.2.2.2.1) : mC (wc M (16 * q) c) g q = (c.1, c.2.1, c.2.2.1, c.2.2.2.1, c.2.2.2.2.1, i2b (g q)) := by
  have e0 : mw (wc M (16 * q) c) (16 * q) = c.1 := by
    unfold wc
    rw [mw_out (by omega), mw_out (by omega), mw_out (by omega), mw_wr]
  have e1 : mw (wc M (16 * q) c) (16 * q + 4) = c.2.1 := by
    unfold wc
    rw [mw_out (by omega), mw_out (by omega), mw_wr]
  have e2 : mw (wc M (16 * q) c) (16 * q + 8) = c.2.2.1 := by
    unfold wc
    rw [mw_out (by omega), mw_wr]
  have e3 : mw (wc M (16 * q) c) (16 * q + 12) = c.2.2.2.1 ||| (c.2.2.2.2.1 <<< ((8 : Int32) &&& 31)) := by
    unfold wc
    rw [mw_wr]
  unfold mC
  rw [e0, e1, e2, e3, p_back hp, y_back hp hy]
theorem mC_wc_ne {M g g' : Nat → Int32} {q q' : Nat} {c : Cp} (h : q' ≠ q) (hg : g' q' = g q') : mC (wc M (16 * q) c) g' q' = mC M g q' := by
  have e : ∀ d, d ≤ 12 → mw (wc M (16 * q) c) (16 * q' + d) = mw M (16 * q' + d) := by
    intro d hd
    unfold wc
    rw [mw_out (by omega), mw_out (by omega), mw_out (by omega), mw_out (by omega)]
  unfold mC
  rw [e 4 (by decide), e 8 (by decide), e 12 (by decide), show mw (wc M (16 * q) c) (16 * q') = mw M (16 * q') from e 0 (by decide), hg]
theorem mC_wr_ne {M g g' : Nat → Int32} {a n q' : Nat} {x : Int32} (h : q' ≠ a / 16) (hn : a / 16 = (a + n - 1) / 16) (hn0 : 0 < n) (hg : g' q' = g q') : mC (wr M a n x) g' q' = mC M g q' := by
  unfold mC
  rw [mw_out (by omega), mw_out (by omega), mw_out (by omega), mw_out (by omega), hg]
/-! good ones stay good -/
theorem gd_tag {Y : HV} {l : List Ob} {a b c d e : Int32} {t t' : Bool} (h : gd Y l (a, b, c, d, e, t)) (ht : t' = true → t = true) : gd Y l (a, b, c, d, e, t') := ⟨h.1, h.2.1, fun q => h.2.2 (ht q)⟩
theorem gd_num (Y : HV) (l : List Ob) (x : Int32) : gd Y l (nm x) := ⟨show (0 : Int32) &&& 255 = 0 by decide, show (0 : Int32) &&& 255 = 0 by decide, fun q => absurd q (by simp [nm])⟩
theorem and255 (x : Int32) : (x &&& 255) &&& 255 = x &&& 255 := by rw [Int32.and_assoc]; rfl
theorem gd_mem {Y : HV} {l : List Ob} {M g : Nat → Int32} {q : Nat} (h : i2b (g q) = false) : gd Y l (mC M g q) := ⟨and255 _, and255 _, fun z => absurd (h.symm.trans z) (by decide)⟩
