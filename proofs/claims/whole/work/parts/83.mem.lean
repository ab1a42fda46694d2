/-! what a capability lets one reach -/
theorem flt_0 {c : Cp} {need a : Int32} {n : Nat} (hn : n < 2147483648) (h : flt c need a (nI n) = 0) : c.2.2.2.2.2 = true ∧ c.2.2.2.2.1 = 0 ∧ c.2.2.2.1 &&& need = need ∧ uN c.2.1 ≤ uN a ∧ uN a + n ≤ uN c.2.2.1 ∧ a &&& (nI n - 1) = 0 := by
  unfold flt at h
  by_cases h1 : c.2.2.2.2.2 = true
  · rw [if_pos h1] at h
    by_cases h2 : c.2.2.2.2.1 = 0
    · rw [if_pos h2] at h
      by_cases h3 : c.2.2.2.1 &&& need = need
      · rw [if_pos h3] at h
        by_cases h4 : pl a < pl c.2.1
        · rw [if_pos h4] at h; exact absurd h (by decide)
        · rw [if_neg h4] at h
          by_cases h5 : pl c.2.2.1 < pl a + (nI n).toInt64
          · rw [if_pos h5] at h; exact absurd h (by decide)
          · rw [if_neg h5] at h
            by_cases h6 : a &&& (nI n - 1) = 0
            · rw [pl_lt] at h4
              rw [pl_add_gt (nI64_toInt hn) (by omega)] at h5
              exact ⟨h1, h2, h3, by omega, by omega, h6⟩
            · rw [if_neg h6] at h; exact absurd h (by decide)
      · rw [if_neg h3] at h; exact absurd h (by decide)
    · rw [if_neg h2] at h; exact absurd h (by decide)
  · rw [if_neg h1] at h; exact absurd h (by decide)
theorem sub_need {p m need : Int32} (h : sub p m) (h2 : p &&& need = need) : sub need m := by
  unfold sub at h ⊢
  rw [← h2, Int32.and_comm p need, Int32.and_assoc, h, Int32.and_zero]
theorem srt_le {hi : Nat} : ∀ {l : List Ob} {lo : Nat}, srt hi lo l → lo ≤ hi
  | [], _, h => h
  | _ :: _, _, h => by
    have h1 := srt_le h.2.2.2
    have h2 := h.1
    omega
theorem srt_mem {hi : Nat} {o : Ob} : ∀ {l : List Ob} {lo : Nat}, srt hi lo l → o ∈ l → lo ≤ o.1 ∧ 0 < o.2.1 ∧ (o.2.2 = 1 ∨ o.2.2 = 2 ∨ o.2.2 = 3) ∧ o.1 + o.2.1 ≤ hi
  | [], _, _, h => by simp at h
  | p :: l, lo, hs, h => by
    obtain ⟨a, b, u, c⟩ := hs
    rcases List.mem_cons.mp h with rfl | h'
    · exact ⟨a, b, u, srt_le c⟩
    · have := srt_mem c h'
      exact ⟨by omega, this.2.1, this.2.2.1, this.2.2.2⟩
theorem acc {kb n : Nat} {Y : HV} {l : List Ob} {c : Cp} {need a : Int32} (hL : Lay kb Y) (hs : srt (64 * kb) (hp Y) l) (hg : gd Y l c) (hn : n < 2147483648) (hn0 : 0 < n) (h : flt c need a (nI n) = 0) (hneed : need = 1 ∨ need = 2 ∨ need = 4) : uN a + n ≤ 1024 * kb ∨ (268435456 ≤ uN a ∧ uN a + n ≤ 268435472 ∧ ¬ need = 4) := by
  obtain ⟨h1, h2, h3, h4, h5, h6⟩ := flt_0 hn h
  obtain ⟨-, -, -, -, -, -, -, -, hh, hc, ht⟩ := hL
  have hr := (hg.2.2 h1).2 (by omega)
  rcases hr with ⟨r1, r2, r3⟩ | ⟨r1, r2, r3⟩ | ⟨c', r0, r1, r2, r3⟩ | ⟨c', r0, r1, r2, r3⟩ | ⟨t, r0, r1, r2, r3⟩ | ⟨o, r0, r1, r2, r3⟩
  · have h7 := sub_need r3 h3
    refine Or.inr ⟨by omega, by omega, ?_⟩
    rintro rfl
    exact absurd h7 (by unfold sub; decide)
  · have h7 := sub_need r3 h3
    rcases hneed with rfl | rfl | rfl <;> exact absurd h7 (by unfold sub; decide)
  · have := hc c' r0; exact Or.inl (by omega)
  · have := hc c' r0; exact Or.inl (by omega)
  · have := ht t r0; exact Or.inl (by omega)
  · have := srt_mem hs r0; exact Or.inl (by omega)
theorem algn {a : Int32} {n : Nat} (hn : n = 1 ∨ n = 2 ∨ n = 4 ∨ n = 16) (h : a &&& (nI n - 1) = 0) : uN a % n = 0 := by
  have h1 := congrArg (fun z => z.toBitVec.toNat) h
  simp only [Int32.toBitVec_and, BitVec.toNat_and] at h1
  have h2 : (0 : Int32).toBitVec.toNat = 0 := rfl
  rw [h2] at h1
  rcases hn with rfl | rfl | rfl | rfl
  · omega
  · rw [show (nI 2 - 1 : Int32).toBitVec.toNat = 2 ^ 1 - 1 from by decide, Nat.and_two_pow_sub_one_eq_mod] at h1; exact h1
  · rw [show (nI 4 - 1 : Int32).toBitVec.toNat = 2 ^ 2 - 1 from by decide, Nat.and_two_pow_sub_one_eq_mod] at h1; exact h1
  · rw [show (nI 16 - 1 : Int32).toBitVec.toNat = 2 ^ 4 - 1 from by decide, Nat.and_two_pow_sub_one_eq_mod] at h1; exact h1
/-! marks -/
def mk (t r : Bool) : Int32 := b2i t + (if r = true then 2 else 0)
theorem mk_1 (t r : Bool) : (mk t r &&& 1 = 0) ↔ t = false := by cases t <;> cases r <;> decide
theorem mk_2 (t r : Bool) : (mk t r &&& 2 = 0) ↔ r = false := by cases t <;> cases r <;> decide
theorem mk_t (t r b : Bool) : (((if b = true then ((mk t r &&& ((1 : Int32) ^^^ (-1))) ||| 1) else (mk t r &&& ((1 : Int32) ^^^ (-1))) : Int32).toInt8.toInt32).toInt8.toInt32) = mk b r := by cases t <;> cases r <;> cases b <;> decide
theorem mk_r (t r b : Bool) : (((if b = true then ((mk t r &&& ((2 : Int32) ^^^ (-1))) ||| 2) else (mk t r &&& ((2 : Int32) ^^^ (-1))) : Int32).toInt8.toInt32).toInt8.toInt32) = mk t b := by cases t <;> cases r <;> cases b <;> decide
theorem mk_e (t r : Bool) : ((((mk t r &&& (-2)).toInt8.toInt32)).toInt8.toInt32) = mk false r := by cases t <;> cases r <;> decide
theorem dv16 {a : Nat} (h : a < 2147483648) : nI a / 16 = nI (a / 16) := pk_div (d := 16) h (by decide) (by decide)
theorem mark1_C {kb a : Nat} {t r b : Bool} {V : HV} (hkb : kb ≤ 32) (ha : a < 1024 * kb) (h : V 2400 0 (a / 16) = mk t r) : f_X8_mark kb 0 (nI a) 1 b V = some (sv V 2400 0 (a / 16) (mk b r)) := by
  unfold f_X8_mark
  simp only [lt_def]
  rw [dv16 (by omega), if_neg (nI_pos (by omega)), ofNat_nI, if_neg (nI_ge (by omega) (by omega)), chk_t (inb_nI (by omega) (by omega)), chk_t (inb_nI (by omega) (by omega)), cl_nI (by omega), h, mk_t]
theorem mark2_C {kb a : Nat} {t r b : Bool} {V : HV} (hkb : kb ≤ 32) (ha : a < 1024 * kb) (h : V 2400 0 (a / 16) = mk t r) : f_X8_mark kb 0 (nI a) 2 b V = some (sv V 2400 0 (a / 16) (mk t b)) := by
  unfold f_X8_mark
  simp only [lt_def]
  rw [dv16 (by omega), if_neg (nI_pos (by omega)), ofNat_nI, if_neg (nI_ge (by omega) (by omega)), chk_t (inb_nI (by omega) (by omega)), chk_t (inb_nI (by omega) (by omega)), cl_nI (by omega), h, mk_r]
theorem marked1_C {kb a : Nat} {t r : Bool} {V : HV} (hkb : kb ≤ 32) (ha : a < 1024 * kb) (h : V 2400 0 (a / 16) = mk t r) : f_X8_isMarked kb 0 (nI a) 1 V = some t := by
  unfold f_X8_isMarked
  simp only [lt_def]
  rw [dv16 (by omega), if_neg (nI_pos (by omega)), ofNat_nI, if_neg (nI_ge (by omega) (by omega)), chk_t (inb_nI (by omega) (by omega)), cl_nI (by omega), h]
  cases t <;> cases r <;> rfl
theorem marked2_C {kb a : Nat} {t r : Bool} {V : HV} (hkb : kb ≤ 32) (ha : a < 1024 * kb) (h : V 2400 0 (a / 16) = mk t r) : f_X8_isMarked kb 0 (nI a) 2 V = some r := by
  unfold f_X8_isMarked
  simp only [lt_def]
  rw [dv16 (by omega), if_neg (nI_pos (by omega)), ofNat_nI, if_neg (nI_ge (by omega) (by omega)), chk_t (inb_nI (by omega) (by omega)), cl_nI (by omega), h]
  cases t <;> cases r <;> rfl
/-! bytes of a value -/
def byt (x : Int32) (k : Nat) : Int32 := (x >>> ((8 * nI k) &&& 31)).toInt8.toInt32
def wr (M : Nat → Int32) (a n : Nat) (x : Int32) : Nat → Int32 := fun j => if a ≤ j ∧ j < a + n then byt x (j - a) else M j
theorem wr_0 (M : Nat → Int32) (a : Nat) (x : Int32) : wr M a 0 x = M := by
  funext j
  unfold wr
  rw [if_neg (by omega)]
theorem wr_s (M : Nat → Int32) (a n : Nat) (x : Int32) : (fun j => if j = a + n then byt x n else wr M a n x j) = wr M a (n + 1) x := by
  funext j
  unfold wr
  by_cases h : j = a + n
  · rw [if_pos h, if_pos (by omega), show j - a = n by omega]
  · rw [if_neg h]
    by_cases h2 : a ≤ j ∧ j < a + n
    · rw [if_pos h2, if_pos (by omega)]
    · rw [if_neg h2, if_neg (by omega)]
theorem sv_row (V : HV) (c j : Nat) (x : Int32) : sv V c 0 j x c 0 = fun i => if i = j then x else V c 0 i := by
  funext i
  by_cases h : i = j <;> simp [sv, h]
theorem put_L {a n : Nat} {x : Int32} {K : HV → Option HV} (hn : n ≤ 4) (ha : a + n ≤ 32768) : ∀ (r k f : Nat) (W : HV), k + r = n → r < f → ∃ W', f_X12_put_L3 (nI a) (nI n) x K f (nI k) W = K W' ∧ (∀ M, W 2100 0 = wr M a k x → W' 2100 0 = wr M a n x) ∧ agr [2100] W W'
  | 0, k, f + 1, W, hk, _ => by
    have e : k = n := by omega
    subst e
    refine ⟨W, ?_, fun M h => h, (agr_rfl W).sub (by decide)⟩
    rw [f_X12_put_L3, if_pos (nI_le (Nat.le_refl _) (by omega))]
  | r + 1, k, f + 1, W, hk, hf => by
    obtain ⟨W', h1, h2, h3⟩ := put_L (x := x) (K := K) hn ha r (k + 1) f (sv W 2100 0 (a + k) (byt x k)) (by omega) (by omega)
    refine ⟨W', ?_, fun M h => h2 M ?_, ((agr_sv W 2100 0 (a + k) (byt x k)).app h3).sub (by decide)⟩
    · rw [f_X12_put_L3, if_neg (nI_ge (by omega) (by omega)), nI_add, chk_t (inb_nI (by omega) (by decide)), cl_nI (by omega), lt_def, lt_def, nI_1, nar8]
      exact h1
    · rw [sv_row, h]
      exact wr_s M a k x
theorem put_M {a n : Nat} {x : Int32} {W : HV} (hn : n ≤ 4) (ha : a + n ≤ 32768) : ∃ W', f_X12_put 0 (nI a) (nI n) x W = some W' ∧ W' 2100 0 = wr (W 2100 0) a n x ∧ agr [2100] W W' := by
  obtain ⟨W', h1, h2, h3⟩ := put_L (x := x) (K := fun V3 => some V3) hn ha n 0 FU W (by omega) (FU_gt (by omega))
  exact ⟨W', h1, h2 _ (wr_0 _ _ _).symm, h3⟩
/-- the value left when k bytes are written -/
def lft (x : Int32) : Nat → Int32
  | 0 => x
  | k + 1 => ((lft x k).toUInt32 >>> (Int32.toUInt32 (8 : Int32) &&& Int32.toUInt32 31)).toInt32
theorem lft_b (x : Int32) : ∀ k, (lft x k).toBitVec = x.toBitVec >>> (8 * k)
  | 0 => by simp [lft]
  | k + 1 => by
    have e : (lft x (k + 1)).toBitVec = (lft x k).toBitVec >>> 8 := rfl
    rw [e, lft_b x k, ← BitVec.shiftRight_add]
    rfl
theorem byt_b (x : Int32) {k : Nat} (hk : k < 4) : (x >>> ((8 * nI k) &&& 31)).toBitVec = x.toBitVec.sshiftRight (8 * k) := by
  have : k = 0 ∨ k = 1 ∨ k = 2 ∨ k = 3 := by omega
  rcases this with rfl | rfl | rfl | rfl <;> rfl
theorem lft_byt (x : Int32) {k : Nat} (hk : k < 4) : (lft x k).toInt8.toInt32 = byt x k := by
  unfold byt
  congr 1
  apply low8
  intro i hi
  rw [lft_b, byt_b x hk, BitVec.getLsbD_ushiftRight, BitVec.getLsbD_sshiftRight]
  simp [show ¬ 32 ≤ i by omega, show 8 * k + i < 32 by omega]
theorem wr_L {kb a n : Nat} {x : Int32} {K : HV → Option HV} (hkb : kb ≤ 32) (hn : n ≤ 4) (ha : a + n ≤ 1024 * kb) : ∀ (r k f : Nat) (V : HV), k + r = n → r < f → ∃ V', f_X8_write_L15 (nI a) (nI n) kb K f (lft x k) (nI k) V = K V' ∧ (∀ M, V 2300 0 = wr M a k x → V' 2300 0 = wr M a n x) ∧ agr [2300] V V'
  | 0, k, f + 1, V, hk, _ => by
    have e : k = n := by omega
    subst e
    refine ⟨V, ?_, fun M h => h, (agr_rfl V).sub (by decide)⟩
    rw [f_X8_write_L15, if_pos (nI_le (Nat.le_refl _) (by omega))]
  | r + 1, k, f + 1, V, hk, hf => by
    obtain ⟨V', h1, h2, h3⟩ := wr_L (x := x) (K := K) hkb hn ha r (k + 1) f (sv V 2300 0 (a + k) (byt x k)) (by omega) (by omega)
    refine ⟨V', ?_, fun M h => h2 M ?_, ((agr_sv V 2300 0 (a + k) (byt x k)).app h3).sub (by decide)⟩
    · rw [f_X8_write_L15, if_neg (nI_ge (by omega) (by omega)), nI_add, chk_t (inb_nI (by omega) (by omega)), cl_nI (by omega), lt_def, lt_def, lt_def, nI_1, nar8, lft_byt x (by omega)]
      exact h1
    · rw [sv_row, h]
      exact wr_s M a k x
/-- a row of marks with one changed -/
def um (M : Nat → Int32) (g : Nat) (x : Int32) : Nat → Int32 := fun i => if i = g then x else M i
theorem write_C {kb a n : Nat} {x : Int32} {t r : Bool} {V : HV} (hkb : kb ≤ 32) (h1 : 1 ≤ kb) (hn : n ≤ 4) (hn0 : 0 < n) (ha : a + n ≤ 1024 * kb) (hm : V 2400 0 (a / 16) = mk t r) : ∃ V', f_X8_write kb 0 (nI a) (nI n) x V = some V' ∧ V' 2300 0 = wr (V 2300 0) a n x ∧ V' 2400 0 = um (V 2400 0) (a / 16) (mk false r) ∧ agr [2300, 2400] V V' := by
  obtain ⟨V1, e1, e2, e3⟩ := wr_L (x := x) (K := fun V5 => bnd (f_X8_mark kb 0 (nI a) 1 false V5) fun p6 => some p6) hkb hn ha n 0 FU V (by omega) (FU_gt (by omega))
  have hm1 : V1 2400 0 (a / 16) = mk t r := (e3 2400 0 (a / 16) (by decide)).trans hm
  refine ⟨sv V1 2400 0 (a / 16) (mk false r), ?_, ?_, ?_, (e3.app (agr_sv _ _ _ _ _)).sub (by decide)⟩
  · unfold f_X8_write
    rw [lt_def, has_C hkb (by omega) h1 (by omega), decide_eq_true ha, if_pos rfl, jn_def]
    refine e1.trans ?_
    rw [mark1_C hkb (by omega) hm1, bnd_some]
  · rw [← e2 _ (wr_0 _ _ _).symm]
    funext j
    exact sv_col (by decide)
  · rw [sv_row, row_fr e3 (by decide)]
    rfl
