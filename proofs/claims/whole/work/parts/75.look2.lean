/-! bytes of memory as a number -/
def ldv (M : Nat → Int32) (a : Nat) : Nat → Int32 → Int32
  | 0, v => v
  | k + 1, v => ldv M a k ((v <<< ((8 : Int32) &&& 31)) ||| ((M (a + k)) &&& 255))
theorem ldv_congr {M N : Nat → Int32} {a : Nat} : ∀ (k : Nat) (v : Int32), (∀ j, j < k → M (a + j) = N (a + j)) → ldv M a k v = ldv N a k v
  | 0, _, _ => rfl
  | k + 1, v, h => by
    unfold ldv
    rw [h k (by omega)]
    exact ldv_congr k _ (fun j hj => h j (by omega))
/-- one less than k, as a loop downwards has it -/
def prI (k : Nat) : Int32 := nI k - 1
theorem prI_0 : prI 0 < 0 := by decide
theorem prI_s (k : Nat) : prI (k + 1) = nI k := nI_pred k
theorem prI_d (k : Nat) : prI (k + 1) + (-1) = prI k := by
  rw [prI_s]
  unfold prI
  exact (Int32.sub_eq_add_neg _ _).symm
theorem prI_m (k : Nat) : nI k + (-1) = prI k := (Int32.sub_eq_add_neg _ _).symm
theorem ld_C {kb a : Nat} {V : HV} {K : Int32 → Option Int32} (hkb : kb ≤ 32) : ∀ (k n : Nat) (v : Int32), k < n → a + k ≤ 1024 * kb → f_X8_load_L16 (nI a) kb V K n v (prI k) = K (ldv (V 2300 0) a k v)
  | 0, n + 1, v, _, _ => by
    rw [f_X8_load_L16, if_pos prI_0]
    rfl
  | k + 1, n + 1, v, hn, ha => by
    rw [f_X8_load_L16, prI_s, if_neg (nI_pos (by omega)), nI_add, chk_t (inb_nI (by omega) (by omega)), cl_nI (by omega), lt_def, lt_def, prI_m]
    exact ld_C hkb k n _ (by omega) (by omega)
theorem ld_M {a : Nat} {W : HV} {K : Int32 → Option Int32} : ∀ (k n : Nat) (v : Int32), k < n → a + k ≤ 32768 → f_X12_get_L7 (nI a) W K n v (prI k) = K (ldv (W 2100 0) a k v)
  | 0, n + 1, v, _, _ => by
    rw [f_X12_get_L7, if_pos prI_0]
    rfl
  | k + 1, n + 1, v, hn, ha => by
    rw [f_X12_get_L7, prI_s, if_neg (nI_pos (by omega)), nI_add, chk_t (inb_nI (by omega) (by omega)), cl_nI (by omega), lt_def, lt_def, prI_m]
    exact ld_M k n _ (by omega) (by omega)
theorem FU_gt {k : Nat} (h : k < 4294967296) : k < FU := by rw [FU_eq]; exact h
theorem has_C {kb a k : Nat} {V : HV} (hkb : kb ≤ 32) (hk : k ≤ 16) (h1 : 1 ≤ kb) (ha : a < 2147483648) : f_X8_has kb 0 (nI a) (nI k) V = decide (a + k ≤ 1024 * kb) := by
  unfold f_X8_has
  rw [if_neg (nI_pos ha), ofNat_nI, pk_sub (by omega), dec_ft]
  rw [Bool.eq_iff_iff]
  simp only [Bool.not_eq_true', decide_eq_false_iff_not, decide_eq_true_eq]
  rw [nI_ltI (by omega) ha]
  omega
theorem has_neg {kb : Nat} {x y : Int32} {V : HV} (h : x < 0) : f_X8_has kb 0 x y V = false := by
  unfold f_X8_has
  rw [if_pos h]
theorem load_C {kb a k : Nat} {V : HV} (hkb : kb ≤ 32) (h1 : 1 ≤ kb) (hk : k ≤ 16) (h : a + k ≤ 1024 * kb) : f_X8_load kb 0 (nI a) (nI k) V = some (ldv (V 2300 0) a k 0) := by
  unfold f_X8_load
  rw [has_C hkb hk h1 (by omega), decide_eq_true h]
  exact ld_C hkb k FU 0 (FU_gt (by omega)) h
theorem get_M {a k : Nat} {W : HV} (hk : k ≤ 16) (h : a + k ≤ 32768) : f_X12_get 0 (nI a) (nI k) W = some (ldv (W 2100 0) a k 0) := by
  unfold f_X12_get
  exact ld_M k FU 0 (FU_gt (by omega)) h
theorem look_memory1 {kb k : Nat} {V W : HV} (hs : Rs V W) (hm : Rm kb V W) (hn : In kb W) (hk : k ≤ 4) (x : Int32) : ∃ r, (if (i2b (V 809 0 0)) = true then (lt (f_X8_has kb 0 x (nI k) V) fun v4 =>
    if v4 = true then (bnd (f_X8_load kb 0 x (nI k) V) fun p6 => lt (f_X11_unsigned p6) fun v7 => some v7) else (some ((-1) : Int64))) else (some ((-1) : Int64))) = some r ∧ (if (i2b (W 1017 0 0)) = true then (if x < 0 then (some ((-1) : Int64)) else (if x ≤ ((W 1000 0 0) - nI k) then (bnd (f_X12_get 0 x (nI k) W) fun p6 =>
  lt (f_X12_plain p6) fun v7 => some v7) else (some ((-1) : Int64)))) else (some ((-1) : Int64))) = some r := by
  obtain ⟨-, -, s3, -⟩ := hs
  obtain ⟨k1, k2, k3, -⟩ := hn
  rw [s3, k3]
  by_cases hb : i2b (W 1017 0 0) = true
  · simp only [if_pos hb]
    by_cases h0 : x < 0
    · rw [if_pos h0, has_neg h0]
      exact ⟨_, rfl, rfl⟩
    · rw [if_neg h0]
      obtain ⟨a, ha, rfl⟩ := nI_of h0
      rw [has_C k2 (by omega) k1 (by omega), pk_sub (by omega)]
      by_cases h1 : a + k ≤ 1024 * kb
      · rw [decide_eq_true h1, if_pos ((nI_leI (by omega) (by omega)).mpr (by omega)), load_C k2 k1 (by omega) h1, get_M (by omega) (by omega)]
        refine ⟨f_X12_plain (ldv (W 2100 0) a k 0), ?_, rfl⟩
        show some (f_X11_unsigned (ldv (V 2300 0) a k 0)) = _
        rw [ldv_congr (M := V 2300 0) (N := W 2100 0) k 0 (fun j hj => hm.1 _ (by omega))]
        rfl
      · rw [decide_eq_false h1, if_neg (fun q => h1 (by have := (nI_leI (by omega) (by omega)).mp q; omega))]
        exact ⟨_, rfl, rfl⟩
  · simp only [if_neg hb]
    exact ⟨_, rfl, rfl⟩
theorem look_memory {kb : Nat} {V W : HV} (hs : Rs V W) (hm : Rm kb V W) (hn : In kb W) (x y : Int32) : ∃ r, f_X11_memory kb 0 x y V = some r ∧ f_X12_memory 0 x y W = some r := by
  unfold f_X11_memory f_X12_memory
  simp only [jn_def]
  by_cases h1 : y = 1
  · subst h1
    simp only [if_true]
    exact look_memory1 (k := 1) hs hm hn (by decide) x
  · by_cases h2 : y = 2
    · subst h2
      simp only [if_neg h1, if_true]
      exact look_memory1 (k := 2) hs hm hn (by decide) x
    · by_cases h4 : y = 4
      · subst h4
        simp only [if_neg h1, if_neg h2, if_true]
        exact look_memory1 (k := 4) hs hm hn (by decide) x
      · simp only [if_neg h1, if_neg h2, if_neg h4, ite_self]
        exact ⟨_, rfl, rfl⟩
/-! registers -/
theorem reg_M (t k : Nat) : f_X12_reg (nI t) (nI k) = nI (17 * t + k) := by
  unfold f_X12_reg
  rw [show (17 : Int32) = nI 17 from rfl, pk_mul, nI_add]
theorem reg_C {t k : Nat} (hk : k < 16) : f_X9_reg t (nI k) = 17 * t + k := by
  unfold f_X9_reg
  rw [pk_andN (by omega) 4 (by decide), Nat.mod_eq_of_lt (by omega), cl_nI (by omega)]
theorem okc_reg {W : HV} {t k : Nat} (ht : t < nth W) (h6 : nth W ≤ 6) (hk : k < 17) : okc W (17 * t + k) := Or.inl ⟨by omega, by rw [show (17 * t + k) / 17 = t by omega]; exact ht⟩
theorem part_eq {kb i : Nat} {V W : HV} (h : Rk1 V W i) (hi : i < 600) (y : Int32) : some (f_X0_part kb i y V) = (if y = 0 then (chk (inb (nI i) 600) <| lt (f_X12_plain (W 2400 0 (nI i).toNatClampNeg)) fun v8 => some v8) else
  if y = 1 then (chk (inb (nI i) 600) <| lt (f_X12_plain (W 2500 0 (nI i).toNatClampNeg)) fun v11 => some v11) else
  if y = 2 then (chk (inb (nI i) 600) <| lt (f_X12_plain (W 2600 0 (nI i).toNatClampNeg)) fun v14 => some v14) else
  if y = 3 then (chk (inb (nI i) 600) <| some ((W 2700 0 (nI i).toNatClampNeg).toInt64)) else
  if y = 4 then (chk (inb (nI i) 600) <| some ((W 2800 0 (nI i).toNatClampNeg).toInt64)) else
  if y = 5 then (chk (inb (nI i) 600) <| lt (if (i2b (W 2900 0 (nI i).toNatClampNeg)) = true then ((1 : Int64)) else ((0 : Int64)) : Int64) fun v21 => some v21) else
  some ((-1) : Int64)) := by
  obtain ⟨r1, r2, r3, r4, r5, r6⟩ := h
  unfold f_X0_part
  simp only [chk_t (inb_nI hi (by decide)), lt_def, cl_nI (show i < 2147483648 by omega)]
  rw [r1, r2, r3, r4, r5, r6]
  simp only [apply_ite some]
  rfl
theorem look_register {kb : Nat} {V W : HV} (hs : Rs V W) (hk : Rk V W) (hn : In kb W) (x y w : Int32) : ∃ r, f_X11_register kb 0 x y w V = some r ∧ f_X12_register 0 x y w W = some r := by
  obtain ⟨-, -, -, n1, n2, -⟩ := id hn
  unfold f_X11_register f_X12_register
  rcases th_cases W x with ⟨t, h, rfl⟩ | h
  · rw [taskAt_some hs hn h, bnd_some, onn_some, chk_t (by omega), n1, if_neg (nI_pos (by omega)), if_neg (nI_ge h (by omega))]
    by_cases h0 : y < 0
    · rw [if_pos h0, if_pos h0]
      exact ⟨_, rfl, rfl⟩
    · rw [if_neg h0, if_neg h0]
      by_cases h16 : y ≤ 16
      · rw [if_pos h16, if_pos h16]
        obtain ⟨k, hk16, rfl⟩ := nI_of h0
        have hk17 : k ≤ 16 := (nI_leI (b := 16) (by omega) (by decide)).mp h16
        rw [reg_M, lt_def, ← part_eq (kb := kb) (hk _ (okc_reg h n2 (by omega))) (by omega) w]
        refine ⟨_, ?_, rfl⟩
        simp only [jn_def]
        by_cases he : k = 16
        · subst he
          rw [if_pos (show nI 16 = (16 : Int32) from rfl), chk_t (by omega)]
          rfl
        · rw [if_neg (show ¬ nI k = (16 : Int32) from fun q => he (nI_inj (b := 16) (by omega) (by decide) q)), reg_C (by omega), chk_t (by omega)]
          rfl
      · rw [if_neg h16, if_neg h16]
        exact ⟨_, rfl, rfl⟩
  · rw [taskAt_none hs hn h, bnd_some, onn_none, n1]
    refine ⟨_, rfl, ?_⟩
    by_cases h0 : x < 0
    · rw [if_pos h0]
    · rw [if_neg h0]
      by_cases h1 : nI (nth W) ≤ x
      · rw [if_pos h1]
      · exact absurd (nI_le_of h0 h1 (by omega)) h
