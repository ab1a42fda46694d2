/-! many capabilities cleared -/
def clr (P : Nat → Bool) (f : Nat → Cp) : Nat → Cp := fun i => if P i = true then nm 0 else f i
theorem clr_t {P : Nat → Bool} {f : Nat → Cp} {i : Nat} (h : P i = true) : clr P f i = nm 0 := if_pos h
theorem clr_f {P : Nat → Bool} {f : Nat → Cp} {i : Nat} (h : P i = false) : clr P f i = f i := if_neg (by rw [h]; decide)
theorem clr_up {P Q : Nat → Bool} {f : Nat → Cp} {j : Nat} (hQ : ∀ i, Q i = (decide (i = j) || P i)) : clr P (up f j (nm 0)) = clr Q f := by
  funext i
  unfold clr up
  rw [hQ i]
  by_cases h1 : i = j
  · rw [decide_eq_true h1, Bool.true_or, if_pos h1, if_pos rfl, ite_self]
  · rw [decide_eq_false h1, Bool.false_or, if_neg h1]
theorem clr_0 {P : Nat → Bool} {f : Nat → Cp} (hP : ∀ i, P i = false) : clr P f = f := by
  funext i
  exact clr_f (hP i)
def rg2 (t a b : Nat) : Nat → Bool := fun i => decide (17 * t + a ≤ i) && decide (i < 17 * t + b)
theorem rg2_s {t a b : Nat} (h : a < b) (i : Nat) : rg2 t a b i = (decide (i = 17 * t + a) || rg2 t (a + 1) b i) := by
  unfold rg2
  by_cases h1 : i = 17 * t + a
  · rw [decide_eq_true h1, Bool.true_or, decide_eq_true (by omega), decide_eq_true (by omega)]; rfl
  · rw [decide_eq_false h1, Bool.false_or]
    by_cases h2 : 17 * t + a ≤ i
    · rw [decide_eq_true h2, decide_eq_true (show 17 * t + (a + 1) ≤ i by omega)]
    · rw [decide_eq_false h2, decide_eq_false (show ¬ 17 * t + (a + 1) ≤ i by omega)]
theorem rg2_0 {t a b : Nat} (h : b ≤ a) (i : Nat) : rg2 t a b i = false := by
  unfold rg2
  by_cases h2 : 17 * t + a ≤ i
  · rw [decide_eq_true h2, decide_eq_false (show ¬ i < 17 * t + b by omega)]; rfl
  · rw [decide_eq_false h2]; rfl
theorem rg2_t {t a b i : Nat} (h1 : 17 * t + a ≤ i) (h2 : i < 17 * t + b) : rg2 t a b i = true := by
  unfold rg2
  rw [decide_eq_true h1, decide_eq_true h2]; rfl
theorem rg2_f {t a b i : Nat} (h : ¬ (17 * t + a ≤ i ∧ i < 17 * t + b)) : rg2 t a b i = false := by
  unfold rg2
  by_cases h1 : 17 * t + a ≤ i
  · rw [decide_eq_true h1, decide_eq_false (fun q => h ⟨h1, q⟩)]; rfl
  · rw [decide_eq_false h1]; rfl
theorem fo_L {t b kb : Nat} {K : HV → Option HV} (hb : b < 16) : ∀ (r k f : Nat) (V : HV), k + r = b + 1 → r < f → ∃ V', f_X9_forget_L2 t (nI b) kb K f (nI k) V = K V' ∧ UC V (clr (rg2 t k (b + 1)) (cC V)) V'
  | 0, _, 0, _, _, hf => absurd hf (by omega)
  | _ + 1, _, 0, _, _, hf => absurd hf (by omega)
  | 0, k, f + 1, V, hk, _ => by
    unfold f_X9_forget_L2
    rw [if_pos (nI_lt (by omega) (by omega)), clr_0 (rg2_0 (by omega))]
    exact ⟨V, rfl, UC_rfl V⟩
  | r + 1, k, f + 1, V, hk, hf => by
    unfold f_X9_forget_L2
    rw [if_neg (nI_nlt (by omega) (by omega)), lt_def, lt_def, reg_C' (by omega), clear_C, nI_1]
    have u := kC_U V (17 * t + k) (nm 0)
    obtain ⟨V', e1, e2⟩ := fo_L hb r (k + 1) f (kC V (17 * t + k) (nm 0)) (by omega) (by omega)
    rw [u.1, clr_up (rg2_s (by omega))] at e2
    exact ⟨V', e1, u.trans e2⟩
theorem fo_C {kb t a b : Nat} {V : HV} (hb : b < 16) (hab : a ≤ b) : ∃ V', f_X9_forget kb t (nI a) (nI b) V = some V' ∧ UC V (clr (rg2 t a (b + 1)) (cC V)) V' := by
  unfold f_X9_forget
  rw [jn_def]
  exact fo_L hb (b + 1 - a) a FU V (by omega) (FU_gt (by omega))
theorem fa_L {t kb : Nat} {K : HV → Option HV} : ∀ (r k f : Nat) (V : HV), k + r = 16 → r < f → ∃ V', f_X9_forgetAll_L10 t kb (nI 16) K f (nI k) V = K V' ∧ UC V (clr (rg2 t k 16) (cC V)) V'
  | 0, _, 0, _, _, hf => absurd hf (by omega)
  | _ + 1, _, 0, _, _, hf => absurd hf (by omega)
  | 0, k, f + 1, V, hk, _ => by
    unfold f_X9_forgetAll_L10
    rw [if_pos (nI_le (by omega) (by omega)), clr_0 (rg2_0 (by omega))]
    exact ⟨V, rfl, UC_rfl V⟩
  | r + 1, k, f + 1, V, hk, hf => by
    unfold f_X9_forgetAll_L10
    rw [if_neg (fun q => by have := (nI_leI (by omega) (by omega)).mp q; omega), chk_t (inb_nI (by omega) (by decide)), lt_def, lt_def, cl_nI (by omega), clear_C, nI_1]
    have u := kC_U V (17 * t + k) (nm 0)
    obtain ⟨V', e1, e2⟩ := fa_L r (k + 1) f (kC V (17 * t + k) (nm 0)) (by omega) (by omega)
    rw [u.1, clr_up (rg2_s (by omega))] at e2
    exact ⟨V', e1, u.trans e2⟩
theorem end_C {kb t : Nat} {V : HV} : ∃ V1, f_X9_end kb t V = some (sv (sv V1 704 t 0 0) 711 t 0 3) ∧ UC V (clr (rg2 t 0 17) (cC V)) V1 := by
  unfold f_X9_end f_X9_forgetAll
  rw [lt_def, jn_def]
  obtain ⟨V1, e1, e2⟩ := fa_L (t := t) (kb := kb) (K := fun V4 => lt (f_X0_clear kb (17 * t + 16) V4) fun V5 => lt (sv V5 704 t 0 0) fun V6 => some V6) 16 0 FU V (by omega) (FU_gt (by omega))
  have e0 : f_X9_forgetAll_L10 t kb (Int32.ofNat 16) (fun V4 => lt (f_X0_clear kb (17 * t + 16) V4) fun V5 => lt (sv V5 704 t 0 0) fun V6 => some V6) FU 0 V = some (sv (kC V1 (17 * t + 16) (nm 0)) 704 t 0 0) := e1
  rw [e0, bnd_some, lt_def]
  refine ⟨kC V1 (17 * t + 16) (nm 0), rfl, ?_⟩
  have u := kC_U V1 (17 * t + 16) (nm 0)
  rw [e2.1] at u
  refine ⟨?_, (e2.trans u).2⟩
  rw [u.1]
  funext i
  unfold up clr
  by_cases h1 : i = 17 * t + 16
  · rw [if_pos h1, rg2_t (by omega) (by omega), if_pos rfl]
  · rw [if_neg h1]
    by_cases h2 : 17 * t ≤ i ∧ i < 17 * t + 16
    · rw [rg2_t (by omega) (by omega), rg2_t (by omega) (by omega)]
    · rw [rg2_f (by omega), rg2_f (by omega)]
/-! the reference's loops -/
theorem nL_call {t : Nat} (ht : t < 6) : ∀ (r k f : Nat) (W : HV), k + r = 10 → r < f → W 1080 0 0 = nI t → ∃ W', (∀ K : HV → Option HV, f_X12_call_L309 0 K f (nI k) W = K W') ∧ UM W (clr (rg2 t k 10) (cM W)) W'
  | 0, _, 0, _, _, hf, _ => absurd hf (by omega)
  | _ + 1, _, 0, _, _, hf, _ => absurd hf (by omega)
  | 0, k, f + 1, W, hk, _, h8 => by
    rw [clr_0 (rg2_0 (by omega))]
    refine ⟨W, fun K => ?_, UM_rfl W⟩
    unfold f_X12_call_L309
    rw [if_pos (show (10 : Int32) ≤ nI k from nI_le (a := 10) (by omega) (by omega))]
  | r + 1, k, f + 1, W, hk, hf, h8 => by
    have u := kM_U W (17 * t + k) (nm 0)
    obtain ⟨W', e1, e2⟩ := nL_call ht r (k + 1) f (kM W (17 * t + k) (nm 0)) (by omega) (by omega) ((UM_80 u).trans h8)
    rw [u.1, clr_up (rg2_s (by omega))] at e2
    refine ⟨W', fun K => ?_, u.trans e2⟩
    unfold f_X12_call_L309
    rw [if_neg (show ¬ (10 : Int32) ≤ nI k from fun q => by have := (nI_leI (a := 10) (by omega) (by omega)).mp q; omega), lt_def, h8, reg_M', nothing_M (by omega), bnd_some, lt_def, nI_1]
    exact e1 K
theorem nL_end {t : Nat} {K : HV → Option HV} (ht : t < 6) : ∀ (r k f : Nat) (W : HV), k + r = 17 → r < f → W 1080 0 0 = nI t → ∃ W', f_X12_returns_L34 0 K f (nI k) W = K W' ∧ UM W (clr (rg2 t k 17) (cM W)) W'
  | 0, _, 0, _, _, hf, _ => absurd hf (by omega)
  | _ + 1, _, 0, _, _, hf, _ => absurd hf (by omega)
  | 0, k, f + 1, W, hk, _, h8 => by
    unfold f_X12_returns_L34
    rw [if_pos (show (16 : Int32) < nI k from nI_lt (a := 16) (by omega) (by omega)), clr_0 (rg2_0 (by omega))]
    exact ⟨W, rfl, UM_rfl W⟩
  | r + 1, k, f + 1, W, hk, hf, h8 => by
    unfold f_X12_returns_L34
    rw [if_neg (show ¬ (16 : Int32) < nI k from nI_nlt (b := k) (a := 16) (by omega) (by omega)), lt_def, h8, reg_M', nothing_M (by omega), bnd_some, lt_def, nI_1]
    have u := kM_U W (17 * t + k) (nm 0)
    obtain ⟨W', e1, e2⟩ := nL_end ht r (k + 1) f (kM W (17 * t + k) (nm 0)) (by omega) (by omega) ((UM_80 u).trans h8)
    rw [u.1, clr_up (rg2_s (by omega))] at e2
    exact ⟨W', e1, u.trans e2⟩
def rgE (t a : Nat) : Nat → Bool := fun i => rg2 t a 16 i && (!decide (i = 17 * t + 10) && !decide (i = 17 * t + 11))
def rgS (t a : Nat) : Nat → Bool := fun i => rg2 t a 16 i && (!decide (i = 17 * t + 2) && (!decide (i = 17 * t + 3) && (!decide (i = 17 * t + 8) && !decide (i = 17 * t + 9))))
theorem rg2_n {t a b i : Nat} (h : ¬ i = 17 * t + a) : rg2 t a b i = rg2 t (a + 1) b i := by
  unfold rg2
  by_cases h2 : 17 * t + a ≤ i
  · rw [decide_eq_true h2, decide_eq_true (show 17 * t + (a + 1) ≤ i by omega)]
  · rw [decide_eq_false h2, decide_eq_false (show ¬ 17 * t + (a + 1) ≤ i by omega)]
theorem rgE_skip {t a : Nat} (h : a = 10 ∨ a = 11) : rgE t a = rgE t (a + 1) := by
  funext i
  unfold rgE
  by_cases h1 : i = 17 * t + a
  · rcases h with h | h
    · rw [decide_eq_true (show i = 17 * t + 10 by omega)]; simp
    · rw [decide_eq_true (show i = 17 * t + 11 by omega)]; simp
  · rw [rg2_n h1]
theorem rgE_s {t a : Nat} (ha : a < 16) (h : ¬ a = 10) (h' : ¬ a = 11) (i : Nat) : rgE t a i = (decide (i = 17 * t + a) || rgE t (a + 1) i) := by
  unfold rgE
  rw [rg2_s ha]
  by_cases h1 : i = 17 * t + a
  · rw [decide_eq_true h1, decide_eq_false (show ¬ i = 17 * t + 10 by omega), decide_eq_false (show ¬ i = 17 * t + 11 by omega)]; rfl
  · rw [decide_eq_false h1, Bool.false_or, Bool.false_or]
theorem nL_emp {t : Nat} {K : HV → Option HV} (ht : t < 6) : ∀ (r k f : Nat) (W : HV), k + r = 16 → r < f → W 1080 0 0 = nI t → ∃ W', f_X12_empties_L2 0 K f (nI k) W = K W' ∧ UM W (clr (rgE t k) (cM W)) W'
  | 0, _, 0, _, _, hf, _ => absurd hf (by omega)
  | _ + 1, _, 0, _, _, hf, _ => absurd hf (by omega)
  | 0, k, f + 1, W, hk, _, h8 => by
    unfold f_X12_empties_L2
    rw [if_pos (show (16 : Int32) ≤ nI k from nI_le (a := 16) (by omega) (by omega)), clr_0 (fun i => by unfold rgE; rw [rg2_0 (by omega)]; rfl)]
    exact ⟨W, rfl, UM_rfl W⟩
  | r + 1, k, f + 1, W, hk, hf, h8 => by
    unfold f_X12_empties_L2
    rw [if_neg (show ¬ (16 : Int32) ≤ nI k from fun q => by have := (nI_leI (a := 16) (by omega) (by omega)).mp q; omega), jn_def]
    by_cases k10 : k = 10
    · rw [if_pos (by rw [k10]; rfl)]
      dsimp only
      rw [lt_def, nI_1, rgE_skip (Or.inl k10)]
      exact nL_emp ht r (k + 1) f W (by omega) (by omega) h8
    · rw [if_neg (show ¬ nI k = 10 from fun q => k10 (nI_inj (b := 10) (by omega) (by decide) q))]
      by_cases k11 : k = 11
      · rw [if_pos (by rw [k11]; rfl)]
        dsimp only
        rw [lt_def, nI_1, rgE_skip (Or.inr k11)]
        exact nL_emp ht r (k + 1) f W (by omega) (by omega) h8
      · rw [if_neg (show ¬ nI k = 11 from fun q => k11 (nI_inj (b := 11) (by omega) (by decide) q)), lt_def, h8, reg_M', nothing_M (by omega), bnd_some]
        dsimp only
        rw [lt_def, nI_1]
        have u := kM_U W (17 * t + k) (nm 0)
        obtain ⟨W', e1, e2⟩ := nL_emp ht r (k + 1) f (kM W (17 * t + k) (nm 0)) (by omega) (by omega) ((UM_80 u).trans h8)
        rw [u.1, clr_up (rgE_s (by omega) k10 k11)] at e2
        exact ⟨W', e1, u.trans e2⟩
theorem rgS_skip {t a : Nat} (h : a = 2 ∨ a = 3 ∨ a = 8 ∨ a = 9) : rgS t a = rgS t (a + 1) := by
  funext i
  unfold rgS
  by_cases h1 : i = 17 * t + a
  · rcases h with h | h | h | h
    · rw [decide_eq_true (show i = 17 * t + 2 by omega)]; simp
    · rw [decide_eq_true (show i = 17 * t + 3 by omega)]; simp
    · rw [decide_eq_true (show i = 17 * t + 8 by omega)]; simp
    · rw [decide_eq_true (show i = 17 * t + 9 by omega)]; simp
  · rw [rg2_n h1]
theorem rgS_s {t a : Nat} (ha : a < 16) (h : ¬ (a = 2 ∨ a = 3 ∨ a = 8 ∨ a = 9)) (i : Nat) : rgS t a i = (decide (i = 17 * t + a) || rgS t (a + 1) i) := by
  unfold rgS
  rw [rg2_s ha]
  by_cases h1 : i = 17 * t + a
  · rw [decide_eq_true h1, decide_eq_false (show ¬ i = 17 * t + 2 by omega), decide_eq_false (show ¬ i = 17 * t + 3 by omega), decide_eq_false (show ¬ i = 17 * t + 8 by omega), decide_eq_false (show ¬ i = 17 * t + 9 by omega)]; rfl
  · rw [decide_eq_false h1, Bool.false_or, Bool.false_or]
theorem st_b {k : Nat} (hk : k < 16) : (if nI k = 2 then (true) else (if nI k = 3 then (true) else (if nI k = 8 then (true) else (if nI k = 9 then (true) else (false)))) : Bool) = decide (k = 2 ∨ k = 3 ∨ k = 8 ∨ k = 9) := by
  revert k
  decide
theorem nL_srv {t : Nat} (ht : t < 6) : ∀ (r k f : Nat) (W : HV), k + r = 16 → r < f → W 1080 0 0 = nI t → ∃ W', (∀ K : HV → Option HV, f_X12_service_L75 0 K f (nI k) W = K W') ∧ UM W (clr (rgS t k) (cM W)) W'
  | 0, _, 0, _, _, hf, _ => absurd hf (by omega)
  | _ + 1, _, 0, _, _, hf, _ => absurd hf (by omega)
  | 0, k, f + 1, W, hk, _, h8 => by
    rw [clr_0 (fun i => by unfold rgS; rw [rg2_0 (by omega)]; rfl)]
    refine ⟨W, fun K => ?_, UM_rfl W⟩
    unfold f_X12_service_L75
    rw [if_pos (show (16 : Int32) ≤ nI k from nI_le (a := 16) (by omega) (by omega))]
  | r + 1, k, f + 1, W, hk, hf, h8 => by
    by_cases k10 : k = 2 ∨ k = 3 ∨ k = 8 ∨ k = 9
    · obtain ⟨W', e1, e2⟩ := nL_srv ht r (k + 1) f W (by omega) (by omega) h8
      rw [rgS_skip k10]
      refine ⟨W', fun K => ?_, e2⟩
      unfold f_X12_service_L75
      rw [if_neg (show ¬ (16 : Int32) ≤ nI k from fun q => by have := (nI_leI (a := 16) (by omega) (by omega)).mp q; omega), lt_def, jn_def, st_b (by omega), decide_eq_true k10, if_pos rfl]
      dsimp only
      rw [lt_def, nI_1]
      exact e1 K
    · have u := kM_U W (17 * t + k) (nm 0)
      obtain ⟨W', e1, e2⟩ := nL_srv ht r (k + 1) f (kM W (17 * t + k) (nm 0)) (by omega) (by omega) ((UM_80 u).trans h8)
      rw [u.1, clr_up (rgS_s (by omega) k10)] at e2
      refine ⟨W', fun K => ?_, u.trans e2⟩
      unfold f_X12_service_L75
      rw [if_neg (show ¬ (16 : Int32) ≤ nI k from fun q => by have := (nI_leI (a := 16) (by omega) (by omega)).mp q; omega), lt_def, jn_def, st_b (by omega), decide_eq_false k10, if_neg (show ¬ false = true by decide), lt_def, h8, reg_M', nothing_M (by omega), bnd_some]
      dsimp only
      rw [lt_def, nI_1]
      exact e1 K
def fr5 (t d a : Nat) : Nat → Bool := fun i => decide (102 + 80 * t + 5 * d + a ≤ i) && decide (i < 102 + 80 * t + 5 * d + 5)
theorem fr5_s {t d a : Nat} (h : a < 5) (i : Nat) : fr5 t d a i = (decide (i = 102 + 80 * t + 5 * d + a) || fr5 t d (a + 1) i) := by
  unfold fr5
  by_cases h1 : i = 102 + 80 * t + 5 * d + a
  · rw [decide_eq_true h1, Bool.true_or, decide_eq_true (by omega), decide_eq_true (by omega)]; rfl
  · rw [decide_eq_false h1, Bool.false_or]
    by_cases h2 : 102 + 80 * t + 5 * d + a ≤ i
    · rw [decide_eq_true h2, decide_eq_true (show 102 + 80 * t + 5 * d + (a + 1) ≤ i by omega)]
    · rw [decide_eq_false h2, decide_eq_false (show ¬ 102 + 80 * t + 5 * d + (a + 1) ≤ i by omega)]
theorem fr5_f {t d a i : Nat} (h : ¬ (102 + 80 * t + 5 * d + a ≤ i ∧ i < 102 + 80 * t + 5 * d + 5)) : fr5 t d a i = false := by
  unfold fr5
  by_cases h1 : 102 + 80 * t + 5 * d + a ≤ i
  · rw [decide_eq_true h1, decide_eq_false (fun q => h ⟨h1, q⟩)]; rfl
  · rw [decide_eq_false h1]; rfl
theorem fr5_t {t d a i : Nat} (h : 102 + 80 * t + 5 * d + a ≤ i) (h2 : i < 102 + 80 * t + 5 * d + 5) : fr5 t d a i = true := by
  unfold fr5
  rw [decide_eq_true h, decide_eq_true h2]; rfl
theorem frm_M (t d k : Nat) : f_X12_frame (nI t) (nI d) (nI k) = nI (102 + 80 * t + 5 * d + k) := by
  unfold f_X12_frame
  rw [show (102 : Int32) = nI 102 from rfl, show (80 : Int32) = nI 80 from rfl, show (5 : Int32) = nI 5 from rfl, pk_mul, pk_mul, nI_add, nI_add, nI_add]
theorem nL_frm {t d : Nat} (ht : t < 6) (hd : d < 16) : ∀ (r k f : Nat) (W : HV), k + r = 5 → r < f → W 1080 0 0 = nI t → ∃ W', (∀ K : HV → Option HV, f_X12_returns_L191 0 (nI d) K f (nI k) W = K W') ∧ UM W (clr (fr5 t d k) (cM W)) W'
  | 0, _, 0, _, _, hf, _ => absurd hf (by omega)
  | _ + 1, _, 0, _, _, hf, _ => absurd hf (by omega)
  | 0, k, f + 1, W, hk, _, h8 => by
    rw [clr_0 (fun i => fr5_f (by omega))]
    refine ⟨W, fun K => ?_, UM_rfl W⟩
    unfold f_X12_returns_L191
    rw [if_pos (show (5 : Int32) ≤ nI k from nI_le (a := 5) (by omega) (by omega))]
  | r + 1, k, f + 1, W, hk, hf, h8 => by
    have u := kM_U W (102 + 80 * t + 5 * d + k) (nm 0)
    obtain ⟨W', e1, e2⟩ := nL_frm ht hd r (k + 1) f (kM W (102 + 80 * t + 5 * d + k) (nm 0)) (by omega) (by omega) ((UM_80 u).trans h8)
    rw [u.1, clr_up (fr5_s (by omega))] at e2
    refine ⟨W', fun K => ?_, u.trans e2⟩
    unfold f_X12_returns_L191
    rw [if_neg (show ¬ (5 : Int32) ≤ nI k from fun q => by have := (nI_leI (a := 5) (by omega) (by omega)).mp q; omega), lt_def, h8, frm_M, nothing_M (by omega), bnd_some, lt_def, nI_1]
    exact e1 K
/-! one thread's numbers -/
theorem Rt1_pt {V V' W W' : HV} {u : Nat} (h1 : ∀ c ∈ [704, 705, 706, 707, 708, 709, 710, 711, 712, 713, 715, 716, 717], V' c u 0 = V c u 0) (h2 : ∀ c ∈ [4700, 4800, 4900, 5000, 5100, 5200, 5300, 5400, 5500, 5600, 5800, 6100, 6300], W' c 0 u = W c 0 u) (h : Rt1 V W u) : Rt1 V' W' u := by
  unfold Rt1
  rw [h1 704 (by decide), h1 705 (by decide), h1 706 (by decide), h1 707 (by decide), h1 708 (by decide), h1 709 (by decide), h1 710 (by decide), h1 711 (by decide), h1 712 (by decide), h1 713 (by decide), h1 715 (by decide), h1 716 (by decide), h1 717 (by decide), h2 4700 (by decide), h2 4800 (by decide), h2 4900 (by decide), h2 5000 (by decide), h2 5100 (by decide), h2 5200 (by decide), h2 5300 (by decide), h2 5400 (by decide), h2 5500 (by decide), h2 5600 (by decide), h2 5800 (by decide), h2 6100 (by decide), h2 6300 (by decide)]
  exact h
/-- the thread t alone changes, but for its state and its turns -/
theorem Rt_one {V V' W W' : HV} {t : Nat} (h : Rt V W) (hn : nth W' = nth W) (hV : ∀ c ∈ [700, 704, 705, 706, 707, 708, 709, 710, 711, 712, 713, 715, 716, 717], ∀ u, u ≠ t → V' c u 0 = V c u 0) (hW : ∀ c ∈ [4700, 4800, 4900, 5000, 5100, 5200, 5300, 5400, 5500, 5600, 5800, 6100, 6300], ∀ u, u ≠ t → W' c 0 u = W c 0 u) (h7 : ∀ u, V' 700 u 0 = V 700 u 0) (hV2 : ∀ c ∈ [714, 718, 812], ∀ o j, V' c o j = V c o j) (hW2 : ∀ c ∈ [1048, 4700, 5900, 6000, 6200], ∀ o j, W' c o j = W c o j) (h1 : Rt1 V' W' t) : Rt V' W' := by
  obtain ⟨a1, a2, a3, a4, a5⟩ := h
  refine ⟨fun u hu => (h7 u).trans (a1 u hu), fun u hu => ?_, fun u v hu hv => ?_, fun u v hu hv => ?_, fun c hc => ?_⟩
  · by_cases e : u = t
    · rw [e]; exact h1
    · exact Rt1_pt (fun c hc => hV c (by revert c; decide) u e) (fun c hc => hW c hc u e) (a2 u (by rw [← hn]; exact hu))
  · rw [hV2 718 (by decide), hV2 718 (by decide), hW2 5900 (by decide), hW2 5900 (by decide)]
    exact a3 u v (by rw [← hn]; exact hu) (by rw [← hn]; exact hv)
  · rw [hW2 4700 (by decide), hW2 4700 (by decide), hV2 714 (by decide), hV2 714 (by decide), hW2 6200 (by decide), hW2 6200 (by decide)]
    exact a4 u v (by rw [← hn]; exact hu) (by rw [← hn]; exact hv)
  · rw [hW2 1048 (by decide), hV2 812 (by decide), hW2 6000 (by decide)]
    exact a5 c (by rw [← hn]; exact hc)
theorem ST_gen {x x' kb : Nat} {Y : HV} {l : List Ob} {V V' W W' : HV} (h : ST x kb Y l V W) (hV : agr [0, 1, 2, 3, 4, 5, 205, 206, 704, 708, 709, 710, 711, 712, 713, 714, 715, 716, 717, 718, 810, 811, 812, 813, 814, 815, 816] V V') (hW : agr [1047, 1048, 1049, 1050, 1051, 1052, 1053, 1080, 1081, 2400, 2500, 2600, 2700, 2800, 2900, 4700, 4800, 4900, 5000, 5200, 5300, 5400, 5800, 5900, 6000, 6100, 6200, 6300, 6400, 6500, 6600] W W') (hs : Rs V' W') (hc : Cps x' Y l V' W') (hf : Frm Y V' W') (ht : Thr Y W') (hr : Rt V' W') : ST x' kb Y l V' W' := by
  obtain ⟨h1, h2, h3, h4, h5, h6, h7, h8, h9, h10, h11, h12, h13, h14⟩ := h
  exact ⟨h1, LY_fr hW (by decide) h2, hs, Rl_fr hV hW (by decide) (by decide) h4, Rc_fr hV hW (by decide) (by decide) h5, Rm_fr hV hW (by decide) (by decide) h6, Ri_fr hV hW (by decide) (by decide) h7, In_fr hW (by decide) h8, Hp_fr hV hW (by decide) (by decide) h9, hc, Mgd_fr hW (by decide) h11, hf, ht, hr⟩
