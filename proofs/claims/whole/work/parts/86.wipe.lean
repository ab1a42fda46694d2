/-! memory made empty -/
def zr (M : Nat → Int32) (a b : Nat) : Nat → Int32 := fun j => if a ≤ j ∧ j < b then 0 else M j
def zg (T : Nat → Int32) (a j : Nat) (x : Nat → Int32) : Nat → Int32 := fun g => if a ≤ g ∧ 16 * g < j then x g else T g
theorem zr_0 (M : Nat → Int32) (a : Nat) : zr M a a = M := by
  funext j
  unfold zr
  rw [if_neg (by omega)]
theorem zg_0 (T x : Nat → Int32) (a : Nat) : zg T a (16 * a) x = T := by
  funext j
  unfold zg
  rw [if_neg (by omega)]
theorem zr_s {M : Nat → Int32} {a b : Nat} (h : a ≤ b) : (fun j => if j = b then 0 else zr M a b j) = zr M a (b + 1) := by
  funext j
  unfold zr
  by_cases h1 : j = b
  · rw [if_pos h1, if_pos (by omega)]
  · rw [if_neg h1]
    by_cases h2 : a ≤ j ∧ j < b
    · rw [if_pos h2, if_pos (by omega)]
    · rw [if_neg h2, if_neg (by omega)]
theorem zg_s {T x : Nat → Int32} {a b : Nat} (h : 16 * a ≤ b) : (fun g => if g = b / 16 then x (b / 16) else zg T a b x g) = zg T a (b + 1) x := by
  funext g
  unfold zg
  by_cases h1 : g = b / 16
  · rw [if_pos h1, if_pos (by omega), h1]
  · rw [if_neg h1]
    by_cases h2 : a ≤ g ∧ 16 * g < b
    · rw [if_pos h2, if_pos (by omega)]
    · rw [if_neg h2, if_neg (by omega)]
theorem zero8 : ((0 : Int32)).toInt8.toInt32 = 0 := by decide
theorem wipe_L {a b : Nat} {K : HV → Option HV} (hb : b ≤ 2048) : ∀ (r j f : Nat) (W : HV), j + r = 16 * b → 16 * a ≤ j → r < f → ∃ W', f_X12_wipe_L2 (nI (16 * b)) K f (nI j) W = K W' ∧ (∀ M, W 2100 0 = zr M (16 * a) j → W' 2100 0 = zr M (16 * a) (16 * b)) ∧ (∀ T, W 2200 0 = zg T a j (fun _ => 0) → W' 2200 0 = zg T a (16 * b) (fun _ => 0)) ∧ agr [2100, 2200] W W'
  | 0, j, f + 1, W, hj, _, _ => by
    have e : j = 16 * b := by omega
    subst e
    refine ⟨W, ?_, fun M h => h, fun T h => h, (agr_rfl W).sub (by decide)⟩
    rw [f_X12_wipe_L2, if_pos (nI_le (Nat.le_refl _) (by omega))]
  | r + 1, j, f + 1, W, hj, haj, hf => by
    obtain ⟨W', h1, h2, h3, h4⟩ := wipe_L (a := a) (K := K) hb r (j + 1) f (sv (sv W 2100 0 j 0) 2200 0 (j / 16) (b2i false)) (by omega) (by omega) (by omega)
    refine ⟨W', ?_, fun M h => h2 M ?_, fun T h => h3 T ?_, (((agr_sv _ _ _ _ _).app (agr_sv _ _ _ _ _)).app h4).sub (by decide)⟩
    · rw [f_X12_wipe_L2, if_neg (nI_ge (by omega) (by omega)), chk_t (inb_nI (by omega) (by decide)), cl_nI (by omega), lt_def, dv16 (by omega), chk_t (inb_nI (by omega) (by decide)), cl_nI (by omega), lt_def, lt_def, nI_1, zero8]
      exact h1
    · have e : (sv (sv W 2100 0 j 0) 2200 0 (j / 16) (b2i false)) 2100 0 = (sv W 2100 0 j 0) 2100 0 := funext fun i => sv_col (by decide)
      rw [e, sv_row, h]
      exact zr_s haj
    · have e : (sv W 2100 0 j 0) 2200 0 = W 2200 0 := funext fun i => sv_col (by decide)
      rw [sv_row, e, h]
      exact zg_s (x := fun _ => 0) haj
theorem wipe_M {a b : Nat} {W : HV} (hab : a ≤ b) (hb : b ≤ 2048) : ∃ W', f_X12_wipe 0 (nI (16 * a)) (nI (16 * b)) W = some W' ∧ W' 2100 0 = zr (W 2100 0) (16 * a) (16 * b) ∧ W' 2200 0 = zg (W 2200 0) a (16 * b) (fun _ => 0) ∧ agr [2100, 2200] W W' := by
  obtain ⟨W', h1, h2, h3, h4⟩ := wipe_L (a := a) (K := fun V3 => some V3) hb (16 * b - 16 * a) (16 * a) FU W (by omega) (Nat.le_refl _) (FU_gt (by omega))
  exact ⟨W', h1, h2 _ (zr_0 _ _).symm, h3 _ (zg_0 _ _ _).symm, h4⟩
theorem er_L1 {kb a b : Nat} {K : HV → Option HV} (hkb : kb ≤ 32) (hb : b ≤ 64 * kb) : ∀ (r j f : Nat) (V : HV), j + r = 16 * b → 16 * a ≤ j → r < f → ∃ V', f_X8_erase_L20 (nI (16 * b)) kb K f (nI j) V = K V' ∧ (∀ M, V 2300 0 = zr M (16 * a) j → V' 2300 0 = zr M (16 * a) (16 * b)) ∧ agr [2300] V V'
  | 0, j, f + 1, V, hj, _, _ => by
    have e : j = 16 * b := by omega
    subst e
    refine ⟨V, ?_, fun M h => h, (agr_rfl V).sub (by decide)⟩
    rw [f_X8_erase_L20, if_pos (nI_le (Nat.le_refl _) (by omega))]
  | r + 1, j, f + 1, V, hj, haj, hf => by
    obtain ⟨V', h1, h2, h4⟩ := er_L1 (a := a) (K := K) hkb hb r (j + 1) f (sv V 2300 0 j 0) (by omega) (by omega) (by omega)
    refine ⟨V', ?_, fun M h => h2 M ?_, ((agr_sv _ _ _ _ _).app h4).sub (by decide)⟩
    · rw [f_X8_erase_L20, if_neg (nI_ge (by omega) (by omega)), chk_t (inb_nI (by omega) (by omega)), cl_nI (by omega), lt_def, lt_def, nI_1, zero8]
      exact h1
    · rw [sv_row, h]
      exact zr_s haj
theorem er_L2 {kb a b : Nat} {R : Nat → Bool} {K : HV → Option HV} (hkb : kb ≤ 32) (hb : b ≤ 64 * kb) : ∀ (r j f : Nat) (V : HV), j + r = b → a ≤ j → r < f → (∀ g, j ≤ g → g < b → ∃ t, V 2400 0 g = mk t (R g)) → ∃ V', f_X8_erase_L43 (nI (16 * b)) kb K f (nI j) V = K V' ∧ (∀ T, V 2400 0 = zg T a (16 * j) (fun g => mk false (R g)) → V' 2400 0 = zg T a (16 * b) (fun g => mk false (R g))) ∧ agr [2400] V V'
  | 0, j, f + 1, V, hj, _, _, _ => by
    have e : j = b := by omega
    subst e
    refine ⟨V, ?_, fun M h => h, (agr_rfl V).sub (by decide)⟩
    rw [f_X8_erase_L43, dv16 (by omega), show 16 * j / 16 = j by omega, if_pos (nI_le (Nat.le_refl _) (by omega))]
  | r + 1, j, f + 1, V, hj, haj, hf, hR => by
    obtain ⟨t, ht⟩ := hR j (Nat.le_refl _) (by omega)
    obtain ⟨V', h1, h2, h4⟩ := er_L2 (a := a) (R := R) (K := K) hkb hb r (j + 1) f (sv V 2400 0 j (mk false (R j))) (by omega) (by omega) (by omega) (fun g hg1 hg2 => by
      obtain ⟨t', ht'⟩ := hR g (by omega) hg2
      exact ⟨t', by rw [sv_ne (by omega)]; exact ht'⟩)
    refine ⟨V', ?_, fun M h => h2 M ?_, ((agr_sv _ _ _ _ _).app h4).sub (by decide)⟩
    · rw [f_X8_erase_L43, dv16 (by omega), show 16 * b / 16 = b by omega, if_neg (nI_ge (by omega) (by omega)), ofNat_nI, if_neg (nI_ge (by omega) (by omega)), chk_t (inb_nI (by omega) (by omega)), chk_t (inb_nI (by omega) (by omega)), cl_nI (by omega), lt_def, lt_def, nI_1, ht, mk_e]
      exact h1
    · rw [sv_row, h]
      funext g
      unfold zg
      by_cases h1 : g = j
      · rw [if_pos h1, if_pos (by omega), h1]
      · rw [if_neg h1]
        by_cases h2 : a ≤ g ∧ 16 * g < 16 * j
        · rw [if_pos h2, if_pos (by omega)]
        · rw [if_neg h2, if_neg (by omega)]
theorem erase_C {kb a b : Nat} {R : Nat → Bool} {V : HV} (hkb : kb ≤ 32) (hab : a ≤ b) (hb : b ≤ 64 * kb) (hR : ∀ g, a ≤ g → g < b → ∃ t, V 2400 0 g = mk t (R g)) : ∃ V', f_X8_erase kb 0 (nI (16 * a)) (nI (16 * b)) V = some V' ∧ V' 2300 0 = zr (V 2300 0) (16 * a) (16 * b) ∧ V' 2400 0 = zg (V 2400 0) a (16 * b) (fun g => mk false (R g)) ∧ agr [2300, 2400] V V' := by
  obtain ⟨V1, h1, h2, h3⟩ := er_L1 (a := a) (K := fun V6 => lt (nI (16 * a) / 16) fun v7 => jn (fun V10 => some V10) fun k8 => f_X8_erase_L43 (nI (16 * b)) kb k8 FU v7 V6) hkb hb (16 * b - 16 * a) (16 * a) FU V (by omega) (Nat.le_refl _) (FU_gt (by omega))
  obtain ⟨V2, e1, e2, e3⟩ := er_L2 (a := a) (R := R) (K := fun V10 => some V10) hkb hb (b - a) a FU V1 (by omega) (Nat.le_refl _) (FU_gt (by omega)) (fun g hg1 hg2 => by
    obtain ⟨t, ht⟩ := hR g hg1 hg2
    exact ⟨t, (h3 2400 0 g (by decide)).trans ht⟩)
  refine ⟨V2, ?_, ?_, ?_, (h3.app e3).sub (by decide)⟩
  · unfold f_X8_erase
    rw [if_neg (nI_pos (by omega)), if_neg (nI_nlt (by omega) (by omega)), ofNat_nI, if_neg (nI_nlt (by omega) (by omega)), jn_def]
    refine h1.trans ?_
    rw [lt_def, jn_def, dv16 (by omega), show 16 * a / 16 = a by omega]
    exact e1
  · rw [row_fr e3 (by decide)]
    exact h2 _ (zr_0 _ _).symm
  · rw [e2 _ (zg_0 _ _ _).symm, row_fr h3 (by decide)]
theorem mC_zr {M g g' : Nat → Int32} {a b q : Nat} (h : q < a ∨ b ≤ q) (hg : g' q = g q) : mC (zr M (16 * a) (16 * b)) g' q = mC M g q := by
  have e : ∀ d, d ≤ 12 → mw (zr M (16 * a) (16 * b)) (16 * q + d) = mw M (16 * q + d) := fun d hd => ldv_congr 4 0 (fun j hj => by unfold zr; rw [if_neg (by omega)])
  unfold mC
  rw [e 4 (by decide), e 8 (by decide), e 12 (by decide), show mw (zr M (16 * a) (16 * b)) (16 * q) = mw M (16 * q) from e 0 (by decide), hg]
theorem st_wipe {x kb a b : Nat} {Y : HV} {l : List Ob} {V W : HV} (h : ST x kb Y l V W) (hab : a ≤ b) (hb : b ≤ 64 * kb) : ∃ V' W', f_X8_erase kb 0 (nI (16 * a)) (nI (16 * b)) V = some V' ∧ f_X12_wipe 0 (nI (16 * a)) (nI (16 * b)) W = some W' ∧ ST x kb Y l V' W' ∧ agr [2300, 2400] V V' ∧ agr [2100, 2200] W W' ∧ Msub W W' := by
  have hRm := h.2.2.2.2.2.1
  obtain ⟨k1, k2, -⟩ := h.1
  obtain ⟨V', a1, a2, a3, a4⟩ := erase_C (V := V) (R := fun g => i2b (W 2300 0 g)) k2 hab hb (fun g h1 h2 => ⟨_, Rm_mk hRm (by omega)⟩)
  obtain ⟨W', b1, b2, b3, b4⟩ := wipe_M (W := W) hab (show b ≤ 2048 by omega)
  have hsub : Msub W W' := by
    intro q hq
    rw [b2, b3]
    rw [b3] at hq
    by_cases hin : a ≤ q ∧ 16 * q < 16 * b
    · unfold zg at hq
      rw [if_pos hin] at hq
      exact absurd hq (show ¬ i2b 0 = true by decide)
    · refine mC_zr (by omega) ?_
      unfold zg
      rw [if_neg hin]
  refine ⟨V', W', a1, b1, ST_mem h a4 b4 ⟨fun j hj => ?_, fun g hg => ?_⟩ (Mgd_sub hsub h.2.2.2.2.2.2.2.2.2.2.1), a4, b4, hsub⟩
  · rw [a2, b2]
    unfold zr
    by_cases hin : 16 * a ≤ j ∧ j < 16 * b
    · rw [if_pos hin, if_pos hin]
    · rw [if_neg hin, if_neg hin]; exact hRm.1 j hj
  · rw [a3, b3, b4 2300 0 g (by decide)]
    unfold zg
    by_cases hin : a ≤ g ∧ 16 * g < 16 * b
    · rw [if_pos hin, if_pos hin]; rfl
    · rw [if_neg hin, if_neg hin]; exact hRm.2 g hg
