/-! services: what stands around them -/
def fla (kb : Nat) (l : List Ob) (P : Nat → Bool) (f : Nat → Cp) : Nat → Cp := fun i => if P i = true then fil kb l (f i) else f i
theorem fla_t {kb : Nat} {l : List Ob} {P : Nat → Bool} {f : Nat → Cp} {i : Nat} (h : P i = true) : fla kb l P f i = fil kb l (f i) := if_pos h
theorem fla_f {kb : Nat} {l : List Ob} {P : Nat → Bool} {f : Nat → Cp} {i : Nat} (h : P i = false) : fla kb l P f i = f i := if_neg (by rw [h]; decide)
theorem flb_L {kb t : Nat} {l : List Ob} {K : HV → Option HV} (hkb : kb ≤ 32) : ∀ (r k f : Nat) (V : HV), k + r = 16 → r < f → Mk kb l V → ∃ V', f_X9_filterBy_L11 t 0 kb (nI 16) K f (nI k) V = K V' ∧ UC V (fla kb l (rg2 t k 16) (cC V)) V'
  | 0, _, 0, _, _, hf, _ => absurd hf (by omega)
  | _ + 1, _, 0, _, _, hf, _ => absurd hf (by omega)
  | 0, k, f + 1, V, hk, _, _ => by
    unfold f_X9_filterBy_L11
    rw [if_pos (nI_le (by omega) (by omega))]
    refine ⟨V, rfl, ?_, (agr_rfl V).sub (by decide)⟩
    funext i
    rw [fla_f (rg2_0 (by omega) i)]
  | r + 1, k, f + 1, V, hk, hf, hm => by
    unfold f_X9_filterBy_L11
    obtain ⟨V1, a1, u1⟩ := filter_C (i := 17 * t + k) hkb hm
    rw [if_neg (fun q => by have := (nI_leI (by omega) (by omega)).mp q; omega), chk_t (inb_nI (by omega) (by decide)), cl_nI (by omega), a1, bnd_some, lt_def, nI_1]
    obtain ⟨V', e1, e2⟩ := flb_L (K := K) hkb r (k + 1) f V1 (by omega) (by omega) (Mk_fr hm u1.2 (by decide))
    refine ⟨V', e1, ?_, (u1.trans e2).2⟩
    rw [e2.1, u1.1]
    funext i
    by_cases h1 : i = 17 * t + k
    · rw [h1, fla_f (rg2_f (by omega)), fla_t (rg2_t (by omega) (by omega)), up_at]
    · unfold fla
      rw [up_ne h1, rg2_n h1]
theorem flb_C {kb t : Nat} {l : List Ob} {V : HV} (hkb : kb ≤ 32) (hm : Mk kb l V) : ∃ V', f_X9_filterBy kb t 0 V = some V' ∧ UC V (fla kb l (rg2 t 0 17) (cC V)) V' := by
  unfold f_X9_filterBy
  rw [lt_def, jn_def]
  obtain ⟨V1, e1, e2⟩ := flb_L (t := t) (K := fun V4 => bnd (f_X8_filter kb 0 (17 * t + 16) V4) fun p5 => some p5) hkb 16 0 FU V (by omega) (FU_gt (by omega)) hm
  have e0 : f_X9_filterBy_L11 t 0 kb (Int32.ofNat 16) (fun V4 => bnd (f_X8_filter kb 0 (17 * t + 16) V4) fun p5 => some p5) FU 0 V = bnd (f_X8_filter kb 0 (17 * t + 16) V1) fun p5 => some p5 := e1
  obtain ⟨V2, a1, u1⟩ := filter_C (i := 17 * t + 16) hkb (Mk_fr hm e2.2 (by decide))
  rw [e0, a1, bnd_some]
  refine ⟨V2, rfl, ?_, (e2.trans u1).2⟩
  rw [u1.1, e2.1]
  funext i
  by_cases h1 : i = 17 * t + 16
  · rw [h1, up_at, fla_f (rg2_f (by omega)), fla_t (rg2_t (by omega) (by omega))]
  · rw [up_ne h1]
    by_cases h2 : 17 * t ≤ i ∧ i < 17 * t + 16
    · rw [fla_t (rg2_t (by omega) (by omega)), fla_t (rg2_t (by omega) (by omega))]
    · rw [fla_f (rg2_f (by omega)), fla_f (rg2_f (by omega))]
/-- registers that a service leaves alone -/
def kpt (k : Nat) : Prop := k = 2 ∨ k = 3 ∨ k = 8 ∨ k = 9 ∨ k = 16
theorem fil_nm (kb : Nat) (l : List Ob) (x : Int32) : fil kb l (nm x) = nm x := fil_un rfl
/-- the class's registers are those of the reference, or will be cleared -/
def QS (kb T Tw t : Nat) (Y : HV) (l : List Ob) (V W : HV) : Prop := ∃ V0 f, ST 1000 kb Y l V0 W ∧ Tm T Tw V0 W ∧ Jm Y l W ∧ W 1080 0 0 = nI t ∧ t < nth Y ∧ UC V0 f V ∧ (∀ i, i < 582 → ¬ (17 * t ≤ i ∧ i < 17 * t + 17) → f i = cC V0 i) ∧ (∀ k, kpt k → f (17 * t + k) = cM W (17 * t + k)) ∧ (∀ k, k < 17 → ¬ kpt k → ¬ k = 10 → cM W (17 * t + k) = nm 0)
theorem srv_end {kb T Tw t : Nat} {Y : HV} {l : List Ob} {V W : HV} (h : QS kb T Tw t Y l V W) (h10 : cC V (17 * t + 10) = cM W (17 * t + 10)) (hf10 : fil kb l (cM W (17 * t + 10)) = cM W (17 * t + 10)) (hg10 : gd Y (lv l) (cM W (17 * t + 10))) : ∃ V' W', (lt (f_X0_clear kb (f_X9_reg t 11) V) fun V5 => bnd (f_X9_forgetOthers kb t V5) fun p6 => bnd (f_X9_filterBy kb t 0 p6) fun p7 => some p7) = some V' ∧ (lt (f_X12_pcc 0 W) fun v17 =>
  bnd (f_X12_filter 0 v17 W) fun p18 =>
  lt (f_X12_reg (p18 1080 0 0) 2) fun v19 =>
  bnd (f_X12_filter 0 v19 p18) fun p20 =>
  lt (f_X12_reg (p20 1080 0 0) 3) fun v21 =>
  bnd (f_X12_filter 0 v21 p20) fun p22 =>
  lt (f_X12_reg (p22 1080 0 0) 8) fun v23 =>
  bnd (f_X12_filter 0 v23 p22) fun p24 =>
  lt (f_X12_reg (p24 1080 0 0) 9) fun v25 =>
  bnd (f_X12_filter 0 v25 p24) fun p26 =>
  some p26) = some W' ∧ OK (17 * t) kb T Tw t Y l V' W' := by
  obtain ⟨V0, f, h1, h2, h4, h5, hn, hV, ho, hk, hz⟩ := h
  have h6 : t < 6 := Nat.lt_of_lt_of_le hn h1.1.2.2.2.2.1
  have hkb := h1.1.2.1
  have R11 : f_X9_reg t 11 = 17 * t + 11 := reg_C' (d := 11) (by decide)
  have M2 : f_X12_reg (nI t) 2 = nI (17 * t + 2) := reg_M' t 2
  have M3 : f_X12_reg (nI t) 3 = nI (17 * t + 3) := reg_M' t 3
  have M8 : f_X12_reg (nI t) 8 = nI (17 * t + 8) := reg_M' t 8
  have M9 : f_X12_reg (nI t) 9 = nI (17 * t + 9) := reg_M' t 9
  have hr := ST_Rv h1
  obtain ⟨W1, q1, m1⟩ := mfl (i := 17 * t + 16) hr (UM_rfl W) rfl (by omega)
  obtain ⟨W2, q2, m2⟩ := mfl (i := 17 * t + 2) (y := cM W (17 * t + 2)) hr m1 (by rw [up_ne (by omega)]) (by omega)
  obtain ⟨W3, q3, m3⟩ := mfl (i := 17 * t + 3) (y := cM W (17 * t + 3)) hr m2 (by rw [up_ne (by omega), up_ne (by omega)]) (by omega)
  obtain ⟨W4, q4, m4⟩ := mfl (i := 17 * t + 8) (y := cM W (17 * t + 8)) hr m3 (by rw [up_ne (by omega), up_ne (by omega), up_ne (by omega)]) (by omega)
  obtain ⟨W5, q5, m5⟩ := mfl (i := 17 * t + 9) (y := cM W (17 * t + 9)) hr m4 (by rw [up_ne (by omega), up_ne (by omega), up_ne (by omega), up_ne (by omega)]) (by omega)
  have u1 := ucy (i := 17 * t + 11) (y := nm 0) hV
  obtain ⟨V2, a2, u2⟩ := others_C (kb := kb) (t := t) u1
  obtain ⟨V3, a3, u3⟩ := flb_C (t := t) (V := V2) hkb (Mk_fr (ST_Mk h1) u2.2 (by decide))
  rw [lt_def, R11, clear_C, a2, bnd_some, a3, bnd_some, lt_def, pcc_M h5, q1, bnd_some, lt_def, (UM_80 m1).trans h5, M2, q2, bnd_some, lt_def, (UM_80 m2).trans h5, M3, q3, bnd_some, lt_def, (UM_80 m3).trans h5, M8, q4, bnd_some, lt_def, (UM_80 m4).trans h5, M9, q5, bnd_some]
  have u4 := u2.trans u3
  have tW : ∀ k, k < 17 → cM W5 (17 * t + k) = fil kb l (cM W (17 * t + k)) := by
    intro k hk17
    rw [m5.1]
    by_cases e9 : k = 9
    · rw [e9, up_at]
    rw [up_ne (by omega)]
    by_cases e8 : k = 8
    · rw [e8, up_at]
    rw [up_ne (by omega)]
    by_cases e3 : k = 3
    · rw [e3, up_at]
    rw [up_ne (by omega)]
    by_cases e2 : k = 2
    · rw [e2, up_at]
    rw [up_ne (by omega)]
    by_cases e16 : k = 16
    · rw [e16, up_at]
    rw [up_ne (by omega)]
    by_cases e10 : k = 10
    · rw [e10]; exact hf10.symm
    · rw [hz k hk17 (by unfold kpt; omega) e10]; exact (fil_nm _ _ _).symm
  have tV : ∀ k, k < 17 → cC V3 (17 * t + k) = fil kb l (cM W (17 * t + k)) := by
    intro k hk17
    rw [u3.1, fla_t (rg2_t (by omega) (by omega))]
    congr 1
    rw [u2.1]
    by_cases hkp : kpt k
    · unfold kpt at hkp
      rw [clr_f (rg2_f (by omega)), clr_f (rg2_f (by omega)), clr_f (rg2_f (by omega)), up_ne (by omega)]
      exact hk k hkp
    · by_cases e10 : k = 10
      · rw [clr_f (rg2_f (by omega)), clr_f (rg2_f (by omega)), clr_f (rg2_f (by omega)), up_ne (by omega), e10, ← h10, hV.1]
      · rw [hz k hk17 hkp e10]
        unfold kpt at hkp
        by_cases q12 : 12 ≤ k
        · exact clr_t (rg2_t (by omega) (by omega))
        rw [clr_f (rg2_f (by omega))]
        by_cases q4 : 4 ≤ k ∧ k < 8
        · exact clr_t (rg2_t (by omega) (by omega))
        rw [clr_f (rg2_f (by omega))]
        by_cases q0 : k < 2
        · exact clr_t (rg2_t (by omega) (by omega))
        rw [clr_f (rg2_f (by omega)), show k = 11 by omega, up_at]
  have gW : ∀ k, k < 17 → gd Y (lv l) (fil kb l (cM W (17 * t + k))) := fun k hk17 => gd_fl h1.2.2.2.2.2.2.2.2.1.1 ((h1.2.2.2.2.2.2.2.2.2.1 (17 * t + k) (by omega)).2.1)
  refine ⟨V3, W5, rfl, rfl, ST_reg (f := cC V3) (g := cM W5) h1 hn ⟨rfl, u4.2⟩ ⟨rfl, m5.2⟩ (fun i hi hni => ⟨?_, ?_⟩) (fun k hk17 => ⟨fun _ => by rw [tV k hk17, tW k hk17], by rw [tW k hk17]; exact gd_lv (gW k hk17)⟩) ?_ (Or.inr (Or.inr (by decide))), Tm_fr u4.2 m5.2 (by decide) (by decide) h2, fun k hk17 => by rw [tW k hk17]; exact gW k hk17, Jm_fr m5.2 (by decide) h4, (UM_80 m5).trans h5, hn⟩
  · rw [u3.1, fla_f (rg2_f (by omega)), u2.1, clr_f (rg2_f (by omega)), clr_f (rg2_f (by omega)), clr_f (rg2_f (by omega)), up_ne (by omega)]
    exact ho i hi hni
  · rw [m5.1, up_ne (by omega), up_ne (by omega), up_ne (by omega), up_ne (by omega), up_ne (by omega)]
  · have z := tW 0 (by decide)
    rw [Nat.add_zero] at z
    rw [z]
    have z2 := hz 0 (by decide) (by unfold kpt; omega) (by decide)
    rw [Nat.add_zero] at z2
    rw [z2]; exact fil_nm _ _ _
