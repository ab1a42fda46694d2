/-! a machine made empty -/
theorem fl3_L {kb : Nat} (hkb : kb ≤ 32) : ∀ (r k f : Nat) (V : HV), k + r = 1024 * kb → r < f → ∃ V', (∀ K : HV → Option HV, f_J7_fill_031fb_23_L5 0 0 kb (Int32.ofNat (1024 * kb)) K f (nI k) V = K V') ∧ agr [2300] V V' ∧ (∀ j, V' 2300 0 j = if k ≤ j ∧ j < 1024 * kb then 0 else V 2300 0 j)
  | _, _, 0, _, _, hf => absurd hf (by omega)
  | 0, k, f + 1, V, hk, _ => by
    refine ⟨V, fun K => ?_, (agr_rfl V).sub (by decide), fun j => by rw [if_neg (by omega)]⟩
    unfold f_J7_fill_031fb_23_L5
    rw [ofNat_nI, if_pos (nI_le (by omega) (by omega))]
  | r + 1, k, f + 1, V, hk, hf => by
    obtain ⟨V', e1, e2, e3⟩ := fl3_L hkb r (k + 1) f (sv V 2300 0 k 0) (by omega) (by omega)
    refine ⟨V', fun K => ?_, (agr_sv V 2300 0 k 0).trans e2, fun j => ?_⟩
    · unfold f_J7_fill_031fb_23_L5
      rw [ofNat_nI, if_neg (fun q => by have := (nI_leI (by omega) (by omega)).mp q; omega), chk_t (inb_nI (by omega) (by omega)), lt_def, cl_nI (by omega), lt_def, nI_1, zero8]
      exact e1 K
    · rw [e3 j]
      by_cases y : j = k
      · rw [if_neg (by omega), if_pos (by omega), y, sv_at]
      · rw [sv_ne (fun z => y z.2.2)]
        by_cases z : k + 1 ≤ j ∧ j < 1024 * kb
        · rw [if_pos z, if_pos (by omega)]
        · rw [if_neg z, if_neg (by omega)]
theorem fl3_C {kb : Nat} {V : HV} (hkb : kb ≤ 32) : ∃ V', f_J7_fill_031fb_23 kb 0 0 V = some V' ∧ agr [2300] V V' ∧ (∀ j, j < 1024 * kb → V' 2300 0 j = 0) := by
  obtain ⟨V', e1, e2, e3⟩ := fl3_L hkb (1024 * kb) 0 FU V (by omega) (FU_gt (by omega))
  refine ⟨V', ?_, e2, fun j hj => by rw [e3 j, if_pos (by omega)]⟩
  unfold f_J7_fill_031fb_23
  rw [lt_def, jn_def]
  exact e1 _
theorem fl4_L {kb : Nat} (hkb : kb ≤ 32) : ∀ (r k f : Nat) (V : HV), k + r = 64 * kb → r < f → ∃ V', (∀ K : HV → Option HV, f_J7_fill_031fb_24_L5 0 0 kb (Int32.ofNat (64 * kb)) K f (nI k) V = K V') ∧ agr [2400] V V' ∧ (∀ j, V' 2400 0 j = if k ≤ j ∧ j < 64 * kb then 0 else V 2400 0 j)
  | _, _, 0, _, _, hf => absurd hf (by omega)
  | 0, k, f + 1, V, hk, _ => by
    refine ⟨V, fun K => ?_, (agr_rfl V).sub (by decide), fun j => by rw [if_neg (by omega)]⟩
    unfold f_J7_fill_031fb_24_L5
    rw [ofNat_nI, if_pos (nI_le (by omega) (by omega))]
  | r + 1, k, f + 1, V, hk, hf => by
    obtain ⟨V', e1, e2, e3⟩ := fl4_L hkb r (k + 1) f (sv V 2400 0 k 0) (by omega) (by omega)
    refine ⟨V', fun K => ?_, (agr_sv V 2400 0 k 0).trans e2, fun j => ?_⟩
    · unfold f_J7_fill_031fb_24_L5
      rw [ofNat_nI, if_neg (fun q => by have := (nI_leI (by omega) (by omega)).mp q; omega), chk_t (inb_nI (by omega) (by omega)), lt_def, cl_nI (by omega), lt_def, nI_1, zero8]
      exact e1 K
    · rw [e3 j]
      by_cases y : j = k
      · rw [if_neg (by omega), if_pos (by omega), y, sv_at]
      · rw [sv_ne (fun z => y z.2.2)]
        by_cases z : k + 1 ≤ j ∧ j < 64 * kb
        · rw [if_pos z, if_pos (by omega)]
        · rw [if_neg z, if_neg (by omega)]
theorem fl4_C {kb : Nat} {V : HV} (hkb : kb ≤ 32) : ∃ V', f_J7_fill_031fb_24 kb 0 0 V = some V' ∧ agr [2400] V V' ∧ (∀ j, j < 64 * kb → V' 2400 0 j = 0) := by
  obtain ⟨V', e1, e2, e3⟩ := fl4_L hkb (64 * kb) 0 FU V (by omega) (FU_gt (by omega))
  refine ⟨V', ?_, e2, fun j hj => by rw [e3 j, if_pos (by omega)]⟩
  unfold f_J7_fill_031fb_24
  rw [lt_def, jn_def]
  exact e1 _
theorem fl5_L {kb : Nat} (hkb : kb ≤ 32) : ∀ (r k f : Nat) (V : HV), k + r = 64 * kb → r < f → ∃ V', (∀ K : HV → Option HV, f_J7_fill_53178_25_L5 0 0 kb (Int32.ofNat (64 * kb)) K f (nI k) V = K V') ∧ agr [2500] V V' ∧ (∀ j, V' 2500 0 j = if k ≤ j ∧ j < 64 * kb then 0 else V 2500 0 j)
  | _, _, 0, _, _, hf => absurd hf (by omega)
  | 0, k, f + 1, V, hk, _ => by
    refine ⟨V, fun K => ?_, (agr_rfl V).sub (by decide), fun j => by rw [if_neg (by omega)]⟩
    unfold f_J7_fill_53178_25_L5
    rw [ofNat_nI, if_pos (nI_le (by omega) (by omega))]
  | r + 1, k, f + 1, V, hk, hf => by
    obtain ⟨V', e1, e2, e3⟩ := fl5_L hkb r (k + 1) f (sv V 2500 0 k 0) (by omega) (by omega)
    refine ⟨V', fun K => ?_, (agr_sv V 2500 0 k 0).trans e2, fun j => ?_⟩
    · unfold f_J7_fill_53178_25_L5
      rw [ofNat_nI, if_neg (fun q => by have := (nI_leI (by omega) (by omega)).mp q; omega), chk_t (inb_nI (by omega) (by omega)), lt_def, cl_nI (by omega), lt_def, nI_1]
      exact e1 K
    · rw [e3 j]
      by_cases y : j = k
      · rw [if_neg (by omega), if_pos (by omega), y, sv_at]
      · rw [sv_ne (fun z => y z.2.2)]
        by_cases z : k + 1 ≤ j ∧ j < 64 * kb
        · rw [if_pos z, if_pos (by omega)]
        · rw [if_neg z, if_neg (by omega)]
theorem fl5_C {kb : Nat} {V : HV} (hkb : kb ≤ 32) : ∃ V', f_J7_fill_53178_25 kb 0 0 V = some V' ∧ agr [2500] V V' ∧ (∀ j, j < 64 * kb → V' 2500 0 j = 0) := by
  obtain ⟨V', e1, e2, e3⟩ := fl5_L hkb (64 * kb) 0 FU V (by omega) (FU_gt (by omega))
  refine ⟨V', ?_, e2, fun j hj => by rw [e3 j, if_pos (by omega)]⟩
  unfold f_J7_fill_53178_25
  rw [lt_def, jn_def]
  exact e1 _
theorem fl6_L {kb : Nat} (hkb : kb ≤ 32) : ∀ (r k f : Nat) (V : HV), k + r = 64 * kb → r < f → ∃ V', (∀ K : HV → Option HV, f_J7_fill_53178_26_L5 0 0 kb (Int32.ofNat (64 * kb)) K f (nI k) V = K V') ∧ agr [2600] V V' ∧ (∀ j, V' 2600 0 j = if k ≤ j ∧ j < 64 * kb then 0 else V 2600 0 j)
  | _, _, 0, _, _, hf => absurd hf (by omega)
  | 0, k, f + 1, V, hk, _ => by
    refine ⟨V, fun K => ?_, (agr_rfl V).sub (by decide), fun j => by rw [if_neg (by omega)]⟩
    unfold f_J7_fill_53178_26_L5
    rw [ofNat_nI, if_pos (nI_le (by omega) (by omega))]
  | r + 1, k, f + 1, V, hk, hf => by
    obtain ⟨V', e1, e2, e3⟩ := fl6_L hkb r (k + 1) f (sv V 2600 0 k 0) (by omega) (by omega)
    refine ⟨V', fun K => ?_, (agr_sv V 2600 0 k 0).trans e2, fun j => ?_⟩
    · unfold f_J7_fill_53178_26_L5
      rw [ofNat_nI, if_neg (fun q => by have := (nI_leI (by omega) (by omega)).mp q; omega), chk_t (inb_nI (by omega) (by omega)), lt_def, cl_nI (by omega), lt_def, nI_1]
      exact e1 K
    · rw [e3 j]
      by_cases y : j = k
      · rw [if_neg (by omega), if_pos (by omega), y, sv_at]
      · rw [sv_ne (fun z => y z.2.2)]
        by_cases z : k + 1 ≤ j ∧ j < 64 * kb
        · rw [if_pos z, if_pos (by omega)]
        · rw [if_neg z, if_neg (by omega)]
theorem fl6_C {kb : Nat} {V : HV} (hkb : kb ≤ 32) : ∃ V', f_J7_fill_53178_26 kb 0 0 V = some V' ∧ agr [2600] V V' ∧ (∀ j, j < 64 * kb → V' 2600 0 j = 0) := by
  obtain ⟨V', e1, e2, e3⟩ := fl6_L hkb (64 * kb) 0 FU V (by omega) (FU_gt (by omega))
  refine ⟨V', ?_, e2, fun j hj => by rw [e3 j, if_pos (by omega)]⟩
  unfold f_J7_fill_53178_26
  rw [lt_def, jn_def]
  exact e1 _
theorem bm1_L : ∀ (r k f : Nat) (V : HV), k + r = 32768 → r < f → ∃ V', (∀ K : HV → Option HV, f_X12_begins_L92 K f (nI k) V = K V') ∧ agr [2100] V V' ∧ (∀ j, V' 2100 0 j = if k ≤ j ∧ j < 32768 then 0 else V 2100 0 j)
  | _, _, 0, _, _, hf => absurd hf (by omega)
  | 0, k, f + 1, V, hk, _ => by
    refine ⟨V, fun K => ?_, (agr_rfl V).sub (by decide), fun j => by rw [if_neg (by omega)]⟩
    unfold f_X12_begins_L92
    rw [if_pos (show (32768 : Int32) ≤ nI k from nI_le (a := 32768) (by omega) (by omega))]
  | r + 1, k, f + 1, V, hk, hf => by
    obtain ⟨V', e1, e2, e3⟩ := bm1_L r (k + 1) f (sv V 2100 0 k 0) (by omega) (by omega)
    refine ⟨V', fun K => ?_, (agr_sv V 2100 0 k 0).trans e2, fun j => ?_⟩
    · unfold f_X12_begins_L92
      rw [if_neg (show ¬ (32768 : Int32) ≤ nI k from fun q => by have := (nI_leI (a := 32768) (by decide) (by omega)).mp q; omega), chk_t (inb_nI (by omega) (by decide)), lt_def, cl_nI (by omega), lt_def, nI_1, zero8]
      exact e1 K
    · rw [e3 j]
      by_cases y : j = k
      · rw [if_neg (by omega), if_pos (by omega), y, sv_at]
      · rw [sv_ne (fun z => y z.2.2)]
        by_cases z : k + 1 ≤ j ∧ j < 32768
        · rw [if_pos z, if_pos (by omega)]
        · rw [if_neg z, if_neg (by omega)]
theorem bm2_L : ∀ (r k f : Nat) (V : HV), k + r = 2048 → r < f → ∃ V', (∀ K : HV → Option HV, f_X12_begins_L113 K f (nI k) V = K V') ∧ agr [2200, 2300] V V' ∧ (∀ j, V' 2200 0 j = if k ≤ j ∧ j < 2048 then 0 else V 2200 0 j) ∧ (∀ j, V' 2300 0 j = if k ≤ j ∧ j < 2048 then 0 else V 2300 0 j)
  | _, _, 0, _, _, hf => absurd hf (by omega)
  | 0, k, f + 1, V, hk, _ => by
    refine ⟨V, fun K => ?_, (agr_rfl V).sub (by decide), fun j => by rw [if_neg (by omega)], fun j => by rw [if_neg (by omega)]⟩
    unfold f_X12_begins_L113
    rw [if_pos (show (2048 : Int32) ≤ nI k from nI_le (a := 2048) (by omega) (by omega))]
  | r + 1, k, f + 1, V, hk, hf => by
    have ik : inb (nI k) 2048 := inb_nI (by omega) (by decide)
    obtain ⟨V', e1, e2, e3, e4⟩ := bm2_L r (k + 1) f (sv (sv V 2200 0 k 0) 2300 0 k 0) (by omega) (by omega)
    refine ⟨V', fun K => ?_, (((agr_sv V 2200 0 k 0).app (agr_sv _ 2300 0 k 0)).sub (by decide) : agr [2200, 2300] V _).trans e2, fun j => ?_, fun j => ?_⟩
    · unfold f_X12_begins_L113
      rw [if_neg (show ¬ (2048 : Int32) ≤ nI k from fun q => by have := (nI_leI (a := 2048) (by decide) (by omega)).mp q; omega), chk_t ik, lt_def, chk_t ik, cl_nI (by omega), lt_def, lt_def, nI_1]
      exact e1 K
    · rw [e3 j, sv_col (by decide)]
      by_cases y : j = k
      · rw [if_neg (by omega), if_pos (by omega), y, sv_at]
      · rw [sv_ne (fun z => y z.2.2)]
        by_cases z : k + 1 ≤ j ∧ j < 2048
        · rw [if_pos z, if_pos (by omega)]
        · rw [if_neg z, if_neg (by omega)]
    · rw [e4 j]
      by_cases y : j = k
      · rw [if_neg (by omega), if_pos (by omega), y, sv_at]
      · rw [sv_ne (fun z => y z.2.2), sv_col (by decide)]
        by_cases z : k + 1 ≤ j ∧ j < 2048
        · rw [if_pos z, if_pos (by omega)]
        · rw [if_neg z, if_neg (by omega)]
theorem bm3_L : ∀ (r k f : Nat) (V : HV), k + r = 600 → r < f → ∃ V', (∀ K : HV → Option HV, f_X12_begins_L142 0 K f (nI k) V = K V') ∧ agr [2400, 2500, 2600, 2700, 2800, 2900] V V' ∧ (∀ j, cM V' j = if k ≤ j ∧ j < 600 then nm 0 else cM V j)
  | _, _, 0, _, _, hf => absurd hf (by omega)
  | 0, k, f + 1, V, hk, _ => by
    refine ⟨V, fun K => ?_, (agr_rfl V).sub (by decide), fun j => by rw [if_neg (by omega)]⟩
    unfold f_X12_begins_L142
    rw [if_pos (show (600 : Int32) ≤ nI k from nI_le (a := 600) (by omega) (by omega))]
  | r + 1, k, f + 1, V, hk, hf => by
    have u := kM_U V k (nm 0)
    obtain ⟨V', e1, e2, e3⟩ := bm3_L r (k + 1) f (kM V k (nm 0)) (by omega) (by omega)
    refine ⟨V', fun K => ?_, u.2.trans e2, fun j => ?_⟩
    · unfold f_X12_begins_L142
      rw [if_neg (show ¬ (600 : Int32) ≤ nI k from fun q => by have := (nI_leI (a := 600) (by decide) (by omega)).mp q; omega), nothing_M (by omega), bnd_some, lt_def, nI_1]
      exact e1 K
    · rw [e3 j, u.1]
      by_cases y : j = k
      · rw [if_neg (by omega), if_pos (by omega), y, up_at]
      · rw [up_ne y]
        by_cases z : k + 1 ≤ j ∧ j < 600
        · rw [if_pos z, if_pos (by omega)]
        · rw [if_neg z, if_neg (by omega)]

/-- the reference, begun anew -/
def Z1 (W : HV) : Prop := W 1017 0 0 = (b2i false) ∧ W 1018 0 0 = 0 ∧ W 1019 0 0 = 0 ∧ W 1047 0 0 = 0 ∧ W 1048 0 0 = (-1) ∧ W 1049 0 0 = 0 ∧ W 1050 0 0 = 0 ∧ W 1051 0 0 = 0 ∧ W 1052 0 0 = 0 ∧ W 1053 0 0 = 0 ∧ W 1054 0 0 = 0 ∧ W 1055 0 0 = 0 ∧ W 1060 0 0 = (b2i false) ∧ W 1061 0 0 = (-1) ∧ W 1062 0 0 = 0 ∧ W 1064 0 0 = 0 ∧ W 1066 0 0 = 0 ∧ W 1067 0 0 = 0 ∧ (∀ j, j < 32768 → W 2100 0 j = 0) ∧ (∀ j, j < 2048 → W 2200 0 j = 0) ∧ (∀ j, j < 2048 → W 2300 0 j = 0) ∧ (∀ i, i < 600 → cM W i = nm 0)
def bgc : List Nat := [1017, 1018, 1019, 1047, 1048, 1049, 1050, 1051, 1052, 1053, 1054, 1055, 1060, 1061, 1062, 1064, 1066, 1067, 2100, 2200, 2300, 2400, 2500, 2600, 2700, 2800, 2900]
theorem begins_M (W : HV) : ∃ W', f_X12_begins 0 W = some W' ∧ agr bgc W W' ∧ Z1 W' := by
  generalize hW1 : (sv (sv (sv (sv (sv (sv (sv (sv (sv (sv (sv (sv (sv (sv (sv (sv (sv (sv W 1017 0 0 (b2i false)) 1018 0 0 0) 1019 0 0 0) 1047 0 0 0) 1048 0 0 (-1)) 1049 0 0 0) 1050 0 0 0) 1051 0 0 0) 1052 0 0 0) 1053 0 0 0) 1054 0 0 0) 1055 0 0 0) 1060 0 0 (b2i false)) 1061 0 0 (-1)) 1062 0 0 0) 1064 0 0 0) 1066 0 0 0) 1067 0 0 0) = W1
  have a1 : agr [1017, 1018, 1019, 1047, 1048, 1049, 1050, 1051, 1052, 1053, 1054, 1055, 1060, 1061, 1062, 1064, 1066, 1067] W W1 := by rw [← hW1]; exact ((((((((((((((((((agr_sv _ _ _ _ _).app (agr_sv _ _ _ _ _)).app (agr_sv _ _ _ _ _)).app (agr_sv _ _ _ _ _)).app (agr_sv _ _ _ _ _)).app (agr_sv _ _ _ _ _)).app (agr_sv _ _ _ _ _)).app (agr_sv _ _ _ _ _)).app (agr_sv _ _ _ _ _)).app (agr_sv _ _ _ _ _)).app (agr_sv _ _ _ _ _)).app (agr_sv _ _ _ _ _)).app (agr_sv _ _ _ _ _)).app (agr_sv _ _ _ _ _)).app (agr_sv _ _ _ _ _)).app (agr_sv _ _ _ _ _)).app (agr_sv _ _ _ _ _)).app (agr_sv _ _ _ _ _)).sub (by decide)
  have z1017 : W1 1017 0 0 = (b2i false) := by rw [← hW1, sv_col (by decide), sv_col (by decide), sv_col (by decide), sv_col (by decide), sv_col (by decide), sv_col (by decide), sv_col (by decide), sv_col (by decide), sv_col (by decide), sv_col (by decide), sv_col (by decide), sv_col (by decide), sv_col (by decide), sv_col (by decide), sv_col (by decide), sv_col (by decide), sv_col (by decide), sv_at]
  have z1018 : W1 1018 0 0 = 0 := by rw [← hW1, sv_col (by decide), sv_col (by decide), sv_col (by decide), sv_col (by decide), sv_col (by decide), sv_col (by decide), sv_col (by decide), sv_col (by decide), sv_col (by decide), sv_col (by decide), sv_col (by decide), sv_col (by decide), sv_col (by decide), sv_col (by decide), sv_col (by decide), sv_col (by decide), sv_at]
  have z1019 : W1 1019 0 0 = 0 := by rw [← hW1, sv_col (by decide), sv_col (by decide), sv_col (by decide), sv_col (by decide), sv_col (by decide), sv_col (by decide), sv_col (by decide), sv_col (by decide), sv_col (by decide), sv_col (by decide), sv_col (by decide), sv_col (by decide), sv_col (by decide), sv_col (by decide), sv_col (by decide), sv_at]
  have z1047 : W1 1047 0 0 = 0 := by rw [← hW1, sv_col (by decide), sv_col (by decide), sv_col (by decide), sv_col (by decide), sv_col (by decide), sv_col (by decide), sv_col (by decide), sv_col (by decide), sv_col (by decide), sv_col (by decide), sv_col (by decide), sv_col (by decide), sv_col (by decide), sv_col (by decide), sv_at]
  have z1048 : W1 1048 0 0 = (-1) := by rw [← hW1, sv_col (by decide), sv_col (by decide), sv_col (by decide), sv_col (by decide), sv_col (by decide), sv_col (by decide), sv_col (by decide), sv_col (by decide), sv_col (by decide), sv_col (by decide), sv_col (by decide), sv_col (by decide), sv_col (by decide), sv_at]
  have z1049 : W1 1049 0 0 = 0 := by rw [← hW1, sv_col (by decide), sv_col (by decide), sv_col (by decide), sv_col (by decide), sv_col (by decide), sv_col (by decide), sv_col (by decide), sv_col (by decide), sv_col (by decide), sv_col (by decide), sv_col (by decide), sv_col (by decide), sv_at]
  have z1050 : W1 1050 0 0 = 0 := by rw [← hW1, sv_col (by decide), sv_col (by decide), sv_col (by decide), sv_col (by decide), sv_col (by decide), sv_col (by decide), sv_col (by decide), sv_col (by decide), sv_col (by decide), sv_col (by decide), sv_col (by decide), sv_at]
  have z1051 : W1 1051 0 0 = 0 := by rw [← hW1, sv_col (by decide), sv_col (by decide), sv_col (by decide), sv_col (by decide), sv_col (by decide), sv_col (by decide), sv_col (by decide), sv_col (by decide), sv_col (by decide), sv_col (by decide), sv_at]
  have z1052 : W1 1052 0 0 = 0 := by rw [← hW1, sv_col (by decide), sv_col (by decide), sv_col (by decide), sv_col (by decide), sv_col (by decide), sv_col (by decide), sv_col (by decide), sv_col (by decide), sv_col (by decide), sv_at]
  have z1053 : W1 1053 0 0 = 0 := by rw [← hW1, sv_col (by decide), sv_col (by decide), sv_col (by decide), sv_col (by decide), sv_col (by decide), sv_col (by decide), sv_col (by decide), sv_col (by decide), sv_at]
  have z1054 : W1 1054 0 0 = 0 := by rw [← hW1, sv_col (by decide), sv_col (by decide), sv_col (by decide), sv_col (by decide), sv_col (by decide), sv_col (by decide), sv_col (by decide), sv_at]
  have z1055 : W1 1055 0 0 = 0 := by rw [← hW1, sv_col (by decide), sv_col (by decide), sv_col (by decide), sv_col (by decide), sv_col (by decide), sv_col (by decide), sv_at]
  have z1060 : W1 1060 0 0 = (b2i false) := by rw [← hW1, sv_col (by decide), sv_col (by decide), sv_col (by decide), sv_col (by decide), sv_col (by decide), sv_at]
  have z1061 : W1 1061 0 0 = (-1) := by rw [← hW1, sv_col (by decide), sv_col (by decide), sv_col (by decide), sv_col (by decide), sv_at]
  have z1062 : W1 1062 0 0 = 0 := by rw [← hW1, sv_col (by decide), sv_col (by decide), sv_col (by decide), sv_at]
  have z1064 : W1 1064 0 0 = 0 := by rw [← hW1, sv_col (by decide), sv_col (by decide), sv_at]
  have z1066 : W1 1066 0 0 = 0 := by rw [← hW1, sv_col (by decide), sv_at]
  have z1067 : W1 1067 0 0 = 0 := by rw [← hW1, sv_at]
  obtain ⟨W2, b1, b2, b3⟩ := bm1_L 32768 0 FU W1 (by omega) (FU_gt (by omega))
  obtain ⟨W3, c1, c2, c3, c4⟩ := bm2_L 2048 0 FU W2 (by omega) (FU_gt (by omega))
  obtain ⟨W4, d1, d2, d3⟩ := bm3_L 600 0 FU W3 (by omega) (FU_gt (by omega))
  have a4 : agr [2100, 2200, 2300, 2400, 2500, 2600, 2700, 2800, 2900] W1 W4 := ((b2.app c2).app d2).sub (by decide)
  refine ⟨W4, ?_, (a1.app a4).sub (by decide), (a4 1017 0 0 (by decide)).trans z1017, (a4 1018 0 0 (by decide)).trans z1018, (a4 1019 0 0 (by decide)).trans z1019, (a4 1047 0 0 (by decide)).trans z1047, (a4 1048 0 0 (by decide)).trans z1048, (a4 1049 0 0 (by decide)).trans z1049, (a4 1050 0 0 (by decide)).trans z1050, (a4 1051 0 0 (by decide)).trans z1051, (a4 1052 0 0 (by decide)).trans z1052, (a4 1053 0 0 (by decide)).trans z1053, (a4 1054 0 0 (by decide)).trans z1054, (a4 1055 0 0 (by decide)).trans z1055, (a4 1060 0 0 (by decide)).trans z1060, (a4 1061 0 0 (by decide)).trans z1061, (a4 1062 0 0 (by decide)).trans z1062, (a4 1064 0 0 (by decide)).trans z1064, (a4 1066 0 0 (by decide)).trans z1066, (a4 1067 0 0 (by decide)).trans z1067, fun j hj => ?_, fun j hj => ?_, fun j hj => ?_, fun i hi => ?_⟩
  · unfold f_X12_begins
    rw [lt_def, lt_def, lt_def, lt_def, lt_def, lt_def, lt_def, lt_def, lt_def, lt_def, lt_def, lt_def, lt_def, lt_def, lt_def, lt_def, lt_def, lt_def, jn_def, hW1]
    exact (b1 _).trans (by rw [jn_def]; exact (c1 _).trans (by rw [jn_def]; exact d1 _))
  · rw [d2 2100 0 j (by decide), c2 2100 0 j (by decide), b3 j, if_pos (by omega)]
  · rw [d2 2200 0 j (by decide), c3 j, if_pos (by omega)]
  · rw [d2 2300 0 j (by decide), c4 j, if_pos (by omega)]
  · rw [d3 i, if_pos (by omega)]
theorem maxz_C {n : Nat} (h : n < 2147483648) : f_J9_max_7cf53 0 (nI n) = nI n := by
  unfold f_J9_max_7cf53
  rw [lt_def]
  by_cases q : 0 < n
  · rw [if_pos (show (0 : Int32) < nI n from nI_lt (a := 0) q h)]
  · rw [if_neg (show ¬ (0 : Int32) < nI n from nI_nlt (b := n) (a := 0) (by omega) (by decide)), show n = 0 by omega]
    rfl
/-- the heap, empty, from granule h on -/
def ZH (kb h : Nat) (V : HV) : Prop := V 302 0 0 = nI h ∧ V 303 0 0 = 0 ∧ V 304 0 0 = 0 ∧ V 305 0 0 = 0 ∧ V 306 0 0 = 0 ∧ V 307 0 0 = (-1) ∧ V 308 0 0 = (b2i false) ∧ (∀ j, j < 64 * kb → V 2500 0 j = 0) ∧ (∀ j, j < 64 * kb → V 2600 0 j = 0)
def zhc : List Nat := [302, 303, 304, 305, 306, 307, 308, 2500, 2600]
theorem hreset_C {kb h : Nat} {V : HV} (hkb : kb ≤ 32) (hh : h < 2147483648) : ∃ V', f_X4_reset kb 0 (nI h) V = some V' ∧ agr zhc V V' ∧ ZH kb h V' := by
  obtain ⟨V1, a1, a2, a3⟩ := fl5_C (V := V) hkb
  obtain ⟨V2, b1, b2, b3⟩ := fl6_C (V := V1) hkb
  unfold f_X4_reset
  rw [a1, bnd_some, b1, bnd_some, lt_def, maxz_C hh, lt_def, lt_def, lt_def, lt_def, lt_def, lt_def, lt_def]
  refine ⟨_, rfl, (((((((((a2.app b2).app (agr_sv _ _ _ _ _)).app (agr_sv _ _ _ _ _)).app (agr_sv _ _ _ _ _)).app (agr_sv _ _ _ _ _)).app (agr_sv _ _ _ _ _)).app (agr_sv _ _ _ _ _)).app (agr_sv _ _ _ _ _))).sub (by decide), by simp [sv], by simp [sv], by simp [sv], by simp [sv], by simp [sv], by simp [sv], by simp [sv], fun j hj => ?_, fun j hj => ?_⟩
  · rw [sv_col (by decide), sv_col (by decide), sv_col (by decide), sv_col (by decide), sv_col (by decide), sv_col (by decide), sv_col (by decide), b2 2500 0 j (by decide)]
    exact a3 j hj
  · rw [sv_col (by decide), sv_col (by decide), sv_col (by decide), sv_col (by decide), sv_col (by decide), sv_col (by decide), sv_col (by decide)]
    exact b3 j hj
/-- the class's world, reset -/
def Z0 (kb : Nat) (V : HV) : Prop := ZH kb 0 V ∧ V 501 0 0 = 0 ∧ V 502 0 0 = 0 ∧ V 501 1 0 = 0 ∧ V 502 1 0 = 0 ∧ V 807 0 0 = 0 ∧ V 808 0 0 = 0 ∧ V 809 0 0 = (b2i false) ∧ V 810 0 0 = 0 ∧ V 811 0 0 = (-1) ∧ V 812 0 0 = 0 ∧ V 813 0 0 = 0 ∧ V 814 0 0 = 0 ∧ V 815 0 0 = 0 ∧ V 816 0 0 = 0 ∧ (∀ j, j < 1024 * kb → V 2300 0 j = 0) ∧ (∀ j, j < 64 * kb → V 2400 0 j = 0)
def rsc : List Nat := [302, 303, 304, 305, 306, 307, 308, 501, 502, 807, 808, 809, 810, 811, 812, 813, 814, 815, 816, 2300, 2400, 2500, 2600]
theorem reset_C {kb : Nat} {V : HV} (hkb : kb ≤ 32) : ∃ V', f_X10_reset kb 0 V = some V' ∧ agr rsc V V' ∧ Z0 kb V' := by
  obtain ⟨V1, a1, a2, a3⟩ := fl3_C (V := V) hkb
  obtain ⟨V2, b1, b2, b3⟩ := fl4_C (V := V1) hkb
  obtain ⟨V3, c1, c2, c3⟩ := hreset_C (kb := kb) (h := 0) (V := V2) hkb (by decide)
  have c1' : f_X4_reset kb 0 0 V2 = some V3 := c1
  unfold f_X10_reset f_X8_reset
  rw [a1, bnd_some, b1, bnd_some, bnd_some, c1', bnd_some]
  unfold f_X6_reset
  generalize hV4 : sv (sv (sv (sv V3 501 0 0 0) 502 0 0 0) 501 1 0 0) 502 1 0 0 = V4
  have a4 : agr [501, 502] V3 V4 := by rw [← hV4]; exact ((((agr_sv _ _ _ _ _).app (agr_sv _ _ _ _ _)).app (agr_sv _ _ _ _ _)).app (agr_sv _ _ _ _ _)).sub (by decide)
  have r1 : V4 501 0 0 = 0 ∧ V4 502 0 0 = 0 ∧ V4 501 1 0 = 0 ∧ V4 502 1 0 = 0 := by rw [← hV4]; exact ⟨by simp [sv], by simp [sv], by simp [sv], by simp [sv]⟩
  generalize hV5 : (sv (sv (sv (sv (sv (sv (sv (sv (sv (sv V4 807 0 0 0) 808 0 0 0) 809 0 0 (b2i false)) 810 0 0 0) 811 0 0 (-1)) 812 0 0 0) 813 0 0 0) 814 0 0 0) 815 0 0 0) 816 0 0 0) = V5
  have a5 : agr [807, 808, 809, 810, 811, 812, 813, 814, 815, 816] V4 V5 := by rw [← hV5]; exact (((((((((((agr_sv _ _ _ _ _).app (agr_sv _ _ _ _ _)).app (agr_sv _ _ _ _ _)).app (agr_sv _ _ _ _ _)).app (agr_sv _ _ _ _ _)).app (agr_sv _ _ _ _ _)).app (agr_sv _ _ _ _ _)).app (agr_sv _ _ _ _ _)).app (agr_sv _ _ _ _ _)).app (agr_sv _ _ _ _ _))).sub (by decide)
  refine ⟨V5, ?_, ((((a2.app b2).app c2).app a4).app a5).sub (by decide), ⟨?_, ?_, ?_, ?_, ?_, ?_, ?_, fun j hj => ?_, fun j hj => ?_⟩, ?_, ?_, ?_, ?_, ?_, ?_, ?_, ?_, ?_, ?_, ?_, ?_, ?_, ?_, fun j hj => ?_, fun j hj => ?_⟩
  · simp only [lt_def]
    rw [hV4, hV5]
  · rw [a5 302 0 0 (by decide), a4 302 0 0 (by decide)]; exact c3.1
  · rw [a5 303 0 0 (by decide), a4 303 0 0 (by decide)]; exact c3.2.1
  · rw [a5 304 0 0 (by decide), a4 304 0 0 (by decide)]; exact c3.2.2.1
  · rw [a5 305 0 0 (by decide), a4 305 0 0 (by decide)]; exact c3.2.2.2.1
  · rw [a5 306 0 0 (by decide), a4 306 0 0 (by decide)]; exact c3.2.2.2.2.1
  · rw [a5 307 0 0 (by decide), a4 307 0 0 (by decide)]; exact c3.2.2.2.2.2.1
  · rw [a5 308 0 0 (by decide), a4 308 0 0 (by decide)]; exact c3.2.2.2.2.2.2.1
  · rw [a5 2500 0 j (by decide), a4 2500 0 j (by decide)]; exact c3.2.2.2.2.2.2.2.1 j hj
  · rw [a5 2600 0 j (by decide), a4 2600 0 j (by decide)]; exact c3.2.2.2.2.2.2.2.2 j hj
  · rw [a5 501 0 0 (by decide)]; exact r1.1
  · rw [a5 502 0 0 (by decide)]; exact r1.2.1
  · rw [a5 501 1 0 (by decide)]; exact r1.2.2.1
  · rw [a5 502 1 0 (by decide)]; exact r1.2.2.2
  · rw [← hV5, sv_col (by decide), sv_col (by decide), sv_col (by decide), sv_col (by decide), sv_col (by decide), sv_col (by decide), sv_col (by decide), sv_col (by decide), sv_col (by decide), sv_at]
  · rw [← hV5, sv_col (by decide), sv_col (by decide), sv_col (by decide), sv_col (by decide), sv_col (by decide), sv_col (by decide), sv_col (by decide), sv_col (by decide), sv_at]
  · rw [← hV5, sv_col (by decide), sv_col (by decide), sv_col (by decide), sv_col (by decide), sv_col (by decide), sv_col (by decide), sv_col (by decide), sv_at]
  · rw [← hV5, sv_col (by decide), sv_col (by decide), sv_col (by decide), sv_col (by decide), sv_col (by decide), sv_col (by decide), sv_at]
  · rw [← hV5, sv_col (by decide), sv_col (by decide), sv_col (by decide), sv_col (by decide), sv_col (by decide), sv_at]
  · rw [← hV5, sv_col (by decide), sv_col (by decide), sv_col (by decide), sv_col (by decide), sv_at]
  · rw [← hV5, sv_col (by decide), sv_col (by decide), sv_col (by decide), sv_at]
  · rw [← hV5, sv_col (by decide), sv_col (by decide), sv_at]
  · rw [← hV5, sv_col (by decide), sv_at]
  · rw [← hV5, sv_at]
  · rw [a5 2300 0 j (by decide), a4 2300 0 j (by decide), c2 2300 0 j (by decide), b2 2300 0 j (by decide)]; exact a3 j hj
  · rw [a5 2400 0 j (by decide), a4 2400 0 j (by decide), c2 2400 0 j (by decide)]; exact b3 j hj
/-- nothing is booted -/
theorem RQ_zero {kb : Nat} {V W : HV} (h1 : 1 ≤ kb) (hkb : kb ≤ 32) (h10 : W 1000 0 0 = nI (1024 * kb)) (hV : Z0 kb V) (hW : Z1 W) (h7 : ∀ t, t < 6 → V 700 t 0 = nI t) (hl : Rl V W) : RQ kb 0 W [] V W := by
  obtain ⟨⟨p1, p2, p3, p4, p5, p6, p7, p8, p9⟩, q1, q2, q3, q4, r1, r2, r3, r4, r5, r6, r7, r8, r9, r10, m1, m2⟩ := hV
  obtain ⟨w1, w2, w3, w4, w5, w6, w7, w8, w9, w10, w11, w12, w13, w14, w15, w16, w17, w18, x1, x2, x3, x4⟩ := hW
  have n0 : nth W = 0 := by unfold nth; rw [w3]; rfl
  have c0 : ncp W = 0 := by unfold ncp; rw [w2]; rfl
  have g0 : gN W 1054 0 = 0 := by unfold gN; rw [w11]; rfl
  have hp0 : hp W = 0 := g0
  refine ⟨⟨⟨h1, hkb, h10, by rw [n0]; exact w3, by omega, by rw [c0]; exact w2, by omega, ?_, by rw [hp0]; omega, fun c hc => by omega, fun t ht => by omega⟩, fun _ _ _ _ => rfl, ⟨r1.trans w2.symm, r2.trans w3.symm, by rw [r3, w1], r4.trans w4.symm, r5.trans w5.symm, r7.trans w6.symm, r8.trans w7.symm, r9.trans w8.symm, r10.trans w9.symm⟩, hl, fun c hc => by omega, ⟨fun a ha => (m1 a ha).trans (x1 a (by omega)).symm, fun g hg => ?_⟩, ⟨⟨0, 0, by omega, by omega, q2, w16, q1, fun k hk => by omega⟩, 0, 0, 0, by omega, by omega, by omega, q4, w18, q3, w17, fun k hk => by omega⟩, ⟨h1, hkb, h10, by rw [n0]; exact w3, by omega, by rw [c0]; exact w2, by omega, fun _ => ⟨n0, c0⟩⟩, ⟨?_, ⟨by rw [hp0]; exact p1, fun g hg => ⟨p8 g hg, p9 g hg⟩, p2, p3, p4⟩, ⟨w12, fun k o hk => by simp at hk⟩, ⟨p6.trans w14.symm, p5.trans w15.symm, by rw [p7, w13], Or.inl w14⟩, fun g hg => ?_⟩, fun i hi => ⟨fun hok => ?_, ?_, fun _ => ?_, fun _ _ => x4 i (by omega)⟩, fun q hq => ?_, fun t f ht => by omega, fun t ht => by omega, h7, fun t ht => by omega, fun t u ht => by omega, fun t u ht => by omega, fun c hc => by omega⟩, ⟨w4, fun t ht => by omega, Or.inl w5, fun t ht => by omega, 0, by omega, w10⟩, fun s e1 e2 => absurd (w14.symm.trans e1).symm (m1_ne s e2), fun t ht => by omega, fun t ht e => absurd (w5.symm.trans e).symm (m1_ne t (by omega))⟩
  · unfold isG; rw [g0]; exact w11
  · rw [m2 g hg, x2 g (by omega), x3 g (by omega)]; rfl
  · show hp W ≤ 64 * kb; omega
  · rw [x3 g (by omega)]; rfl
  · rcases hok with ⟨_, o⟩ | ⟨_, _, o, _⟩ <;> omega
  · rw [x4 i (by omega)]; exact gd_num _ _ _
  · rw [x4 i (by omega)]; rfl
  · exact gd_mem (by rw [x2 q (by omega)]; rfl)
theorem start_all : ∀ x, ∃ W, f_X12_begins 0 (V1M x) = some W ∧ RZ 0 (kbN x) V0C W := by
  intro x
  obtain ⟨W, e1, e2, e3⟩ := begins_M (V1M x)
  have hk : 1 ≤ kbN x ∧ kbN x ≤ 32 := by
    unfold kbN
    by_cases q : 1 ≤ x ∧ x ≤ 32
    · rw [if_pos q]
      have h1 := Int32.le_iff_toInt_le.mp q.1
      have h2 := Int32.le_iff_toInt_le.mp q.2
      rw [show (1 : Int32).toInt = 1 by decide] at h1
      rw [show (32 : Int32).toInt = 32 by decide] at h2
      have : x.toNatClampNeg = x.toInt.toNat := rfl
      omega
    · rw [if_neg q]; decide
  refine ⟨W, e1, W, [], 0, by omega, RQ_zero hk.1 hk.2 ?_ ?_ e3 (fun t ht => ?_) ?_⟩
  · rw [e2 1000 0 0 (by decide)]
    show 1024 * nI (kbN x) = _
    rw [show (1024 : Int32) = nI 1024 from rfl, pk_mul]
  · refine ⟨⟨rfl, rfl, rfl, rfl, rfl, rfl, rfl, fun _ _ => rfl, fun _ _ => rfl⟩, rfl, rfl, rfl, rfl, rfl, rfl, rfl, rfl, rfl, rfl, rfl, rfl, rfl, rfl, fun _ _ => rfl, fun _ _ => rfl⟩
  · rfl
  · refine ⟨?_, 0, by omega, rfl, ?_, fun j hj => by omega⟩
    · rw [e2 1016 0 0 (by decide)]; rfl
    · rw [e2 1011 0 0 (by decide)]; rfl
