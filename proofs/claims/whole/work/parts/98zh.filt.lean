/-! at a sweep's end all registers and frames are filtered -/
theorem fla5 {kb F : Nat} {l : List Ob} {f : Nat → Cp} (i : Nat) : (up (up (up (up (up f (102 + 5 * F) (fil kb l (f (102 + 5 * F)))) (103 + 5 * F) (fil kb l (f (103 + 5 * F)))) (104 + 5 * F) (fil kb l (f (104 + 5 * F)))) (105 + 5 * F) (fil kb l (f (105 + 5 * F)))) (106 + 5 * F) (fil kb l (f (106 + 5 * F)))) i = if 102 + 5 * F ≤ i ∧ i < 107 + 5 * F then fil kb l (f i) else f i := by
  by_cases h : 102 + 5 * F ≤ i ∧ i < 107 + 5 * F
  · rw [if_pos h]
    rcases (show i = 102 + 5 * F ∨ i = 103 + 5 * F ∨ i = 104 + 5 * F ∨ i = 105 + 5 * F ∨ i = 106 + 5 * F by omega) with e | e | e | e | e
    · rw [e, up_ne (by omega), up_ne (by omega), up_ne (by omega), up_ne (by omega), up_at]
    · rw [e, up_ne (by omega), up_ne (by omega), up_ne (by omega), up_at]
    · rw [e, up_ne (by omega), up_ne (by omega), up_at]
    · rw [e, up_ne (by omega), up_at]
    · rw [e, up_at]
  · rw [if_neg h, up_ne (by omega), up_ne (by omega), up_ne (by omega), up_ne (by omega), up_ne (by omega)]
theorem ffb_L {kb t d : Nat} {l : List Ob} (hkb : kb ≤ 32) (hd : d ≤ 16) : ∀ (r k f : Nat) (V : HV), k + r = d → r < f → V 704 t 0 = nI d → Mk kb l V → ∃ V', (∀ K : HV → Option HV, f_X9_filterFramesBy_L2 t 0 kb K f (nI k) V = K V') ∧ agr [0, 1, 2, 3, 4, 5] V V' ∧ (∀ i, cC V' i = if 102 + 5 * (16 * t + k) ≤ i ∧ i < 102 + 5 * (16 * t + d) then fil kb l (cC V i) else cC V i)
  | _, _, 0, _, _, hf, _, _ => absurd hf (by omega)
  | 0, k, f + 1, V, hk, _, h4, _ => by
    refine ⟨V, fun K => ?_, (agr_rfl V).sub (by decide), fun i => by rw [if_neg (by omega)]⟩
    unfold f_X9_filterFramesBy_L2
    rw [h4, if_pos (nI_le (by omega) (by omega))]
  | r + 1, k, f + 1, V, hk, hf, h4, hm => by
    obtain ⟨V1, a1, a2⟩ := frF_C (F := 16 * t + k) hkb hm
    obtain ⟨V', e1, e2, e3⟩ := ffb_L hkb hd r (k + 1) f V1 (by omega) (by omega) ((a2.2 704 t 0 (by decide)).trans h4) (Mk_fr hm a2.2 (by decide))
    refine ⟨V', fun K => ?_, a2.2.trans e2, fun i => ?_⟩
    · unfold f_X9_filterFramesBy_L2
      rw [h4, if_neg (fun q => by have := (nI_leI (by omega) (by omega)).mp q; omega), if_neg (show ¬ (16 : Int32) ≤ nI k from fun q => by have := (nI_leI (a := 16) (by decide) (by omega)).mp q; omega), chk_t (inb_nI (by omega) (by decide)), cl_nI (by omega), a1, bnd_some, lt_def, nI_1]
      exact e1 K
    · rw [e3 i, a2.1, fla5]
      by_cases y : 102 + 5 * (16 * t + (k + 1)) ≤ i ∧ i < 102 + 5 * (16 * t + d)
      · rw [if_pos y, if_neg (by omega), if_pos (by omega)]
      · rw [if_neg y]
        by_cases z : 102 + 5 * (16 * t + k) ≤ i ∧ i < 107 + 5 * (16 * t + k)
        · rw [if_pos z, if_pos (by omega)]
        · rw [if_neg z, if_neg (by omega)]
theorem tf_L {kb n : Nat} {l : List Ob} {D : Nat → Nat} (hkb : kb ≤ 32) (hn : n ≤ 6) (hD : ∀ t, t < n → D t ≤ 16) : ∀ (r k f : Nat) (V : HV), k + r = n → r < f → V 808 0 0 = nI n → (∀ t, t < n → V 704 t 0 = nI (D t)) → Mk kb l V → ∃ V', (∀ K : HV → Option HV, f_X10_endSweep_L2 0 kb K f (nI k) V = K V') ∧ agr [0, 1, 2, 3, 4, 5] V V' ∧ (∀ t j, t < n → j < 17 → cC V' (17 * t + j) = if k ≤ t then fil kb l (cC V (17 * t + j)) else cC V (17 * t + j)) ∧ (∀ t j, t < n → j < 5 * D t → cC V' (102 + 80 * t + j) = if k ≤ t then fil kb l (cC V (102 + 80 * t + j)) else cC V (102 + 80 * t + j))
  | _, _, 0, _, _, hf, _, _, _ => absurd hf (by omega)
  | 0, k, f + 1, V, hk, _, h8, _, _ => by
    refine ⟨V, fun K => ?_, (agr_rfl V).sub (by decide), fun t j ht hj => by rw [if_neg (by omega)], fun t j ht hj => by rw [if_neg (by omega)]⟩
    unfold f_X10_endSweep_L2
    rw [h8, if_pos (nI_le (by omega) (by omega))]
  | r + 1, k, f + 1, V, hk, hf, h8, h4, hm => by
    have kn : k < n := by omega
    have ik : inb (nI k) 6 := inb_nI (by omega) (by decide)
    obtain ⟨V1, a1, a2⟩ := flb_C (t := k) (V := V) hkb hm
    obtain ⟨V2, b1, b2, b3⟩ := ffb_L (t := k) (d := D k) (l := l) hkb (hD k kn) (D k) 0 FU V1 (by omega) (FU_gt (by have := hD k kn; omega)) ((a2.2 704 k 0 (by decide)).trans (h4 k kn)) (Mk_fr hm a2.2 (by decide))
    have hb : f_X9_filterFramesBy kb k 0 V1 = some V2 := by
      unfold f_X9_filterFramesBy
      rw [jn_def]
      exact b1 _
    have a12 : agr [0, 1, 2, 3, 4, 5] V V2 := a2.2.trans b2
    obtain ⟨V', e1, e2, e3, e4⟩ := tf_L hkb hn hD r (k + 1) f V2 (by omega) (by omega) ((a12 808 0 0 (by decide)).trans h8) (fun t ht => (a12 704 t 0 (by decide)).trans (h4 t ht)) (Mk_fr hm a12 (by decide))
    have v2 : ∀ i, i < 582 → cC V2 i = if (17 * k ≤ i ∧ i < 17 * k + 17) ∨ (102 + 80 * k ≤ i ∧ i < 102 + 80 * k + 5 * D k) then fil kb l (cC V i) else cC V i := by
      intro i hi
      rw [b3 i, a2.1]
      by_cases y : 102 + 5 * (16 * k + 0) ≤ i ∧ i < 102 + 5 * (16 * k + D k)
      · rw [if_pos y, fla_f (rg2_f (by omega)), if_pos (Or.inr (by omega))]
      · rw [if_neg y]
        by_cases z : 17 * k ≤ i ∧ i < 17 * k + 17
        · rw [fla_t (rg2_t (by omega) (by omega)), if_pos (Or.inl z)]
        · rw [fla_f (rg2_f (by omega)), if_neg (by omega)]
    refine ⟨V', fun K => ?_, a12.trans e2, fun t j ht hj => ?_, fun t j ht hj => ?_⟩
    · unfold f_X10_endSweep_L2
      rw [h8, if_neg (fun q => by have := (nI_leI (by omega) (by omega)).mp q; omega), chk_t ik, cl_nI (by omega), a1, bnd_some, chk_t ik, hb, bnd_some, lt_def, nI_1]
      exact e1 K
    · rw [e3 t j ht hj, v2 _ (by omega)]
      by_cases e : t = k
      · rw [e, if_neg (by omega), if_pos (Or.inl (by omega)), if_pos (Nat.le_refl _)]
      · rw [if_neg (show ¬ ((17 * k ≤ 17 * t + j ∧ 17 * t + j < 17 * k + 17) ∨ (102 + 80 * k ≤ 17 * t + j ∧ 17 * t + j < 102 + 80 * k + 5 * D k)) by omega)]
        by_cases y : k + 1 ≤ t
        · rw [if_pos y, if_pos (by omega)]
        · rw [if_neg y, if_neg (by omega)]
    · have hDt := hD t ht
      have hDk := hD k kn
      rw [e4 t j ht hj, v2 _ (by omega)]
      by_cases e : t = k
      · subst e
        rw [if_neg (by omega), if_pos (Or.inr (by omega)), if_pos (Nat.le_refl _)]
      · rw [if_neg (show ¬ ((17 * k ≤ 102 + 80 * t + j ∧ 102 + 80 * t + j < 17 * k + 17) ∨ (102 + 80 * k ≤ 102 + 80 * t + j ∧ 102 + 80 * t + j < 102 + 80 * k + 5 * D k)) by omega)]
        by_cases y : k + 1 ≤ t
        · rw [if_pos y, if_pos (by omega)]
        · rw [if_neg y, if_neg (by omega)]
theorem al_L {kb : Nat} {l : List Ob} : ∀ (r k f : Nat) (W : HV), k + r = 582 → r < f → Rv kb l W → ∃ W', (∀ K : HV → Option HV, f_X12_sweep_L216 0 K f (nI k) W = K W') ∧ agr [2400, 2500, 2600, 2700, 2800, 2900] W W' ∧ (∀ i, cM W' i = if k ≤ i ∧ i < 582 then fil kb l (cM W i) else cM W i)
  | _, _, 0, _, _, hf, _ => absurd hf (by omega)
  | 0, k, f + 1, W, hk, _, _ => by
    refine ⟨W, fun K => ?_, (agr_rfl W).sub (by decide), fun i => by rw [if_neg (by omega)]⟩
    unfold f_X12_sweep_L216
    rw [if_pos (show (582 : Int32) ≤ nI k from nI_le (a := 582) (by omega) (by omega))]
  | r + 1, k, f + 1, W, hk, hf, hr => by
    obtain ⟨W1, a1, u1⟩ := filter_M (i := k) hr (by omega)
    obtain ⟨W', e1, e2, e3⟩ := al_L (kb := kb) (l := l) r (k + 1) f W1 (by omega) (by omega) (Rv_fr hr u1.2 (by decide) (by decide))
    refine ⟨W', fun K => ?_, u1.2.trans e2, fun i => ?_⟩
    · unfold f_X12_sweep_L216
      rw [if_neg (show ¬ (582 : Int32) ≤ nI k from fun q => by have := (nI_leI (a := 582) (by decide) (by omega)).mp q; omega), a1, bnd_some, lt_def, nI_1]
      exact e1 K
    · rw [e3 i, u1.1]
      by_cases y : i = k
      · rw [y, if_neg (by omega), up_at, if_pos (by omega)]
      · rw [up_ne y]
        by_cases z : k + 1 ≤ i ∧ i < 582
        · rw [if_pos z, if_pos (by omega)]
        · rw [if_neg z, if_neg (by omega)]
