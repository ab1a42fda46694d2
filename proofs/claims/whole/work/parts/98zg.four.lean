/-! the sweeper's four granules -/
theorem mC_tag {M g g' : Nat → Int32} {q : Nat} : mC M g' q = ((mC M g q).1, (mC M g q).2.1, (mC M g q).2.2.1, (mC M g q).2.2.2.1, (mC M g q).2.2.2.2.1, i2b (g' q)) := rfl
theorem four_L {kb s lo : Nat} {Y : HV} {l : List Ob} (hkb : kb ≤ 32) (h1 : 1 ≤ kb) (hs4 : 4 * s + 4 ≤ 64 * kb) (hsr : srt (64 * kb) lo l) : ∀ (r i f f' : Nat) (V W : HV), i + r = 4 → r < f → r < f' → Rm kb V W → Mk kb l V → Rv kb l W → Mgd kb Y l W → V 307 0 0 = nI (4 * s) → W 1061 0 0 = nI (4 * s + i) → ∃ V' W', (∀ K : HV → Option HV, f_X10_sweep_L20 kb K f (nI i) V = K V') ∧ (∀ K : HV → Option HV, f_X12_sweep_L115 0 K f' (nI i) W = K W') ∧ agr [2400] V V' ∧ agr [1061, 2200, 2400, 2500, 2600, 2700, 2800, 2900] W W' ∧ (∀ i, i < 582 → cM W' i = cM W i) ∧ W' 1061 0 0 = nI (4 * s + 4) ∧ Rm kb V' W' ∧ Mgd kb Y l W' ∧ (∀ q, q < 4 * s + i → W' 2200 0 q = W 2200 0 q) ∧ (∀ q, 4 * s + i ≤ q → q < 4 * s + 4 → gd Y (lv l) (mC (W' 2100 0) (W' 2200 0) q))
  | _, _, 0, _, _, _, _, hf, _, _, _, _, _, _, _ => absurd hf (by omega)
  | _, _, _, 0, _, _, _, _, hf, _, _, _, _, _, _ => absurd hf (by omega)
  | 0, i, f + 1, f' + 1, V, W, hi, _, _, hR, hK, hv, hM, h307, h61 => by
    have e : i = 4 := by omega
    subst e
    refine ⟨V, W, fun K => ?_, fun K => ?_, (agr_rfl V).sub (by decide), (agr_rfl W).sub (by decide), fun _ _ => rfl, h61, hR, hM, fun _ _ => rfl, fun q y1 y2 => by omega⟩
    · unfold f_X10_sweep_L20
      rw [if_pos (show (4 : Int32) ≤ nI 4 by decide)]
    · unfold f_X12_sweep_L115
      rw [if_pos (show (4 : Int32) ≤ nI 4 by decide)]
  | r + 1, i, f + 1, f' + 1, V, W, hi, hf, hf', hR, hK, hv, hM, h307, h61 => by
    have n4 : ¬ (4 : Int32) ≤ nI i := fun q => by have := (nI_leI (a := 4) (by decide) (by omega)).mp q; omega
    obtain ⟨V1, a1, a2, a3⟩ := fg_C (q := 4 * s + i) (l := l) (V := V) (W := W) hkb h1 (by omega) hR hK
    obtain ⟨W1, c1, c2, c3, c4, c5⟩ := gr_M (q := 4 * s + i) (k := nI i) (f := f') hv (by omega) h61 n4
    have r23 : ∀ g, W1 2300 0 g = W 2300 0 g := fun g => c2 2300 0 g (by decide)
    have r21 : W1 2100 0 = W 2100 0 := funext fun j => c2 2100 0 j (by decide)
    have hR1 : Rm kb V1 W1 := by
      refine ⟨fun a ha => ?_, fun g hg => ?_⟩
      · rw [a2 2300 0 a (by decide), c2 2100 0 a (by decide)]; exact hR.1 a ha
      · show V1 2400 0 g = mk (i2b (W1 2200 0 g)) (i2b (W1 2300 0 g))
        rw [a3, c5, r23]
        by_cases e : g = 4 * s + i
        · rw [if_pos e, if_pos e, i2b_b2i, e]
        · rw [if_neg e, if_neg e]; exact Rm_mk hR hg
    have hK1 : Mk kb l V1 := fun g hg => by
      obtain ⟨t, ht⟩ := hK g hg
      refine ⟨i2b (W1 2200 0 g), ?_⟩
      have := Rm_mk hR1 hg
      rw [this, r23, hv.2.2.2 g hg]
    have hv1 : Rv kb l W1 := Rv_fr hv c2 (by decide) (by decide)
    have gm : ∀ q, q < 64 * kb → gd Y l (mC (W1 2100 0) (W1 2200 0) q) ∧ (q = 4 * s + i → gd Y (lv l) (mC (W1 2100 0) (W1 2200 0) q)) := by
      intro q hq
      rw [r21]
      by_cases e : q = 4 * s + i
      · have ef : mC (W 2100 0) (W1 2200 0) q = fil kb l (mC (W 2100 0) (W 2200 0) q) := by
          rw [mC_tag (g := W 2200 0), c5, if_pos e, i2b_b2i, e]
          rfl
        rw [ef]
        exact ⟨gd_fil (hM q hq), fun _ => gd_fl hsr (hM q hq)⟩
      · have ef : mC (W 2100 0) (W1 2200 0) q = mC (W 2100 0) (W 2200 0) q := by
          rw [mC_tag (g := W 2200 0), c5, if_neg e]
          rfl
        rw [ef]
        exact ⟨hM q hq, fun z => absurd z e⟩
    obtain ⟨V', W', e1, e2, e3, e4, e5, e6, e7, e8, e9, e10⟩ := four_L (Y := Y) hkb h1 hs4 hsr r (i + 1) f f' V1 W1 (by omega) (by omega) (by omega) hR1 hK1 hv1 (fun q hq => (gm q hq).1) ((a2 307 0 0 (by decide)).trans h307) c4
    refine ⟨V', W', fun K => ?_, fun K => ?_, a2.trans e3, c2.trans e4, fun j hj => (e5 j hj).trans (c3 j hj), e6, e7, e8, fun q hq => ?_, fun q y1 y2 => ?_⟩
    · unfold f_X10_sweep_L20
      rw [if_neg n4, h307, nI_add, a1, bnd_some, lt_def, nI_1]
      exact e1 K
    · rw [c1 K, nI_1]
      exact e2 K
    · rw [e9 q (by omega), c5, if_neg (by omega)]
    · by_cases z : q = 4 * s + i
      · have ef : mC (W' 2100 0) (W' 2200 0) q = mC (W1 2100 0) (W1 2200 0) q := by
          rw [show W' 2100 0 = W1 2100 0 from funext fun j => e4 2100 0 j (by decide), mC_tag (g := W1 2200 0), e9 q (by omega)]
          rfl
        rw [ef]
        exact (gm q (by omega)).2 z
      · exact e10 q (by omega) y2
theorem sweep_mid {kb T s : Nat} {Y : HV} {l : List Ob} {V W : HV} (h : RQ kb T Y l V W) (hs : s < 16 * kb) (h61 : W 1061 0 0 = nI (4 * s)) : ∃ V' W', (f_X10_sweep kb 0 V = (lt (sv V' 307 0 0 (nI (4 * s + 4))) fun V5 => if (V5 307 0 0) < (Int32.ofNat (64 * kb)) then (some V5) else (bnd (f_X10_endSweep kb 0 V5) fun p7 => some p7))) ∧ (∀ K : HV → Option HV, (f_X12_sweep_L115 0 K FU 0 W) = K W') ∧ agr [2400] V V' ∧ agr [1061, 2200, 2400, 2500, 2600, 2700, 2800, 2900] W W' ∧ (∀ i, i < 582 → cM W' i = cM W i) ∧ W' 1061 0 0 = nI (4 * s + 4) ∧ Rm kb V' W' ∧ Mgd kb Y l W' ∧ (∀ q, q < 4 * s + 4 → gd Y (sw l) (mC (W' 2100 0) (W' 2200 0) q)) := by
  obtain ⟨h1, h2, h3, h4, h5⟩ := id h
  have hL := h1.1
  have hH := h1.2.2.2.2.2.2.2.2.1
  have h307 : V 307 0 0 = nI (4 * s) := hH.2.2.2.1.1.trans h61
  obtain ⟨V', W', e1, e2, e3, e4, e5, e6, e7, e8, e9, e10⟩ := four_L (s := s) (Y := Y) hL.2.1 hL.1 (by omega) hH.1 4 0 FU FU V W (by omega) (FU_gt (by omega)) (FU_gt (by omega)) h1.2.2.2.2.2.1 (ST_Mk h1) (ST_Rv h1) h1.2.2.2.2.2.2.2.2.2.2.1 h307 h61
  have e1' : ∀ K : HV → Option HV, f_X10_sweep_L20 kb K FU 0 V = K V' := e1
  refine ⟨V', W', ?_, e2, e3, e4, e5, e6, e7, e8, fun q hq => ?_⟩
  · unfold f_X10_sweep
    rw [h307, if_pos (nI_pos' (by have := hL.2.1; omega)), jn_def, e1', e3 307 0 0 (by decide), h307, show (4 : Int32) = nI 4 from rfl, nI_add]
  · by_cases z : q < 4 * s
    · have ef : mC (W' 2100 0) (W' 2200 0) q = mC (W 2100 0) (W 2200 0) q := by
        rw [show W' 2100 0 = W 2100 0 from funext fun j => e4 2100 0 j (by decide), mC_tag (g := W 2200 0), e9 q (by omega)]
        rfl
      rw [ef]
      exact h3 (4 * s) h61 (by have := hL.2.1; omega) q z
    · exact gd_sw (e10 q (by omega) hq)
/-- not the last four -/
theorem sweep_on {kb T s : Nat} {Y : HV} {l : List Ob} {V W : HV} (h : RQ kb T Y l V W) (hs : s + 1 < 16 * kb) (h61 : W 1061 0 0 = nI (4 * s)) : ∃ V' W', f_X10_sweep kb 0 V = some V' ∧ f_X12_sweep 0 W = some W' ∧ RQ kb T Y l V' W' := by
  obtain ⟨V', W', e1, e2, e3, e4, e5, e6, e7, e8, e9⟩ := sweep_mid h (by omega) h61
  obtain ⟨h1, h2, h3, h4, h5⟩ := id h
  have hL := h1.1
  have hkb := hL.2.1
  have h10 : W' 1000 0 0 = nI (1024 * kb) := (e4 1000 0 0 (by decide)).trans ((h1.2.1 1000 (by decide) 0 0).trans hL.2.2.1)
  have hC : f_X10_sweep kb 0 V = some (sv V' 307 0 0 (nI (4 * s + 4))) := by
    rw [e1, lt_def, sv_at, ofNat_nI, if_pos (nI_lt (by omega) (by omega))]
  have hMm : f_X12_sweep 0 W = some W' := by
    unfold f_X12_sweep
    rw [h61, if_neg (m1_ne _ (by omega)), jn_def]
    refine (e2 _).trans ?_
    rw [h10, e6, dv16 (by omega), show 1024 * kb / 16 = 64 * kb by omega, if_neg (fun z => by have := (nI_leI (by omega) (by omega)).mp z; omega)]
  refine ⟨_, W', hC, hMm, ?_⟩
  have aV : agr [307, 2400] V (sv V' 307 0 0 (nI (4 * s + 4))) := (e3.app (agr_sv _ _ _ _ _)).sub (by decide)
  have v307 : (sv V' 307 0 0 (nI (4 * s + 4))) 307 0 0 = nI (4 * s + 4) := sv_at _ _ _ _ _
  have v24 : ∀ g, (sv V' 307 0 0 (nI (4 * s + 4))) 2400 0 g = V' 2400 0 g := fun g => sv_col (by decide)
  generalize sv V' 307 0 0 (nI (4 * s + 4)) = V5 at *
  obtain ⟨k1, k2, k3, k4, k5, k6, k7, k8, k9, k10, k11, k12, k13, k14⟩ := h1
  have hR5 : Rm kb V5 W' := ⟨fun a ha => by rw [aV 2300 0 a (by decide), ← e3 2300 0 a (by decide)]; exact e7.1 a ha, fun g hg => by rw [v24]; exact e7.2 g hg⟩
  refine ⟨⟨k1, LY_fr e4 (by decide) k2, Rs_fr aV e4 (by decide) (by decide) k3, Rl_fr aV e4 (by decide) (by decide) k4, Rc_fr aV e4 (by decide) (by decide) k5, hR5, Ri_fr aV e4 (by decide) (by decide) k7, In_fr e4 (by decide) k8, ?_, ?_, e8, ?_, Thr_fr e4 (by decide) k13, Rt_fr aV e4 (by decide) (by decide) k14⟩, Tm_fr aV e4 (by decide) (by decide) h2, fun s' z1 z2 q hq => ?_, h4, fun t ht q k hk => ?_⟩
  · obtain ⟨a1, ⟨b1, b2, b3, b4, b5⟩, ⟨c1, c2⟩, d, e⟩ := k9
    refine ⟨a1, ⟨?_, fun g hg => ?_, ?_, ?_, ?_⟩, ⟨?_, fun k o hk => ?_⟩, ⟨?_, ?_, ?_, ?_⟩, fun g hg => ?_⟩
    · rw [aV 302 0 0 (by decide)]; exact b1
    · rw [aV 2500 0 g (by decide), aV 2600 0 g (by decide)]; exact b2 g hg
    · rw [aV 303 0 0 (by decide)]; exact b3
    · rw [aV 304 0 0 (by decide)]; exact b4
    · rw [aV 305 0 0 (by decide)]; exact b5
    · rw [e4 1055 0 0 (by decide)]; exact c1
    · rw [e4 7600 0 k (by decide), e4 7700 0 k (by decide), e4 7800 0 k (by decide), e4 7900 0 k (by decide)]; exact c2 k o hk
    · rw [v307, e6]
    · rw [aV 306 0 0 (by decide), e4 1062 0 0 (by decide)]; exact d.2.1
    · rw [aV 308 0 0 (by decide), e4 1060 0 0 (by decide)]; exact d.2.2.1
    · exact Or.inr ⟨s + 1, hs, e6⟩
    · rw [e4 2300 0 g (by decide)]; exact e g hg
  · intro i hi
    rw [okc_fr e4 (by decide), cC_fr aV (by decide), e5 i hi]
    exact k10 i hi
  · intro u f hu hf
    rw [xN_fr e4 (by decide)] at hf
    have hL6 := hL.2.2.2.2.1
    have hf16 : f < 16 := Nat.lt_of_lt_of_le hf (Nat.le_trans (k13 u hu).2.1 (hL.2.2.2.2.2.2.2.2.2.2 u hu).2.2.2.2.2)
    have ek := e5 (102 + 80 * u + 5 * f + 1) (by omega)
    rw [aV 206 _ 0 (by decide), aV 205 _ 0 (by decide), e4 6400 0 _ (by decide), e4 6500 0 _ (by decide), e4 6600 0 _ (by decide), show W' 2600 0 (102 + 80 * u + 5 * f + 1) = W 2600 0 (102 + 80 * u + 5 * f + 1) from cM_2 ek, show W' 2400 0 (102 + 80 * u + 5 * f + 1) = W 2400 0 (102 + 80 * u + 5 * f + 1) from cM_0 ek]
    exact k12 u f hu hf
  · rw [e6] at z1
    have : 4 * s + 4 = s' := nI_inj (by omega) z2 z1
    exact e9 q (by omega)
  · rw [e5 _ (by omega)]
    exact h5 t ht ((e4 1048 0 0 (by decide)).symm.trans q) k hk
