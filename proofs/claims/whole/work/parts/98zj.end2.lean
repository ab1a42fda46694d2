/-! threads that slept for the sweep -/
theorem RQ_give {kb T t : Nat} {Y : HV} {l : List Ob} {V W : HV} {y : Cp} (hT2 : T < 1073741824) (hS : ST 1000 kb Y l V W) (hTm : Tm T T V W) (hP : Pr Y) (hJ : ∀ u, u < 6 → W 1048 0 0 = nI u → Jr Y l W u) (h61 : W 1061 0 0 = -1) (ht : t < nth Y) (hs : W 4700 0 t = 1) (h63 : ¬ W 6300 0 t = 0) (hy : gd Y (lv l) y) : RQ kb T Y l (sv (sv (kC V (17 * t + 10) y) 711 t 0 0) 712 t 0 (-1)) (sv (sv (kM W (17 * t + 10) y) 6300 0 t 0) 4700 0 t 0) ∧ (sv (sv (kM W (17 * t + 10) y) 6300 0 t 0) 4700 0 t 0) 1061 0 0 = -1 := by
  have h6 : t < 6 := Nat.lt_of_lt_of_le ht hS.1.2.2.2.2.1
  have hK := hS.2.2.2.2.2.2.2.2.2.1
  have hok : ∀ k, k < 17 → okc W (17 * t + k) := fun k hk => okc_reg' (by rw [nth_LY hS.2.1]; exact ht) (by rw [nth_LY hS.2.1]; exact hS.1.2.2.2.2.1) hk
  have h1 : ST 1000 kb Y l (kC V (17 * t + 10) y) (kM W (17 * t + 10) y) := by
    refine ST_reg hS ht (kC_U V _ _) (kM_U W _ _) (fun i hi hn => ?_) (fun k hk => ?_) ?_ (Or.inl rfl)
    · rw [up_ne (by omega), up_ne (by omega)]; exact ⟨rfl, rfl⟩
    · by_cases e : k = 10
      · rw [e, up_at, up_at]; exact ⟨fun _ => rfl, gd_lv hy⟩
      · rw [up_ne (by omega), up_ne (by omega)]
        exact ⟨fun _ => (hK _ (by omega)).1 (hok k hk) (by omega), (hK _ (by omega)).2.1⟩
    · rw [up_ne (by omega)]
      exact (hK (17 * t) (by omega)).2.2.2 (by omega) (by omega)
  have uW := (kM_U W (17 * t + 10) y)
  have uV := (kC_U V (17 * t + 10) y)
  have h2 : Tm T T (kC V (17 * t + 10) y) (kM W (17 * t + 10) y) := Tm_fr uV.2 uW.2 (by decide) (by decide) hTm
  have hsW : (kM W (17 * t + 10) y) 4700 0 t = 1 := (uW.2 4700 0 t (by decide)).trans hs
  have h63W : ¬ (kM W (17 * t + 10) y) 6300 0 t = 0 := by rw [uW.2 6300 0 t (by decide)]; exact h63
  have h61W : (kM W (17 * t + 10) y) 1061 0 0 = -1 := (uW.2 1061 0 0 (by decide)).trans h61
  have hJW : ∀ u, u < 6 → (kM W (17 * t + 10) y) 1048 0 0 = nI u → Jr Y l (kM W (17 * t + 10) y) u := by
    intro u hu q k hk
    rw [uW.2 1048 0 0 (by decide)] at q
    rw [uW.1]
    by_cases e : 17 * u + k = 17 * t + 10
    · rw [e, up_at]; exact hy
    · rw [up_ne e]; exact hJ u hu q k hk
  generalize kC V (17 * t + 10) y = V1 at *
  generalize kM W (17 * t + 10) y = W1 at *
  have aV : agr [711, 712] V1 (sv (sv V1 711 t 0 0) 712 t 0 (-1)) := (agr_sv _ _ _ _ _).app (agr_sv _ _ _ _ _)
  have aW : agr [6300, 4700] W1 (sv (sv W1 6300 0 t 0) 4700 0 t 0) := (agr_sv _ _ _ _ _).app (agr_sv _ _ _ _ _)
  have v1 : (sv (sv V1 711 t 0 0) 712 t 0 (-1)) 711 t 0 = 0 := by rw [sv_col (by decide), sv_at]
  have v2 : (sv (sv V1 711 t 0 0) 712 t 0 (-1)) 712 t 0 = -1 := sv_at _ _ _ _ _
  have vo : ∀ c, ∀ u, u ≠ t → (sv (sv V1 711 t 0 0) 712 t 0 (-1)) c u 0 = V1 c u 0 := fun c u hu => by rw [sv_ne (fun q => hu q.2.1), sv_ne (fun q => hu q.2.1)]
  have w1 : (sv (sv W1 6300 0 t 0) 4700 0 t 0) 4700 0 t = 0 := sv_at _ _ _ _ _
  have w2 : (sv (sv W1 6300 0 t 0) 4700 0 t 0) 6300 0 t = 0 := by rw [sv_col (by decide), sv_at]
  have wo : ∀ c, ∀ u, u ≠ t → (sv (sv W1 6300 0 t 0) 4700 0 t 0) c 0 u = W1 c 0 u := fun c u hu => by rw [sv_ne (fun q => hu q.2.2), sv_ne (fun q => hu q.2.2)]
  have h48 : W1 4800 0 t = -1 := (h1.2.2.2.2.2.2.2.2.2.2.2.2.1 t ht).2.2.2.2.2.2.1 hsW h63W
  generalize sv (sv V1 711 t 0 0) 712 t 0 (-1) = V' at *
  generalize sv (sv W1 6300 0 t 0) 4700 0 t 0 = W' at *
  have r : Rt1 V1 W1 t := h1.2.2.2.2.2.2.2.2.2.2.2.2.2.2.1 t (by rw [nth_LY h1.2.1]; exact ht)
  have w61 : W' 1061 0 0 = -1 := (aW 1061 0 0 (by decide)).trans h61W
  refine ⟨⟨ST_state (t := t) h1 (aV.sub (by decide)) (aW.sub (by decide)) (fun c hc u he => vo c u he) (fun c _ u he => wo c u he) ?_ ?_ (fun q => absurd (w1.symm.trans q) (by decide)), ?_, fun s q1 q2 => absurd (w61.symm.trans q1).symm (m1_ne s q2), hP, fun u hu q => Jr_fr aW (by decide) (hJW u hu ((aW 1048 0 0 (by decide)).symm.trans q))⟩, w61⟩
  · unfold Rt1 at r ⊢
    rw [v1, v2, w1, w2, aV 704 t 0 (by decide), aV 705 t 0 (by decide), aV 706 t 0 (by decide), aV 707 t 0 (by decide), aV 708 t 0 (by decide), aV 709 t 0 (by decide), aV 710 t 0 (by decide), aV 713 t 0 (by decide), aV 715 t 0 (by decide), aV 716 t 0 (by decide), aV 717 t 0 (by decide), aW 4800 0 t (by decide), aW 4900 0 t (by decide), aW 5000 0 t (by decide), aW 5100 0 t (by decide), aW 5200 0 t (by decide), aW 5300 0 t (by decide), aW 5400 0 t (by decide), aW 5500 0 t (by decide), aW 5600 0 t (by decide), aW 5800 0 t (by decide), aW 6100 0 t (by decide), h48]
    obtain ⟨b1, b2, b3, b4, b5, b6, b7, b8, b9, b10, b11, b12⟩ := r
    exact ⟨b1, b2, b3, b4, b5, b6, b7, rfl, b9, b10, Or.inr ⟨rfl, rfl, Or.inl rfl⟩, fun q => absurd q (by decide)⟩
  · rw [w1, w2, aW 4800 0 t (by decide), h48]
    refine ⟨fun _ => rfl, fun q => absurd q (by decide), fun q => ?_⟩
    rcases q with q | q
    · exact absurd q (by decide)
    · exact absurd q.1 (by decide)
  · obtain ⟨o, ho, e53⟩ := h2.2.2.2.2
    refine Tm_state (t := t) (o := o) h2 (Nat.le_refl _) (by omega) (aV.sub (by decide)) (aW.sub (by decide)) (fun c hc u he => vo c u he) (fun c _ u he => wo c u he) (by omega) ?_ ?_ (fun q => absurd (w1.symm.trans q) (by decide))
    · rw [aW 1053 0 0 (by decide)]; exact e53
    · rw [aW 1053 0 0 (by decide)]; exact Int32.le_refl _
theorem wl_1 {kb T t z : Nat} {Y : HV} {l : List Ob} {V W : HV} (hT2 : T < 1073741824) (h : RQ kb T Y l V W) (h61 : W 1061 0 0 = -1) (ht : t < nth Y) (hs : W 4700 0 t = 1) (hz0 : 0 < z) (hz : z ≤ 2048) (h63 : W 6300 0 t = nI (16 * z)) : ∃ b V1 W1 l', f_X10_grant kb 0 (nI z) (17 * t + 10) V = some (b, V1) ∧ f_X12_gets 0 (nI t) (nI (16 * z)) W = some (b, W1) ∧ RQ kb T Y l' (sv (sv V1 711 t 0 0) 712 t 0 (-1)) (sv (sv (if b = true then W1 else kM W1 (17 * t + 10) (nm 0)) 6300 0 t 0) 4700 0 t 0) ∧ (sv (sv (if b = true then W1 else kM W1 (17 * t + 10) (nm 0)) 6300 0 t 0) 4700 0 t 0) 1061 0 0 = -1 := by
  obtain ⟨h1, h2, h3, h4, h5⟩ := id h
  have hL := h1.1
  have hkb := hL.2.1
  have h6 : t < 6 := Nat.lt_of_lt_of_le ht hL.2.2.2.2.1
  have hH := h1.2.2.2.2.2.2.2.2.1
  have h10 : W 1000 0 0 = nI (1024 * kb) := (h1.2.1 1000 (by decide) 0 0).trans hL.2.2.1
  have h54 : W 1054 0 0 = nI (16 * hp Y) := (h1.2.1 1054 (by decide) 0 0).trans hL.2.2.2.2.2.2.2.1
  have n63 : ¬ W 6300 0 t = 0 := by
    rw [h63]
    intro q
    have := nI_inj (b := 0) (by omega) (by decide) q
    omega
  obtain ⟨g1, g2⟩ := grant_C (i := 17 * t + 10) (R := fun g => i2b (W 2300 0 g)) hkb hz0 hz hH.1 hH.2.1.1 (fun g hg => (hH.2.1.2.1 g hg).1) (fun g hg => ⟨_, Rm_mk h1.2.2.2.2.2.1 hg⟩)
  obtain ⟨s1, s2⟩ := gets_M (u := t) hkb hz0 hz h6 hH.1 hH.2.2.1 h10 h54
  by_cases hf : fi z (64 * kb) (hp Y) l = none
  · refine ⟨false, _, W, l, g1 hf, s1 hf, ?_⟩
    rw [if_neg (show ¬ false = true by decide)]
    exact RQ_give hT2 h1 h2 h4 h5 h61 ht hs n63 (gd_num _ _ _)
  · obtain ⟨V', c1, c2⟩ := g2 hf
    obtain ⟨W', m1, m2⟩ := s2 hf
    refine ⟨true, _, _, ins z (hp Y) l, c1, m1, ?_⟩
    rw [if_pos rfl]
    obtain ⟨n1, n2⟩ := ST_new h1 h3 hz0 hf c2 m2
    refine RQ_give hT2 n1 (Tm_fr c2.1 m2.1 (by decide) (by decide) h2) h4 (fun u hu q k hk => ?_) ((m2.1 1061 0 0 (by decide)).trans h61) ht ((m2.1 4700 0 t (by decide)).trans hs) (by rw [m2.1 6300 0 t (by decide)]; exact n63) (gd_new hkb hz0 hH.1 hf).1
    exact gd_mono (fun o ho => lv_ins ho) (Jr_fr m2.1 (by decide) (h5 u hu ((m2.1 1048 0 0 (by decide)).symm.trans q)) k hk)
theorem wl_L {kb T : Nat} {Y : HV} (hT2 : T < 1073741824) : ∀ (r k f f' : Nat) (l : List Ob) (V W : HV), k + r = nth Y → r < f → r < f' → RQ kb T Y l V W → W 1061 0 0 = -1 → ∃ V' W' l', (∀ K : HV → Option HV, f_X10_endSweep_L55 0 kb K f (nI k) V = K V') ∧ (∀ K : HV → Option HV, f_X12_sweep_L405 0 K f' (nI k) W = K W') ∧ RQ kb T Y l' V' W'
  | _, _, 0, _, _, _, _, _, hf, _, _, _ => absurd hf (by omega)
  | _, _, _, 0, _, _, _, _, _, hf, _, _ => absurd hf (by omega)
  | 0, k, f + 1, f' + 1, l, V, W, hk, _, _, h, _ => by
    obtain ⟨s1, s2, s3⟩ := ST_808 h.1
    refine ⟨V, W, l, fun K => ?_, fun K => ?_, h⟩
    · unfold f_X10_endSweep_L55
      rw [s1, if_pos (nI_le (by omega) (by omega))]
    · unfold f_X12_sweep_L405
      rw [s2, if_pos (nI_le (by omega) (by omega))]
  | r + 1, k, f + 1, f' + 1, l, V, W, hk, hf, hf', h, h61 => by
    obtain ⟨s1, s2, s3⟩ := ST_808 h.1
    have kn : k < nth Y := by omega
    have ik : inb (nI k) 6 := inb_nI (by omega) (by decide)
    have rr : Rt1 V W k := h.1.2.2.2.2.2.2.2.2.2.2.2.2.2.2.1 k (by rw [nth_LY h.1.2.1]; exact kn)
    have n1 : ¬ nI (nth Y) ≤ nI k := fun q => by have := (nI_leI (by omega) (by omega)).mp q; omega
    rcases rr.2.2.2.2.2.2.2.2.2.2.1 with ⟨q1, q2, z, z0, z1, z2, z3⟩ | ⟨q1, q2, q3⟩
    · obtain ⟨b, V1, W1, l1, c1, c2, c3, c4⟩ := wl_1 hT2 h h61 kn q2 z0 z1 z2
      obtain ⟨V', W', l', e1, e2, e3⟩ := wl_L hT2 r (k + 1) f f' l1 _ _ (by omega) (by omega) (by omega) c3 c4
      refine ⟨V', W', l', fun K => ?_, fun K => ?_, e3⟩
      · unfold f_X10_endSweep_L55
        rw [s1, if_neg n1, chk_t ik, jn_def, cl_nI (by omega), if_pos q1, chk_t ik, chk_t ik, z3, show f_X9_reg k 10 = 17 * k + 10 from reg_C' (d := 10) (by decide), c1, bnd_some, chk_t ik, lt_def]
        dsimp only
        unfold f_X9_becomeReady
        rw [lt_def, lt_def, lt_def, nI_1]
        exact e1 K
      · unfold f_X12_sweep_L405
        rw [s2, if_neg n1, chk_t ik, jn_def, cl_nI (by omega), if_pos q2, chk_t ik, z2, if_neg (nI_nle (by omega) (by omega)), chk_t ik, c2, bnd_some, jn_def]
        by_cases hb : b = true
        · rw [if_pos hb] at e2 ⊢
          dsimp only
          rw [chk_t ik, lt_def, chk_t ik, lt_def, lt_def, nI_1]
          exact e2 K
        · rw [if_neg hb] at e2 ⊢
          rw [lt_def, show f_X12_reg (nI k) 10 = nI (17 * k + 10) from reg_M' k 10, nothing_M (by omega), bnd_some]
          dsimp only
          rw [chk_t ik, lt_def, chk_t ik, lt_def, lt_def, nI_1]
          exact e2 K
    · obtain ⟨V', W', l', e1, e2, e3⟩ := wl_L hT2 r (k + 1) f f' l V W (by omega) (by omega) (by omega) h h61
      refine ⟨V', W', l', fun K => ?_, fun K => ?_, e3⟩
      · have n4 : ¬ V 711 k 0 = 4 := by
          rw [q1]
          rcases q3 with q | q | q | q <;> rw [q] <;> decide
        unfold f_X10_endSweep_L55
        rw [s1, if_neg n1, chk_t ik, jn_def, cl_nI (by omega), if_neg n4]
        dsimp only
        rw [lt_def, nI_1]
        exact e1 K
      · unfold f_X12_sweep_L405
        rw [s2, if_neg n1, chk_t ik, jn_def, cl_nI (by omega), q2]
        by_cases e : W 4700 0 k = 1
        · rw [if_pos e, chk_t ik, if_pos (show (0 : Int32) ≤ 0 by decide)]
          dsimp only
          rw [lt_def, nI_1]
          exact e2 K
        · rw [if_neg e]
          dsimp only
          rw [lt_def, nI_1]
          exact e2 K
/-! the sweep's last step -/
theorem sweep_end {kb T s : Nat} {Y : HV} {l : List Ob} {V W : HV} (hT2 : T < 1073741824) (h : RQ kb T Y l V W) (hs : s + 1 = 16 * kb) (h61 : W 1061 0 0 = nI (4 * s)) : ∃ V' W' l', f_X10_sweep kb 0 V = some V' ∧ f_X12_sweep 0 W = some W' ∧ RQ kb T Y l' V' W' := by
  obtain ⟨V1, W1, e1, e2, e3, e4, e5, e6, e7, e8, e9⟩ := sweep_mid h (by omega) h61
  obtain ⟨h1, h2, h3, h4, h5⟩ := id h
  have hL := h1.1
  have hkb := hL.2.1
  have hk1 := hL.1
  have hL6 := hL.2.2.2.2.1
  have h10 : W1 1000 0 0 = nI (1024 * kb) := (e4 1000 0 0 (by decide)).trans ((h1.2.1 1000 (by decide) 0 0).trans hL.2.2.1)
  obtain ⟨k1, k2, k3, k4, k5, k6, k7, k8, k9, k10, k11, k12, k13, k14⟩ := id h1
  obtain ⟨a1, ⟨b1, b2, b3, b4, b5⟩, ⟨c1, c2⟩, d, eRv⟩ := id k9
  obtain ⟨s1, s2, s3⟩ := ST_808 h1
  -- the class: registers and frames
  have aV2 : agr [307, 2400] V (sv V1 307 0 0 (nI (4 * s + 4))) := (e3.app (agr_sv _ _ _ _ _)).sub (by decide)
  have v24 : ∀ g, (sv V1 307 0 0 (nI (4 * s + 4))) 2400 0 g = V1 2400 0 g := fun g => sv_col (by decide)
  have mk1 : ∀ g, g < 64 * kb → V1 2400 0 g = mk (i2b (W1 2200 0 g)) (rvk l g) := fun g hg => by
    rw [Rm_mk e7 hg, e4 2300 0 g (by decide), eRv g hg]
  have hMk : Mk kb l (sv V1 307 0 0 (nI (4 * s + 4))) := fun g hg => ⟨_, (v24 g).trans (mk1 g hg)⟩
  have hC1 : f_X10_sweep kb 0 V = (bnd (f_X10_endSweep kb 0 (sv V1 307 0 0 (nI (4 * s + 4)))) fun p7 => some p7) := by
    rw [e1, lt_def, sv_at, ofNat_nI, if_neg (fun z => by have := (nI_ltI (by omega) (by omega)).mp z; omega)]
  have hcc : cC (sv V1 307 0 0 (nI (4 * s + 4))) = cC V := cC_fr aV2 (by decide)
  generalize sv V1 307 0 0 (nI (4 * s + 4)) = V2 at *
  have hD : ∀ t, t < nth Y → xN W 5000 t ≤ 16 := fun t ht => Nat.le_trans (k13 t ht).2.1 (hL.2.2.2.2.2.2.2.2.2.2 t ht).2.2.2.2.2
  have hdep : ∀ t, t < nth Y → V2 704 t 0 = nI (xN W 5000 t) := fun t ht => by
    rw [aV2 704 t 0 (by decide)]
    have rr := k14.2.1 t (by rw [nth_LY k2]; exact ht)
    rw [rr.1]; exact (k13 t ht).1
  obtain ⟨V3, p1, p2, p3, p4⟩ := tf_L (n := nth Y) (l := l) (D := fun t => xN W 5000 t) hkb hL6 hD (nth Y) 0 FU V2 (by omega) (FU_gt (by omega)) ((aV2 808 0 0 (by decide)).trans s1) hdep hMk
  -- the class: the list
  have hsn := (swn_le l).1
  generalize hV4 : sv (sv V3 307 0 0 (-1)) 306 0 0 (V 306 0 0 + 1) = V4
  have aV4 : agr [306, 307] V3 V4 := by rw [← hV4]; exact ((agr_sv _ _ _ _ _).app (agr_sv _ _ _ _ _)).sub (by decide)
  have aV24 : agr [0, 1, 2, 3, 4, 5, 306, 307, 2400] V V4 := ((aV2.app p2).app aV4).sub (by decide)
  have v25 : ∀ g, V4 2400 0 g = V1 2400 0 g := fun g => by rw [aV4 2400 0 g (by decide), p2 2400 0 g (by decide), v24]
  obtain ⟨V5, q1, q2, q3, q4, q5, q6⟩ := es_L hkb l (hp Y) FU (hld l) V4 (fun g => i2b (W1 2200 0 g)) (rvk l) a1 (fun g _ hg => by rw [aV24 2500 0 g (by decide), aV24 2600 0 g (by decide)]; exact b2 g hg) (fun g hg => (v25 g).trans (mk1 g hg)) ((aV24 305 0 0 (by decide)).trans b5) (by omega) (by have := FU_gt (k := 5000) (by decide); omega)
  have hES : f_X4_endSweep kb 0 0 V3 = some V5 := by
    unfold f_X4_endSweep
    rw [lt_def, lt_def, lt_def, jn_def, sv_col (show ¬ 306 = 307 by decide), p2 306 0 0 (by decide), aV2 306 0 0 (by decide), hV4, aV24 302 0 0 (by decide), b1]
    exact q1 _
  -- the reference
  have hRv1 : Rv kb l W1 := ⟨hk1, hkb, h10, fun g hg => by rw [e4 2300 0 g (by decide)]; exact eRv g hg⟩
  obtain ⟨W2, r1, r2, r3⟩ := al_L (kb := kb) (l := l) 582 0 FU W1 (by omega) (FU_gt (by omega)) hRv1
  have aW2 : agr [1061, 2200, 2400, 2500, 2600, 2700, 2800, 2900] W W2 := (e4.app r2).sub (by decide)
  have hlen := srt_len l _ a1
  obtain ⟨W3, t1, t2, t3, t4, t5⟩ := kp_L hkb l (hp Y) 0 0 FU W2 a1 (Nat.le_refl _) (fun i o hi => by
    rw [Nat.zero_add]
    unfold Rw
    rw [aW2 7600 0 i (by decide), aW2 7700 0 i (by decide), aW2 7800 0 i (by decide), aW2 7900 0 i (by decide)]
    exact c2 i o hi) (by rw [Nat.zero_add, aW2 1055 0 0 (by decide)]; exact c1) (by omega) (FU_gt (by omega))
  rw [Nat.zero_add] at t1
  generalize hW4 : sv (sv (sv W3 1055 0 0 (nI (sw l).length)) 1061 0 0 (-1)) 1062 0 0 (W 1062 0 0 + 1) = W4
  have aW4 : agr [1055, 1061, 1062] W3 W4 := by rw [← hW4]; exact (((agr_sv _ _ _ _ _).app (agr_sv _ _ _ _ _)).app (agr_sv _ _ _ _ _)).sub (by decide)
  have aW : agr [1055, 1061, 1062, 2200, 2300, 2400, 2500, 2600, 2700, 2800, 2900, 7600, 7700, 7800, 7900] W W4 := ((aW2.app t2).app aW4).sub (by decide)
  have aV : agr [0, 1, 2, 3, 4, 5, 305, 306, 307, 2400, 2500, 2600] V V5 := (aV24.app q2).sub (by decide)
  have hM1 : ∀ K : HV → Option HV, f_X12_sweep 0 W = K W4 → True := fun _ _ => trivial
  have hMs : f_X12_sweep 0 W = f_X12_sweep_L405 0 (fun V18 => some V18) FU 0 W4 := by
    unfold f_X12_sweep
    rw [h61, if_neg (m1_ne _ (by omega)), jn_def]
    refine (e2 _).trans ?_
    rw [h10, e6, dv16 (by omega), show 1024 * kb / 16 = 64 * kb by omega, if_pos (nI_le (by omega) (by omega)), jn_def]
    refine (r1 _).trans ?_
    rw [jn_def]
    refine (t1 _).trans ?_
    rw [lt_def, lt_def, lt_def, jn_def]
    have ex : (sv (sv W3 1055 0 0 (nI (sw l).length)) 1061 0 0 (-1)) 1062 0 0 = W 1062 0 0 := by
      rw [sv_col (by decide), sv_col (by decide), t2 1062 0 0 (by decide), aW2 1062 0 0 (by decide)]
    rw [ex, hW4]
  have hCs : f_X10_sweep kb 0 V = (bnd (f_X10_endSweep_L55 0 kb (fun V7 => some V7) FU 0 V5) fun p7 => some p7) := by
    rw [hC1]
    unfold f_X10_endSweep
    rw [jn_def]
    have := p1 (fun V3 => bnd (f_X4_endSweep kb 0 0 V3) fun p4 => jn (fun V7 => some V7) fun k5 => f_X10_endSweep_L55 0 kb k5 FU 0 p4)
    rw [show f_X10_endSweep_L2 0 kb (fun V3 => bnd (f_X4_endSweep kb 0 0 V3) fun p4 => jn (fun V7 => some V7) fun k5 => f_X10_endSweep_L55 0 kb k5 FU 0 p4) FU 0 V2 = _ from this]
    rw [hES, bnd_some, jn_def]
  -- the state
  have cm4 : cM W4 = cM W2 := by
    rw [cM_fr aW4 (by decide), cM_fr t2 (by decide)]
  have cm2 : ∀ i, i < 582 → cM W4 i = fil kb l (cM W i) := fun i hi => by
    rw [cm4, r3 i, if_pos (by omega), e5 i hi]
  have cv5 : cC V5 = cC V3 := by rw [cC_fr q2 (by decide), cC_fr aV4 (by decide)]
  have ok4 : okc W4 = okc W := okc_fr aW (by decide)
  have w61 : W4 1061 0 0 = -1 := by rw [← hW4, sv_col (by decide), sv_at]
  have hgs : ∀ i, i < 582 → gd Y (lv l) (cM W4 i) := fun i hi => by
    rw [cm2 i hi]
    exact gd_fl a1 (k10 i hi).2.1
  have hRm : Rm kb V5 W4 := by
    refine ⟨fun a ha => ?_, fun g hg => ?_⟩
    · rw [aV 2300 0 a (by decide), aW 2100 0 a (by decide)]; exact k6.1 a ha
    · show V5 2400 0 g = mk (i2b (W4 2200 0 g)) (i2b (W4 2300 0 g))
      rw [q5 g hg, aW4 2200 0 g (by decide), t2 2200 0 g (by decide), r2 2200 0 g (by decide), aW4 2300 0 g (by decide), t5 g, aW2 2300 0 g (by decide), eRv g hg]
  have hRQ : RQ kb T Y (sw l) V5 W4 := by
    refine ⟨⟨k1, LY_fr aW (by decide) k2, Rs_fr aV aW (by decide) (by decide) k3, Rl_fr aV aW (by decide) (by decide) k4, Rc_fr aV aW (by decide) (by decide) k5, hRm, Ri_fr aV aW (by decide) (by decide) k7, In_fr aW (by decide) k8, ?_, ?_, ?_, ?_, Thr_fr aW (by decide) k13, Rt_fr aV aW (by decide) (by decide) k14⟩, Tm_fr aV aW (by decide) (by decide) h2, fun s q1 q2 => absurd (w61.symm.trans q1).symm (m1_ne s q2), h4, fun t ht q k hk => ?_⟩
    · obtain ⟨n1, n2, n3⟩ := swn_le l
      refine ⟨srt_sw l _ a1, ⟨?_, fun g hg => ?_, ?_, ?_, ?_⟩, ⟨?_, fun k o hk => ?_⟩, ⟨?_, ?_, ?_, Or.inl w61⟩, fun g hg => ?_⟩
      · rw [aV 302 0 0 (by decide)]; exact b1
      · by_cases z : hp Y ≤ g
        · exact q4 g z hg
        · rw [(q3 g (by omega)).1, (q3 g (by omega)).2, aV24 2500 0 g (by decide), aV24 2600 0 g (by decide), (b2 g hg).1, (b2 g hg).2, lk_lo a1 (by omega), lk_lo (srt_sw l _ a1) (by omega)]
          exact ⟨rfl, rfl⟩
      · rw [aV 303 0 0 (by decide), n2]; exact b3
      · rw [aV 304 0 0 (by decide), n3]; exact b4
      · rw [q6]; congr 1; omega
      · rw [← hW4, sv_col (by decide), sv_col (by decide), sv_at]
      · rw [aW4 7600 0 k (by decide), aW4 7700 0 k (by decide), aW4 7800 0 k (by decide), aW4 7900 0 k (by decide)]
        have := t4 k o hk
        rw [Nat.zero_add] at this
        exact this
      · rw [q2 307 0 0 (by decide), ← hV4, sv_col (by decide), sv_at, w61]
      · rw [q2 306 0 0 (by decide), ← hV4, sv_at, ← hW4, sv_at, d.2.1]
      · rw [aV 308 0 0 (by decide), aW 1060 0 0 (by decide)]; exact d.2.2.1
      · rw [aW4 2300 0 g (by decide), t5 g, aW2 2300 0 g (by decide), eRv g hg, rvk_sw g l _ a1]
    · intro i hi
      rw [ok4, cv5]
      refine ⟨fun hok hx => ?_, gd_sw (hgs i hi), fun hno => ?_, fun y1 y2 => ?_⟩
      · rw [cm2 i hi, ← (k10 i hi).1 hok hx, ← hcc]
        have hnW := nth_LY k2
        rcases hok with ⟨o1, o2⟩ | ⟨o1, o2, o3, o4⟩
        · have := p3 (i / 17) (i % 17) (by rw [← hnW]; exact o2) (Nat.mod_lt _ (by decide))
          rw [show 17 * (i / 17) + i % 17 = i by omega, if_pos (Nat.zero_le _)] at this
          exact this
        · have o4' : (i - 102) % 80 / 5 < xN W 5000 ((i - 102) / 80) := o4
          have := p4 ((i - 102) / 80) ((i - 102) % 80) (by rw [← hnW]; exact o3) (by omega)
          rw [show 102 + 80 * ((i - 102) / 80) + (i - 102) % 80 = i by omega, if_pos (Nat.zero_le _)] at this
          exact this
      · rw [cm2 i hi, fil_un ((k10 i hi).2.2.1 hno)]
        exact (k10 i hi).2.2.1 hno
      · rw [cm2 i hi, (k10 i hi).2.2.2 y1 y2, fil_nm]
    · intro q hq
      have := e9 q (by omega)
      rw [show W4 2100 0 = W1 2100 0 from funext fun j => by rw [aW4 2100 0 j (by decide), t2 2100 0 j (by decide), r2 2100 0 j (by decide)], show W4 2200 0 = W1 2200 0 from funext fun j => by rw [aW4 2200 0 j (by decide), t2 2200 0 j (by decide), r2 2200 0 j (by decide)]]
      exact this
    · intro u f hu hf
      rw [xN_fr aW (by decide)] at hf
      have hf16 : f < 16 := Nat.lt_of_lt_of_le hf (hD u hu)
      have ek := cm2 (102 + 80 * u + 5 * f + 1) (by omega)
      rw [aV 206 _ 0 (by decide), aV 205 _ 0 (by decide), aW 6400 0 _ (by decide), aW 6500 0 _ (by decide), aW 6600 0 _ (by decide), show W4 2600 0 (102 + 80 * u + 5 * f + 1) = W 2600 0 (102 + 80 * u + 5 * f + 1) from congrArg (fun c : Cp => c.2.2.1) ek, show W4 2400 0 (102 + 80 * u + 5 * f + 1) = W 2400 0 (102 + 80 * u + 5 * f + 1) from congrArg (fun c : Cp => c.1) ek]
      exact k12 u f hu hf
    · rw [lv_sw]
      exact hgs _ (by omega)
  obtain ⟨V', W', l', x1, x2, x3⟩ := wl_L hT2 (nth Y) 0 FU FU (sw l) V5 W4 (by omega) (FU_gt (by omega)) (FU_gt (by omega)) hRQ w61
  refine ⟨V', W', l', ?_, ?_, x3⟩
  · rw [hCs, show f_X10_endSweep_L55 0 kb (fun V7 => some V7) FU 0 V5 = _ from x1 (fun V7 => some V7), bnd_some]
  · rw [hMs]; exact x2 _
theorem sweep_all {kb T : Nat} {Y : HV} {l : List Ob} {V W : HV} (hT2 : T < 1073741824) (h : RQ kb T Y l V W) : ∃ V' W' l', f_X10_sweep kb 0 V = some V' ∧ f_X12_sweep 0 W = some W' ∧ RQ kb T Y l' V' W' := by
  rcases h.1.2.2.2.2.2.2.2.2.1.2.2.2.1.2.2.2 with q | ⟨s, hs, q⟩
  · exact sweep_begin h q
  · by_cases e : s + 1 < 16 * kb
    · obtain ⟨V', W', x1, x2, x3⟩ := sweep_on h e q
      exact ⟨V', W', l, x1, x2, x3⟩
    · exact sweep_end hT2 h (by omega) q
