/-! the service begins -/
theorem ans_M {t : Nat} {v : Int32} {W : HV} (h80 : W 1080 0 0 = nI t) (ht : t < 6) : f_X12_answers 0 v W = some (kM W (17 * t + 10) (nm v)) := by
  have M10 : f_X12_reg (nI t) 10 = nI (17 * t + 10) := reg_M' t 10
  unfold f_X12_answers
  rw [lt_def, h80, M10, number_M (by omega), bnd_some]
theorem rgS_t {t k : Nat} (hk : k < 16) (h : ¬ kpt k) : rgS t 0 (17 * t + k) = true := by
  unfold kpt at h
  unfold rgS
  rw [rg2_t (by omega) (by omega), decide_eq_false (by omega), decide_eq_false (by omega), decide_eq_false (by omega), decide_eq_false (by omega)]
  rfl
theorem rgS_f {t i : Nat} (h : ¬ (17 * t ≤ i ∧ i < 17 * t + 16) ∨ i = 17 * t + 2 ∨ i = 17 * t + 3 ∨ i = 17 * t + 8 ∨ i = 17 * t + 9) : rgS t 0 i = false := by
  unfold rgS
  rcases h with h | h | h | h | h
  · rw [rg2_f (by omega)]; rfl
  · rw [decide_eq_true h]; simp
  · rw [decide_eq_true h]; simp
  · rw [decide_eq_true h]; simp
  · rw [decide_eq_true h]; simp
theorem srv_begin {kb T Tw t : Nat} {Y : HV} {l : List Ob} {V W : HV} {x : Int32} (h : OK (17 * t) kb T Tw t Y l V W) : ∃ W15, f_X12_service 0 x W = (bnd (f_X12_serves 0 x (cM W (17 * t + 10)).1 (cM W (17 * t + 11)).1 (cM W (17 * t + 12)).1 W15) fun p16 =>
  lt (f_X12_pcc 0 p16) fun v17 =>
  bnd (f_X12_filter 0 v17 p16) fun p18 =>
  lt (f_X12_reg (p18 1080 0 0) 2) fun v19 =>
  bnd (f_X12_filter 0 v19 p18) fun p20 =>
  lt (f_X12_reg (p20 1080 0 0) 3) fun v21 =>
  bnd (f_X12_filter 0 v21 p20) fun p22 =>
  lt (f_X12_reg (p22 1080 0 0) 8) fun v23 =>
  bnd (f_X12_filter 0 v23 p22) fun p24 =>
  lt (f_X12_reg (p24 1080 0 0) 9) fun v25 =>
  bnd (f_X12_filter 0 v25 p24) fun p26 =>
  some p26) ∧ QS kb T Tw t Y l (sv V 815 0 0 (V 815 0 0 + 1)) W15 ∧ cM W15 584 = cM W (17 * t + 10) ∧ cM W15 (17 * t + 10) = nm 0 := by
  have h6 := OK_t6 h
  have w80 := h.2.2.2.2.1
  have o1 := OK_cnt (c := 815) (d := 1051) h (Or.inr (Or.inr ⟨rfl, rfl⟩))
  have M10 : f_X12_reg (nI t) 10 = nI (17 * t + 10) := reg_M' t 10
  have M11 : f_X12_reg (nI t) 11 = nI (17 * t + 11) := reg_M' t 11
  have M12 : f_X12_reg (nI t) 12 = nI (17 * t + 12) := reg_M' t 12
  have cW1 : cM (sv W 1051 0 0 (W 1051 0 0 + 1)) = cM W := cM_fr (agr_sv W 1051 0 0 _) (by decide)
  have cV1 : cC (sv V 815 0 0 (V 815 0 0 + 1)) = cC V := cC_fr (agr_sv V 815 0 0 _) (by decide)
  have s80 : (sv W 1051 0 0 (W 1051 0 0 + 1)) 1080 0 0 = nI t := o1.2.2.2.2.1
  unfold f_X12_service
  rw [lt_def, lt_def, s80, M10, chk_t (inb_nI (by omega) (by decide)), lt_def, lt_def, M11, chk_t (inb_nI (by omega) (by decide)), lt_def, lt_def, M12, chk_t (inb_nI (by omega) (by decide)), lt_def, lt_def, cl_nI (show 17 * t + 10 < 2147483648 by omega), cl_nI (show 17 * t + 11 < 2147483648 by omega), cl_nI (show 17 * t + 12 < 2147483648 by omega), cM_0 (congrFun cW1 (17 * t + 10)), cM_0 (congrFun cW1 (17 * t + 11)), cM_0 (congrFun cW1 (17 * t + 12)), show (584 : Int32) = nI 584 from rfl, copy_M (by omega) (by decide), bnd_some, jn_def, cW1]
  generalize sv W 1051 0 0 (W 1051 0 0 + 1) = W1 at o1 cW1 s80 ⊢
  generalize sv V 815 0 0 (V 815 0 0 + 1) = V1 at o1 cV1 ⊢
  have m1 := kM_U W1 584 (cM W (17 * t + 10))
  obtain ⟨W15, n1, n2⟩ := nL_srv h6 16 0 FU (kM W1 584 (cM W (17 * t + 10))) (by omega) (FU_gt (by omega)) ((UM_80 m1).trans s80)
  rw [m1.1, cW1] at n2
  have m2 := m1.trans n2
  have tW : ∀ k, k < 17 → cM W15 (17 * t + k) = if k = 2 ∨ k = 3 ∨ k = 8 ∨ k = 9 ∨ k = 16 then cM W (17 * t + k) else nm 0 := by
    intro k hk
    rw [m2.1]
    by_cases e : k = 2 ∨ k = 3 ∨ k = 8 ∨ k = 9 ∨ k = 16
    · rw [if_pos e, clr_f (rgS_f (by omega)), up_ne (by omega)]
    · rw [if_neg e, clr_t (rgS_t (by omega) e)]
  refine ⟨W15, ?_, ?_, ?_, ?_⟩
  · exact n1 _
  · obtain ⟨V2, a1, a2⟩ := others_C (kb := kb) (t := t) (UC_rfl V1)
    have a3 := ucy (i := 17 * t + 10) (y := nm 0) a2
    have a4 := ucy (i := 17 * t + 11) (y := nm 0) a3
    have tV : ∀ k, k < 17 → (up (up (clr (rg2 t 12 16) (clr (rg2 t 4 8) (clr (rg2 t 0 2) (cC V1)))) (17 * t + 10) (nm 0)) (17 * t + 11) (nm 0)) (17 * t + k) = if k = 2 ∨ k = 3 ∨ k = 8 ∨ k = 9 ∨ k = 16 then cM W (17 * t + k) else nm 0 := by
      intro k hk
      by_cases e : k = 2 ∨ k = 3 ∨ k = 8 ∨ k = 9 ∨ k = 16
      · rw [if_pos e, up_ne (by omega), up_ne (by omega), clr_f (rg2_f (by omega)), clr_f (rg2_f (by omega)), clr_f (rg2_f (by omega)), cV1]
        exact OK_cap h hk (by omega)
      · rw [if_neg e]
        by_cases e11 : k = 11
        · rw [e11, up_at]
        rw [up_ne (by omega)]
        by_cases e10 : k = 10
        · rw [e10, up_at]
        rw [up_ne (by omega)]
        by_cases q12 : 12 ≤ k
        · exact clr_t (rg2_t (by omega) (by omega))
        rw [clr_f (rg2_f (by omega))]
        by_cases q4 : 4 ≤ k ∧ k < 8
        · exact clr_t (rg2_t (by omega) (by omega))
        rw [clr_f (rg2_f (by omega))]
        exact clr_t (rg2_t (by omega) (by omega))
    refine ⟨_, cC V1, ST_reg (x' := 1000) (g := cM W15) o1.1 o1.2.2.2.2.2 a4 ⟨rfl, m2.2⟩ (fun i hi hni => ⟨?_, ?_⟩) (fun k hk => ⟨fun _ => by rw [tV k hk, tW k hk], ?_⟩) ?_ (Or.inr (Or.inl ⟨by omega, by omega⟩)), Tm_fr a4.2 m2.2 (by decide) (by decide) o1.2.1, Jm_fr m2.2 (by decide) o1.2.2.2.1, (UM_80 m2).trans s80, o1.2.2.2.2.2, ⟨rfl, fun c o j hc => (a4.2 c o j hc).symm⟩, fun i hi hni => ?_, fun k hkp => ?_, fun k hk hnk hk10 => ?_⟩
    · rw [up_ne (by omega), up_ne (by omega), clr_f (rg2_f (by omega)), clr_f (rg2_f (by omega)), clr_f (rg2_f (by omega))]
    · rw [m2.1, clr_f (rgS_f (by omega)), up_ne (by omega), cW1]
    · rw [tW k hk]
      by_cases e : k = 2 ∨ k = 3 ∨ k = 8 ∨ k = 9 ∨ k = 16
      · rw [if_pos e]; exact OK_gd h hk
      · rw [if_neg e]; exact gd_num _ _ _
    · have z := tW 0 (by decide)
      rw [if_neg (by omega), Nat.add_zero] at z
      exact z
    · rw [a4.1, up_ne (by omega), up_ne (by omega), clr_f (rg2_f (by omega)), clr_f (rg2_f (by omega)), clr_f (rg2_f (by omega))]
    · unfold kpt at hkp
      have hk : k < 17 := by omega
      rw [tW k hk, if_pos hkp, cV1]
      exact OK_cap h hk (by omega)
    · unfold kpt at hnk
      rw [tW k hk, if_neg hnk]
  · rw [m2.1, clr_f (rgS_f (by omega)), up_at]
  · rw [tW 10 (by decide), if_neg (by omega)]
/-! yield, sweep, number -/
theorem op_yield {kb T Tw t : Nat} {Y : HV} {l : List Ob} {V W : HV} (hT1 : Tw ≤ T) (hT2 : T < 2147483648) (h : QS kb T Tw t Y l V W) : QR kb T t Y (kC (sv V 811 0 0 (-1)) (17 * t + 10) (nm 0)) (kM (sv W 1048 0 0 (-1)) (17 * t + 10) (nm 0)) := by
  refine QR_num (l := l) (QS_col h (agr_sv V 811 0 0 _) (agr_sv W 1048 0 0 _) (by decide) (by decide) (fun V0 hu h1 h2 h4 => ?_))
  have aV : agr [811] V0 (mrg V0 (sv V 811 0 0 (-1))) := mrg_agr (f := cC V) ⟨rfl, hu⟩ (agr_sv V 811 0 0 _)
  have aW : agr [1048] W (sv W 1048 0 0 (-1)) := agr_sv W 1048 0 0 _
  have hm1 : ∀ c, c < 6 → ¬ (-1 : Int32) = nI c := fun c hc q => m1_ne c (by omega) q.symm
  have e811 : (mrg V0 (sv V 811 0 0 (-1))) 811 0 0 = -1 := by rw [mrg_ge (by decide), sv_at]
  refine ⟨ST_thr h1 (aV.sub (by decide)) (aW.sub (by decide)) ?_ (Thr_fr aW (by decide) h1.2.2.2.2.2.2.2.2.2.2.2.2.1) ?_, ?_, Jm_fr aW (by decide) h4⟩
  · obtain ⟨s1, s2, s3, s4, s5, s6, s7, s8, s9⟩ := h1.2.2.1
    unfold Rs
    rw [aV 807 0 0 (by decide), aV 808 0 0 (by decide), aV 809 0 0 (by decide), aV 810 0 0 (by decide), e811, aV 813 0 0 (by decide), aV 814 0 0 (by decide), aV 815 0 0 (by decide), aV 816 0 0 (by decide), aW 1018 0 0 (by decide), aW 1019 0 0 (by decide), aW 1017 0 0 (by decide), aW 1047 0 0 (by decide), sv_at, aW 1049 0 0 (by decide), aW 1050 0 0 (by decide), aW 1051 0 0 (by decide), aW 1052 0 0 (by decide)]
    exact ⟨s1, s2, s3, s4, rfl, s6, s7, s8, s9⟩
  · obtain ⟨z1, z2, z3, z4, z5⟩ := h1.2.2.2.2.2.2.2.2.2.2.2.2.2
    have hn : nth (sv W 1048 0 0 (-1)) = nth W := nth_fr aW (by decide)
    refine ⟨fun u hu => (aV 700 u 0 (by decide)).trans (z1 u hu), fun u hu => Rt1_fr aV aW (by decide) (by decide) (z2 u (by rw [← hn]; exact hu)), fun u v hu hv => ?_, fun u v hu hv q1 q2 => ?_, fun c hc q => ?_⟩
    · rw [aV 718 u 0 (by decide), aV 718 v 0 (by decide), aW 5900 0 u (by decide), aW 5900 0 v (by decide)]
      exact z3 u v (by rw [← hn]; exact hu) (by rw [← hn]; exact hv)
    · rw [aV 714 u 0 (by decide), aV 714 v 0 (by decide), aW 6200 0 u (by decide), aW 6200 0 v (by decide)]
      rw [aW 4700 0 u (by decide)] at q1
      rw [aW 4700 0 v (by decide)] at q2
      exact z4 u v (by rw [← hn]; exact hu) (by rw [← hn]; exact hv) q1 q2
    · rw [sv_at] at q
      rw [hn, nth_LY h1.2.1] at hc
      exact absurd q (hm1 c (Nat.lt_of_lt_of_le hc h1.1.2.2.2.2.1))
  · obtain ⟨a1, a2, a3, a4, a5⟩ := Tm_up h2 hT1 hT2
    have hn : nth (sv W 1048 0 0 (-1)) = nth W := nth_fr aW (by decide)
    unfold Tm
    rw [hn, aW 1047 0 0 (by decide), sv_at, aW 1053 0 0 (by decide)]
    refine ⟨a1, fun u hu => ?_, Or.inl rfl, fun u hu q => ?_, a5⟩
    · rw [aV 718 u 0 (by decide), aW 5900 0 u (by decide)]; exact a2 u hu
    · rw [aW 4700 0 u (by decide)] at q
      rw [aV 714 u 0 (by decide), aW 6200 0 u (by decide)]; exact a4 u hu q
theorem ST_hp {x kb : Nat} {Y : HV} {l : List Ob} {V V' W W' : HV} (h : ST x kb Y l V W) (hV : agr [306, 307, 308] V V') (hW : agr [1060, 1061, 1062] W W') (hS : HpS kb V' W') : ST x kb Y l V' W' := by
  obtain ⟨h1, h2, h3, h4, h5, h6, h7, h8, h9, h10, h11, h12, h13, h14⟩ := h
  refine ⟨h1, LY_fr hW (by decide) h2, Rs_fr hV hW (by decide) (by decide) h3, Rl_fr hV hW (by decide) (by decide) h4, Rc_fr hV hW (by decide) (by decide) h5, Rm_fr hV hW (by decide) (by decide) h6, Ri_fr hV hW (by decide) (by decide) h7, In_fr hW (by decide) h8, ?_, Cps_fr hV hW (by decide) (by decide) h10, Mgd_fr hW (by decide) h11, Frm_fr hV hW (by decide) (by decide) h12, Thr_fr hW (by decide) h13, Rt_fr hV hW (by decide) (by decide) h14⟩
  obtain ⟨a1, ⟨b1, b2, b3, b4, b5⟩, ⟨c1, c2⟩, d, e⟩ := h9
  refine ⟨a1, ⟨?_, fun g hg => ?_, ?_, ?_, ?_⟩, ⟨?_, fun k o hk => ?_⟩, hS, fun g hg => ?_⟩
  · rw [hV 302 0 0 (by decide)]; exact b1
  · rw [hV 2500 0 g (by decide), hV 2600 0 g (by decide)]; exact b2 g hg
  · rw [hV 303 0 0 (by decide)]; exact b3
  · rw [hV 304 0 0 (by decide)]; exact b4
  · rw [hV 305 0 0 (by decide)]; exact b5
  · rw [hW 1055 0 0 (by decide)]; exact c1
  · rw [hW 7600 0 k (by decide), hW 7700 0 k (by decide), hW 7800 0 k (by decide), hW 7900 0 k (by decide)]; exact c2 k o hk
  · rw [hW 2300 0 g (by decide)]; exact e g hg
theorem op_sweep {kb T Tw t : Nat} {Y : HV} {l : List Ob} {V W : HV} (hT1 : Tw ≤ T) (hT2 : T < 2147483648) (h : QS kb T Tw t Y l V W) : QR kb T t Y (kC (sv V 308 0 0 (b2i true)) (17 * t + 10) (nm 0)) (kM (sv W 1060 0 0 (b2i true)) (17 * t + 10) (nm 0)) := by
  refine QR_num (l := l) (QS_col h (agr_sv V 308 0 0 _) (agr_sv W 1060 0 0 _) (by decide) (by decide) (fun V0 hu h1 h2 h4 => ?_))
  have aV : agr [308] V0 (mrg V0 (sv V 308 0 0 (b2i true))) := mrg_agr (f := cC V) ⟨rfl, hu⟩ (agr_sv V 308 0 0 _)
  have aW : agr [1060] W (sv W 1060 0 0 (b2i true)) := agr_sv W 1060 0 0 _
  refine ⟨ST_hp h1 (aV.sub (by decide)) (aW.sub (by decide)) ?_, Tm_fr aV aW (by decide) (by decide) (Tm_up h2 hT1 hT2), Jm_fr aW (by decide) h4⟩
  obtain ⟨s1, s2, s3, s4⟩ := h1.2.2.2.2.2.2.2.2.1.2.2.2.1
  unfold HpS
  rw [aV 307 0 0 (by decide), aV 306 0 0 (by decide), mrg_ge (show ¬ 308 < 6 by decide), sv_at, aW 1061 0 0 (by decide), aW 1062 0 0 (by decide), sv_at]
  exact ⟨s1, s2, rfl, s4⟩
theorem op_num {kb T Tw t : Nat} {Y : HV} {l : List Ob} {V W : HV} {v : Int32} (hT1 : Tw ≤ T) (hT2 : T < 2147483648) (h : QS kb T Tw t Y l V W) : QR kb T t Y (kC V (17 * t + 10) (nm v)) (kM W (17 * t + 10) (nm v)) := QR_num (QS_up h hT1 hT2)
