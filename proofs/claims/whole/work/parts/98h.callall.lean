/-! calls -/
theorem sh4 {k e : Nat} (hk : k < 8) (he : e < 8) : nI (16 * k + e) >>> ((4 : Int32) &&& 31) = nI k ∧ nI (16 * k + e) &&& 15 = nI e := by
  have key : ∀ n, n < 128 → nI n >>> ((4 : Int32) &&& 31) = nI (n / 16) ∧ nI n &&& 15 = nI (n % 16) := by decide +kernel
  have := key (16 * k + e) (by omega)
  rw [show (16 * k + e) / 16 = k by omega, show (16 * k + e) % 16 = e by omega] at this
  exact this
theorem OK_two {x kb T Tw t : Nat} {Y : HV} {l : List Ob} {V W : HV} {a b : Int32} (h : OK x kb T Tw t Y l V W) : OK x kb T Tw t Y l (kC (kC V (17 * t + 10) (nm a)) (17 * t + 11) (nm b)) (kM (kM W (17 * t + 10) (nm a)) (17 * t + 11) (nm b)) := by
  have h6 := OK_t6 h
  have u := ucy (i := 17 * t + 11) (y := nm b) (kC_U V (17 * t + 10) (nm a))
  have m := mcy (i := 17 * t + 11) (y := nm b) (kM_U W (17 * t + 10) (nm a))
  refine OK_reg h u m (fun i hi hn => ?_) (fun k hk => ?_) ?_ (Or.inl rfl)
  · rw [up_ne (by omega), up_ne (by omega), up_ne (by omega), up_ne (by omega)]
    exact ⟨rfl, rfl⟩
  · by_cases e1 : k = 11
    · subst e1
      rw [up_at, up_at]
      exact ⟨fun _ => rfl, gd_num _ _ _⟩
    · have f11 : ∀ f : Nat → Cp, up (up f (17 * t + 10) (nm a)) (17 * t + 11) (nm b) (17 * t + k) = up f (17 * t + 10) (nm a) (17 * t + k) := fun f => up_ne (by omega)
      rw [f11, f11]
      by_cases e2 : k = 10
      · subst e2
        rw [up_at, up_at]
        exact ⟨fun _ => rfl, gd_num _ _ _⟩
      · rw [up_ne (by omega), up_ne (by omega)]
        exact ⟨fun q => OK_cap h hk q, h.2.2.1 k hk⟩
  · rw [up_ne (by omega), up_ne (by omega)]
    exact OK_0 h
theorem OK_stk {x kb T Tw t : Nat} {Y : HV} {l : List Ob} {V W : HV} (h : OK x kb T Tw t Y l V W) : ∃ b g, W 5600 0 t = nI (16 * b) ∧ W 5800 0 t = nI (16 * g) ∧ V 707 t 0 = nI (16 * b) ∧ V 708 t 0 = nI (16 * g) ∧ b = gN Y 5600 t ∧ b ≤ g ∧ g ≤ gN Y 5700 t ∧ gN Y 5700 t < 64 * kb ∧ kb ≤ 32 := by
  have r := OK_Rt1 h
  have a := OK_Thr h t h.2.2.2.2.2
  have hL := h.1.1
  have y := hL.2.2.2.2.2.2.2.2.2.2 t h.2.2.2.2.2
  have e56 : W 5600 0 t = nI (16 * gN Y 5600 t) := (h.1.2.1 5600 (by decide) 0 t).trans y.1
  refine ⟨gN Y 5600 t, gN W 5800 t, e56, a.2.2.1, r.2.2.2.1.trans e56, r.2.2.2.2.1.trans a.2.2.1, rfl, a.2.2.2.1, a.2.2.2.2.1, ?_, hL.2.1⟩
  exact Nat.lt_of_le_of_lt y.2.2.2.1 hL.2.2.2.2.2.2.2.2.1
theorem Jm_mem {Y : HV} {l : List Ob} {W W' : HV} (h : Jm Y l W) (hs : Msub W W') (ha : agr [2100, 2200] W W') : Jm Y l W' := Jm_sub hs (ha 1061 0 0 (by decide)) h
theorem gd_cd {Y : HV} {l : List Ob} {k : Nat} {x : Int32} {kb : Nat} (hL : Lay kb Y) (hk : k < ncp Y) : gd Y l (x, nI (16 * gN Y 4000 k), nI (16 * gN Y 4200 k), 77, 0, true) := by
  have y := hL.2.2.2.2.2.2.2.2.2.1 k hk
  have q2 := hL.2.2.2.2.2.2.2.2.1
  have q3 := hL.2.1
  refine ⟨by show (77 : Int32) &&& 255 = 77; decide, by show (0 : Int32) &&& 255 = 0; decide, fun _ => ⟨fun q4 => absurd q4 (by show ¬ (0 : Int32) = 4; decide), fun _ => ?_⟩⟩
  refine Or.inr (Or.inr (Or.inl ⟨k, hk, ?_, ?_, show sub 77 77 by unfold sub; decide⟩))
  · show 16 * gN Y 4000 k ≤ uN (nI (16 * gN Y 4000 k)); rw [uN_nI (by omega)]; omega
  · show uN (nI (16 * gN Y 4200 k)) ≤ 16 * gN Y 4200 k; rw [uN_nI (by omega)]; omega
theorem gd_gl {Y : HV} {l : List Ob} {k : Nat} {x : Int32} {kb : Nat} (hL : Lay kb Y) (hk : k < ncp Y) : gd Y l (x, nI (16 * gN Y 4200 k), nI (16 * gN Y 4300 k), 91, 0, true) := by
  have y := hL.2.2.2.2.2.2.2.2.2.1 k hk
  have q2 := hL.2.2.2.2.2.2.2.2.1
  have q3 := hL.2.1
  refine ⟨by show (91 : Int32) &&& 255 = 91; decide, by show (0 : Int32) &&& 255 = 0; decide, fun _ => ⟨fun q4 => absurd q4 (by show ¬ (0 : Int32) = 4; decide), fun _ => ?_⟩⟩
  refine Or.inr (Or.inr (Or.inr (Or.inl ⟨k, hk, ?_, ?_, show sub 91 91 by unfold sub; decide⟩)))
  · show 16 * gN Y 4200 k ≤ uN (nI (16 * gN Y 4200 k)); rw [uN_nI (by omega)]; omega
  · show uN (nI (16 * gN Y 4300 k)) ≤ 16 * gN Y 4300 k; rw [uN_nI (by omega)]; omega
theorem gd_sk {Y : HV} {l : List Ob} {t m : Nat} {x : Int32} (ht : t < nth Y) (h1 : gN Y 5600 t ≤ m) (h2 : m ≤ gN Y 5700 t) (h3 : gN Y 5700 t < 2048) : gd Y l (x, nI (16 * gN Y 5600 t), nI (16 * m), 155, 0, true) := by
  refine ⟨by show (155 : Int32) &&& 255 = 155; decide, by show (0 : Int32) &&& 255 = 0; decide, fun _ => ⟨fun q4 => absurd q4 (by show ¬ (0 : Int32) = 4; decide), fun _ => ?_⟩⟩
  refine Or.inr (Or.inr (Or.inr (Or.inr (Or.inl ⟨t, ht, ?_, ?_, show sub 155 155 by unfold sub; decide⟩))))
  · show 16 * gN Y 5600 t ≤ uN (nI (16 * gN Y 5600 t)); rw [uN_nI (by omega)]; omega
  · show uN (nI (16 * m)) ≤ 16 * gN Y 5700 t; rw [uN_nI (by omega)]; omega
theorem gd_rt {Y : HV} {l : List Ob} : gd Y l rtc := ⟨by show (0 : Int32) &&& 255 = 0; decide, by show (5 : Int32) &&& 255 = 5; decide, fun _ => ⟨fun q4 => absurd q4 (by show ¬ (5 : Int32) = 4; decide), fun q => absurd q (by show ¬ uN 0 < uN 0; omega)⟩⟩
theorem call_all {kb T Tw t k e : Nat} {Y : HV} {l : List Ob} {V W : HV} (h : OK (17 * t) kb T Tw t Y l V W) (hk : k < ncp Y) (he : e < xN Y 4400 k) (hs : stk (cM W (17 * t + 2)) (W 5600 0 t) (W 5800 0 t)) : ∃ V' W', f_X2_call kb 0 t (nI (16 * k + e)) V = some (0, V') ∧ clt (nI (16 * k + e)) W = some W' ∧ OK (17 * t) kb T Tw t Y l V' W' := by
  have h6 := OK_t6 h
  have h80 := h.2.2.2.2.1
  obtain ⟨h1, h2, h3, h4, h5, hn⟩ := id h
  have hL := h1.1
  obtain ⟨b, g, a1, a2, a3, a4, a5, a6, a7, a8, a9⟩ := OK_stk h
  have r1 := OK_Rt1 h
  have hT := OK_Thr h t hn
  have hcp : cC V (17 * t + 2) = cM W (17 * t + 2) := OK_cap h (by decide) (by omega)
  rw [a1, a2] at hs
  have hsC := (stk_C (kb := kb) (by omega) (by omega) hcp a3 a4).mpr hs
  obtain ⟨m, m1, m2, m3, m4⟩ := stk_n (by omega) (by omega) hs
  have hk8 : k < 8 := Nat.lt_of_lt_of_le hk hL.2.2.2.2.2.2.1
  have hncp : k < ncp W := by rw [ncp_LY h1.2.1]; exact hk
  obtain ⟨c1, c2, c3, c4, c5, xx, x1, x2, x3⟩ := h1.2.2.2.2.1 k hncp
  have hxx : xN Y 4400 k = xx := by
    unfold xN
    rw [← h1.2.1 4400 (by decide) 0 k, x2, cl_nI (by omega)]
  have he8 : e < 8 := by omega
  have hexx : e < xx := by omega
  obtain ⟨sh1, sh2⟩ := sh4 hk8 he8
  have hdd := hT.1
  have hdm := hT.2.1
  have hy := hL.2.2.2.2.2.2.2.2.2.2 t hn
  have hm16 := hy.2.2.2.2.2
  have e51 : W 5100 0 t = nI (xN Y 5100 t) := (h1.2.1 5100 (by decide) 0 t).trans hy.2.2.2.2.1
  generalize hDD : xN W 5000 t = dd at hdd hdm
  generalize hMM : xN Y 5100 t = mm at hdm hm16 e51
  have R10 : f_X9_reg t 10 = 17 * t + 10 := reg_C' (d := 10) (by decide)
  have R11 : f_X9_reg t 11 = 17 * t + 11 := reg_C' (d := 11) (by decide)
  have R2 : f_X9_reg t 2 = 17 * t + 2 := reg_C' (d := 2) (by decide)
  have M10 : f_X12_reg (nI t) 10 = nI (17 * t + 10) := reg_M' t 10
  have M11 : f_X12_reg (nI t) 11 = nI (17 * t + 11) := reg_M' t 11
  have M2 : f_X12_reg (nI t) 2 = nI (17 * t + 2) := reg_M' t 2
  have i6 : inb (nI t) 6 := inb_nI h6 (by decide)
  unfold f_X2_call clt
  rw [lt_def, hsC, if_pos rfl, sh1, sh2, cpAt_some h1.2.2.1 h1.2.2.2.2.2.2.2.1 hncp, bnd_some, jn_def, onn_some, chk_t hk8, lt_def, left_C (r1.1.trans hdd) (r1.2.1.trans e51) hdm hm16, h80, chk_t i6, chk_t i6, cl_nI (by omega), hdd, e51]
  by_cases hlt : dd < mm
  · rw [decide_eq_true hlt, if_pos rfl, if_neg (show ¬ nI dd = nI mm from fun q => by have := nI_inj (by omega) (by omega) q; omega), lt_def, lt_def, lt_def, R2, V0_cap hcp, m1]
    have o1 := OK_cnt (c := 814) (d := 1050) h (Or.inr (Or.inl ⟨rfl, rfl⟩))
    have p50 : (sv W 1050 0 0 (W 1050 0 0 + 1)) 5000 0 t = nI dd := (sv_col (by decide)).trans hdd
    have p80 : (sv W 1050 0 0 (W 1050 0 0 + 1)) 1080 0 0 = nI t := o1.2.2.2.2.1
    have cm1 : cM (sv W 1050 0 0 (W 1050 0 0 + 1)) = cM W := cM_fr (agr_sv W 1050 0 0 _) (by decide)
    have aW1 : agr [1050] W (sv W 1050 0 0 (W 1050 0 0 + 1)) := agr_sv W 1050 0 0 _
    have aV1 : agr [814] V (sv V 814 0 0 (V 814 0 0 + 1)) := agr_sv V 814 0 0 _
    have q704 : (sv V 814 0 0 (V 814 0 0 + 1)) 704 t 0 = nI dd := (sv_col (by decide)).trans (r1.1.trans hdd)
    have q705 : (sv V 814 0 0 (V 814 0 0 + 1)) 705 t 0 = nI mm := (sv_col (by decide)).trans (r1.2.1.trans e51)
    have p58 : (sv W 1050 0 0 (W 1050 0 0 + 1)) 5800 0 t = nI (16 * g) := (sv_col (by decide)).trans a2
    generalize sv W 1050 0 0 (W 1050 0 0 + 1) = W5 at o1 p50 p80 cm1 aW1 p58 ⊢
    generalize sv V 814 0 0 (V 814 0 0 + 1) = V5 at o1 aV1 q704 q705 ⊢
    obtain ⟨V14, k1, k2, k3, k4, k5, k6⟩ := keep_C (kb := kb) h6 q704 q705 hlt hm16
    obtain ⟨W22, w1, w2⟩ := keepA p80 h6 (show dd < 16 by omega)
    have s80 : W22 1080 0 0 = nI t := (UM_80 w2).trans p80
    have s50 : W22 5000 0 t = nI dd := (w2.2 5000 0 t (by decide)).trans p50
    obtain ⟨W34, y1, y2, y3, y4, y5, y6, y7⟩ := keepB s80 h6 (show dd < 16 by omega) s50
    have aW : agr [2400, 2500, 2600, 2700, 2800, 2900, 5000, 6400, 6500, 6600] W5 W34 := (w2.2.app y3).sub (by decide)
    have o2 : OK (17 * t) kb T Tw t Y l V14 W34 := by
      refine OK_keep (dd := dd) o1 p50 (by omega) k3 aW k2 (y2.trans w2.1) k4 (fun u => ?_) k5 k6 (fun o => ?_) (fun o => ?_) (fun o => ?_) ⟨m, g, ?_, ?_, ?_, by omega, m3, by omega⟩
      · rw [y4, w2.2 5000 0 u (by decide)]
      · rw [y5, w2.2 4900 0 t (by decide), w2.2 6400 0 o (by decide)]
      · rw [y6, w2.2 5200 0 t (by decide), w2.2 6500 0 o (by decide)]
      · rw [y7, w2.2 5800 0 t (by decide), w2.2 6600 0 o (by decide)]
      · rw [cm1]; exact m1
      · rw [cm1, p58]; exact m4
      · exact p58
    have hreg : ∀ j, j < 102 → cM W34 j = cM W j := fun j hj => by rw [y2, w2.1, kp_ne (by omega), cm1]
    rw [k1, bnd_some, p80, chk_t i6, lt_def, cl_nI (by omega), p50, ← p80, w1, y1]
    have t80 : W34 1080 0 0 = nI t := o2.2.2.2.2.1
    obtain ⟨b', g', b1, b2, b3, b4, b5, b6, b7, b8, b9⟩ := OK_stk o2
    have hbb : b' = b := by omega
    subst hbb
    obtain ⟨V15, W39, z1, z2, z3, z4, z5, z6⟩ := st_wipe (a := b') (b := m) o2.1 m2 (by omega)
    have o3 := OK_mem o2 z3 z4 z5 (Jm_mem o2.2.2.2.1 z6 z5)
    rw [lt_def, t80, M2, chk_t (inb_nI (by omega) (by decide)), lt_def, cl_nI (show 17 * t + 2 < 2147483648 by omega), cM_0 (hreg (17 * t + 2) (by omega)), m1, chk_t i6, cl_nI (show t < 2147483648 by omega), b1, z2, bnd_some, lt_def, lt_def, jn_def, dv16 (by omega), show (16 * k + e) / 16 = k by omega]
    have e41 : 8 * nI k + (nI (16 * k + e) - nI k * 16) = nI (8 * k + e) := by
      have hr : nI (16 * k + e) - nI (16 * k + e) / 16 * 16 = nI ((16 * k + e) % 16) := pk_rem (d := 16) (by omega) (by decide) (by decide)
      rw [dv16 (by omega), show (16 * k + e) / 16 = k by omega, show (16 * k + e) % 16 = e by omega] at hr
      rw [hr, show (8 : Int32) = nI 8 from rfl, pk_mul, nI_add]
    rw [e41, b3, z1, bnd_some]
    have gV : ∀ c o j, c ∉ [0, 1, 2, 3, 4, 5, 205, 206, 704, 814, 2300, 2400] → V15 c o j = V c o j := fun c o j hc => (((aV1.app k3).app z4).sub (ds := [0, 1, 2, 3, 4, 5, 205, 206, 704, 814, 2300, 2400]) (by decide)) c o j hc
    have gW : ∀ c o j, c ∉ [1050, 2100, 2200, 2400, 2500, 2600, 2700, 2800, 2900, 5000, 6400, 6500, 6600] → W39 c o j = W c o j := fun c o j hc => (((aW1.app aW).app z5).sub (ds := [1050, 2100, 2200, 2400, 2500, 2600, 2700, 2800, 2900, 5000, 6400, 6500, 6600]) (by decide)) c o j hc
    have u80 : W39 1080 0 0 = nI t := o3.2.2.2.2.1
    obtain ⟨V', v1, v2, v3, v4, v5, v6, v7⟩ := enter_C (kb := kb) (t := t) (k := k) (e := e) (mk := nI (16 * m)) (z := nI k) (V := V15) h6 ((gV 104 k 0 (by decide)).trans (c5.trans x2)) hexx x1
    obtain ⟨W44, n1, n2⟩ := nL_call h6 10 0 FU W39 (by omega) (FU_gt (by omega)) u80
    obtain ⟨W', r1', r2', r3', r4', r5', r6', r7'⟩ := enter_M (t := t) (k := k) (e := e) (mk := nI (16 * m)) ((UM_80 n2).trans u80) h6 hk8 he8
    rw [v1, bnd_some]
    refine ⟨V', W', rfl, ?_, ?_⟩
    · exact (n1 _).trans r1'
    have hgd : ∀ c o j, c ∉ [1050, 2100, 2200, 2400, 2500, 2600, 2700, 2800, 2900, 5000, 6400, 6500, 6600] → W44 c o j = W c o j := fun c o j hc => (n2.2 c o j (fun q => hc (by revert q; simp; omega))).trans (gW c o j hc)
    have y40 : W 4000 0 k = nI (16 * gN Y 4000 k) := (h1.2.1 4000 (by decide) 0 k).trans (hL.2.2.2.2.2.2.2.2.2.1 k hk).1
    have y42 : W 4200 0 k = nI (16 * gN Y 4200 k) := (h1.2.1 4200 (by decide) 0 k).trans (hL.2.2.2.2.2.2.2.2.2.1 k hk).2.1
    have y43 : W 4300 0 k = nI (16 * gN Y 4300 k) := (h1.2.1 4300 (by decide) 0 k).trans (hL.2.2.2.2.2.2.2.2.2.1 k hk).2.2.1
    have x3e := x3 e hexx
    rw [n2.1, hgd 4000 0 k (by decide), hgd 4500 0 _ (by decide), hgd 4200 0 k (by decide), hgd 4300 0 k (by decide), hgd 5600 0 t (by decide), y40, y42, y43, a1] at r2'
    rw [gV 108 k 0 (by decide), gV 2700 k e (by decide), gV 110 k 0 (by decide), gV 111 k 0 (by decide), gV 707 t 0 (by decide), c1, c3, c4, y40, y42, y43, a3, x3e.1, Int32.mul_comm] at v2
    have eM : cM W' = etb t (nI (16 * gN Y 4000 k) + 4 * W 4500 0 (8 * k + e), nI (16 * gN Y 4000 k), nI (16 * gN Y 4200 k), 77, 0, true) (nI (16 * m), nI (16 * b'), nI (16 * m), 155, 0, true) (nI (16 * gN Y 4200 k), nI (16 * gN Y 4200 k), nI (16 * gN Y 4300 k), 91, 0, true) (cM W39) := r2'
    have hC1 : gd Y (lv l) (nI (16 * gN Y 4000 k) + 4 * W 4500 0 (8 * k + e), nI (16 * gN Y 4000 k), nI (16 * gN Y 4200 k), 77, 0, true) := gd_cd hL hk
    have hC2 : gd Y (lv l) (nI (16 * m), nI (16 * b'), nI (16 * m), 155, 0, true) := by rw [a5]; exact gd_sk hn (by omega) (by omega) (by omega)
    have hC3 : gd Y (lv l) (nI (16 * gN Y 4200 k), nI (16 * gN Y 4200 k), nI (16 * gN Y 4300 k), 91, 0, true) := gd_gl hL hk
    generalize (nI (16 * gN Y 4000 k) + 4 * W 4500 0 (8 * k + e), nI (16 * gN Y 4000 k), nI (16 * gN Y 4200 k), (77 : Int32), (0 : Int32), true) = cd at v2 eM hC1
    generalize (nI (16 * m), nI (16 * b'), nI (16 * m), (155 : Int32), (0 : Int32), true) = sk at v2 eM hC2
    generalize (nI (16 * gN Y 4200 k), nI (16 * gN Y 4200 k), nI (16 * gN Y 4300 k), (91 : Int32), (0 : Int32), true) = gl at v2 eM hC3
    have aW' : agr [2400, 2500, 2600, 2700, 2800, 2900, 4900, 5200, 5800] W39 W' := (n2.2.app r3').sub (by decide)
    have hd39 : xN W39 5000 t = dd + 1 := by
      unfold xN
      rw [z5 5000 0 t (by decide), y4, if_pos rfl, cl_nI (by omega)]
    have hW50 : W39 5000 0 t = nI (dd + 1) := by rw [z5 5000 0 t (by decide), y4, if_pos rfl]
    have okE : okc W' = okc W39 := okc_fr aW' (by decide)
    have out : ∀ f : Nat → Cp, ∀ i, ¬ (17 * t ≤ i ∧ i < 17 * t + 17) → etb t cd sk gl f i = f i := fun f i hi => by
      unfold etb
      rw [up_ne (by omega), up_ne (by omega), up_ne (by omega), up_ne (by omega), clr_f (rg2_f (by omega))]
    refine OK_upd (d := dd + 1) o3 (v3.sub (by decide)) (aW'.sub (by decide)) (by omega) ?_ ?_ (fun i hi hni => ?_) (fun q hq => ?_) ?_ (Or.inl rfl) (fun c hc u hu => ?_) (fun c hc u hu => ?_) ?_ ?_ ?_ ⟨m, r6', by omega, by omega⟩
    · rw [v3 704 t 0 (by decide), z4 704 t 0 (by decide), k4, if_pos rfl]
    · rw [aW' 5000 0 t (by decide)]; exact hW50
    · rw [okE, v2, eM, out _ i hni, out _ i hni]
      exact ⟨fun _ => ⟨rfl, rfl⟩, fun q => Or.inl ⟨q, rfl⟩⟩
    · rw [v2, eM]
      unfold etb
      by_cases e3 : q = 3
      · subst e3
        rw [up_at, up_at]; exact ⟨fun _ => rfl, hC3⟩
      have f3 : ∀ f : Nat → Cp, up f (17 * t + 3) gl (17 * t + q) = f (17 * t + q) := fun f => up_ne (by omega)
      rw [f3, f3]
      by_cases e2 : q = 2
      · subst e2
        rw [up_at, up_at]; exact ⟨fun _ => rfl, hC2⟩
      have f2 : ∀ f : Nat → Cp, up f (17 * t + 2) sk (17 * t + q) = f (17 * t + q) := fun f => up_ne (by omega)
      rw [f2, f2]
      by_cases e1 : q = 1
      · subst e1
        rw [up_at, up_at]; exact ⟨fun _ => rfl, gd_rt⟩
      have f1 : ∀ f : Nat → Cp, up f (17 * t + 1) rtc (17 * t + q) = f (17 * t + q) := fun f => up_ne (by omega)
      rw [f1, f1]
      by_cases e16 : q = 16
      · subst e16
        rw [up_at, up_at]; exact ⟨fun _ => rfl, hC1⟩
      have f0 : ∀ f : Nat → Cp, up f (17 * t + 16) cd (17 * t + q) = f (17 * t + q) := fun f => up_ne (by omega)
      rw [f0, f0]
      by_cases e10 : q < 10
      · rw [clr_t (rg2_t (by omega) (by omega)), clr_t (rg2_t (by omega) (by omega))]
        exact ⟨fun _ => rfl, gd_num _ _ _⟩
      · rw [clr_f (rg2_f (by omega)), clr_f (rg2_f (by omega))]
        exact ⟨fun _ => OK_cap o3 hq (by omega), o3.2.2.1 q hq⟩
    · rw [eM]
      unfold etb
      rw [up_ne (by omega), up_ne (by omega), up_ne (by omega), up_ne (by omega), clr_t (rg2_t (by omega) (by omega))]
    · by_cases ec : c = 704
      · rw [ec]; exact v3 704 u 0 (by decide)
      · exact v4 c (by revert c; decide) u hu
    · by_cases ec : c = 5000
      · rw [ec]; exact aW' 5000 0 u (by decide)
      · rw [r4' c (by revert c; decide) u hu]; exact n2.2 c 0 u (by revert c; decide)
    · rw [v5, r5']
    · rw [v7, r7', gV 2800 k e (by decide), gV 710 t 0 (by decide), hgd 4600 0 _ (by decide), hgd 5200 0 t (by decide), x3e.2, OK_on h]
    · rw [v6, r6']
  · rw [decide_eq_false hlt, if_neg (show ¬ false = true by decide), if_pos (show nI dd = nI mm by congr 1; omega), lt_def, lt_def, R10, R11, number_C, number_C, lt_def, M10, number_M (by omega), bnd_some, lt_def, UM_80 (kM_U W _ _), h80, M11, number_M (by omega), bnd_some]
    exact ⟨_, _, rfl, rfl, OK_two h⟩
