/-! returns in the reference -/
theorem emp_M {t : Nat} {W : HV} (h80 : W 1080 0 0 = nI t) (ht : t < 6) : ∃ W', f_X12_empties 0 W = some W' ∧ UM W (clr (rgE t 0) (cM W)) W' := by
  unfold f_X12_empties
  rw [jn_def]
  exact nL_emp ht 16 0 FU W (by omega) (FU_gt (by omega)) h80
theorem rgE_f {t a i : Nat} (h : ¬ (17 * t + a ≤ i ∧ i < 17 * t + 16) ∨ i = 17 * t + 10 ∨ i = 17 * t + 11) : rgE t a i = false := by
  unfold rgE
  rcases h with h | h | h
  · rw [rg2_f h]; rfl
  · rw [decide_eq_true h]; simp
  · rw [decide_eq_true h]; simp
theorem rgE_t {t a i : Nat} (h1 : 17 * t + a ≤ i) (h2 : i < 17 * t + 16) (h3 : ¬ i = 17 * t + 10) (h4 : ¬ i = 17 * t + 11) : rgE t a i = true := by
  unfold rgE
  rw [rg2_t h1 h2, decide_eq_false h3, decide_eq_false h4]; rfl
theorem ret_M {kb t d b q : Nat} {l : List Ob} {W : HV} (hr : Rv kb l W) (h80 : W 1080 0 0 = nI t) (ht : t < 6) (hd : d < 16) (h5 : W 5000 0 t = nI (d + 1)) (h56 : W 5600 0 t = nI (16 * b)) (hc : (cM W (102 + 80 * t + 5 * d + 1)).1 = nI (16 * q)) (hbq : b ≤ q) (hq : q ≤ 64 * kb) : ∃ W', f_X12_returns 0 W = some W' ∧ GB t (102 + 80 * t + 5 * d) (fil kb l (cM W (102 + 80 * t + 5 * d))) (fil kb l (cM W (102 + 80 * t + 5 * d + 1))) (fil kb l (cM W (102 + 80 * t + 5 * d + 2))) (fil kb l (cM W (102 + 80 * t + 5 * d + 3))) (fil kb l (cM W (102 + 80 * t + 5 * d + 4))) (cM W) (cM W') ∧ (∀ i, 102 + 80 * t + 5 * d ≤ i → i < 102 + 80 * t + 5 * d + 5 → cM W' i = nm 0) ∧ agr [2100, 2200, 2400, 2500, 2600, 2700, 2800, 2900, 4900, 5000, 5200, 5800] W W' ∧ (∀ c ∈ [4900, 5000, 5200, 5800], ∀ u, u ≠ t → W' c 0 u = W c 0 u) ∧ W' 5000 0 t = nI d ∧ W' 4900 0 t = W 6400 0 (16 * t + d) ∧ i2b (W' 5200 0 t) = i2b (W 6500 0 (16 * t + d)) ∧ W' 5800 0 t = W 6600 0 (16 * t + d) ∧ W' 2100 0 = zr (W 2100 0) (16 * b) (16 * q) ∧ W' 2200 0 = zg (W 2200 0) b (16 * q) (fun _ => 0) := by
  have i6 : inb (nI t) 6 := inb_nI ht (by decide)
  have e16 : 16 * nI t + nI d = nI (16 * t + d) := by rw [show (16 : Int32) = nI 16 from rfl, pk_mul, nI_add]
  have i96 : inb (nI (16 * t + d)) 96 := inb_nI (by omega) (by decide)
  have F0 : f_X12_frame (nI t) (nI d) 0 = nI (102 + 80 * t + 5 * d) := frm_M t d 0
  have F1 : f_X12_frame (nI t) (nI d) 1 = nI (102 + 80 * t + 5 * d + 1) := frm_M t d 1
  have F2 : f_X12_frame (nI t) (nI d) 2 = nI (102 + 80 * t + 5 * d + 2) := frm_M t d 2
  have F3 : f_X12_frame (nI t) (nI d) 3 = nI (102 + 80 * t + 5 * d + 3) := frm_M t d 3
  have F4 : f_X12_frame (nI t) (nI d) 4 = nI (102 + 80 * t + 5 * d + 4) := frm_M t d 4
  have R2 : f_X12_reg (nI t) 2 = nI (17 * t + 2) := reg_M' t 2
  have R3 : f_X12_reg (nI t) 3 = nI (17 * t + 3) := reg_M' t 3
  have R8 : f_X12_reg (nI t) 8 = nI (17 * t + 8) := reg_M' t 8
  have R9 : f_X12_reg (nI t) 9 = nI (17 * t + 9) := reg_M' t 9
  have kb32 := hr.2.1
  unfold f_X12_returns
  rw [h80, chk_t i6, cl_nI (by omega), h5, if_neg (nI_ne0 (by omega) (by omega)), chk_t i6, lt_def, nI_pred, sv_col (show ¬ 1080 = 5000 by decide), h80, chk_t i6, lt_def, cl_nI (by omega), sv_at]
  have a5 : agr [5000] W (sv W 5000 0 t (nI d)) := agr_sv _ _ _ _ _
  have c5 : cM (sv W 5000 0 t (nI d)) = cM W := cM_fr a5 (by decide)
  have e5 : (sv W 5000 0 t (nI d)) 5000 0 t = nI d := sv_at _ _ _ _ _
  have o5 : ∀ u, u ≠ t → (sv W 5000 0 t (nI d)) 5000 0 u = W 5000 0 u := fun u hu => sv_ne (fun q => hu q.2.2)
  have s5 : (sv W 5000 0 t (nI d)) 1080 0 0 = nI t := (sv_col (by decide)).trans h80
  generalize sv W 5000 0 t (nI d) = W5 at a5 c5 e5 o5 s5 ⊢
  obtain ⟨W8, p1, p2⟩ := emp_M s5 ht
  rw [c5] at p2
  have s8 := (UM_80 p2).trans s5
  rw [p1, bnd_some, lt_def, s8, F0, lt_def, pcc_M s8, copy_M (by omega) (by omega), bnd_some]
  have u1 := mcp (i := 17 * t + 16) (j := 102 + 80 * t + 5 * d) (y := cM W (102 + 80 * t + 5 * d)) p2 (by rw [clr_f (rgE_f (by omega))])
  have s1 := (UM_80 u1).trans s5
  rw [lt_def, s1, F1, lt_def, R2, copy_M (by omega) (by omega), bnd_some]
  have u2 := mcp (i := 17 * t + 2) (j := 102 + 80 * t + 5 * d + 1) (y := cM W (102 + 80 * t + 5 * d + 1)) u1 (by rw [up_ne (by omega), clr_f (rgE_f (by omega))])
  have s2 := (UM_80 u2).trans s5
  rw [lt_def, s2, F2, lt_def, R3, copy_M (by omega) (by omega), bnd_some]
  have u3 := mcp (i := 17 * t + 3) (j := 102 + 80 * t + 5 * d + 2) (y := cM W (102 + 80 * t + 5 * d + 2)) u2 (by rw [up_ne (by omega), up_ne (by omega), clr_f (rgE_f (by omega))])
  have s3 := (UM_80 u3).trans s5
  rw [lt_def, s3, F3, lt_def, R8, copy_M (by omega) (by omega), bnd_some]
  have u4 := mcp (i := 17 * t + 8) (j := 102 + 80 * t + 5 * d + 3) (y := cM W (102 + 80 * t + 5 * d + 3)) u3 (by rw [up_ne (by omega), up_ne (by omega), up_ne (by omega), clr_f (rgE_f (by omega))])
  have s4 := (UM_80 u4).trans s5
  rw [lt_def, s4, F4, lt_def, R9, copy_M (by omega) (by omega), bnd_some]
  have u5 := mcp (i := 17 * t + 9) (j := 102 + 80 * t + 5 * d + 4) (y := cM W (102 + 80 * t + 5 * d + 4)) u4 (by rw [up_ne (by omega), up_ne (by omega), up_ne (by omega), up_ne (by omega), clr_f (rgE_f (by omega))])
  have s6 := (UM_80 u5).trans s5
  generalize hF : 102 + 80 * t + 5 * d = F at *
  generalize kM (kM (kM (kM (kM W8 (17 * t + 16) (cM W8 F)) (17 * t + 2) _) (17 * t + 3) _) (17 * t + 8) _) (17 * t + 9) _ = W23 at u5 s6 ⊢
  obtain ⟨W26, n1, n2⟩ := nL_frm (d := d) ht hd 5 0 FU W23 (by omega) (FU_gt (by omega)) s6
  rw [u5.1] at n2
  have u6 := u5.trans n2
  have s7 := (UM_80 u6).trans s5
  have fF : ∀ i, ¬ (F ≤ i ∧ i < F + 5) → fr5 t d 0 i = false := fun i hi => fr5_f (by omega)
  have hr5 := Rv_fr hr a5 (by decide) (by decide)
  rw [jn_def]
  have n1' : ∀ K : HV → Option HV, f_X12_returns_L191 0 (nI d) K FU 0 W23 = K W26 := n1
  rw [n1', lt_def, pcc_M s7]
  obtain ⟨W28, f1, v1⟩ := mfl (i := 17 * t + 16) (y := cM W F) hr5 u6 (by rw [clr_f (fF _ (by omega)), up_ne (by omega), up_ne (by omega), up_ne (by omega), up_ne (by omega), up_at]) (by omega)
  rw [f1, bnd_some, lt_def, (UM_80 v1).trans s5, R2]
  obtain ⟨W30, f2, v2⟩ := mfl (i := 17 * t + 2) (y := cM W (F + 1)) hr5 v1 (by rw [up_ne (by omega), clr_f (fF _ (by omega)), up_ne (by omega), up_ne (by omega), up_ne (by omega), up_at]) (by omega)
  rw [f2, bnd_some, lt_def, (UM_80 v2).trans s5, R3]
  obtain ⟨W32, f3, v3⟩ := mfl (i := 17 * t + 3) (y := cM W (F + 2)) hr5 v2 (by rw [up_ne (by omega), up_ne (by omega), clr_f (fF _ (by omega)), up_ne (by omega), up_ne (by omega), up_at]) (by omega)
  rw [f3, bnd_some, lt_def, (UM_80 v3).trans s5, R8]
  obtain ⟨W34, f4, v4⟩ := mfl (i := 17 * t + 8) (y := cM W (F + 3)) hr5 v3 (by rw [up_ne (by omega), up_ne (by omega), up_ne (by omega), clr_f (fF _ (by omega)), up_ne (by omega), up_at]) (by omega)
  rw [f4, bnd_some, lt_def, (UM_80 v4).trans s5, R9]
  obtain ⟨W36, f5, v5⟩ := mfl (i := 17 * t + 9) (y := cM W (F + 4)) hr5 v4 (by rw [up_ne (by omega), up_ne (by omega), up_ne (by omega), up_ne (by omega), clr_f (fF _ (by omega)), up_at]) (by omega)
  have s36 := (UM_80 v5).trans s5
  have g36 : ∀ c o j, c ∉ [2400, 2500, 2600, 2700, 2800, 2900] → W36 c o j = W5 c o j := fun c o j hc => v5.2 c o j hc
  have g5 : ∀ c o j, c ∉ [5000] → W5 c o j = W c o j := fun c o j hc => a5 c o j hc
  rw [f5, bnd_some, s36, e16, chk_t i96, chk_t i6, lt_def, cl_nI (show 16 * t + d < 2147483648 by omega), cl_nI (show t < 2147483648 by omega), sv_col (show ¬ 1080 = 4900 by decide), s36, e16, chk_t i96, chk_t i6, lt_def, cl_nI (show 16 * t + d < 2147483648 by omega), cl_nI (show t < 2147483648 by omega), sv_col (show ¬ 6500 = 4900 by decide), sv_col (show ¬ 1080 = 5200 by decide), sv_col (show ¬ 1080 = 4900 by decide), s36, e16, chk_t i96, chk_t i6, lt_def, cl_nI (show 16 * t + d < 2147483648 by omega), cl_nI (show t < 2147483648 by omega), sv_col (show ¬ 6600 = 5200 by decide), sv_col (show ¬ 6600 = 4900 by decide), g36 6400 0 _ (by decide), g36 6500 0 _ (by decide), g36 6600 0 _ (by decide), g5 6400 0 _ (by decide), g5 6500 0 _ (by decide), g5 6600 0 _ (by decide)]
  have a45 : agr [4900, 5200, 5800] W36 (sv (sv (sv W36 4900 0 t (W 6400 0 (16 * t + d))) 5200 0 t (b2i (i2b (W 6500 0 (16 * t + d))))) 5800 0 t (W 6600 0 (16 * t + d))) := ((agr_sv _ _ _ _ _).app (agr_sv _ _ _ _ _)).app (agr_sv _ _ _ _ _)
  have w52 : (sv (sv (sv W36 4900 0 t (W 6400 0 (16 * t + d))) 5200 0 t (b2i (i2b (W 6500 0 (16 * t + d))))) 5800 0 t (W 6600 0 (16 * t + d))) 5200 0 t = b2i (i2b (W 6500 0 (16 * t + d))) := by rw [sv_col (by decide), sv_at]
  have w49 : (sv (sv (sv W36 4900 0 t (W 6400 0 (16 * t + d))) 5200 0 t (b2i (i2b (W 6500 0 (16 * t + d))))) 5800 0 t (W 6600 0 (16 * t + d))) 4900 0 t = W 6400 0 (16 * t + d) := by rw [sv_col (by decide), sv_col (by decide), sv_at]
  have w58 : (sv (sv (sv W36 4900 0 t (W 6400 0 (16 * t + d))) 5200 0 t (b2i (i2b (W 6500 0 (16 * t + d))))) 5800 0 t (W 6600 0 (16 * t + d))) 5800 0 t = W 6600 0 (16 * t + d) := sv_at _ _ _ _ _
  have wo : ∀ c ∈ [4900, 5200, 5800], ∀ u, u ≠ t → (sv (sv (sv W36 4900 0 t (W 6400 0 (16 * t + d))) 5200 0 t (b2i (i2b (W 6500 0 (16 * t + d))))) 5800 0 t (W 6600 0 (16 * t + d))) c 0 u = W36 c 0 u := fun c _ u hu => by rw [sv_ne (fun q => hu q.2.2), sv_ne (fun q => hu q.2.2), sv_ne (fun q => hu q.2.2)]
  generalize sv (sv (sv W36 4900 0 t (W 6400 0 (16 * t + d))) 5200 0 t (b2i (i2b (W 6500 0 (16 * t + d))))) 5800 0 t (W 6600 0 (16 * t + d)) = W45 at a45 w52 w49 w58 wo ⊢
  have c45 : cM W45 = _ := (cM_fr a45 (by decide)).trans v5.1
  have s45 : W45 1080 0 0 = nI t := (a45 1080 0 0 (by decide)).trans s36
  have g45 : ∀ c o j, c ∉ [2400, 2500, 2600, 2700, 2800, 2900, 4900, 5000, 5200, 5800] → W45 c o j = W c o j := fun c o j hc => ((((a5.app v5.2).app a45)).sub (ds := [2400, 2500, 2600, 2700, 2800, 2900, 4900, 5000, 5200, 5800]) (by decide)) c o j hc
  have r2 : cM W45 (17 * t + 2) = fil kb l (cM W (F + 1)) := by rw [c45, up_ne (by omega), up_ne (by omega), up_ne (by omega), up_at]
  have r2c : W45 2400 0 (17 * t + 2) = nI (16 * q) := by rw [cM_0 r2]; exact hc
  obtain ⟨W', x1, x2, x3, x4⟩ := wipe_M (W := W45) hbq (show q ≤ 2048 by omega)
  rw [s45, chk_t i6, lt_def, R2, chk_t (inb_nI (by omega) (by decide)), cl_nI (show 17 * t + 2 < 2147483648 by omega), cl_nI (show t < 2147483648 by omega), g45 5600 0 t (by decide), h56, r2c, x1, bnd_some, chk_t (inb_nI (show 17 * t + 2 < 600 by omega) (by decide))]
  have cW' : cM W' = cM W45 := cM_fr x4 (by decide)
  refine ⟨W', rfl, ?_, fun i hi1 hi2 => ?_, ((((a5.app v5.2).app a45)).app x4).sub (by decide), fun c hc' u hu => ?_, ?_, ?_, ?_, ?_, ?_, ?_⟩
  · rw [cW', c45]
    refine ⟨fun i hi h1 h2 => ?_, ?_, ?_, ?_, ?_, ?_, fun k hk => ?_, ?_, ?_⟩
    · rw [up_ne (by omega), up_ne (by omega), up_ne (by omega), up_ne (by omega), up_ne (by omega), clr_f (fF _ h2), up_ne (by omega), up_ne (by omega), up_ne (by omega), up_ne (by omega), up_ne (by omega), clr_f (rgE_f (by omega))]
    · rw [up_ne (by omega), up_ne (by omega), up_ne (by omega), up_ne (by omega), up_at]
    · rw [up_ne (by omega), up_ne (by omega), up_ne (by omega), up_at]
    · rw [up_ne (by omega), up_ne (by omega), up_at]
    · rw [up_ne (by omega), up_at]
    · rw [up_at]
    · rw [up_ne (by omega), up_ne (by omega), up_ne (by omega), up_ne (by omega), up_ne (by omega), clr_f (fF _ (by omega)), up_ne (by omega), up_ne (by omega), up_ne (by omega), up_ne (by omega), up_ne (by omega), clr_t (rgE_t (by omega) (by omega) (by omega) (by omega))]
    · rw [up_ne (by omega), up_ne (by omega), up_ne (by omega), up_ne (by omega), up_ne (by omega), clr_f (fF _ (by omega)), up_ne (by omega), up_ne (by omega), up_ne (by omega), up_ne (by omega), up_ne (by omega), clr_f (rgE_f (by omega))]
    · rw [up_ne (by omega), up_ne (by omega), up_ne (by omega), up_ne (by omega), up_ne (by omega), clr_f (fF _ (by omega)), up_ne (by omega), up_ne (by omega), up_ne (by omega), up_ne (by omega), up_ne (by omega), clr_f (rgE_f (by omega))]
  · rw [cW', c45, up_ne (by omega), up_ne (by omega), up_ne (by omega), up_ne (by omega), up_ne (by omega), clr_t (fr5_t (by omega) (by omega))]
  · rw [x4 c 0 u (by revert c; decide)]
    by_cases ec : c = 5000
    · rw [ec, a45 5000 0 u (by decide), g36 5000 0 u (by decide)]; exact o5 u hu
    · rw [wo c (by revert c; decide) u hu, g36 c 0 u (by revert c; decide), g5 c 0 u (by revert c; decide)]
  · rw [x4 5000 0 t (by decide), a45 5000 0 t (by decide), g36 5000 0 t (by decide)]; exact e5
  · rw [x4 4900 0 t (by decide)]; exact w49
  · rw [x4 5200 0 t (by decide), w52, i2b_b2i]
  · rw [x4 5800 0 t (by decide)]; exact w58
  · rw [x2, show W45 2100 0 = W 2100 0 from funext fun j => g45 2100 0 j (by decide)]
  · rw [x3, show W45 2200 0 = W 2200 0 from funext fun j => g45 2200 0 j (by decide)]
