/-! the callee, in the reference -/
theorem code_M {k i : Nat} {w : Int32} {W : HV} (hk : k < 8) (hi : i < 600) : f_X12_code 0 (nI k) w (nI i) W = some (kM W i (W 4000 0 k + 4 * w, W 4000 0 k, W 4200 0 k, 77, 0, true)) := by
  have ik : inb (nI k) 8 := inb_nI hk (by decide)
  unfold f_X12_code
  rw [chk_t ik, chk_t ik, chk_t ik, cl_nI (by omega), make_M hi, bnd_some]
theorem glob_M {k i : Nat} {W : HV} (hk : k < 8) (hi : i < 600) : f_X12_globals 0 (nI k) (nI i) W = some (kM W i (W 4200 0 k, W 4200 0 k, W 4300 0 k, 91, 0, true)) := by
  have ik : inb (nI k) 8 := inb_nI hk (by decide)
  unfold f_X12_globals
  rw [chk_t ik, chk_t ik, chk_t ik, cl_nI (by omega), make_M hi, bnd_some]
theorem stack_M {t i : Nat} {w : Int32} {W : HV} (ht : t < 6) (hi : i < 600) : f_X12_stack 0 (nI t) w (nI i) W = some (kM W i (w, W 5600 0 t, w, 155, 0, true)) := by
  unfold f_X12_stack
  rw [chk_t (inb_nI ht (by decide)), cl_nI (by omega), make_M hi, bnd_some]
theorem enter_M {t k e : Nat} {mk : Int32} {W : HV} (h80 : W 1080 0 0 = nI t) (ht : t < 6) (hk : k < 8) (he : e < 8) : ∃ W', (chk (inb (nI (8 * k + e)) 64) <|
  lt (f_X12_pcc 0 W) fun v46 =>
  bnd (f_X12_code 0 (nI k) (W 4500 0 ((nI (8 * k + e))).toNatClampNeg) v46 W) fun p47 =>
  chk (inb (nI (8 * k + e)) 64) <|
  jn (fun v49 =>
  chk (inb (p47 1080 0 0) 6) <|
  lt (sv p47 5200 0 (p47 1080 0 0).toNatClampNeg (b2i v49)) fun V53 =>
  chk (inb (V53 1080 0 0) 6) <|
  lt (sv V53 4900 0 (V53 1080 0 0).toNatClampNeg (nI k)) fun V55 =>
  chk (inb (V55 1080 0 0) 6) <|
  lt (sv V55 5800 0 (V55 1080 0 0).toNatClampNeg mk) fun V57 =>
  lt (f_X12_reg (V57 1080 0 0) 1) fun v58 =>
  bnd (f_X12_make 0 v58 0 0 0 0 5 true V57) fun p59 =>
  lt (f_X12_reg (p59 1080 0 0) 2) fun v60 =>
  bnd (f_X12_stack 0 (p59 1080 0 0) mk v60 p59) fun p61 =>
  lt (f_X12_reg (p61 1080 0 0) 3) fun v62 =>
  bnd (f_X12_globals 0 (nI k) v62 p61) fun p63 =>
  some p63) fun k50 =>
  if (p47 4600 0 ((nI (8 * k + e))).toNatClampNeg) = 1 then (chk (inb (p47 1080 0 0) 6) <|
  k50 (i2b (p47 5200 0 (p47 1080 0 0).toNatClampNeg))) else (chk (inb (nI (8 * k + e)) 64) <|
  if (p47 4600 0 ((nI (8 * k + e))).toNatClampNeg) = 3 then (k50 true) else (k50 false))) = some W' ∧ cM W' = up (up (up (up (cM W) (17 * t + 16) (W 4000 0 k + 4 * W 4500 0 (8 * k + e), W 4000 0 k, W 4200 0 k, 77, 0, true)) (17 * t + 1) rtc) (17 * t + 2) (mk, W 5600 0 t, mk, 155, 0, true)) (17 * t + 3) (W 4200 0 k, W 4200 0 k, W 4300 0 k, 91, 0, true) ∧ agr [2400, 2500, 2600, 2700, 2800, 2900, 4900, 5200, 5800] W W' ∧ (∀ c ∈ [4900, 5200, 5800], ∀ u, u ≠ t → W' c 0 u = W c 0 u) ∧ W' 4900 0 t = nI k ∧ W' 5800 0 t = mk ∧ i2b (W' 5200 0 t) = nxt (W 4600 0 (8 * k + e)) (i2b (W 5200 0 t)) := by
  have i64 : inb (nI (8 * k + e)) 64 := inb_nI (by omega) (by decide)
  have i6 : inb (nI t) 6 := inb_nI ht (by decide)
  have R1 : f_X12_reg (nI t) 1 = nI (17 * t + 1) := reg_M' t 1
  have R2 : f_X12_reg (nI t) 2 = nI (17 * t + 2) := reg_M' t 2
  have R3 : f_X12_reg (nI t) 3 = nI (17 * t + 3) := reg_M' t 3
  have u1 := kM_U W (17 * t + 16) (W 4000 0 k + 4 * W 4500 0 (8 * k + e), W 4000 0 k, W 4200 0 k, 77, 0, true)
  rw [chk_t i64, lt_def, pcc_M h80, cl_nI (by omega), code_M hk (by omega), bnd_some, chk_t i64, jn_def]
  have e46 := u1.2 4600 0 (8 * k + e) (by decide)
  have e52 := u1.2 5200 0 t (by decide)
  have e80 := (UM_80 u1).trans h80
  have g1 : ∀ c o j, c ∉ [2400, 2500, 2600, 2700, 2800, 2900] → (kM W (17 * t + 16) (W 4000 0 k + 4 * W 4500 0 (8 * k + e), W 4000 0 k, W 4200 0 k, 77, 0, true)) c o j = W c o j := fun c o j hc => u1.2 c o j hc
  rw [e46]
  generalize kM W (17 * t + 16) (W 4000 0 k + 4 * W 4500 0 (8 * k + e), W 4000 0 k, W 4200 0 k, 77, 0, true) = W1 at u1 e46 e52 e80 g1 ⊢
  have fin : ∀ b : Bool, b = nxt (W 4600 0 (8 * k + e)) (i2b (W 5200 0 t)) → ∃ W', (chk (inb (W1 1080 0 0) 6) <|
    lt (sv W1 5200 0 (W1 1080 0 0).toNatClampNeg (b2i b)) fun V53 =>
    chk (inb (V53 1080 0 0) 6) <|
    lt (sv V53 4900 0 (V53 1080 0 0).toNatClampNeg (nI k)) fun V55 =>
    chk (inb (V55 1080 0 0) 6) <|
    lt (sv V55 5800 0 (V55 1080 0 0).toNatClampNeg mk) fun V57 =>
    lt (f_X12_reg (V57 1080 0 0) 1) fun v58 =>
    bnd (f_X12_make 0 v58 0 0 0 0 5 true V57) fun p59 =>
    lt (f_X12_reg (p59 1080 0 0) 2) fun v60 =>
    bnd (f_X12_stack 0 (p59 1080 0 0) mk v60 p59) fun p61 =>
    lt (f_X12_reg (p61 1080 0 0) 3) fun v62 =>
    bnd (f_X12_globals 0 (nI k) v62 p61) fun p63 =>
    some p63) = some W' ∧ cM W' = up (up (up (up (cM W) (17 * t + 16) (W 4000 0 k + 4 * W 4500 0 (8 * k + e), W 4000 0 k, W 4200 0 k, 77, 0, true)) (17 * t + 1) rtc) (17 * t + 2) (mk, W 5600 0 t, mk, 155, 0, true)) (17 * t + 3) (W 4200 0 k, W 4200 0 k, W 4300 0 k, 91, 0, true) ∧ agr [2400, 2500, 2600, 2700, 2800, 2900, 4900, 5200, 5800] W W' ∧ (∀ c ∈ [4900, 5200, 5800], ∀ u, u ≠ t → W' c 0 u = W c 0 u) ∧ W' 4900 0 t = nI k ∧ W' 5800 0 t = mk ∧ i2b (W' 5200 0 t) = nxt (W 4600 0 (8 * k + e)) (i2b (W 5200 0 t)) := by
    intro b hb
    rw [e80, chk_t i6, lt_def, cl_nI (by omega), sv_col (show ¬ 1080 = 5200 by decide), e80, chk_t i6, lt_def, cl_nI (by omega), sv_col (show ¬ 1080 = 4900 by decide), sv_col (show ¬ 1080 = 5200 by decide), e80, chk_t i6, lt_def, cl_nI (by omega), lt_def, sv_col (show ¬ 1080 = 5800 by decide), sv_col (show ¬ 1080 = 4900 by decide), sv_col (show ¬ 1080 = 5200 by decide), e80, R1, make_M (by omega), bnd_some]
    generalize hW57 : sv (sv (sv W1 5200 0 t (b2i b)) 4900 0 t (nI k)) 5800 0 t mk = W57
    have a57 : agr [5200, 4900, 5800] W1 W57 := by rw [← hW57]; exact ((agr_sv _ _ _ _ _).app (agr_sv _ _ _ _ _)).app (agr_sv _ _ _ _ _)
    have m57 : UM W57 (up (cM W) (17 * t + 16) (W 4000 0 k + 4 * W 4500 0 (8 * k + e), W 4000 0 k, W 4200 0 k, 77, 0, true)) W57 := ⟨(cM_fr a57 (by decide)).trans u1.1, (agr_rfl W57).sub (by decide)⟩
    have q80 : W57 1080 0 0 = nI t := (a57 1080 0 0 (by decide)).trans e80
    have m1 := mcy (i := 17 * t + 1) (y := rtc) m57
    have s1 : (kM W57 (17 * t + 1) (0, 0, 0, 0, 5, true)) 1080 0 0 = nI t := (UM_80 m1).trans q80
    have s56 : (kM W57 (17 * t + 1) (0, 0, 0, 0, 5, true)) 5600 0 t = W 5600 0 t := (m1.2 5600 0 t (by decide)).trans ((a57 5600 0 t (by decide)).trans (g1 5600 0 t (by decide)))
    rw [lt_def, s1, R2, stack_M ht (by omega), bnd_some, s56]
    have m2 := mcy (i := 17 * t + 2) (y := (mk, W 5600 0 t, mk, 155, 0, true)) m1
    have s2 : (kM (kM W57 (17 * t + 1) (0, 0, 0, 0, 5, true)) (17 * t + 2) (mk, W 5600 0 t, mk, 155, 0, true)) 1080 0 0 = nI t := (UM_80 m2).trans q80
    have s42 : (kM (kM W57 (17 * t + 1) (0, 0, 0, 0, 5, true)) (17 * t + 2) (mk, W 5600 0 t, mk, 155, 0, true)) 4200 0 k = W 4200 0 k := (m2.2 4200 0 k (by decide)).trans ((a57 4200 0 k (by decide)).trans (g1 4200 0 k (by decide)))
    have s43 : (kM (kM W57 (17 * t + 1) (0, 0, 0, 0, 5, true)) (17 * t + 2) (mk, W 5600 0 t, mk, 155, 0, true)) 4300 0 k = W 4300 0 k := (m2.2 4300 0 k (by decide)).trans ((a57 4300 0 k (by decide)).trans (g1 4300 0 k (by decide)))
    rw [lt_def, s2, R3, glob_M hk (by omega), bnd_some, s42, s43]
    have m3 := mcy (i := 17 * t + 3) (y := (W 4200 0 k, W 4200 0 k, W 4300 0 k, 91, 0, true)) m2
    refine ⟨_, rfl, m3.1, ((u1.2.app a57).app m3.2).sub (by decide), fun c hc u hu => ?_, ?_, ?_, ?_⟩
    · refine (m3.2 c 0 u (by revert c; decide)).trans ?_
      rw [← hW57, sv_ne (fun q => hu q.2.2), sv_ne (fun q => hu q.2.2), sv_ne (fun q => hu q.2.2)]
      exact g1 c 0 u (by revert c; decide)
    · refine (m3.2 4900 0 t (by decide)).trans ?_
      rw [← hW57, sv_col (by decide), sv_at]
    · refine (m3.2 5800 0 t (by decide)).trans ?_
      rw [← hW57, sv_at]
    · have z : (kM (kM (kM W57 (17 * t + 1) rtc) (17 * t + 2) (mk, W 5600 0 t, mk, 155, 0, true)) (17 * t + 3) (W 4200 0 k, W 4200 0 k, W 4300 0 k, 91, 0, true)) 5200 0 t = b2i b := by
        refine (m3.2 5200 0 t (by decide)).trans ?_
        rw [← hW57, sv_col (by decide), sv_col (by decide), sv_at]
      have z' := congrArg i2b z
      rw [i2b_b2i, hb] at z'
      exact z'
  by_cases q1 : W 4600 0 (8 * k + e) = 1
  · rw [if_pos q1]
    have f := fin (i2b (W 5200 0 t)) (by unfold nxt; rw [if_pos q1])
    have ee : i2b (W1 5200 0 (W1 1080 0 0).toNatClampNeg) = i2b (W 5200 0 t) := by rw [e80, cl_nI (by omega), e52]
    rw [chk_t (show inb (W1 1080 0 0) 6 by rw [e80]; exact i6), ee]
    exact f
  · rw [if_neg q1, chk_t i64]
    by_cases q3 : W 4600 0 (8 * k + e) = 3
    · rw [if_pos q3]
      exact fin true (by unfold nxt; rw [if_neg q1, decide_eq_true q3])
    · rw [if_neg q3]
      exact fin false (by unfold nxt; rw [if_neg q1, decide_eq_false q3])
