/-! the reference keeps a frame -/
theorem keepA {t dd : Nat} {W : HV} (h80 : W 1080 0 0 = nI t) (ht : t < 6) (hd : dd < 16) : ∃ W', (∀ K : HV → Option HV, (lt (f_X12_pcc 0 W) fun v8 =>
  lt (f_X12_frame (W 1080 0 0) (nI dd) 0) fun v9 =>
  bnd (f_X12_copy 0 v8 v9 W) fun p10 =>
  lt (f_X12_reg (p10 1080 0 0) 2) fun v11 =>
  lt (f_X12_frame (p10 1080 0 0) (nI dd) 1) fun v12 =>
  bnd (f_X12_copy 0 v11 v12 p10) fun p13 =>
  lt (f_X12_reg (p13 1080 0 0) 3) fun v14 =>
  lt (f_X12_frame (p13 1080 0 0) (nI dd) 2) fun v15 =>
  bnd (f_X12_copy 0 v14 v15 p13) fun p16 =>
  lt (f_X12_reg (p16 1080 0 0) 8) fun v17 =>
  lt (f_X12_frame (p16 1080 0 0) (nI dd) 3) fun v18 =>
  bnd (f_X12_copy 0 v17 v18 p16) fun p19 =>
  lt (f_X12_reg (p19 1080 0 0) 9) fun v20 =>
  lt (f_X12_frame (p19 1080 0 0) (nI dd) 4) fun v21 =>
  bnd (f_X12_copy 0 v20 v21 p19) fun p22 =>
  K p22) = K W') ∧ UM W (kp t dd (cM W)) W' := by
  have F0 : f_X12_frame (nI t) (nI dd) 0 = nI (102 + 80 * t + 5 * dd) := frm_M t dd 0
  have F1 : f_X12_frame (nI t) (nI dd) 1 = nI (102 + 80 * t + 5 * dd + 1) := frm_M t dd 1
  have F2 : f_X12_frame (nI t) (nI dd) 2 = nI (102 + 80 * t + 5 * dd + 2) := frm_M t dd 2
  have F3 : f_X12_frame (nI t) (nI dd) 3 = nI (102 + 80 * t + 5 * dd + 3) := frm_M t dd 3
  have F4 : f_X12_frame (nI t) (nI dd) 4 = nI (102 + 80 * t + 5 * dd + 4) := frm_M t dd 4
  have R2 : f_X12_reg (nI t) 2 = nI (17 * t + 2) := reg_M' t 2
  have R3 : f_X12_reg (nI t) 3 = nI (17 * t + 3) := reg_M' t 3
  have R8 : f_X12_reg (nI t) 8 = nI (17 * t + 8) := reg_M' t 8
  have R9 : f_X12_reg (nI t) 9 = nI (17 * t + 9) := reg_M' t 9
  have u1 := mcp (i := 102 + 80 * t + 5 * dd) (j := 17 * t + 16) (UM_rfl W) rfl
  have u2 := mcp (i := 102 + 80 * t + 5 * dd + 1) (j := 17 * t + 2) (y := cM W (17 * t + 2)) u1 (by rw [up_ne (by omega)])
  have u3 := mcp (i := 102 + 80 * t + 5 * dd + 2) (j := 17 * t + 3) (y := cM W (17 * t + 3)) u2 (by rw [up_ne (by omega), up_ne (by omega)])
  have u4 := mcp (i := 102 + 80 * t + 5 * dd + 3) (j := 17 * t + 8) (y := cM W (17 * t + 8)) u3 (by rw [up_ne (by omega), up_ne (by omega), up_ne (by omega)])
  have u5 := mcp (i := 102 + 80 * t + 5 * dd + 4) (j := 17 * t + 9) (y := cM W (17 * t + 9)) u4 (by rw [up_ne (by omega), up_ne (by omega), up_ne (by omega), up_ne (by omega)])
  have s1 := (UM_80 u1).trans h80
  have s2 := (UM_80 u2).trans h80
  have s3 := (UM_80 u3).trans h80
  have s4 := (UM_80 u4).trans h80
  refine ⟨_, fun K => ?_, u5⟩
  rw [lt_def, pcc_M h80, lt_def, h80, F0, copy_M (by omega) (by omega), bnd_some, lt_def, lt_def, s1, R2, F1, copy_M (by omega) (by omega), bnd_some, lt_def, lt_def, s2, R3, F2, copy_M (by omega) (by omega), bnd_some, lt_def, lt_def, s3, R8, F3, copy_M (by omega) (by omega), bnd_some, lt_def, lt_def, s4, R9, F4, copy_M (by omega) (by omega), bnd_some]
theorem keepB {t dd : Nat} {W : HV} (h80 : W 1080 0 0 = nI t) (ht : t < 6) (hd : dd < 16) (h5 : W 5000 0 t = nI dd) : ∃ W', (∀ K : HV → Option HV, (chk (inb (W 1080 0 0) 6) <|
  chk (inb ((16 * (W 1080 0 0)) + (nI dd)) 96) <|
  lt (sv W 6400 0 ((16 * (W 1080 0 0)) + (nI dd)).toNatClampNeg (W 4900 0 (W 1080 0 0).toNatClampNeg)) fun V25 =>
  chk (inb (V25 1080 0 0) 6) <|
  chk (inb ((16 * (V25 1080 0 0)) + (nI dd)) 96) <|
  lt (sv V25 6500 0 ((16 * (V25 1080 0 0)) + (nI dd)).toNatClampNeg (b2i (i2b (V25 5200 0 (V25 1080 0 0).toNatClampNeg)))) fun V28 =>
  chk (inb (V28 1080 0 0) 6) <|
  chk (inb ((16 * (V28 1080 0 0)) + (nI dd)) 96) <|
  lt (sv V28 6600 0 ((16 * (V28 1080 0 0)) + (nI dd)).toNatClampNeg (V28 5800 0 (V28 1080 0 0).toNatClampNeg)) fun V31 =>
  chk (inb (V31 1080 0 0) 6) <|
  chk (inb (V31 1080 0 0) 6) <|
  lt (sv V31 5000 0 (V31 1080 0 0).toNatClampNeg ((V31 5000 0 (V31 1080 0 0).toNatClampNeg) + 1)) fun V34 =>
  K V34) = K W') ∧ cM W' = cM W ∧ agr [5000, 6400, 6500, 6600] W W' ∧ (∀ u, W' 5000 0 u = if u = t then nI (dd + 1) else W 5000 0 u) ∧ (∀ o, W' 6400 0 o = if o = 16 * t + dd then W 4900 0 t else W 6400 0 o) ∧ (∀ o, W' 6500 0 o = if o = 16 * t + dd then b2i (i2b (W 5200 0 t)) else W 6500 0 o) ∧ (∀ o, W' 6600 0 o = if o = 16 * t + dd then W 5800 0 t else W 6600 0 o) := by
  have i6 : inb (nI t) 6 := inb_nI ht (by decide)
  have e16 : 16 * nI t + nI dd = nI (16 * t + dd) := by rw [show (16 : Int32) = nI 16 from rfl, pk_mul, nI_add]
  have i96 : inb (nI (16 * t + dd)) 96 := inb_nI (by omega) (by decide)
  have a : agr [5000, 6400, 6500, 6600] W (sv (sv (sv (sv W 6400 0 (16 * t + dd) (W 4900 0 t)) 6500 0 (16 * t + dd) (b2i (i2b (W 5200 0 t)))) 6600 0 (16 * t + dd) (W 5800 0 t)) 5000 0 t (nI (dd + 1))) := ((((agr_sv _ _ _ _ _).app (agr_sv _ _ _ _ _)).app (agr_sv _ _ _ _ _)).app (agr_sv _ _ _ _ _)).sub (by decide)
  refine ⟨sv (sv (sv (sv W 6400 0 (16 * t + dd) (W 4900 0 t)) 6500 0 (16 * t + dd) (b2i (i2b (W 5200 0 t)))) 6600 0 (16 * t + dd) (W 5800 0 t)) 5000 0 t (nI (dd + 1)), fun K => ?_, cM_fr a (by decide), a, fun u => ?_, fun o => ?_, fun o => ?_, fun o => ?_⟩
  · rw [h80, chk_t i6, e16, chk_t i96, lt_def, cl_nI (by omega), cl_nI (by omega), sv_col (show ¬ 1080 = 6400 by decide), h80, chk_t i6, e16, chk_t i96, lt_def, cl_nI (by omega), cl_nI (by omega), sv_col (show ¬ 5200 = 6400 by decide), sv_col (show ¬ 1080 = 6500 by decide), sv_col (show ¬ 1080 = 6400 by decide), h80, chk_t i6, e16, chk_t i96, lt_def, cl_nI (by omega), cl_nI (by omega), sv_col (show ¬ 5800 = 6500 by decide), sv_col (show ¬ 5800 = 6400 by decide), sv_col (show ¬ 1080 = 6600 by decide), sv_col (show ¬ 1080 = 6500 by decide), sv_col (show ¬ 1080 = 6400 by decide), h80, chk_t i6, chk_t i6, lt_def, cl_nI (by omega), sv_col (show ¬ 5000 = 6600 by decide), sv_col (show ¬ 5000 = 6500 by decide), sv_col (show ¬ 5000 = 6400 by decide), h5, nI_1]
  · by_cases e : u = t
    · rw [if_pos e, e, sv_at]
    · rw [if_neg e, sv_ne (fun q => e q.2.2), sv_col (by decide), sv_col (by decide), sv_col (by decide)]
  · rw [sv_col (by decide), sv_col (by decide), sv_col (by decide)]
    by_cases e : o = 16 * t + dd
    · rw [if_pos e, e, sv_at]
    · rw [if_neg e, sv_ne (fun q => e q.2.2)]
  · rw [sv_col (by decide), sv_col (by decide)]
    by_cases e : o = 16 * t + dd
    · rw [if_pos e, e, sv_at]
    · rw [if_neg e, sv_ne (fun q => e q.2.2), sv_col (by decide)]
  · rw [sv_col (by decide)]
    by_cases e : o = 16 * t + dd
    · rw [if_pos e, e, sv_at]
    · rw [if_neg e, sv_ne (fun q => e q.2.2), sv_col (by decide), sv_col (by decide)]
/-! the callee's registers -/
def rtc : Cp := (0, 0, 0, 0, 5, true)
def etb (t : Nat) (cd sk gl : Cp) (f : Nat → Cp) : Nat → Cp := up (up (up (up (clr (rg2 t 0 10) f) (17 * t + 16) cd) (17 * t + 1) rtc) (17 * t + 2) sk) (17 * t + 3) gl
theorem export_C {kb k e xx : Nat} {V : HV} (h1 : V 104 k 0 = nI xx) (he : e < xx) (hx : xx ≤ 8) : f_X1_hasExport kb k (nI e) V = true := by
  unfold f_X1_hasExport
  rw [lt_def, if_neg (nI_pos (by omega)), h1, if_neg (fun z => by have := (nI_leI (by omega) (by omega)).mp z; omega), if_neg (show ¬ (8 : Int32) ≤ nI e from fun z => by have := (nI_leI (a := 8) (by omega) (by omega)).mp z; omega)]
def nxt (y : Int32) (b : Bool) : Bool := if y = 1 then b else decide (y = 3)
theorem enter_C {kb t k e xx : Nat} {mk z : Int32} {V : HV} (ht : t < 6) (h1 : V 104 k 0 = nI xx) (he : e < xx) (hx : xx ≤ 8) : ∃ V', f_X9_enter kb t k z (nI e) mk V = some V' ∧ cC V' = etb t (V 108 k 0 + V 2700 k e * 4, V 108 k 0, V 110 k 0, 77, 0, true) (mk, V 707 t 0, mk, 155, 0, true) (V 110 k 0, V 110 k 0, V 111 k 0, 91, 0, true) (cC V) ∧ agr [0, 1, 2, 3, 4, 5, 708, 709, 710] V V' ∧ (∀ c ∈ [708, 709, 710], ∀ u, u ≠ t → V' c u 0 = V c u 0) ∧ V' 709 t 0 = z ∧ V' 708 t 0 = mk ∧ i2b (V' 710 t 0) = nxt (V 2800 k e) (i2b (V 710 t 0)) := by
  obtain ⟨V1, f1, f2⟩ := fo_C (kb := kb) (t := t) (a := 0) (b := 9) (V := V) (by decide) (by decide)
  have g1 : ∀ c o j, c ∉ [0, 1, 2, 3, 4, 5] → V1 c o j = V c o j := fun c o j hc => f2.2 c o j hc
  have a2 : agr [709] V1 (sv V1 709 t 0 z) := agr_sv _ _ _ _ _
  have hE2 : f_X1_hasExport kb k (nI e) (sv V1 709 t 0 z) = true := export_C (by rw [sv_col (by decide), g1 104 k 0 (by decide)]; exact h1) he hx
  have e28 : (sv V1 709 t 0 z) 2800 k e = V 2800 k e := by rw [sv_col (by decide), g1 2800 k e (by decide)]
  have e71 : (sv V1 709 t 0 z) 710 t 0 = V 710 t 0 := by rw [sv_col (by decide), g1 710 t 0 (by decide)]
  have hin : f_X1_interruptsAt kb k (nI e) (i2b (V 710 t 0)) (sv V1 709 t 0 z) = some (nxt (V 2800 k e) (i2b (V 710 t 0))) := by
    unfold f_X1_interruptsAt nxt
    rw [lt_def, hE2, jn_def, if_pos rfl, chk_t (inb_nI (by omega) (by decide)), cl_nI (by omega), e28]
    dsimp only
    rw [lt_def, dec_tf]
  unfold f_X9_enter
  have f1' : f_X9_forget kb t 0 9 V = some V1 := f1
  rw [f1', bnd_some, lt_def, e71, hin, bnd_some, lt_def]
  generalize hV4 : sv (sv V1 709 t 0 z) 710 t 0 (b2i (nxt (V 2800 k e) (i2b (V 710 t 0)))) = V4
  have a4 : agr [709, 710] V1 V4 := by rw [← hV4]; exact ((agr_sv _ _ _ _ _).app (agr_sv _ _ _ _ _)).sub (by decide)
  have g4 : ∀ c o j, c ∉ [0, 1, 2, 3, 4, 5, 709, 710] → V4 c o j = V c o j := fun c o j hc => (a4 c o j (fun q => hc (by revert q; simp; omega))).trans (g1 c o j (fun q => hc (by revert q; simp; omega)))
  have hE4 : f_X1_hasExport kb k (nI e) V4 = true := export_C (by rw [g4 104 k 0 (by decide)]; exact h1) he hx
  have hcd : f_X1_codeTo kb k (17 * t + 16) (nI e) V4 = some (kC V4 (17 * t + 16) (V 108 k 0 + V 2700 k e * 4, V 108 k 0, V 110 k 0, 77, 0, true)) := by
    unfold f_X1_codeTo
    rw [lt_def, hE4, jn_def, if_pos rfl, chk_t (inb_nI (by omega) (by decide)), cl_nI (by omega)]
    dsimp only
    rw [lt_def, set_C, g4 2700 k e (by decide), g4 108 k 0 (by decide), g4 110 k 0 (by decide)]
  rw [hcd, bnd_some, lt_def, lt_def, lt_def, lt_def, set_C, set_C]
  have c4 : UC V4 (clr (rg2 t 0 10) (cC V)) V4 := ⟨(cC_fr a4 (by decide)).trans f2.1, (agr_rfl V4).sub (by decide)⟩
  have u1 := ucy (i := 17 * t + 16) (y := (V 108 k 0 + V 2700 k e * 4, V 108 k 0, V 110 k 0, 77, 0, true)) c4
  have R1 : f_X9_reg t 1 = 17 * t + 1 := reg_C' (d := 1) (by decide)
  have R2 : f_X9_reg t 2 = 17 * t + 2 := reg_C' (d := 2) (by decide)
  have R3 : f_X9_reg t 3 = 17 * t + 3 := reg_C' (d := 3) (by decide)
  rw [R1, R2, R3]
  have u2 := ucy (i := 17 * t + 1) (y := rtc) u1
  have u3 := ucy (i := 17 * t + 2) (y := (mk, V 707 t 0, mk, 155, 0, true)) u2
  have u4 := ucy (i := 17 * t + 3) (y := (V 110 k 0, V 110 k 0, V 111 k 0, 91, 0, true)) u3
  have e707 : (kC (kC V4 (17 * t + 16) (V 108 k 0 + V 2700 k e * 4, V 108 k 0, V 110 k 0, 77, 0, true)) (17 * t + 1) (0, 0, 0, 0, 5, true)) 707 t 0 = V 707 t 0 := (u2.2 707 t 0 (by decide)).trans (g4 707 t 0 (by decide))
  rw [e707]
  have hgl : f_X1_globalsTo kb k (17 * t + 3) 91 (kC (kC (kC V4 (17 * t + 16) (V 108 k 0 + V 2700 k e * 4, V 108 k 0, V 110 k 0, 77, 0, true)) (17 * t + 1) rtc) (17 * t + 2) (mk, V 707 t 0, mk, 155, 0, true)) = kC (kC (kC (kC V4 (17 * t + 16) (V 108 k 0 + V 2700 k e * 4, V 108 k 0, V 110 k 0, 77, 0, true)) (17 * t + 1) rtc) (17 * t + 2) (mk, V 707 t 0, mk, 155, 0, true)) (17 * t + 3) (V 110 k 0, V 110 k 0, V 111 k 0, 91, 0, true) := by
    unfold f_X1_globalsTo
    rw [lt_def, set_C, u3.2 110 k 0 (by decide), u3.2 111 k 0 (by decide), g4 110 k 0 (by decide), g4 111 k 0 (by decide)]
  have hgl' := hgl
  unfold rtc at hgl'
  rw [hgl']
  generalize hV8 : kC (kC (kC (kC V4 (17 * t + 16) (V 108 k 0 + V 2700 k e * 4, V 108 k 0, V 110 k 0, 77, 0, true)) (17 * t + 1) (0, 0, 0, 0, 5, true)) (17 * t + 2) (mk, V 707 t 0, mk, 155, 0, true)) (17 * t + 3) (V 110 k 0, V 110 k 0, V 111 k 0, 91, 0, true) = V8
  have u4' : UC V4 (etb t (V 108 k 0 + V 2700 k e * 4, V 108 k 0, V 110 k 0, 77, 0, true) (mk, V 707 t 0, mk, 155, 0, true) (V 110 k 0, V 110 k 0, V 111 k 0, 91, 0, true) (cC V)) V8 := by rw [← hV8]; exact u4
  refine ⟨_, rfl, ?_, ?_, fun c hc u hu => ?_, ?_, ?_, ?_⟩
  · rw [cC_fr (agr_sv V8 708 t 0 _) (by decide)]
    exact u4'.1
  · exact (((f2.2.app a4).app u4'.2).app (agr_sv _ _ _ _ _)).sub (by decide)
  · rw [sv_ne (fun q => hu q.2.1), u4'.2 c u 0 (by revert c; decide), ← hV4, sv_ne (fun q => hu q.2.1), sv_ne (fun q => hu q.2.1)]
    exact g1 c u 0 (by revert c; decide)
  · rw [sv_col (by decide), u4'.2 709 t 0 (by decide), ← hV4, sv_col (by decide), sv_at]
  · rw [sv_at]
  · rw [sv_col (by decide), u4'.2 710 t 0 (by decide), ← hV4, sv_at, i2b_b2i]
