noncomputable def clt (x1 : Int32) (p1 : HV) : Option (HV) :=
  chk (inb (p1 1080 0 0) 6) <|
  chk (inb (p1 1080 0 0) 6) <|
  if (p1 5000 0 (p1 1080 0 0).toNatClampNeg) = (p1 5100 0 (p1 1080 0 0).toNatClampNeg) then (lt (f_X12_reg (p1 1080 0 0) 10) fun v76 =>
  bnd (f_X12_number 0 v76 (-1) p1) fun p77 =>
  lt (f_X12_reg (p77 1080 0 0) 11) fun v78 =>
  bnd (f_X12_number 0 v78 8 p77) fun p79 =>
  some p79) else (lt (sv p1 1050 0 0 ((p1 1050 0 0) + 1)) fun V5 =>
  chk (inb (V5 1080 0 0) 6) <|
  lt (V5 5000 0 (V5 1080 0 0).toNatClampNeg) fun v7 =>
  lt (f_X12_pcc 0 V5) fun v8 =>
  lt (f_X12_frame (V5 1080 0 0) v7 0) fun v9 =>
  bnd (f_X12_copy 0 v8 v9 V5) fun p10 =>
  lt (f_X12_reg (p10 1080 0 0) 2) fun v11 =>
  lt (f_X12_frame (p10 1080 0 0) v7 1) fun v12 =>
  bnd (f_X12_copy 0 v11 v12 p10) fun p13 =>
  lt (f_X12_reg (p13 1080 0 0) 3) fun v14 =>
  lt (f_X12_frame (p13 1080 0 0) v7 2) fun v15 =>
  bnd (f_X12_copy 0 v14 v15 p13) fun p16 =>
  lt (f_X12_reg (p16 1080 0 0) 8) fun v17 =>
  lt (f_X12_frame (p16 1080 0 0) v7 3) fun v18 =>
  bnd (f_X12_copy 0 v17 v18 p16) fun p19 =>
  lt (f_X12_reg (p19 1080 0 0) 9) fun v20 =>
  lt (f_X12_frame (p19 1080 0 0) v7 4) fun v21 =>
  bnd (f_X12_copy 0 v20 v21 p19) fun p22 =>
  chk (inb (p22 1080 0 0) 6) <|
  chk (inb ((16 * (p22 1080 0 0)) + v7) 96) <|
  lt (sv p22 6400 0 ((16 * (p22 1080 0 0)) + v7).toNatClampNeg (p22 4900 0 (p22 1080 0 0).toNatClampNeg)) fun V25 =>
  chk (inb (V25 1080 0 0) 6) <|
  chk (inb ((16 * (V25 1080 0 0)) + v7) 96) <|
  lt (sv V25 6500 0 ((16 * (V25 1080 0 0)) + v7).toNatClampNeg (b2i (i2b (V25 5200 0 (V25 1080 0 0).toNatClampNeg)))) fun V28 =>
  chk (inb (V28 1080 0 0) 6) <|
  chk (inb ((16 * (V28 1080 0 0)) + v7) 96) <|
  lt (sv V28 6600 0 ((16 * (V28 1080 0 0)) + v7).toNatClampNeg (V28 5800 0 (V28 1080 0 0).toNatClampNeg)) fun V31 =>
  chk (inb (V31 1080 0 0) 6) <|
  chk (inb (V31 1080 0 0) 6) <|
  lt (sv V31 5000 0 (V31 1080 0 0).toNatClampNeg ((V31 5000 0 (V31 1080 0 0).toNatClampNeg) + 1)) fun V34 =>
  lt (f_X12_reg (V34 1080 0 0) 2) fun v35 =>
  chk (inb v35 600) <|
  lt (V34 2400 0 (v35).toNatClampNeg) fun v37 =>
  chk (inb (V34 1080 0 0) 6) <|
  bnd (f_X12_wipe 0 (V34 5600 0 (V34 1080 0 0).toNatClampNeg) v37 V34) fun p39 =>
  lt (x1 / 16) fun v40 =>
  lt ((8 * v40) + (x1 - x1 / 16 * 16)) fun v41 =>
  jn (fun V44 =>
  chk (inb v41 64) <|
  lt (f_X12_pcc 0 V44) fun v46 =>
  bnd (f_X12_code 0 v40 (V44 4500 0 (v41).toNatClampNeg) v46 V44) fun p47 =>
  chk (inb v41 64) <|
  jn (fun v49 =>
  chk (inb (p47 1080 0 0) 6) <|
  lt (sv p47 5200 0 (p47 1080 0 0).toNatClampNeg (b2i v49)) fun V53 =>
  chk (inb (V53 1080 0 0) 6) <|
  lt (sv V53 4900 0 (V53 1080 0 0).toNatClampNeg v40) fun V55 =>
  chk (inb (V55 1080 0 0) 6) <|
  lt (sv V55 5800 0 (V55 1080 0 0).toNatClampNeg v37) fun V57 =>
  lt (f_X12_reg (V57 1080 0 0) 1) fun v58 =>
  bnd (f_X12_make 0 v58 0 0 0 0 5 true V57) fun p59 =>
  lt (f_X12_reg (p59 1080 0 0) 2) fun v60 =>
  bnd (f_X12_stack 0 (p59 1080 0 0) v37 v60 p59) fun p61 =>
  lt (f_X12_reg (p61 1080 0 0) 3) fun v62 =>
  bnd (f_X12_globals 0 v40 v62 p61) fun p63 =>
  some p63) fun k50 =>
  if (p47 4600 0 (v41).toNatClampNeg) = 1 then (chk (inb (p47 1080 0 0) 6) <|
  k50 (i2b (p47 5200 0 (p47 1080 0 0).toNatClampNeg))) else (chk (inb v41 64) <|
  if (p47 4600 0 (v41).toNatClampNeg) = 3 then (k50 true) else (k50 false))) fun k42 =>
  f_X12_call_L309 0 k42 FU 0 p39)
theorem call_h (x1 : Int32) (W : HV) : f_X12_call 0 x1 W = bnd (f_X12_goesOn 0 W) fun p1 => clt x1 p1 := rfl
/-! the machine's counts -/
theorem OK_cnt {x kb T Tw t c d : Nat} {Y : HV} {l : List Ob} {V W : HV} (h : OK x kb T Tw t Y l V W) (hcd : (c = 813 ∧ d = 1049) ∨ (c = 814 ∧ d = 1050) ∨ (c = 815 ∧ d = 1051)) : OK x kb T Tw t Y l (sv V c 0 0 (V c 0 0 + 1)) (sv W d 0 0 (W d 0 0 + 1)) := by
  obtain ⟨h1, h2, h3, h4, h5, h6⟩ := h
  have aV : agr [813, 814, 815] V (sv V c 0 0 (V c 0 0 + 1)) := (agr_sv V c 0 0 _).sub (fun k hk => by
    rw [List.mem_singleton.mp hk]
    rcases hcd with ⟨e, _⟩ | ⟨e, _⟩ | ⟨e, _⟩ <;> rw [e] <;> decide)
  have aW : agr [1049, 1050, 1051] W (sv W d 0 0 (W d 0 0 + 1)) := (agr_sv W d 0 0 _).sub (fun k hk => by
    rw [List.mem_singleton.mp hk]
    rcases hcd with ⟨_, e⟩ | ⟨_, e⟩ | ⟨_, e⟩ <;> rw [e] <;> decide)
  refine ⟨ST_num h1 (aV.sub (by decide)) (aW.sub (by decide)) ?_, Tm_fr aV aW (by decide) (by decide) h2, Jr_fr aW (by decide) h3, Jm_fr aW (by decide) h4, (aW 1080 0 0 (by decide)).trans h5, h6⟩
  obtain ⟨s1, s2, s3, s4, s5, s6, s7, s8, s9⟩ := h1.2.2.1
  rcases hcd with ⟨rfl, rfl⟩ | ⟨rfl, rfl⟩ | ⟨rfl, rfl⟩
  · refine ⟨s1, s2, s3, s4, s5, ?_, s7, s8, s9⟩
    rw [sv_at, sv_at, s6]
  · refine ⟨s1, s2, s3, s4, s5, s6, ?_, s8, s9⟩
    rw [sv_at, sv_at, s7]
  · refine ⟨s1, s2, s3, s4, s5, s6, s7, ?_, s9⟩
    rw [sv_at, sv_at, s8]
theorem left_C {kb t dd m : Nat} {V : HV} (h1 : V 704 t 0 = nI dd) (h2 : V 705 t 0 = nI m) (hd : dd ≤ m) (hm : m ≤ 16) : f_X9_hasFrameLeft kb t V = decide (dd < m) := by
  unfold f_X9_hasFrameLeft
  rw [lt_def, h1, h2, if_neg (nI_pos (by omega))]
  by_cases q : dd < m
  · rw [if_neg (fun z => by have := (nI_leI (by omega) (by omega)).mp z; omega), if_neg (show ¬ (16 : Int32) ≤ nI dd from fun z => by have := (nI_leI (a := 16) (by omega) (by omega)).mp z; omega), decide_eq_true q]
  · rw [if_pos (nI_le (by omega) (by omega)), decide_eq_false q]
theorem keep_C {kb t dd m : Nat} {V : HV} (ht : t < 6) (h1 : V 704 t 0 = nI dd) (h2 : V 705 t 0 = nI m) (hd : dd < m) (hm : m ≤ 16) : ∃ V', f_X9_keepFrame kb t V = some V' ∧ cC V' = kp t dd (cC V) ∧ agr [0, 1, 2, 3, 4, 5, 205, 206, 704] V V' ∧ (∀ u, V' 704 u 0 = if u = t then nI (dd + 1) else V 704 u 0) ∧ (∀ o, V' 206 o 0 = if o = 16 * t + dd then V 709 t 0 else V 206 o 0) ∧ (∀ o, V' 205 o 0 = if o = 16 * t + dd then b2i (i2b (V 710 t 0)) else V 205 o 0) := by
  have u1 := ucp (i := 102 + 80 * t + 5 * dd) (j := 17 * t + 16) (UC_rfl V) rfl
  have u2 := ucp (i := 102 + 80 * t + 5 * dd + 1) (j := 17 * t + 2) (y := cC V (17 * t + 2)) u1 (by rw [up_ne (by omega)])
  have u3 := ucp (i := 102 + 80 * t + 5 * dd + 2) (j := 17 * t + 3) (y := cC V (17 * t + 3)) u2 (by rw [up_ne (by omega), up_ne (by omega)])
  have u4 := ucp (i := 102 + 80 * t + 5 * dd + 3) (j := 17 * t + 8) (y := cC V (17 * t + 8)) u3 (by rw [up_ne (by omega), up_ne (by omega), up_ne (by omega)])
  have u5 := ucp (i := 102 + 80 * t + 5 * dd + 4) (j := 17 * t + 9) (y := cC V (17 * t + 9)) u4 (by rw [up_ne (by omega), up_ne (by omega), up_ne (by omega), up_ne (by omega)])
  unfold f_X9_keepFrame
  rw [lt_def, left_C h1 h2 (by omega) hm, decide_eq_true hd, if_pos rfl, h1, chk_t (inb_nI (by omega) (by decide)), cl_nI (by omega), lt_def, lt_def, lt_def, lt_def, lt_def, lt_def, lt_def, lt_def, copy_C, copy_C, copy_C, copy_C, copy_C, show (2 : Int32) = nI 2 from rfl, show (3 : Int32) = nI 3 from rfl, show (8 : Int32) = nI 8 from rfl, show (9 : Int32) = nI 9 from rfl, reg_C' (by decide), reg_C' (by decide), reg_C' (by decide), reg_C' (by decide), show 102 + 5 * (16 * t + dd) = 102 + 80 * t + 5 * dd by omega, show 103 + 5 * (16 * t + dd) = 102 + 80 * t + 5 * dd + 1 by omega, show 104 + 5 * (16 * t + dd) = 102 + 80 * t + 5 * dd + 2 by omega, show 105 + 5 * (16 * t + dd) = 102 + 80 * t + 5 * dd + 3 by omega, show 106 + 5 * (16 * t + dd) = 102 + 80 * t + 5 * dd + 4 by omega]
  generalize kC (kC (kC (kC (kC V (102 + 80 * t + 5 * dd) (cC V (17 * t + 16))) _ _) _ _) _ _) (102 + 80 * t + 5 * dd + 4) _ = V8 at u5 ⊢
  have g7 : ∀ c o j, c ∉ [0, 1, 2, 3, 4, 5] → V8 c o j = V c o j := fun c o j hc => u5.2 c o j hc
  refine ⟨_, rfl, ?_, (((u5.2.app (agr_sv _ _ _ _ _)).app (agr_sv _ _ _ _ _)).app (agr_sv _ _ _ _ _)).sub (by decide), fun u => ?_, fun o => ?_, fun o => ?_⟩
  · rw [cC_fr (((agr_sv V8 205 _ 0 _).app (agr_sv _ 206 _ 0 _)).app (agr_sv _ 704 t 0 _)) (by decide)]
    exact u5.1
  · by_cases e : u = t
    · rw [if_pos e, e, sv_at, sv_col (by decide), sv_col (by decide), g7 704 t 0 (by decide), h1, nI_1]
    · rw [if_neg e, sv_ne (fun q => e q.2.1), sv_col (by decide), sv_col (by decide), g7 704 u 0 (by decide)]
  · rw [sv_col (by decide)]
    by_cases e : o = 16 * t + dd
    · rw [if_pos e, e, sv_at, sv_col (by decide), g7 709 t 0 (by decide)]
    · rw [if_neg e, sv_ne (fun q => e q.2.1), sv_col (by decide), g7 206 o 0 (by decide)]
  · rw [sv_col (by decide), sv_col (by decide)]
    by_cases e : o = 16 * t + dd
    · rw [if_pos e, e, sv_at, g7 710 t 0 (by decide)]
    · rw [if_neg e, sv_ne (fun q => e q.2.1), g7 205 o 0 (by decide)]
