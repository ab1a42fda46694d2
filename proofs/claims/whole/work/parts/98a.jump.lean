/-! jumps -/
def jmp (c : Cp) (i : Int32) : Int32 := if c.2.2.2.2.2 = true then (if c.2.2.2.2.1 = 0 then (if c.2.2.2.1 &&& 4 = 0 then 3 else 0) else (if i = 0 then (if 6 < c.2.2.2.2.1 then 2 else 0) else 2)) else 1
theorem jf_C {kb j : Nat} {i : Int32} {c : Cp} {V : HV} (h : cC V j = c) : f_X2_jumpFault kb j i V = jmp c i := by
  have e5 : i2b (V 5 j 0) = c.2.2.2.2.2 := congrArg (fun c : Cp => c.2.2.2.2.2) h
  have e4 : V 4 j 0 = c.2.2.2.2.1 := congrArg (fun c : Cp => c.2.2.2.2.1) h
  have b4 : (c.2.2.2.1 &&& 4 = 4) ↔ ¬ (c.2.2.2.1 &&& 4 = 0) := bit_iff (k := 2) (by decide) (by decide)
  unfold f_X2_jumpFault jmp
  rw [e5, e4, lt_def, lt_def, lt_def, has_c, h]
  by_cases q : c.2.2.2.1 &&& 4 = 0
  · rw [decide_eq_false (fun z => b4.mp z q), if_pos q, if_neg (show ¬ false = true by decide)]
  · rw [decide_eq_true (b4.mpr q), if_neg q, if_pos rfl]
noncomputable def jmt (v5 x1 : Int32) (p13 : HV) : Option (Int32 × HV) :=
  lt (f_X12_d 0 p13) fun v16 =>
  bnd (f_X12_comes 0 582 v16 p13) fun p17 =>
  if 4 ≤ v5 then (if v5 = 4 then (chk (inb (583 : Int32) 600) <|
  bnd (f_X12_call 0 (p17 2400 0 ((583 : Int32)).toNatClampNeg) p17) fun p26 =>
  some (0, p26)) else (if v5 = 5 then (bnd (f_X12_returns 0 p17) fun p24 =>
  some (0, p24)) else (bnd (f_X12_goesOn 0 p17) fun p21 =>
  chk (inb (583 : Int32) 600) <|
  bnd (f_X12_service 0 (p21 2400 0 ((583 : Int32)).toNatClampNeg) p21) fun p23 =>
  some (0, p23)))) else (lt (f_X12_pcc 0 p17) fun v27 =>
  bnd (f_X12_copy 0 583 v27 p17) fun p28 =>
  lt (f_X12_pcc 0 p28) fun v29 =>
  chk (inb v29 600) <|
  lt (if v5 = 0 then (x1) else (0) : Int32) fun v31 =>
  chk (inb v29 600) <|
  lt (sv p28 2400 0 (v29).toNatClampNeg ((p28 2400 0 (v29).toNatClampNeg) + v31)) fun V34 =>
  lt (f_X12_pcc 0 V34) fun v35 =>
  chk (inb v35 600) <|
  lt (sv V34 2800 0 (v35).toNatClampNeg 0) fun V37 =>
  jn (fun v38 =>
  chk (inb (V37 1080 0 0) 6) <|
  lt (sv V37 5200 0 (V37 1080 0 0).toNatClampNeg (b2i v38)) fun V42 =>
  some (0, V42)) fun k39 =>
  if v5 = 2 then (k39 false) else (jn (k39 true) fun k44 =>
  if v5 = 3 then (k44) else (chk (inb (V37 1080 0 0) 6) <|
  if (i2b (V37 5200 0 (V37 1080 0 0).toNatClampNeg)) = true then (k44) else (k39 false))))
theorem jumps_f {W : HV} {t a : Nat} {x i : Int32} (h80 : W 1080 0 0 = nI t) (ht : t < 6) (hx : W 1081 0 0 = x) (ea : fa x = nI a) (ha : a < 16) (hj : ¬ jmp (cM W (17 * t + a)) i = 0) : f_X12_jumps 0 i W = some (jmp (cM W (17 * t + a)) i, kM W 583 (cM W (17 * t + a))) := by
  have hi : inb (nI (17 * t + a)) 600 := inb_nI (by omega) (by decide)
  have hcp := copy_M (i := 17 * t + a) (j := 583) (by omega) (by decide) W
  rw [show nI 583 = (583 : Int32) from rfl] at hcp
  have hc : cM (kM W 583 (cM W (17 * t + a))) (17 * t + a) = cM W (17 * t + a) := g_ne (kM_U W 583 _) (by omega)
  unfold f_X12_jumps
  rw [lt_def, lt_def, a_M, hx, ea, h80, reg_M', hcp, bnd_some, chk_t hi, lt_def, chk_t hi, cl_nI (by omega), cM_5 hc, cM_4 hc]
  generalize cM W (17 * t + a) = c at hj hc ⊢
  unfold jmp at hj ⊢
  by_cases h1 : c.2.2.2.2.2 = true
  · rw [if_pos h1] at hj
    rw [if_pos h1, if_pos h1, jn_def]
    by_cases h2 : c.2.2.2.2.1 = 0
    · rw [if_pos h2] at hj
      rw [if_pos h2, if_pos h2, chk_t hi, cM_3 hc]
      by_cases h3 : c.2.2.2.1 &&& 4 = 0
      · rw [if_pos h3, if_pos h3, if_pos h2]
      · rw [if_neg h3] at hj
        exact absurd rfl hj
    · rw [if_neg h2] at hj
      rw [if_neg h2, if_neg h2, jn_def, if_neg h2]
      by_cases h3 : i = 0
      · rw [if_pos h3] at hj
        rw [if_pos h3, if_pos h3]
        by_cases h4 : 6 < c.2.2.2.2.1
        · rw [if_pos h4, if_neg (Int32.not_le.mpr h4), if_neg h2]
        · rw [if_neg h4] at hj
          exact absurd rfl hj
      · rw [if_neg h3, if_neg h3, if_neg h2]
  · rw [if_neg h1, if_neg h1]
theorem jumps_h {W : HV} {t a : Nat} {x i : Int32} (h80 : W 1080 0 0 = nI t) (ht : t < 6) (hx : W 1081 0 0 = x) (ea : fa x = nI a) (ha : a < 16) (hj : jmp (cM W (17 * t + a)) i = 0) : f_X12_jumps 0 i W = bnd (f_X12_link 0 (kM W 583 (cM W (17 * t + a)))) fun p13 => if (cM W (17 * t + a)).2.2.2.2.1 = 4 then (lt (f_X12_d 0 p13) fun v52 =>
  if v52 = 2 then (some (7, p13)) else (bnd (f_X12_isStack 0 p13) fun p54 =>
  if p54 = true then (jmt (cM W (17 * t + a)).2.2.2.2.1 i p13) else (some (7, p13)))) else (jmt (cM W (17 * t + a)).2.2.2.2.1 i p13) := by
  have hi : inb (nI (17 * t + a)) 600 := inb_nI (by omega) (by decide)
  have hcp := copy_M (i := 17 * t + a) (j := 583) (by omega) (by decide) W
  rw [show nI 583 = (583 : Int32) from rfl] at hcp
  have hc : cM (kM W 583 (cM W (17 * t + a))) (17 * t + a) = cM W (17 * t + a) := g_ne (kM_U W 583 _) (by omega)
  unfold f_X12_jumps
  rw [lt_def, lt_def, a_M, hx, ea, h80, reg_M', hcp, bnd_some, chk_t hi, lt_def, chk_t hi, cl_nI (by omega), cM_5 hc, cM_4 hc]
  generalize cM W (17 * t + a) = c at hj hc ⊢
  unfold jmp at hj
  by_cases h1 : c.2.2.2.2.2 = true
  · rw [if_pos h1] at hj
    rw [if_pos h1, jn_def]
    by_cases h2 : c.2.2.2.2.1 = 0
    · rw [if_pos h2] at hj
      rw [if_pos h2, chk_t hi, cM_3 hc]
      by_cases h3 : c.2.2.2.1 &&& 4 = 0
      · rw [if_pos h3] at hj
        exact absurd hj (by decide)
      · rw [if_neg h3, jn_def, if_pos h2, if_pos (show c.2.2.2.2.1 ≤ 6 by rw [h2]; decide)]
        rfl
    · rw [if_neg h2] at hj
      rw [if_neg h2, jn_def, if_neg h2]
      by_cases h3 : i = 0
      · rw [if_pos h3] at hj
        rw [if_pos h3]
        by_cases h4 : 6 < c.2.2.2.2.1
        · rw [if_pos h4] at hj
          exact absurd hj (by decide)
        · rw [if_pos (Int32.not_lt.mp h4)]
          rfl
      · rw [if_neg h3] at hj
        exact absurd hj (by decide)
  · rw [if_neg h1] at hj
    exact absurd hj (by decide)
/-! one number of the thread -/
theorem OK_col {x kb T Tw t c d : Nat} {Y : HV} {l : List Ob} {V W : HV} {u v : Int32} (h : OK x kb T Tw t Y l V W) (hc : c ∈ [708, 709, 710, 716, 717]) (hd : d ∈ [4900, 5200, 5300, 5400, 5800]) (hR : Rt1 (sv V c t 0 u) (sv W d 0 t v) t) (hT : Thr Y (sv W d 0 t v)) : OK x kb T Tw t Y l (sv V c t 0 u) (sv W d 0 t v) := by
  obtain ⟨h1, h2, h3, h4, h5, h6⟩ := h
  have aV : agr [708, 709, 710, 716, 717] V (sv V c t 0 u) := (agr_sv V c t 0 u).sub (fun k hk => by rw [List.mem_singleton.mp hk]; exact hc)
  have aW : agr [4900, 5200, 5300, 5400, 5800] W (sv W d 0 t v) := (agr_sv W d 0 t v).sub (fun k hk => by rw [List.mem_singleton.mp hk]; exact hd)
  refine ⟨ST_thr h1 (aV.sub (by decide)) (aW.sub (by decide)) (Rs_fr aV aW (by decide) (by decide) h1.2.2.1) hT ?_, Tm_fr aV aW (by decide) (by decide) h2, Jr_fr aW (by decide) h3, Jm_fr aW (by decide) h4, (aW 1080 0 0 (by decide)).trans h5, h6⟩
  exact Rt_one (t := t) h1.2.2.2.2.2.2.2.2.2.2.2.2.2 (nth_fr aW (by decide)) (fun k _ w hw => sv_ne (fun q => hw q.2.1)) (fun k _ w hw => sv_ne (fun q => hw q.2.2)) (fun w => aV 700 w 0 (by decide)) (fun k hk o j => aV k o j (by revert k; decide)) (fun k hk o j => aW k o j (by revert k; decide)) hR
theorem OK_Rt1 {x kb T Tw t : Nat} {Y : HV} {l : List Ob} {V W : HV} (h : OK x kb T Tw t Y l V W) : Rt1 V W t := h.1.2.2.2.2.2.2.2.2.2.2.2.2.2.2.1 t (by rw [nth_LY h.1.2.1]; exact h.2.2.2.2.2)
theorem OK_Thr {x kb T Tw t : Nat} {Y : HV} {l : List Ob} {V W : HV} (h : OK x kb T Tw t Y l V W) : Thr Y W := h.1.2.2.2.2.2.2.2.2.2.2.2.2.1
theorem Thr_sv {Y W : HV} {d t : Nat} {v : Int32} (hd : d ∈ [4900, 5200, 5300, 5400]) (h : Thr Y W) : Thr Y (sv W d 0 t v) := Thr_fr ((agr_sv W d 0 t v).sub (ds := [4900, 5200, 5300, 5400]) (fun k hk => by rw [List.mem_singleton.mp hk]; exact hd)) (by decide) h
theorem OK_setOn {x kb T Tw t : Nat} {Y : HV} {l : List Ob} {V W : HV} {b : Bool} (h : OK x kb T Tw t Y l V W) : OK x kb T Tw t Y l (sv V 710 t 0 (b2i b)) (sv W 5200 0 t (b2i b)) := by
  refine OK_col h (by decide) (by decide) ?_ (Thr_sv (by decide) (OK_Thr h))
  have r := OK_Rt1 h
  unfold Rt1 at r ⊢
  simp only [sv_col (show ¬ 704 = 710 by decide), sv_col (show ¬ 705 = 710 by decide), sv_col (show ¬ 706 = 710 by decide), sv_col (show ¬ 707 = 710 by decide), sv_col (show ¬ 708 = 710 by decide), sv_col (show ¬ 709 = 710 by decide), sv_col (show ¬ 711 = 710 by decide), sv_col (show ¬ 712 = 710 by decide), sv_col (show ¬ 713 = 710 by decide), sv_col (show ¬ 715 = 710 by decide), sv_col (show ¬ 716 = 710 by decide), sv_col (show ¬ 717 = 710 by decide), sv_col (show ¬ 4700 = 5200 by decide), sv_col (show ¬ 4800 = 5200 by decide), sv_col (show ¬ 4900 = 5200 by decide), sv_col (show ¬ 5000 = 5200 by decide), sv_col (show ¬ 5100 = 5200 by decide), sv_col (show ¬ 5300 = 5200 by decide), sv_col (show ¬ 5400 = 5200 by decide), sv_col (show ¬ 5500 = 5200 by decide), sv_col (show ¬ 5600 = 5200 by decide), sv_col (show ¬ 5800 = 5200 by decide), sv_col (show ¬ 6100 = 5200 by decide), sv_col (show ¬ 6300 = 5200 by decide), sv_at]
  obtain ⟨r1, r2, r3, r4, r5, r6, r7, r8, r9, r10, r11, r12⟩ := r
  exact ⟨r1, r2, r3, r4, r5, r6, trivial, r8, r9, r10, r11, r12⟩
/-- the reference alone writes what stands there -/
theorem OK_onW {x kb T Tw t : Nat} {Y : HV} {l : List Ob} {V W : HV} (h : OK x kb T Tw t Y l V W) : OK x kb T Tw t Y l V (sv W 5200 0 t (b2i (i2b (W 5200 0 t)))) := by
  obtain ⟨h1, h2, h3, h4, h5, h6⟩ := id h
  have aV : agr [] V V := agr_rfl V
  have aW : agr [5200] W (sv W 5200 0 t (b2i (i2b (W 5200 0 t)))) := agr_sv W 5200 0 t _
  refine ⟨ST_thr h1 (aV.sub (by decide)) (aW.sub (by decide)) (Rs_fr aV aW (by decide) (by decide) h1.2.2.1) (Thr_sv (by decide) (OK_Thr h)) ?_, Tm_fr aV aW (by decide) (by decide) h2, Jr_fr aW (by decide) h3, Jm_fr aW (by decide) h4, (aW 1080 0 0 (by decide)).trans h5, h6⟩
  refine Rt_one (t := t) h1.2.2.2.2.2.2.2.2.2.2.2.2.2 (nth_fr aW (by decide)) (fun k _ w hw => rfl) (fun k _ w hw => sv_ne (fun q => hw q.2.2)) (fun w => rfl) (fun k hk o j => rfl) (fun k hk o j => aW k o j (by revert k; decide)) ?_
  have r := OK_Rt1 h
  unfold Rt1 at r ⊢
  simp only [sv_col (show ¬ 4700 = 5200 by decide), sv_col (show ¬ 4800 = 5200 by decide), sv_col (show ¬ 4900 = 5200 by decide), sv_col (show ¬ 5000 = 5200 by decide), sv_col (show ¬ 5100 = 5200 by decide), sv_col (show ¬ 5300 = 5200 by decide), sv_col (show ¬ 5400 = 5200 by decide), sv_col (show ¬ 5500 = 5200 by decide), sv_col (show ¬ 5600 = 5200 by decide), sv_col (show ¬ 5800 = 5200 by decide), sv_col (show ¬ 6100 = 5200 by decide), sv_col (show ¬ 6300 = 5200 by decide), sv_at, i2b_b2i]
  exact r
