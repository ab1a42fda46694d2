/-! returns -/
theorem wp_ct {kb a b : Nat} {Y : HV} {l : List Ob} {V V' W W' : HV} (hRm : Rm kb V W) (hM : Mgd kb Y l W) (hJ : Jm Y l W) (a2 : V' 2300 0 = zr (V 2300 0) (16 * a) (16 * b)) (a3 : V' 2400 0 = zg (V 2400 0) a (16 * b) (fun g => mk false (i2b (W 2300 0 g)))) (b2 : W' 2100 0 = zr (W 2100 0) (16 * a) (16 * b)) (b3 : W' 2200 0 = zg (W 2200 0) a (16 * b) (fun _ => 0)) (b4 : ∀ g, W' 2300 0 g = W 2300 0 g) (b5 : W' 1061 0 0 = W 1061 0 0) : Rm kb V' W' ∧ Mgd kb Y l W' ∧ Jm Y l W' := by
  have hsub : Msub W W' := by
    intro q hq
    rw [b2, b3]
    rw [b3] at hq
    by_cases hin : a ≤ q ∧ 16 * q < 16 * b
    · unfold zg at hq
      rw [if_pos hin] at hq
      exact absurd hq (show ¬ i2b 0 = true by decide)
    · refine mC_zr (by omega) ?_
      unfold zg
      rw [if_neg hin]
  refine ⟨⟨fun j hj => ?_, fun g hg => ?_⟩, Mgd_sub hsub hM, Jm_sub hsub b5 hJ⟩
  · rw [a2, b2]
    unfold zr
    by_cases hin : 16 * a ≤ j ∧ j < 16 * b
    · rw [if_pos hin, if_pos hin]
    · rw [if_neg hin, if_neg hin]; exact hRm.1 j hj
  · rw [a3, b3, b4 g]
    unfold zg
    by_cases hin : a ≤ g ∧ 16 * g < 16 * b
    · rw [if_pos hin, if_pos hin]; rfl
    · rw [if_neg hin, if_neg hin]; exact hRm.2 g hg
theorem ufl {kb i : Nat} {l : List Ob} {V V1 : HV} {f : Nat → Cp} {y : Cp} (hkb : kb ≤ 32) (h : Mk kb l V) (u : UC V f V1) (hy : f i = y) : ∃ V', f_X8_filter kb 0 i V1 = some V' ∧ UC V (up f i (fil kb l y)) V' := by
  obtain ⟨V', a1, a2⟩ := filter_C (i := i) hkb (Mk_fr h u.2 (by decide))
  rw [u.1, hy] at a2
  exact ⟨V', a1, u.trans a2⟩
theorem mfl {kb i : Nat} {l : List Ob} {W W1 : HV} {f : Nat → Cp} {y : Cp} (h : Rv kb l W) (u : UM W f W1) (hy : f i = y) (hi : i < 600) : ∃ W', f_X12_filter 0 (nI i) W1 = some W' ∧ UM W (up f i (fil kb l y)) W' := by
  obtain ⟨W', a1, a2⟩ := filter_M (i := i) (Rv_fr h u.2 (by decide) (by decide)) hi
  rw [u.1, hy] at a2
  exact ⟨W', a1, u.trans a2⟩
theorem frF_C {kb F : Nat} {l : List Ob} {V : HV} (hkb : kb ≤ 32) (h : Mk kb l V) : ∃ V', f_X3_filterBy kb F 0 V = some V' ∧ UC V (up (up (up (up (up (cC V) (102 + 5 * F) (fil kb l (cC V (102 + 5 * F)))) (103 + 5 * F) (fil kb l (cC V (103 + 5 * F)))) (104 + 5 * F) (fil kb l (cC V (104 + 5 * F)))) (105 + 5 * F) (fil kb l (cC V (105 + 5 * F)))) (106 + 5 * F) (fil kb l (cC V (106 + 5 * F)))) V' := by
  unfold f_X3_filterBy
  obtain ⟨V1, a1, u1⟩ := ufl (i := 102 + 5 * F) hkb h (UC_rfl V) rfl
  obtain ⟨V2, a2, u2⟩ := ufl (i := 103 + 5 * F) (y := cC V (103 + 5 * F)) hkb h u1 (by rw [up_ne (by omega)])
  obtain ⟨V3, a3, u3⟩ := ufl (i := 104 + 5 * F) (y := cC V (104 + 5 * F)) hkb h u2 (by rw [up_ne (by omega), up_ne (by omega)])
  obtain ⟨V4, a4, u4⟩ := ufl (i := 105 + 5 * F) (y := cC V (105 + 5 * F)) hkb h u3 (by rw [up_ne (by omega), up_ne (by omega), up_ne (by omega)])
  obtain ⟨V5, a5, u5⟩ := ufl (i := 106 + 5 * F) (y := cC V (106 + 5 * F)) hkb h u4 (by rw [up_ne (by omega), up_ne (by omega), up_ne (by omega), up_ne (by omega)])
  rw [a1, bnd_some, a2, bnd_some, a3, bnd_some, a4, bnd_some, a5, bnd_some]
  exact ⟨V5, rfl, u5⟩
/-- the registers' table behind a return, f before: y0 .. y4 are the frame's -/
def GB (t F : Nat) (y0 y1 y2 y3 y4 : Cp) (f f' : Nat → Cp) : Prop := (∀ i, i < 582 → ¬ (17 * t ≤ i ∧ i < 17 * t + 17) → ¬ (F ≤ i ∧ i < F + 5) → f' i = f i) ∧ f' (17 * t + 16) = y0 ∧ f' (17 * t + 2) = y1 ∧ f' (17 * t + 3) = y2 ∧ f' (17 * t + 8) = y3 ∧ f' (17 * t + 9) = y4 ∧ (∀ k, k = 0 ∨ k = 1 ∨ k = 4 ∨ k = 5 ∨ k = 6 ∨ k = 7 ∨ k = 12 ∨ k = 13 ∨ k = 14 ∨ k = 15 → f' (17 * t + k) = nm 0) ∧ f' (17 * t + 10) = f (17 * t + 10) ∧ f' (17 * t + 11) = f (17 * t + 11)
theorem others_C {kb t : Nat} {V V1 : HV} {f : Nat → Cp} (u : UC V f V1) : ∃ V', f_X9_forgetOthers kb t V1 = some V' ∧ UC V (clr (rg2 t 12 16) (clr (rg2 t 4 8) (clr (rg2 t 0 2) f))) V' := by
  unfold f_X9_forgetOthers
  obtain ⟨V2, a1, u1⟩ := fo_C (kb := kb) (t := t) (a := 0) (b := 1) (V := V1) (by decide) (by decide)
  obtain ⟨V3, a2, u2⟩ := fo_C (kb := kb) (t := t) (a := 4) (b := 7) (V := V2) (by decide) (by decide)
  obtain ⟨V4, a3, u3⟩ := fo_C (kb := kb) (t := t) (a := 12) (b := 15) (V := V3) (by decide) (by decide)
  have a1' : f_X9_forget kb t 0 1 V1 = some V2 := a1
  have a2' : f_X9_forget kb t 4 7 V2 = some V3 := a2
  have a3' : f_X9_forget kb t 12 15 V3 = some V4 := a3
  rw [a1', bnd_some, a2', bnd_some, a3', bnd_some]
  rw [u.1] at u1
  rw [u1.1] at u2
  rw [u2.1] at u3
  exact ⟨V4, rfl, ((u.trans u1).trans u2).trans u3⟩
theorem give_C {kb t d b q : Nat} {l : List Ob} {R : Nat → Bool} {V : HV} (hkb : kb ≤ 32) (ht : t < 6) (hd : d < 16) (h4 : V 704 t 0 = nI (d + 1)) (hm : Mk kb l V) (hR : ∀ g, g < 64 * kb → ∃ t, V 2400 0 g = mk t (R g)) (h7 : V 707 t 0 = nI (16 * b)) (hc : (cC V (102 + 80 * t + 5 * d + 1)).1 = nI (16 * q)) (hbq : b ≤ q) (hq : q ≤ 64 * kb) : ∃ V', f_X9_giveBack kb t 0 V = some V' ∧ GB t (102 + 80 * t + 5 * d) (fil kb l (cC V (102 + 80 * t + 5 * d))) (fil kb l (cC V (102 + 80 * t + 5 * d + 1))) (fil kb l (cC V (102 + 80 * t + 5 * d + 2))) (fil kb l (cC V (102 + 80 * t + 5 * d + 3))) (fil kb l (cC V (102 + 80 * t + 5 * d + 4))) (cC V) (cC V') ∧ agr [0, 1, 2, 3, 4, 5, 704, 708, 709, 710, 2300, 2400] V V' ∧ (∀ c ∈ [704, 708, 709, 710], ∀ u, u ≠ t → V' c u 0 = V c u 0) ∧ V' 704 t 0 = nI d ∧ V' 709 t 0 = V 206 (16 * t + d) 0 ∧ i2b (V' 710 t 0) = i2b (V 205 (16 * t + d) 0) ∧ V' 708 t 0 = (cC V (102 + 80 * t + 5 * d + 1)).2.2.1 ∧ V' 2300 0 = zr (V 2300 0) (16 * b) (16 * q) ∧ V' 2400 0 = zg (V 2400 0) b (16 * q) (fun g => mk false (R g)) := by
  unfold f_X9_giveBack
  rw [jn_def, h4, if_neg (nI_nle (by omega) (by omega)), if_pos (show nI (d + 1) ≤ 16 from nI_le (b := 16) (by omega) (by decide)), lt_def, sv_at, nI_pred, chk_t (inb_nI hd (by decide)), cl_nI (by omega)]
  have a6 : agr [704] V (sv V 704 t 0 (nI d)) := agr_sv _ _ _ _ _
  have c6 : cC (sv V 704 t 0 (nI d)) = cC V := cC_fr a6 (by decide)
  have e704 : (sv V 704 t 0 (nI d)) 704 t 0 = nI d := sv_at _ _ _ _ _
  have o704 : ∀ u, u ≠ t → (sv V 704 t 0 (nI d)) 704 u 0 = V 704 u 0 := fun u hu => sv_ne (fun q => hu q.2.1)
  generalize sv V 704 t 0 (nI d) = V6 at a6 c6 e704 o704 ⊢
  obtain ⟨V8, f1, f2⟩ := frF_C (F := 16 * t + d) hkb (Mk_fr hm a6 (by decide))
  rw [c6, show 102 + 5 * (16 * t + d) = 102 + 80 * t + 5 * d by omega, show 103 + 5 * (16 * t + d) = 102 + 80 * t + 5 * d + 1 by omega, show 104 + 5 * (16 * t + d) = 102 + 80 * t + 5 * d + 2 by omega, show 105 + 5 * (16 * t + d) = 102 + 80 * t + 5 * d + 3 by omega, show 106 + 5 * (16 * t + d) = 102 + 80 * t + 5 * d + 4 by omega] at f2
  rw [f1, bnd_some, show 102 + 5 * (16 * t + d) = 102 + 80 * t + 5 * d by omega, show 103 + 5 * (16 * t + d) = 102 + 80 * t + 5 * d + 1 by omega, show 104 + 5 * (16 * t + d) = 102 + 80 * t + 5 * d + 2 by omega, show 105 + 5 * (16 * t + d) = 102 + 80 * t + 5 * d + 3 by omega, show 106 + 5 * (16 * t + d) = 102 + 80 * t + 5 * d + 4 by omega]
  have R2 : f_X9_reg t 2 = 17 * t + 2 := reg_C' (d := 2) (by decide)
  have R3 : f_X9_reg t 3 = 17 * t + 3 := reg_C' (d := 3) (by decide)
  have R8 : f_X9_reg t 8 = 17 * t + 8 := reg_C' (d := 8) (by decide)
  have R9 : f_X9_reg t 9 = 17 * t + 9 := reg_C' (d := 9) (by decide)
  rw [R2, R3, R8, R9, lt_def, lt_def, lt_def, lt_def, lt_def, copy_C, copy_C, copy_C, copy_C, copy_C]
  generalize hF : 102 + 80 * t + 5 * d = F at *
  generalize hy0 : fil kb l (cC V F) = y0 at f2 ⊢
  generalize hy1 : fil kb l (cC V (F + 1)) = y1 at f2 ⊢
  generalize hy2 : fil kb l (cC V (F + 2)) = y2 at f2 ⊢
  generalize hy3 : fil kb l (cC V (F + 3)) = y3 at f2 ⊢
  generalize hy4 : fil kb l (cC V (F + 4)) = y4 at f2 ⊢
  have u1 := ucp (i := 17 * t + 16) (j := F) (y := y0) f2 (by rw [up_ne (by omega), up_ne (by omega), up_ne (by omega), up_ne (by omega), up_at])
  have u2 := ucp (i := 17 * t + 2) (j := F + 1) (y := y1) u1 (by rw [up_ne (by omega), up_ne (by omega), up_ne (by omega), up_ne (by omega), up_at])
  have u3 := ucp (i := 17 * t + 3) (j := F + 2) (y := y2) u2 (by rw [up_ne (by omega), up_ne (by omega), up_ne (by omega), up_ne (by omega), up_at])
  have u4 := ucp (i := 17 * t + 8) (j := F + 3) (y := y3) u3 (by rw [up_ne (by omega), up_ne (by omega), up_ne (by omega), up_ne (by omega), up_at])
  have u5 := ucp (i := 17 * t + 9) (j := F + 4) (y := y4) u4 (by rw [up_ne (by omega), up_ne (by omega), up_ne (by omega), up_ne (by omega), up_at])
  generalize hT : up (up (up (up (up (up (up (up (up (up (cC V) F y0) (F + 1) y1) (F + 2) y2) (F + 3) y3) (F + 4) y4) (17 * t + 16) y0) (17 * t + 2) y1) (17 * t + 3) y2) (17 * t + 8) y3) (17 * t + 9) y4 = T at u5
  generalize kC (kC (kC (kC (kC V8 (17 * t + 16) (cC V8 F)) (17 * t + 2) _) (17 * t + 3) _) (17 * t + 8) _) (17 * t + 9) _ = V13 at u5 ⊢
  have g13 : ∀ c o j, c ∉ [0, 1, 2, 3, 4, 5] → V13 c o j = V6 c o j := fun c o j hc => u5.2 c o j hc
  have g6 : ∀ c o j, c ∉ [704] → V6 c o j = V c o j := fun c o j hc => a6 c o j hc
  rw [lt_def, lt_def, lt_def]
  have tF1 : T (F + 1) = y1 := by rw [← hT, up_ne (by omega), up_ne (by omega), up_ne (by omega), up_ne (by omega), up_ne (by omega), up_ne (by omega), up_ne (by omega), up_ne (by omega), up_at]
  have v2 : (sv (sv V13 710 t 0 (b2i (i2b (V13 205 (16 * t + d) 0)))) 709 t 0 ((sv V13 710 t 0 (b2i (i2b (V13 205 (16 * t + d) 0)))) 206 (16 * t + d) 0)) 2 (F + 1) 0 = (cC V (F + 1)).2.2.1 := by
    rw [sv_col (by decide), sv_col (by decide)]
    refine (congrArg (fun c : Cp => c.2.2.1) (show cC V13 (F + 1) = y1 by rw [u5.1]; exact tF1)).trans ?_
    rw [← hy1]
    rfl
  rw [v2, sv_col (show ¬ 206 = 710 by decide), g13 205 _ 0 (by decide), g13 206 _ 0 (by decide), g6 205 _ 0 (by decide), g6 206 _ 0 (by decide)]
  have a16 : agr [710, 709, 708] V13 (sv (sv (sv V13 710 t 0 (b2i (i2b (V 205 (16 * t + d) 0)))) 709 t 0 (V 206 (16 * t + d) 0)) 708 t 0 (cC V (F + 1)).2.2.1) := ((agr_sv _ _ _ _ _).app (agr_sv _ _ _ _ _)).app (agr_sv _ _ _ _ _)
  have w710 : (sv (sv (sv V13 710 t 0 (b2i (i2b (V 205 (16 * t + d) 0)))) 709 t 0 (V 206 (16 * t + d) 0)) 708 t 0 (cC V (F + 1)).2.2.1) 710 t 0 = b2i (i2b (V 205 (16 * t + d) 0)) := by rw [sv_col (by decide), sv_col (by decide), sv_at]
  have w709 : (sv (sv (sv V13 710 t 0 (b2i (i2b (V 205 (16 * t + d) 0)))) 709 t 0 (V 206 (16 * t + d) 0)) 708 t 0 (cC V (F + 1)).2.2.1) 709 t 0 = V 206 (16 * t + d) 0 := by rw [sv_col (by decide), sv_at]
  have w708 : (sv (sv (sv V13 710 t 0 (b2i (i2b (V 205 (16 * t + d) 0)))) 709 t 0 (V 206 (16 * t + d) 0)) 708 t 0 (cC V (F + 1)).2.2.1) 708 t 0 = (cC V (F + 1)).2.2.1 := sv_at _ _ _ _ _
  have wo : ∀ c ∈ [708, 709, 710], ∀ u, u ≠ t → (sv (sv (sv V13 710 t 0 (b2i (i2b (V 205 (16 * t + d) 0)))) 709 t 0 (V 206 (16 * t + d) 0)) 708 t 0 (cC V (F + 1)).2.2.1) c u 0 = V13 c u 0 := fun c _ u hu => by rw [sv_ne (fun q => hu q.2.1), sv_ne (fun q => hu q.2.1), sv_ne (fun q => hu q.2.1)]
  generalize sv (sv (sv V13 710 t 0 (b2i (i2b (V 205 (16 * t + d) 0)))) 709 t 0 (V 206 (16 * t + d) 0)) 708 t 0 (cC V (F + 1)).2.2.1 = V16 at a16 w710 w709 w708 wo ⊢
  have u16 : UC V16 T V16 := ⟨(cC_fr a16 (by decide)).trans u5.1, (agr_rfl V16).sub (by decide)⟩
  obtain ⟨V17, o1, o2⟩ := others_C (kb := kb) (t := t) u16
  rw [o1, bnd_some]
  have g17 : ∀ c o j, c ∉ [0, 1, 2, 3, 4, 5, 704, 708, 709, 710] → V17 c o j = V c o j := fun c o j hc => ((((a6.app u5.2).app a16).app o2.2).sub (ds := [0, 1, 2, 3, 4, 5, 704, 708, 709, 710]) (by decide)) c o j hc
  have t17 : cC V17 (F + 1) = y1 := by rw [o2.1, clr_f (rg2_f (by omega)), clr_f (rg2_f (by omega)), clr_f (rg2_f (by omega))]; exact tF1
  have z17 : V17 0 (F + 1) 0 = nI (16 * q) := by rw [V0_cap t17, ← hy1]; exact hc
  obtain ⟨V', x1, x2, x3, x4⟩ := erase_C (V := V17) (a := b) (b := q) (R := R) hkb hbq hq (fun g _ h2 => by rw [g17 2400 0 g (by decide)]; exact hR g (by omega))
  rw [g17 707 t 0 (by decide), h7, z17, x1, bnd_some]
  have cV' : cC V' = clr (rg2 t 12 16) (clr (rg2 t 4 8) (clr (rg2 t 0 2) T)) := (cC_fr x4 (by decide)).trans o2.1
  refine ⟨V', rfl, ?_, (((((a6.app u5.2).app a16).app o2.2)).app x4).sub (by decide), fun c hc' u hu => ?_, ?_, ?_, ?_, ?_, ?_, ?_⟩
  · rw [cV', ← hT]
    refine ⟨fun i hi h1 h2 => ?_, ?_, ?_, ?_, ?_, ?_, fun k hk => ?_, ?_, ?_⟩
    · rw [clr_f (rg2_f (by omega)), clr_f (rg2_f (by omega)), clr_f (rg2_f (by omega)), up_ne (by omega), up_ne (by omega), up_ne (by omega), up_ne (by omega), up_ne (by omega), up_ne (by omega), up_ne (by omega), up_ne (by omega), up_ne (by omega), up_ne (by omega)]
    · rw [clr_f (rg2_f (by omega)), clr_f (rg2_f (by omega)), clr_f (rg2_f (by omega)), up_ne (by omega), up_ne (by omega), up_ne (by omega), up_ne (by omega), up_at]
    · rw [clr_f (rg2_f (by omega)), clr_f (rg2_f (by omega)), clr_f (rg2_f (by omega)), up_ne (by omega), up_ne (by omega), up_ne (by omega), up_at]
    · rw [clr_f (rg2_f (by omega)), clr_f (rg2_f (by omega)), clr_f (rg2_f (by omega)), up_ne (by omega), up_ne (by omega), up_at]
    · rw [clr_f (rg2_f (by omega)), clr_f (rg2_f (by omega)), clr_f (rg2_f (by omega)), up_ne (by omega), up_at]
    · rw [clr_f (rg2_f (by omega)), clr_f (rg2_f (by omega)), clr_f (rg2_f (by omega)), up_at]
    · by_cases q1 : 12 ≤ k
      · exact clr_t (rg2_t (by omega) (by omega))
      · rw [clr_f (rg2_f (by omega))]
        by_cases q2 : 4 ≤ k
        · exact clr_t (rg2_t (by omega) (by omega))
        · rw [clr_f (rg2_f (by omega))]
          exact clr_t (rg2_t (by omega) (by omega))
    · rw [clr_f (rg2_f (by omega)), clr_f (rg2_f (by omega)), clr_f (rg2_f (by omega)), up_ne (by omega), up_ne (by omega), up_ne (by omega), up_ne (by omega), up_ne (by omega), up_ne (by omega), up_ne (by omega), up_ne (by omega), up_ne (by omega), up_ne (by omega)]
    · rw [clr_f (rg2_f (by omega)), clr_f (rg2_f (by omega)), clr_f (rg2_f (by omega)), up_ne (by omega), up_ne (by omega), up_ne (by omega), up_ne (by omega), up_ne (by omega), up_ne (by omega), up_ne (by omega), up_ne (by omega), up_ne (by omega), up_ne (by omega)]
  · rw [x4 c u 0 (by revert c; decide), o2.2 c u 0 (by revert c; decide)]
    by_cases ec : c = 704
    · rw [ec, a16 704 u 0 (by decide), g13 704 u 0 (by decide)]; exact o704 u hu
    · rw [wo c (by revert c; decide) u hu, g13 c u 0 (by revert c; decide), g6 c u 0 (by revert c; decide)]
  · rw [x4 704 t 0 (by decide), o2.2 704 t 0 (by decide), a16 704 t 0 (by decide), g13 704 t 0 (by decide)]; exact e704
  · rw [x4 709 t 0 (by decide), o2.2 709 t 0 (by decide)]; exact w709
  · rw [x4 710 t 0 (by decide), o2.2 710 t 0 (by decide), w710, i2b_b2i]
  · rw [x4 708 t 0 (by decide), o2.2 708 t 0 (by decide)]; exact w708
  · rw [x2, show V17 2300 0 = V 2300 0 from funext fun j => g17 2300 0 j (by decide)]
  · rw [x3, show V17 2400 0 = V 2400 0 from funext fun j => g17 2400 0 j (by decide)]
