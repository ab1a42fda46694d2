/-! one instruction -/
theorem OK_W {x kb T Tw t : Nat} {Y : HV} {l : List Ob} {V W W' : HV} (h : OK x kb T Tw t Y l V W) (hW : agr [1081] W W') : OK x kb T Tw t Y l V W' := by
  obtain ⟨h1, h2, h3, h4, h5, h6⟩ := h
  exact ⟨ST_W h1 (hW.sub (by decide)), Tm_fr (agr_rfl V) hW (by decide) (by decide) h2, Jr_fr hW (by decide) h3, Jm_fr hW (by decide) h4, (hW 1080 0 0 (by decide)).trans h5, h6⟩
theorem does_all {kb T Tw t : Nat} {Y : HV} {l : List Ob} {V W : HV} (hT1 : Tw + 1 = T) (hT2 : T < 1073741824) (h : OK 1000 kb T Tw t Y l V W) (hst : V 711 t 0 = 0) : ∃ c V' W', (∀ K : Int32 → HV → Option HV, (jn K fun k7 => if flt (cC V (17 * t + 16)) 4 (V 0 (17 * t + 16) 0) 4 = 0 then (bnd (f_X8_load kb 0 (V 0 (17 * t + 16) 0) 4 V) fun p18 =>
  lt (f_X2_isLegal p18) fun v19 =>
  if v19 = true then (if (p18 &&& 127) = 103 then (bnd (f_X2_jumpTo kb 0 t p18 V) fun p24 =>
  lt p24.1 fun v25 =>
  k7 v25 p24.2) else (bnd (f_X2_execute kb 0 t p18 V) fun p22 =>
  lt p22.1 fun v23 =>
  k7 v23 p22.2)) else (k7 6 V)) else (k7 (flt (cC V (17 * t + 16)) 4 (V 0 (17 * t + 16) 0) 4) V)) = K c V') ∧ f_X12_does 0 W = some (c, W') ∧ RJ kb T Tw t Y l V c V' W' := by
  have h6 := OK_t6 h
  have w80 := h.2.2.2.2.1
  have hc := OK_cap h (k := 16) (by decide) (by omega)
  have hkb := h.1.1.2.1
  have hTw : Tw ≤ T := by omega
  have hT31 : T < 2147483648 := by omega
  rw [hc, V0_cap hc]
  by_cases hf : flt (cM W (17 * t + 16)) 4 (cM W (17 * t + 16)).1 4 = 0
  · obtain ⟨p1, p2, p3, p4, p5, p6⟩ := flt_0 (n := 4) (by decide) hf
    have hacc := acc (n := 4) h.1.1 h.1.2.2.2.2.2.2.2.2.1.1 (OK_gd h (k := 16) (by decide)) (by decide) (by decide) hf (Or.inr (Or.inr rfl))
    have hin : uN (cM W (17 * t + 16)).1 + 4 ≤ 1024 * kb := by
      rcases hacc with q | q
      · exact q
      · exact absurd rfl q.2.2
    have hu : (cM W (17 * t + 16)).1 = nI (uN (cM W (17 * t + 16)).1) := nI_uN (by omega)
    generalize uN (cM W (17 * t + 16)).1 = n at hin hu
    have l4 := load_C (V := V) (a := n) (k := 4) hkb h.1.1.1 (by decide) hin
    rw [show nI 4 = (4 : Int32) from rfl] at l4
    have lg : ldv (V 2300 0) n 4 0 = ldv (W 2100 0) n 4 0 := ldv_congr 4 0 (fun j hj => h.1.2.2.2.2.2.1.1 (n + j) (by omega))
    rw [lg] at l4
    have hd := does_h (x := ldv (W 2100 0) n 4 0) w80 h6 hf hu (by omega) rfl
    generalize ldv (W 2100 0) n 4 0 = x at l4 hd
    have o1 : OK 1000 kb T Tw t Y l V (sv W 1081 0 0 x) := OK_W h (agr_sv W 1081 0 0 x)
    have hx : (sv W 1081 0 0 x) 1081 0 0 = x := sv_at _ _ _ _ _
    have hpt : (cM (sv W 1081 0 0 x) (17 * t + 16)).2.2.2.2.1 = 0 := by
      rw [cM_fr (agr_sv W 1081 0 0 x) (by decide)]; exact p2
    have hleg := legal_C x _ hx
    rw [hd]
    generalize sv W 1081 0 0 x = W1 at *
    by_cases hr : f_X12_isRight 0 W1 = true
    · rw [if_pos hr]
      by_cases h103 : x &&& 127 = 103
      · obtain ⟨c, V', W', e1, e2, e3⟩ := ex_103 hTw hT31 (srv_all hT1 hT2) o1 hx hr h103 hpt hst
        refine ⟨c, V', W', fun K => ?_, e2, e3⟩
        rw [jn_def, if_pos hf, hu, l4, bnd_some, lt_def, hleg, hr, if_pos rfl, if_pos h103, e1, bnd_some, lt_def]
      · have hex : ∃ c V' W', f_X2_execute kb 0 t x V = some (c, V') ∧ dtl (nI (17 * t + 16)) W1 = some (c, W') ∧ RES kb T Tw t Y l V c V' W' := by
          rcases rt_op hx hr with q | q | q | q | q | q | q | q | q | q
          · exact ex_3 o1 hx hr q hpt
          · exact ex_19 o1 hx hr q hpt
          · exact ex_23 o1 hx hr q hpt
          · exact ex_35 o1 hx hr q hpt
          · exact ex_51 o1 hx hr q hpt
          · exact ex_55 o1 hx hr q hpt
          · exact ex_91 o1 hx hr q hpt
          · exact ex_99 o1 hx hr q hpt
          · exact absurd q h103
          · exact ex_111 o1 hx hr q hpt
        obtain ⟨c, V', W', e1, e2, e3⟩ := hex
        refine ⟨c, V', W', fun K => ?_, e2, RES_RJ hTw hT31 e3⟩
        rw [jn_def, if_pos hf, hu, l4, bnd_some, lt_def, hleg, hr, if_pos rfl, if_neg h103, e1, bnd_some, lt_def]
    · rw [if_neg hr]
      refine ⟨6, V, W1, fun K => ?_, rfl, fun q => absurd q (by decide), fun _ => ⟨o1, cC V, UC_rfl V, fun _ _ _ => rfl⟩⟩
      rw [jn_def, if_pos hf, hu, l4, bnd_some, lt_def, hleg, if_neg hr]
  · refine ⟨flt (cM W (17 * t + 16)) 4 (cM W (17 * t + 16)).1 4, V, W, fun K => ?_, does_f w80 h6 rfl hf, fun q => absurd q hf, fun _ => ⟨h, cC V, UC_rfl V, fun _ _ _ => rfl⟩⟩
    rw [jn_def, if_neg hf]
theorem ins_all {kb T Tw t : Nat} {Y : HV} {l : List Ob} {V W : HV} (hT1 : Tw + 1 = T) (hT2 : T < 1073741824) (h : OK 1000 kb T Tw t Y l V W) (hcur : V 811 0 0 = nI t) (hst : V 711 t 0 = 0) : ∃ V' W' l', f_X2_instruction kb 0 V = some V' ∧ (∀ K : HV → Option HV, (bnd (f_X12_does 0 W) fun p15 =>
  lt p15.1 fun v16 =>
  if v16 = 0 then (chk (inb (p15.2 1080 0 0) 6) <|
  chk (inb (p15.2 1080 0 0) 6) <|
  lt (sv p15.2 5400 0 (p15.2 1080 0 0).toNatClampNeg ((p15.2 5400 0 (p15.2 1080 0 0).toNatClampNeg) + 1)) fun V34 =>
  K V34) else (lt (sv p15.2 1049 0 0 ((p15.2 1049 0 0) + 1)) fun V18 =>
  chk (inb (V18 1080 0 0) 6) <|
  lt (sv V18 5300 0 (V18 1080 0 0).toNatClampNeg v16) fun V20 =>
  chk (inb (V20 1080 0 0) 6) <|
  lt (if (V20 5000 0 (V20 1080 0 0).toNatClampNeg) ≤ 0 then (false) else (true) : Bool) fun v22 =>
  bnd (f_X12_returns 0 V20) fun p24 =>
  if v22 = true then (lt (f_X12_reg (p24 1080 0 0) 10) fun v26 =>
  bnd (f_X12_number 0 v26 (-1) p24) fun p27 =>
  lt (f_X12_reg (p27 1080 0 0) 11) fun v28 =>
  bnd (f_X12_number 0 v28 v16 p27) fun p29 =>
  K p29) else (K p24))) = K W') ∧ OK 1000 kb T T t Y l' V' W' := by
  have h6 := OK_t6 h
  have hTw : Tw ≤ T := by omega
  have hT31 : T < 2147483648 := by omega
  obtain ⟨c, V', W', e1, e2, e3, e4⟩ := does_all hT1 hT2 h hst
  have htk := taskAt_some (kb := kb) h.1.2.2.1 h.1.2.2.2.2.2.2.2.1 (t := t) (by rw [nth_LY h.1.2.1]; exact h.2.2.2.2.2)
  have R0 : f_X9_reg t 0 = 17 * t := reg_C' (d := 0) (by decide)
  unfold f_X2_instruction
  rw [hcur, htk, bnd_some, onn_some, chk_t h6, lt_def, fault_C, e1, jn_def, e2]
  by_cases hc : c = 0
  · obtain ⟨l', o1⟩ := e3 hc
    have o2 := OK_1000 (OK_done o1)
    have i6 : inb (nI t) 6 := inb_nI h6 (by decide)
    have w80 := o1.2.2.2.2.1
    rw [if_pos hc, lt_def]
    refine ⟨_, _, l', ?_, fun K => ?_, o2⟩
    · dsimp only
      rw [lt_def, R0, clear_C]
    · have i6' : inb (W' 1080 0 0) 6 := by rw [w80]; exact i6
      have ecl : (W' 1080 0 0).toNatClampNeg = t := by rw [w80]; exact cl_nI (by omega)
      rw [bnd_some, lt_def, if_pos hc]
      refine (chk_t i6').trans ((chk_t i6').trans ?_)
      rw [lt_def]
      show K (sv W' 5400 0 (W' 1080 0 0).toNatClampNeg (W' 5400 0 (W' 1080 0 0).toNatClampNeg + 1)) = _
      rw [ecl]
  · obtain ⟨o1, f, u, hf⟩ := e4 hc
    obtain ⟨V2, W2, q1, q2, q3⟩ := fail_all (c := c) o1 u hf hst
    have o2 := OK_1000 (OK_17 (OK_up q3 hTw hT31))
    rw [if_neg hc, lt_def, q1, bnd_some]
    refine ⟨_, _, l, ?_, fun K => ?_, o2⟩
    · dsimp only
      rw [lt_def, R0, clear_C]
    · rw [bnd_some, lt_def, if_neg hc]
      exact q2 K
