/-! loads -/
theorem OK_io {x kb T Tw t : Nat} {Y : HV} {l : List Ob} {V V1 W W1 : HV} (h : OK x kb T Tw t Y l V W) (hV : agr [501, 502, 2000] V V1) (hW : agr [1064, 1066, 1067, 8300, 8500] W W1) (hR : Ri V1 W1) : OK x kb T Tw t Y l V1 W1 := by
  obtain ⟨h1, h2, h3, h4, h5, h6⟩ := h
  exact ⟨ST_io h1 hV hW hR, Tm_fr hV hW (by decide) (by decide) h2, Jr_fr hW (by decide) h3, Jm_fr hW (by decide) h4, (hW 1080 0 0 (by decide)).trans h5, h6⟩
def ldc (W : HV) (q : Nat) (take : Bool) : Cp := ((mC (W 2100 0) (W 2200 0) q).1, (mC (W 2100 0) (W 2200 0) q).2.1, (mC (W 2100 0) (W 2200 0) q).2.2.1, (mC (W 2100 0) (W 2200 0) q).2.2.2.1, (mC (W 2100 0) (W 2200 0) q).2.2.2.2.1, i2b (W 2200 0 q) && take)
theorem mw_eq {kb a : Nat} {V W : HV} (h : Rm kb V W) (ha : a + 4 ≤ 1024 * kb) : mw (V 2300 0) a = mw (W 2100 0) a := ldv_congr 4 0 (fun j hj => h.1 (a + j) (by omega))
theorem lcap_C {kb q i : Nat} {l : List Ob} {take : Bool} {V W : HV} (hkb : kb ≤ 32) (h1 : 1 ≤ kb) (hq : q < 64 * kb) (hm : Rm kb V W) (hk : Mk kb l V) : ∃ V', f_X8_loadCap kb 0 (nI (16 * q)) i take V = some V' ∧ UC V (up (cC V) i (fil kb l (ldc W q take))) V' := by
  have e12 : nI (16 * q) + 12 = nI (16 * q + 12) := nI_add _ 12
  have e4 : nI (16 * q) + 4 = nI (16 * q + 4) := nI_add _ 4
  have e8 : nI (16 * q) + 8 = nI (16 * q + 8) := nI_add _ 8
  have l0 := load_C (V := V) (a := 16 * q) (k := 4) hkb h1 (by decide) (by omega)
  have l4 := load_C (V := V) (a := 16 * q + 4) (k := 4) hkb h1 (by decide) (by omega)
  have l8 := load_C (V := V) (a := 16 * q + 8) (k := 4) hkb h1 (by decide) (by omega)
  have l12 := load_C (V := V) (a := 16 * q + 12) (k := 4) hkb h1 (by decide) (by omega)
  rw [show nI 4 = (4 : Int32) from rfl] at l0 l4 l8 l12
  have m0 := mw_eq (a := 16 * q) hm (by omega)
  have m4 := mw_eq (a := 16 * q + 4) hm (by omega)
  have m8 := mw_eq (a := 16 * q + 8) hm (by omega)
  have m12 := mw_eq (a := 16 * q + 12) hm (by omega)
  unfold mw at m0 m4 m8 m12
  have hmk := marked1_C (V := V) (a := 16 * q) hkb (by omega) (by rw [show 16 * q / 16 = q by omega]; exact Rm_mk hm hq)
  unfold f_X8_loadCap
  rw [e12, e4, e8, l12, bnd_some, l0, bnd_some, l4, bnd_some, l8, bnd_some, m0, m4, m8, m12, jn_def, jn_def]
  have fin : ∀ b : Bool, b = (i2b (W 2200 0 q) && take) → ∃ V', (lt (f_X0_set kb i (ldv (W 2100 0) (16 * q) 4 0) (ldv (W 2100 0) (16 * q + 4) 4 0) (ldv (W 2100 0) (16 * q + 8) 4 0) (ldv (W 2100 0) (16 * q + 12) 4 0 &&& 255) ((ldv (W 2100 0) (16 * q + 12) 4 0 >>> ((8 : Int32) &&& 31)) &&& 255) b V) fun V8 => bnd (f_X8_filter kb 0 i V8) fun p9 => some p9) = some V' ∧ UC V (up (cC V) i (fil kb l (ldc W q take))) V' := by
    intro b hb
    rw [lt_def, set_C]
    have u1 := kC_U V i (ldv (W 2100 0) (16 * q) 4 0, ldv (W 2100 0) (16 * q + 4) 4 0, ldv (W 2100 0) (16 * q + 8) 4 0, ldv (W 2100 0) (16 * q + 12) 4 0 &&& 255, (ldv (W 2100 0) (16 * q + 12) 4 0 >>> ((8 : Int32) &&& 31)) &&& 255, b)
    obtain ⟨V', f1, f2⟩ := filter_C (i := i) hkb (Mk_fr hk u1.2 (by decide))
    rw [f1, bnd_some]
    refine ⟨V', rfl, ?_⟩
    rw [u1.1, up_at, up_up] at f2
    have := u1.trans f2
    rw [hb] at this
    exact this
  by_cases ht : take = true
  · rw [if_pos ht, hmk, bnd_some]
    by_cases hg : i2b (W 2200 0 q) = true
    · rw [if_pos hg]; exact fin true (by rw [hg, ht]; rfl)
    · rw [if_neg hg]; exact fin false (by rw [bF hg]; rfl)
  · rw [if_neg ht]; exact fin false (by rw [bF ht, Bool.and_false])
theorem gcap_M {q i : Nat} {W : HV} (hq : q < 2048) (hi : i < 600) : f_X12_getCapability 0 (nI (16 * q)) (nI i) W = some (kM W i (mC (W 2100 0) (W 2200 0) q)) := by
  have e12 : nI (16 * q) + 12 = nI (16 * q + 12) := nI_add _ 12
  have e4 : nI (16 * q) + 4 = nI (16 * q + 4) := nI_add _ 4
  have e8 : nI (16 * q) + 8 = nI (16 * q + 8) := nI_add _ 8
  have l0 := get_M (W := W) (a := 16 * q) (k := 4) (by decide) (by omega)
  have l4 := get_M (W := W) (a := 16 * q + 4) (k := 4) (by decide) (by omega)
  have l8 := get_M (W := W) (a := 16 * q + 8) (k := 4) (by decide) (by omega)
  have l12 := get_M (W := W) (a := 16 * q + 12) (k := 4) (by decide) (by omega)
  rw [show nI 4 = (4 : Int32) from rfl] at l0 l4 l8 l12
  unfold f_X12_getCapability
  rw [e12, e4, e8, l12, bnd_some, l0, bnd_some, l4, bnd_some, l8, bnd_some, dv16 (by omega), show 16 * q / 16 = q by omega, chk_t (inb_nI hq (by decide)), make_M hi, bnd_some, cl_nI (by omega)]
  rfl
theorem sh_endK {W W1 : HV} {t d : Nat} {y : Cp} {x : Int32} (K : HV → Option (Int32 × HV)) (h : UM W (up (cM W) 582 y) W1) (h80 : W 1080 0 0 = nI t) (ht : t < 6) (hx : W 1081 0 0 = x) (ed : fd x = nI d) (hd : d < 16) : ∃ W' g, (lt (f_X12_d 0 W1) fun v16 => bnd (f_X12_comes 0 582 v16 W1) fun p17 => K p17) = K W' ∧ UM W g W' ∧ ∀ i, i < 582 → g i = (if d = 0 then cM W else up (cM W) (17 * t + d) y) i := by
  rw [lt_def, d_M, UM_81 h, hx, ed, show (582 : Int32) = nI 582 from rfl, comes_M ((UM_80 h).trans h80) ht hd (by decide), bnd_some, g_at h]
  exact ⟨_, _, rfl, if_UM2 h y, sh_g⟩
theorem ldc_M {kb q t d xa : Nat} {l : List Ob} {x : Int32} {W : HV} (K : HV → Option (Int32 × HV)) (hr : Rv kb l W) (h80 : W 1080 0 0 = nI t) (ht : t < 6) (hx : W 1081 0 0 = x) (ed : fd x = nI d) (hd : d < 16) (hq : q < 64 * kb) (ha : xa < 582) : ∃ W' g, (bnd (f_X12_getCapability 0 (nI (16 * q)) 582 W) fun p26 =>
  chk (inb (582 : Int32) 600) <|
  jn (fun v28 =>
  chk (inb (582 : Int32) 600) <|
  lt (sv p26 2900 0 (582 : Int32).toNatClampNeg (b2i v28)) fun V32 =>
  bnd (f_X12_filter 0 582 V32) fun p33 =>
  lt (f_X12_d 0 p33) fun v34 =>
  bnd (f_X12_comes 0 582 v34 p33) fun p35 =>
  K p35) fun k29 =>
  jn (k29 false) fun k36 =>
  if (i2b (p26 2900 0 ((582 : Int32)).toNatClampNeg)) = true then (chk (inb (nI xa) 600) <|
  if ((p26 2700 0 (nI xa).toNatClampNeg) &&& 8) = 0 then (k36) else (k29 true)) else (k36)) = K W' ∧ UM W g W' ∧ ∀ i, i < 582 → g i = (if d = 0 then cM W else up (cM W) (17 * t + d) (fil kb l (ldc W q (decide (¬ (cM W xa).2.2.2.1 &&& 8 = 0))))) i := by
  have hkb : kb ≤ 32 := hr.2.1
  have u := kM_U W 582 (mC (W 2100 0) (W 2200 0) q)
  have hg := gcap_M (W := W) (q := q) (i := 582) (by omega) (by decide)
  rw [show nI 582 = (582 : Int32) from rfl] at hg
  rw [hg, bnd_some, chk_t i582, jn_def, jn_def, c582, cM_5 (g_at u), cl_nI (by omega), cM_3 (g_ne u (show ¬ xa = 582 by omega))]
  have fin : ∀ b : Bool, b = (i2b (W 2200 0 q) && decide (¬ (cM W xa).2.2.2.1 &&& 8 = 0)) → ∃ W' g, (chk (inb (582 : Int32) 600) <|
    lt (sv (kM W 582 (mC (W 2100 0) (W 2200 0) q)) 2900 0 582 (b2i b)) fun V32 =>
    bnd (f_X12_filter 0 582 V32) fun p33 =>
    lt (f_X12_d 0 p33) fun v34 =>
    bnd (f_X12_comes 0 582 v34 p33) fun p35 =>
    K p35) = K W' ∧ UM W g W' ∧ ∀ i, i < 582 → g i = (if d = 0 then cM W else up (cM W) (17 * t + d) (fil kb l (ldc W q (decide (¬ (cM W xa).2.2.2.1 &&& 8 = 0))))) i := by
    intro b hb
    rw [chk_t i582, lt_def]
    have u2 := n5 u b
    obtain ⟨W', f1, f2⟩ := filter_M (i := 582) (Rv_fr hr u2.2 (by decide) (by decide)) (by decide)
    rw [show nI 582 = (582 : Int32) from rfl] at f1
    rw [f1, bnd_some]
    rw [u2.1, up_at, up_up] at f2
    have u3 := u2.trans f2
    rw [hb] at u3
    exact sh_endK K u3 h80 ht hx ed hd
  have e5 : (mC (W 2100 0) (W 2200 0) q).2.2.2.2.2 = i2b (W 2200 0 q) := rfl
  have e3 : (cM W xa).2.2.2.1 = W 2700 0 xa := rfl
  rw [e5]
  by_cases g1 : i2b (W 2200 0 q) = true
  · rw [if_pos g1, chk_t (inb_nI (by omega) (by decide))]
    by_cases g2 : (cM W xa).2.2.2.1 &&& 8 = 0
    · rw [if_pos g2]; exact fin false (by rw [dNf g2, Bool.and_false])
    · rw [if_neg g2]; exact fin true (by rw [dNt g2, g1]; rfl)
  · rw [if_neg g1]; exact fin false (by rw [bF g1]; rfl)
theorem has_c (kb i : Nat) (m : Int32) (V : HV) : f_X0_has kb i m V = decide ((cC V i).2.2.2.1 &&& m = m) := by
  unfold f_X0_has
  by_cases h : V 3 i 0 &&& m = m
  · have h' : (cC V i).2.2.2.1 &&& m = m := h
    rw [decide_eq_true h']
    simp [lt_def, h]
  · have h' : ¬ (cC V i).2.2.2.1 &&& m = m := h
    rw [decide_eq_false h']
    simp [lt_def, h]
theorem size_n {f : Int32} (hf : ∃ n, n < 8 ∧ f = nI n) (h : ¬ 6 ≤ f) : ∃ n : Nat, (n = 1 ∨ n = 2 ∨ n = 4 ∨ n = 16) ∧ f_X2_sizeOf f = nI n ∧ (if f = 0 then (1) else (if f = 4 then (1) else (if f = 1 then (2) else (if f = 5 then (2) else (if f = 2 then (4) else (16))))) : Int32) = nI n ∧ (nI n = 4 ↔ f = 2) ∧ (nI n = 16 ↔ f = 3) := by
  rcases n8 hf with q | q | q | q | q | q | q | q <;> subst q
  · exact ⟨1, by decide, by decide, by decide, by decide, by decide⟩
  · exact ⟨2, by decide, by decide, by decide, by decide, by decide⟩
  · exact ⟨4, by decide, by decide, by decide, by decide, by decide⟩
  · exact ⟨16, by decide, by decide, by decide, by decide, by decide⟩
  · exact ⟨1, by decide, by decide, by decide, by decide, by decide⟩
  · exact ⟨2, by decide, by decide, by decide, by decide, by decide⟩
  · exact absurd (by decide) h
  · exact absurd (by decide) h
theorem load_all {kb T Tw t d a : Nat} {Y : HV} {l : List Ob} {V W : HV} {x : Int32} (h : OK 1000 kb T Tw t Y l V W) (hx : W 1081 0 0 = x) (ed : fd x = nI d) (hd : d < 16) (ea : fa x = nI a) (ha : a < 16) (hf : ¬ 6 ≤ ff x) (hpt : (cM W (17 * t + 16)).2.2.2.2.1 = 0) : ∃ c V1 W2, f_X2_load kb 0 t x V = some (c, V1) ∧ f_X12_loads 0 ((cM W (17 * t + a)).1 + (x >>> ((20 : Int32) &&& 31))) W = some (c, W2) ∧ (¬ c = 0 → V1 = V ∧ W2 = W) ∧ (c = 0 → OK (17 * t) kb T Tw t Y l (sv V1 0 (17 * t + 16) 0 (V1 0 (17 * t + 16) 0 + 4)) W2) := by
  have h6 := OK_t6 h
  have hkb := h.1.1.2.1
  have h1 := h.1.1.1
  have h80 := h.2.2.2.2.1
  have hR := h.1.2.2.2.2.2.1
  obtain ⟨n, hn, s1, s2, s4, s16⟩ := size_n (ff_n x) hf
  have hc := OK_cap h (k := a) (by omega) (by omega)
  have hcg := OK_gd h (k := a) (by omega)
  have hi : inb (nI (17 * t + a)) 600 := inb_nI (by omega) (by decide)
  unfold f_X2_load f_X12_loads
  simp only [lt_def, a_C, d_C, f_C, ea, ed, reg_C' ha, reg_C' hd, V0_cap hc, s1, fault_C, hc, f_M, a_M, hx, h80, reg_M', s2]
  rw [show f_X2_immediate x = x >>> ((20 : Int32) &&& 31) from rfl, fault_M (by omega) hn, bnd_some]
  generalize hA : (cM W (17 * t + a)).1 + (x >>> ((20 : Int32) &&& 31)) = A
  by_cases hfl : flt (cM W (17 * t + a)) 1 A (nI n) = 0
  · rw [if_pos hfl, if_pos hfl, dev_eq, dev_eqM]
    obtain ⟨p1, p2, p3, p4, p5, p6⟩ := flt_0 (by omega) hfl
    have hacc := acc h.1.1 h.1.2.2.2.2.2.2.2.2.1.1 hcg (by omega) (by omega) hfl (Or.inl rfl)
    by_cases hdv : 268435456 ≤ uN A
    · rw [decide_eq_true hdv, if_pos rfl, jn_def, if_pos rfl]
      by_cases f2 : ff x = 2
      · rw [if_pos f2, if_pos (s4.mpr f2), jn_def, if_pos rfl, d_M, hx, ed]
        obtain ⟨v, V1, W1, q1, q2, q3, q4, q5⟩ := dev_rd (kb := kb) (A := A) h.1.2.2.1 h.1.2.2.2.2.2.2.1 (h.1.2.2.2.2.2.2.2.2.2.2.2.2.2.1 t h6) h80
        have hOK := OK_io h (q4.sub (by decide)) (q5.sub (by decide)) q3
        rw [q1, q2, bnd_some, bnd_some]
        simp only [number_C]
        rw [writes_M hOK.2.2.2.2.1 h6 hd, bnd_some]
        have hpt' : (cM W1 (17 * t + 16)).2.2.2.2.1 = 0 := by
          rw [show cM W1 = cM W from cM_fr q5 (by decide)]
          exact hpt
        refine ⟨0, _, _, rfl, ?_, fun q => absurd rfl q, fun _ => OK_nm (v := v) (w := 4) hOK hd hpt'⟩
        rw [goesOn_M (t := t) (if_80 hOK.2.2.2.2.1) h6, bnd_some]
      · rw [if_neg f2, if_neg (fun q => f2 (s4.mp q))]
        exact ⟨5, V, W, rfl, rfl, fun _ => ⟨rfl, rfl⟩, fun q => absurd q (by decide)⟩
    · rw [decide_eq_false hdv, if_neg (show ¬ false = true by decide), jn_def, if_neg (show ¬ false = true by decide), jn_def, if_neg (show ¬ false = true by decide)]
      have hin : uN A + n ≤ 1024 * kb := by
        rcases hacc with q | q
        · exact q
        · exact absurd q.1 hdv
      have hAn := nI_uN (x := A) (by omega)
      have hal := algn hn p6
      generalize uN A = u at hin hAn hal
      subst hAn
      by_cases f3 : ff x = 3
      · have h16 : n = 16 := nI_inj (by omega) (by decide) (s16.mpr f3)
        rw [if_pos f3, if_pos (s16.mpr f3)]
        subst h16
        obtain ⟨q, rfl⟩ : ∃ q, u = 16 * q := ⟨u / 16, by omega⟩
        obtain ⟨V1, c1, c2⟩ := lcap_C (i := 17 * t + d) (take := f_X0_has kb (17 * t + a) 8 V) (W := W) hkb h1 (show q < 64 * kb by omega) hR (ST_Mk h.1)
        obtain ⟨W1, g, m1, m2, m3⟩ := ldc_M (q := q) (xa := 17 * t + a) (fun V12 => bnd (f_X12_goesOn 0 V12) fun p15 => some ((0 : Int32), p15)) (ST_Rv h.1) h80 h6 hx ed hd (by omega) (by omega)
        have b8' : f_X0_has kb (17 * t + a) 8 V = decide (¬ (cM W (17 * t + a)).2.2.2.1 &&& 8 = 0) := by
          rw [has_c, hc]
          exact decide_eq_decide.mpr (bit_iff (k := 3) (by decide) (by decide))
        rw [b8'] at c1 c2
        rw [b8', c1, bnd_some]
        generalize hfc : fil kb l (ldc W q (decide (¬ (cM W (17 * t + a)).2.2.2.1 &&& 8 = 0))) = y at c2 m3
        have hy : gd Y (lv l) y := by
          rw [← hfc]
          refine gd_fl h.1.2.2.2.2.2.2.2.2.1.1 ?_
          exact gd_tag (h.1.2.2.2.2.2.2.2.2.2.2.1 q (by omega)) (fun z => by rw [Bool.and_eq_true] at z; exact z.1)
        refine ⟨0, V1, _, rfl, ?_, fun q => absurd rfl q, fun _ => OK_fin (w := 4) h hd hy hpt c2 (fun _ _ => rfl) m2 m3⟩
        refine Eq.trans m1 ?_
        rw [goesOn_M (t := t) ((UM_80 m2).trans h80) h6, bnd_some]
      · have h16 : ¬ nI n = 16 := fun q => f3 (s16.mp q)
        rw [if_neg f3, if_neg h16, load_C hkb h1 (by omega) hin, get_M (by omega) (by omega), bnd_some, bnd_some, d_M, hx, ed]
        simp only [number_C]
        rw [writes_M h80 h6 hd, bnd_some, goesOn_M (t := t) (if_80 h80) h6, bnd_some]
        have e : ldv (V 2300 0) u n 0 = ldv (W 2100 0) u n 0 := ldv_congr n 0 (fun j hj => hR.1 (u + j) (by omega))
        rw [e]
        exact ⟨0, _, _, rfl, rfl, fun q => absurd rfl q, fun _ => OK_nm h hd hpt⟩
  · rw [if_neg hfl, if_neg hfl]
    exact ⟨_, V, W, rfl, rfl, fun _ => ⟨rfl, rfl⟩, fun q => absurd q hfl⟩
theorem ex_3 {kb T Tw t : Nat} {Y : HV} {l : List Ob} {V W : HV} {x : Int32} (h : OK 1000 kb T Tw t Y l V W) (hx : W 1081 0 0 = x) (hr : f_X12_isRight 0 W = true) (ho : x &&& 127 = 3) (hpt : (cM W (17 * t + 16)).2.2.2.2.1 = 0) : ∃ c V' W', f_X2_execute kb 0 t x V = some (c, V') ∧ dtl (nI (17 * t + 16)) W = some (c, W') ∧ RES kb T Tw t Y l V c V' W' := by
  have h6 := OK_t6 h
  obtain ⟨d, hd32, ed⟩ := fd_n x
  have hd := fl16 hd32 ed (rt_d hx hr (by simp [ho]))
  obtain ⟨a, ha32, ea⟩ := fa_n x
  have ha := fl16 ha32 ea (rt_a hx hr (by simp [ho]))
  obtain ⟨c, V1, W2, q1, q2, q3, q4⟩ := load_all h hx ed hd ea ha (rt_f3 hx hr ho) hpt
  unfold f_X2_execute dtl
  simp only [lt_def, jn_def, hx, ho, a_M, ea, value_M h.2.2.2.2.1 h6 (show a < 17 by omega), bnd_some, q1, q2]
  by_cases hc : c = 0
  · rw [if_pos trivial, if_pos trivial, if_pos hc]
    exact ⟨c, _, _, rfl, rfl, fun _ => q4 hc, fun q => absurd hc q⟩
  · rw [if_pos trivial, if_pos trivial, if_neg hc]
    obtain ⟨e1, e2⟩ := q3 hc
    exact ⟨c, _, _, rfl, rfl, fun q => absurd q hc, fun _ => ⟨e1, by rw [e2]; exact h⟩⟩
