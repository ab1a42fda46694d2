/-! faults -/
theorem fail_all {kb T Tw t : Nat} {Y : HV} {l : List Ob} {V V' W : HV} {f : Nat → Cp} {c : Int32} (h : OK 1000 kb T Tw t Y l V W) (hV : UC V f V') (ho : ∀ i, i < 582 → ¬ (17 * t ≤ i ∧ i < 17 * t + 17) → f i = cC V i) (hst : V 711 t 0 = 0) : ∃ V2 W2, f_X9_fail kb t 0 c (sv V' 813 0 0 (V' 813 0 0 + 1)) = some V2 ∧ (∀ K : HV → Option HV, (lt (sv W 1049 0 0 ((W 1049 0 0) + 1)) fun V18 =>
  chk (inb (V18 1080 0 0) 6) <|
  lt (sv V18 5300 0 (V18 1080 0 0).toNatClampNeg c) fun V20 =>
  chk (inb (V20 1080 0 0) 6) <|
  lt (if (V20 5000 0 (V20 1080 0 0).toNatClampNeg) ≤ 0 then (false) else (true) : Bool) fun v22 =>
  bnd (f_X12_returns 0 V20) fun p24 =>
  if v22 = true then (lt (f_X12_reg (p24 1080 0 0) 10) fun v26 =>
  bnd (f_X12_number 0 v26 (-1) p24) fun p27 =>
  lt (f_X12_reg (p27 1080 0 0) 11) fun v28 =>
  bnd (f_X12_number 0 v28 c p27) fun p29 =>
  K p29) else (K p24)) = K W2) ∧ OK 1000 kb T Tw t Y l V2 W2 := by
  have h6 := OK_t6 h
  have i6 : inb (nI t) 6 := inb_nI h6 (by decide)
  have o1 := OK_setF (c := c) (OK_cnt (c := 813) (d := 1049) h (Or.inl ⟨rfl, rfl⟩))
  have w80 := h.2.2.2.2.1
  have u1 : UC (sv (sv V 813 0 0 (V 813 0 0 + 1)) 716 t 0 c) f (sv (sv V' 813 0 0 (V' 813 0 0 + 1)) 716 t 0 c) := UC_sv (UC_sv hV (by decide) (by rw [hV.2 813 0 0 (by decide)])) (by decide) rfl
  have cV : cC (sv (sv V 813 0 0 (V 813 0 0 + 1)) 716 t 0 c) = cC V := cC_fr ((agr_sv V 813 0 0 _).app (agr_sv _ 716 t 0 _)) (by decide)
  have st1 : (sv (sv V 813 0 0 (V 813 0 0 + 1)) 716 t 0 c) 711 t 0 = 0 := by rw [sv_col (by decide), sv_col (by decide)]; exact hst
  unfold f_X9_fail
  rw [lt_def]
  have e1 : ∀ K : HV → Option HV, (lt (sv W 1049 0 0 ((W 1049 0 0) + 1)) fun V18 =>
    chk (inb (V18 1080 0 0) 6) <|
    lt (sv V18 5300 0 (V18 1080 0 0).toNatClampNeg c) fun V20 => chk (inb (V20 1080 0 0) 6) <| K V20) = K (sv (sv W 1049 0 0 (W 1049 0 0 + 1)) 5300 0 t c) := by
    intro K
    rw [lt_def, sv_col (show ¬ 1080 = 1049 by decide), w80, chk_t i6, lt_def, cl_nI (by omega), sv_col (show ¬ 1080 = 5300 by decide), sv_col (show ¬ 1080 = 1049 by decide), w80, chk_t i6]
  generalize sv (sv V 813 0 0 (V 813 0 0 + 1)) 716 t 0 c = V0 at o1 u1 cV st1
  generalize sv (sv V' 813 0 0 (V' 813 0 0 + 1)) 716 t 0 c = V1 at u1 ⊢
  have s80 : (sv (sv W 1049 0 0 (W 1049 0 0 + 1)) 5300 0 t c) 1080 0 0 = nI t := o1.2.2.2.2.1
  generalize sv (sv W 1049 0 0 (W 1049 0 0 + 1)) 5300 0 t c = W0 at o1 e1 s80
  have hT := OK_Thr o1 t o1.2.2.2.2.2
  have M10 : f_X12_reg (nI t) 10 = nI (17 * t + 10) := reg_M' t 10
  have M11 : f_X12_reg (nI t) 11 = nI (17 * t + 11) := reg_M' t 11
  have R10 : f_X9_reg t 10 = 17 * t + 10 := reg_C' (d := 10) (by decide)
  have R11 : f_X9_reg t 11 = 17 * t + 11 := reg_C' (d := 11) (by decide)
  have hoo : ∀ i, i < 582 → ¬ (17 * t ≤ i ∧ i < 17 * t + 17) → f i = cC V0 i ∧ cM W0 i = cM W0 i := fun i hi hni => ⟨by rw [cV]; exact ho i hi hni, rfl⟩
  cases hx : xN W0 5000 t with
  | zero =>
    obtain ⟨V2, W2, q1, q2, q3, q4⟩ := ret_end o1 u1 (UM_rfl W0) hoo hx st1
    have e0 : W0 5000 0 t = 0 := by have e := hT.1; rw [hx] at e; exact e
    refine ⟨V2, W2, ?_, fun K => ?_, q3⟩
    · rw [q1, bnd_some, if_pos q4]
    · refine (e1 _).trans ?_
      rw [s80, cl_nI (by omega), e0, lt_def, if_pos (show (0 : Int32) ≤ 0 by decide), q2, bnd_some, if_neg (show ¬ false = true by decide)]
  | succ d =>
    obtain ⟨V2, W2, q1, q2, q3, q4, q5, q6, q7, q8, q9⟩ := ret_pos o1 u1 (UM_rfl W0) hoo hx
    have e0 : W0 5000 0 t = nI (d + 1) := by have e := hT.1; rw [hx] at e; exact e
    have hd16 : d < 16 := by
      have := hT.2.1
      have hm := (o1.1.1.2.2.2.2.2.2.2.2.2.2 t o1.2.2.2.2.2).2.2.2.2.2
      omega
    have uu := ucy (i := 17 * t + 11) (y := nm c) (kC_U V2 (17 * t + 10) (nm (-1)))
    have mm := mcy (i := 17 * t + 11) (y := nm c) (kM_U W2 (17 * t + 10) (nm (-1)))
    have f11 : ∀ f : Nat → Cp, up (up f (17 * t + 10) (nm (-1))) (17 * t + 11) (nm c) (17 * t + 10) = nm (-1) := fun f => by rw [up_ne (by omega), up_at]
    refine ⟨_, _, ?_, fun K => ?_, q3 _ _ _ _ uu mm (fun i _ n1 n2 => ⟨by rw [up_ne n2, up_ne n1], by rw [up_ne n2, up_ne n1]⟩) ⟨by rw [f11, f11], by rw [f11]; exact gd_num _ _ _⟩ ⟨by rw [up_at, up_at], by rw [up_at]; exact gd_num _ _ _⟩⟩
    · rw [q1, bnd_some, if_neg (show ¬ V2 711 t 0 = 3 by rw [q8, st1]; decide), lt_def, lt_def, R10, R11, number_C, number_C]
    · refine (e1 _).trans ?_
      rw [s80, cl_nI (by omega), e0, lt_def, if_neg (nI_nle (by omega) (by omega)), q2, bnd_some, if_pos rfl, lt_def, q9, M10, number_M (by omega), bnd_some, lt_def, (UM_80 (kM_U W2 (17 * t + 10) (nm (-1)))).trans q9, M11, number_M (by omega), bnd_some]
/-! the jump that asks for a service waits for its own row -/
def SRV (kb T Tw t : Nat) (Y : HV) : Prop := ∀ (l : List Ob) (V W : HV) (x : Int32), OK (17 * t) kb T Tw t Y l V W → V 711 t 0 = 0 → ∃ V' W' l', f_X7_serve kb 0 t x V = some V' ∧ f_X12_service 0 x W = some W' ∧ OK (17 * t) kb T T t Y l' V' W'
theorem OK_1000 {kb T Tw t : Nat} {Y : HV} {l : List Ob} {V W : HV} (h : OK (17 * t) kb T Tw t Y l V W) : OK 1000 kb T Tw t Y l (kC V (17 * t) (nm 0)) W := by
  have h6 := OK_t6 h
  refine OK_reg h (kC_U V (17 * t) (nm 0)) (UM_rfl W) (fun i hi hni => ⟨up_ne (by omega), rfl⟩) (fun k hk => ⟨fun _ => ?_, h.2.2.1 k hk⟩) (OK_0 h) (Or.inr (Or.inl ⟨by omega, by omega⟩))
  by_cases e : k = 0
  · subst e
    rw [Nat.add_zero, up_at, OK_0 h]
  · rw [up_ne (by omega)]; exact OK_cap h hk (by omega)
theorem UC_back {V : HV} {i : Nat} {y : Cp} : UC (kC V i y) (cC V) V := ⟨rfl, fun c o j hc => ((kC_U V i y).2 c o j hc).symm⟩
theorem OK_17 {kb T Tw t : Nat} {Y : HV} {l : List Ob} {V W : HV} (h : OK 1000 kb T Tw t Y l V W) : OK (17 * t) kb T Tw t Y l V W := by
  have h6 := OK_t6 h
  exact OK_reg h (UC_rfl V) (UM_rfl W) (fun i hi hni => ⟨rfl, rfl⟩) (fun k hk => ⟨fun _ => OK_cap h hk (by omega), h.2.2.1 k hk⟩) (OK_0 h) (Or.inr (Or.inr (by decide)))
/-- a return -/
theorem ret_all {kb T Tw t : Nat} {Y : HV} {l : List Ob} {V0 V W0 W : HV} {f g : Nat → Cp} (h : OK 1000 kb T Tw t Y l V0 W0) (hV : UC V0 f V) (hW : UM W0 g W) (ho : ∀ i, i < 582 → ¬ (17 * t ≤ i ∧ i < 17 * t + 17) → f i = cC V0 i ∧ g i = cM W0 i) (hst : V0 711 t 0 = 0) (e10 : f (17 * t + 10) = g (17 * t + 10) ∧ gd Y (lv l) (g (17 * t + 10))) (e11 : f (17 * t + 11) = g (17 * t + 11) ∧ gd Y (lv l) (g (17 * t + 11))) : ∃ V' W', f_X9_giveBack kb t 0 V = some V' ∧ f_X12_returns 0 W = some W' ∧ OK 1000 kb T Tw t Y l V' W' := by
  cases hx : xN W0 5000 t with
  | zero =>
    obtain ⟨V2, W2, q1, q2, q3, q4⟩ := ret_end h hV hW ho hx hst
    exact ⟨V2, W2, q1, q2, q3⟩
  | succ d =>
    obtain ⟨V2, W2, q1, q2, q3, q4, q5, q6, q7, q8, q9⟩ := ret_pos h hV hW ho hx
    exact ⟨V2, W2, q1, q2, q3 V2 W2 _ _ (UC_rfl V2) (UM_rfl W2) (fun i _ _ _ => ⟨rfl, rfl⟩) ⟨by rw [q4, q6]; exact e10.1, by rw [q6]; exact e10.2⟩ ⟨by rw [q5, q7]; exact e11.1, by rw [q7]; exact e11.2⟩⟩
theorem jmp_0 {c : Cp} {i : Int32} (h : jmp c i = 0) : c.2.2.2.2.2 = true ∧ (¬ c.2.2.2.2.1 = 0 → i = 0) ∧ ¬ 6 < c.2.2.2.2.1 := by
  unfold jmp at h
  by_cases h1 : c.2.2.2.2.2 = true
  · rw [if_pos h1] at h
    by_cases h2 : c.2.2.2.2.1 = 0
    · exact ⟨h1, fun q => absurd h2 q, by rw [h2]; decide⟩
    · rw [if_neg h2] at h
      by_cases h3 : i = 0
      · rw [if_pos h3] at h
        by_cases h4 : 6 < c.2.2.2.2.1
        · rw [if_pos h4] at h; exact absurd h (by decide)
        · exact ⟨h1, fun _ => h3, h4⟩
      · rw [if_neg h3] at h; exact absurd h (by decide)
  · rw [if_neg h1] at h; exact absurd h (by decide)
theorem ty_n {y : Int32} (h : y &&& 255 = y) : ∃ n, n < 256 ∧ y = nI n := by
  obtain ⟨n, h1, h2⟩ := and_nI y 255 8 (by decide) (by decide)
  exact ⟨n, h1, h.symm.trans h2⟩
theorem ex_103 {kb T Tw t : Nat} {Y : HV} {l : List Ob} {V W : HV} {x : Int32} (hT1 : Tw ≤ T) (hT2 : T < 2147483648) (hS : SRV kb T Tw t Y) (h : OK 1000 kb T Tw t Y l V W) (hx : W 1081 0 0 = x) (hr : f_X12_isRight 0 W = true) (ho : x &&& 127 = 103) (hpt : (cM W (17 * t + 16)).2.2.2.2.1 = 0) (hst : V 711 t 0 = 0) : ∃ c V' W', f_X2_jumpTo kb 0 t x V = some (c, V') ∧ dtl (nI (17 * t + 16)) W = some (c, W') ∧ RJ kb T Tw t Y l V c V' W' := by
  have h6 := OK_t6 h
  have w80 := h.2.2.2.2.1
  obtain ⟨d, hd32, ed⟩ := fd_n x
  have hd := fl16 hd32 ed (rt_d hx hr (by simp [ho]))
  obtain ⟨a, ha32, ea⟩ := fa_n x
  have ha := fl16 ha32 ea (rt_a hx hr (by simp [ho]))
  have hcC : cC V (17 * t + a) = cM W (17 * t + a) := OK_cap h (by omega) (by omega)
  have hcg := h.2.2.1 a (by omega)
  have hlg : gd Y (lv l) (lkc (cM W (17 * t + 16)) (i2b (W 5200 0 t))) := gd_lkc (h.2.2.1 16 (by decide))
  have hdtl : dtl (nI (17 * t + 16)) W = bnd (f_X12_jumps 0 (x >>> ((20 : Int32) &&& 31)) W) fun p114 => some (p114.1, p114.2) := by
    unfold dtl
    simp only [lt_def, hx, ho]
    rw [if_neg (show ¬ (103 : Int32) = 3 by decide), if_neg (show ¬ (103 : Int32) = 19 by decide), if_neg (show ¬ (103 : Int32) = 23 by decide), if_neg (show ¬ (103 : Int32) = 35 by decide), if_neg (show ¬ (103 : Int32) = 51 by decide), if_neg (show ¬ (103 : Int32) = 55 by decide), if_neg (show ¬ (103 : Int32) = 91 by decide), if_neg (show ¬ (103 : Int32) = 99 by decide), if_neg (show ¬ (103 : Int32) = 111 by decide)]
  rw [hdtl]
  have c582' : cC (kC V 582 (cC V (17 * t + a))) 582 = cM W (17 * t + a) := by rw [(kC_U V 582 _).1, up_at]; exact hcC
  unfold f_X2_jumpTo
  rw [lt_def, lt_def, lt_def, lt_def, a_C, ea, reg_C' ha, copy_C, jf_C c582', show f_X2_immediate x = x >>> ((20 : Int32) &&& 31) from rfl]
  generalize hi : x >>> ((20 : Int32) &&& 31) = i
  by_cases hj : jmp (cM W (17 * t + a)) i = 0
  · obtain ⟨j1, j2, j3⟩ := jmp_0 hj
    rw [if_pos hj, lt_def, lt_def, lt_def, d_C, ed, reg_C' hd, jumps_h w80 h6 hx ea ha hj]
    obtain ⟨uV, W13, l1, m13, W17, l2, m17⟩ := lnk (kb := kb) h hx ed hd ha rfl rfl
    rw [l1, bnd_some]
    generalize f_X2_link kb t (17 * t + d) (kC V 582 (cC V (17 * t + a))) = V7 at uV ⊢
    generalize hc : cM W (17 * t + a) = c at *
    generalize hlk : lkc (cM W (17 * t + 16)) (i2b (W 5200 0 t)) = lk at *
    have u8 := uV.trans (s0_U V7 (17 * t + 16) (V7 0 (17 * t + 16) 0 + 4))
    rw [uV.1] at u8
    have OKF := OK_fin (w := 4) h hd hlg hpt uV (fun i hi => by
      by_cases e : i = 17 * t + d
      · rw [e, up_at, up_at]
      · rw [up_ne e, up_ne e, up_ne (by omega)]) m17 (fun i hi => by
      by_cases d0 : d = 0
      · rw [if_pos d0, if_pos d0, up_ne (by omega), up_ne (by omega)]
      · rw [if_neg d0, if_neg d0]
        by_cases e : i = 17 * t + d
        · rw [e, up_at, up_at]
        · rw [up_ne e, up_ne e, up_ne (by omega), up_ne (by omega)])
    have hjE : ∀ V8, sv V7 0 (17 * t + 16) 0 (V7 0 (17 * t + 16) 0 + 4) = V8 → V8 4 582 0 = c.2.2.2.2.1 ∧ V8 0 582 0 = c.1 := by
      intro V8 e8
      have z : cC V8 582 = c := by rw [← e8, u8.1, up_ne (by omega), up_ne (by omega), up_at]
      exact ⟨congrArg (fun c : Cp => c.2.2.2.2.1) z, congrArg (fun c : Cp => c.1) z⟩
    obtain ⟨y4, y0⟩ := hjE _ rfl
    have w13 : W13 1081 0 0 = x := (UM_81 m13).trans hx
    have w17 : W17 1080 0 0 = nI t := (UM_80 m17).trans w80
    have c583 : cM W17 583 = c := by
      rw [m17.1]
      by_cases d0 : d = 0
      · rw [if_pos d0, up_ne (by omega), up_at]
      · rw [if_neg d0, up_ne (by omega), up_ne (by omega), up_at]
    obtain ⟨n, hn, en⟩ := ty_n hcg.2.1
    have hn6 : n ≤ 6 := Nat.not_lt.mp fun q => j3 (by rw [en]; exact nI_lt (a := 6) q (by omega))
    have hjmt : jmt c.2.2.2.2.1 i W13 = if 4 ≤ c.2.2.2.2.1 then (if c.2.2.2.2.1 = 4 then (bnd (f_X12_call 0 c.1 W17) fun p26 =>
      some (0, p26)) else (if c.2.2.2.2.1 = 5 then (bnd (f_X12_returns 0 W17) fun p24 =>
      some (0, p24)) else (bnd (f_X12_goesOn 0 W17) fun p21 =>
      bnd (f_X12_service 0 (p21 2400 0 583) p21) fun p23 =>
      some (0, p23)))) else ett c.2.2.2.2.1 i W17 := by
      unfold jmt ett
      rw [lt_def, d_M, w13, l2, bnd_some]
      have i583 : inb (583 : Int32) 600 := inb_nI (k := 583) (by decide) (by decide)
      have c583' : (583 : Int32).toNatClampNeg = 583 := cl_nI (k := 583) (by decide)
      rw [chk_t i583, c583', cM_0 c583]
      refine ifc (ifc rfl (ifc rfl ?_)) rfl
      rw [goesOn_M w17 h6, bnd_some, bnd_some, chk_t i583]
    generalize hV8 : sv V7 0 (17 * t + 16) 0 (V7 0 (17 * t + 16) 0 + 4) = V8 at *
    rw [y4, y0]
    have st8 : V8 711 t 0 = 0 := (u8.2 711 t 0 (by decide)).trans hst
    have go := goesOn_M w17 h6
    by_cases t4 : c.2.2.2.2.1 = 4
    · rw [if_pos t4, if_pos t4]
      obtain ⟨k, e, hk, he, hcur⟩ := (hcg.2.2 j1).1 t4
      rw [hcur]
      have fault7 : ∃ c' V' W', some ((7 : Int32), V8) = some (c', V') ∧ (bnd (some ((7 : Int32), W13)) fun p114 => some (p114.1, p114.2)) = some (c', W') ∧ RJ kb T Tw t Y l V c' V' W' := by
        refine ⟨7, V8, W13, rfl, rfl, fun q => absurd q (by decide), fun _ => ⟨OK_scr h m13 (fun i hi => by rw [up_ne (by omega), up_ne (by omega)]), _, u8, fun i hi hni => by rw [up_ne (by omega), up_ne (by omega), up_ne (by omega)]⟩⟩
      by_cases d2 : d = 2
      · have hk2 : lk.2.2.2.2.1 = 3 ∨ lk.2.2.2.2.1 = 2 := by
          rw [← hlk]
          unfold lkc
          by_cases q : i2b (W 5200 0 t) = true
          · exact Or.inl (by rw [if_pos q])
          · exact Or.inr (by rw [if_neg q])
        have c2 : cC V8 (17 * t + 2) = lk := by rw [u8.1, up_ne (by omega), d2, up_at]
        obtain ⟨b, g, a1, a2, a3, a4, a5, a6, a7, a8, a9⟩ := OK_stk OKF
        have hF : ¬ f_X9_stackIsAsGiven kb t V8 = true := fun q => by
          have z := (stk_C (by omega) (by omega) c2 a3 a4).mp q
          rcases hk2 with k2 | k2
          · exact absurd (k2.symm.trans z.2.1) (by decide)
          · exact absurd (k2.symm.trans z.2.1) (by decide)
        have hcall : f_X2_call kb 0 t (nI (16 * k + e)) V8 = some (7, V8) := by
          unfold f_X2_call
          rw [lt_def, if_neg hF]
        rw [hcall, bnd_some, lt_def, d_M, w13, ed, if_pos (show nI d = 2 by rw [d2]; rfl)]
        exact fault7
      · rw [lt_def, d_M, w13, ed, if_neg (show ¬ nI d = 2 from fun q => d2 (nI_inj (b := 2) (by omega) (by decide) q))]
        obtain ⟨b, g, a1, a2, a3, a4, a5, a6, a7, a8, a9⟩ := OK_stk OKF
        have c2W : cM W13 (17 * t + 2) = cM W (17 * t + 2) := by rw [m13.1, up_ne (by omega), up_ne (by omega)]
        have c2V : cC V8 (17 * t + 2) = cM W (17 * t + 2) := by rw [u8.1, up_ne (by omega), up_ne (by omega), up_ne (by omega)]; exact OK_cap h (by decide) (by omega)
        have e56 : W13 5600 0 t = nI (16 * b) := by
          have z1 : (sv W17 2400 0 (17 * t + 16) (W17 2400 0 (17 * t + 16) + 4)) 5600 0 t = W17 5600 0 t := sv_col (by decide)
          rw [z1, m17.2 5600 0 t (by decide)] at a1
          rw [m13.2 5600 0 t (by decide)]; exact a1
        have e58 : W13 5800 0 t = nI (16 * g) := by
          have z1 : (sv W17 2400 0 (17 * t + 16) (W17 2400 0 (17 * t + 16) + 4)) 5800 0 t = W17 5800 0 t := sv_col (by decide)
          rw [z1, m17.2 5800 0 t (by decide)] at a2
          rw [m13.2 5800 0 t (by decide)]; exact a2
        obtain ⟨s, s1, s2⟩ := stk_M ((UM_80 m13).trans w80) h6 c2W e56 e58
        rw [s1, bnd_some]
        have sC := stk_C (kb := kb) (t := t) (V := V8) (by omega) (by omega) c2V a3 a4
        by_cases hs : s = true
        · have hstk := s2.mp hs
          have c2F : cM (sv W17 2400 0 (17 * t + 16) (W17 2400 0 (17 * t + 16) + 4)) (17 * t + 2) = cM W (17 * t + 2) := by
            rw [← OK_cap OKF (by decide) (by omega)]; exact c2V
          obtain ⟨V', W', q1, q2, q3⟩ := call_all OKF hk he (by rw [c2F, a1, a2]; exact hstk)
          rw [if_pos hs, hjmt, if_pos (show (4 : Int32) ≤ c.2.2.2.2.1 by rw [t4]; decide), if_pos t4, hcur, call_h, go, bnd_some, q1, q2, bnd_some, bnd_some, bnd_some]
          exact ⟨0, V', W', rfl, rfl, fun _ => ⟨l, OK_up q3 hT1 hT2⟩, fun q => absurd rfl q⟩
        · have hF : ¬ f_X9_stackIsAsGiven kb t V8 = true := fun q => hs (s2.mpr (sC.mp q))
          have hcall : f_X2_call kb 0 t (nI (16 * k + e)) V8 = some (7, V8) := by
            unfold f_X2_call
            rw [lt_def, if_neg hF]
          rw [hcall, bnd_some, if_neg hs]
          exact fault7
    · rw [if_neg t4, if_neg t4, hjmt, if_neg t4]
      by_cases t5 : c.2.2.2.2.1 = 5
      · rw [if_pos t5, if_pos (show (4 : Int32) ≤ c.2.2.2.2.1 by rw [t5]; decide), if_pos t5]
        have r10 : ∀ k, k = 10 ∨ k = 11 → (up (up (up (cC V) 582 c) (17 * t + d) lk) (17 * t + 16) (V7 0 (17 * t + 16) 0 + 4, (up (up (cC V) 582 c) (17 * t + d) lk (17 * t + 16)).2)) (17 * t + k) = cM W17 (17 * t + k) ∧ gd Y (lv l) (cM W17 (17 * t + k)) := by
          intro k hk
          rw [m17.1, up_ne (by omega)]
          by_cases e : k = d
          · rw [if_neg (by omega), e, up_at, up_at]; exact ⟨rfl, hlg⟩
          · rw [up_ne (by omega), up_ne (by omega)]
            by_cases d0 : d = 0
            · rw [if_pos d0, up_ne (by omega), up_ne (by omega)]
              exact ⟨OK_cap h (by omega) (by omega), h.2.2.1 k (by omega)⟩
            · rw [if_neg d0, up_ne (by omega), up_ne (by omega), up_ne (by omega)]
              exact ⟨OK_cap h (by omega) (by omega), h.2.2.1 k (by omega)⟩
        obtain ⟨V', W', q1, q2, q3⟩ := ret_all h u8 (UM.trans (UM_rfl W) ⟨rfl, m17.2⟩) (fun i hi hni => ⟨by rw [up_ne (by omega), up_ne (by omega), up_ne (by omega)], by
          rw [m17.1]
          by_cases d0 : d = 0
          · rw [if_pos d0, up_ne (by omega), up_ne (by omega)]
          · rw [if_neg d0, up_ne (by omega), up_ne (by omega), up_ne (by omega)]⟩) hst (r10 10 (Or.inl rfl)) (r10 11 (Or.inr rfl))
        rw [q1, q2, bnd_some, bnd_some, bnd_some]
        exact ⟨0, V', W', rfl, rfl, fun _ => ⟨l, OK_up (OK_17 q3) hT1 hT2⟩, fun q => absurd rfl q⟩
      · rw [if_neg t5, if_neg t5]
        by_cases t6 : c.2.2.2.2.1 = 6
        · rw [if_pos t6, if_pos (show (4 : Int32) ≤ c.2.2.2.2.1 by rw [t6]; decide), go, bnd_some]
          have e583 : (sv W17 2400 0 (17 * t + 16) (W17 2400 0 (17 * t + 16) + 4)) 2400 0 583 = c.1 := by rw [sv_ne (by omega)]; exact cM_0 c583
          rw [e583]
          obtain ⟨V', W', l', q1, q2, q3⟩ := hS l V8 _ c.1 OKF st8
          rw [q1, q2, bnd_some, bnd_some, bnd_some]
          exact ⟨0, V', W', rfl, rfl, fun _ => ⟨l', q3⟩, fun q => absurd rfl q⟩
        · have hlt : ¬ (4 : Int32) ≤ c.2.2.2.2.1 := fun q => by
            rw [en] at q t4 t5 t6
            have := (nI_leI (a := 4) (by decide) (by omega)).mp q
            rcases (show n = 4 ∨ n = 5 ∨ n = 6 by omega) with z | z | z
            · exact t4 (by rw [z]; rfl)
            · exact t5 (by rw [z]; rfl)
            · exact t6 (by rw [z]; rfl)
          rw [if_neg t6, if_neg hlt, lt_def, ← hV8]
          obtain ⟨W', q1, q2⟩ := j_ent (kb := kb) (i := i) h hd hcg hlg j2 uV m17
          rw [q1, bnd_some]
          exact ⟨0, _, W', rfl, rfl, fun _ => ⟨l, OK_up q2 hT1 hT2⟩, fun q => absurd rfl q⟩
  · rw [if_neg hj, jumps_f w80 h6 hx ea ha hj, bnd_some]
    refine ⟨_, _, _, rfl, rfl, fun q => absurd q hj, fun _ => ⟨OK_scr h (kM_U W 583 _) (fun i hi => up_ne (by omega)), _, kC_U V 582 _, fun i hi _ => up_ne (by omega)⟩⟩
