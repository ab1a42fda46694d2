/-! a step's beginning -/
noncomputable def stp (K : HV → Option HV) (V14 : HV) : Option HV := bnd (f_X12_does 0 V14) fun p15 =>
  lt p15.1 fun v16 =>
  if v16 = 0 then (chk (inb (p15.2 1080 0 0) 6) <|
  chk (inb (p15.2 1080 0 0) 6) <|
  lt (sv p15.2 5400 0 (p15.2 1080 0 0).toNatClampNeg ((p15.2 5400 0 (p15.2 1080 0 0).toNatClampNeg) + 1)) fun V34 =>
  K V34) else (lt (sv p15.2 1049 0 0 ((p15.2 1049 0 0) + 1)) fun V18 =>
  chk (inb (V18 1080 0 0) 6) <|
  lt (sv V18 5300 0 (V18 1080 0 0).toNatClampNeg v16) fun V20 =>
  chk (inb (V20 1080 0 0) 6) <|
  lt (if (V20 5000 0 (V20 1080 0 0).toNatClampNeg) ≤ 0 then (false) else (true) : Bool) fun v22 =>
  bnd (f_X12_returns 0 V20) fun p24 =>
  if v22 = true then (lt (f_X12_reg (p24 1080 0 0) 10) fun v26 =>
  bnd (f_X12_number 0 v26 (-1) p24) fun p27 =>
  lt (f_X12_reg (p27 1080 0 0) 11) fun v28 =>
  bnd (f_X12_number 0 v28 v16 p27) fun p29 =>
  K p29) else (K p24))
def RQ (kb T : Nat) (Y : HV) (l : List Ob) (V W : HV) : Prop := ST 1000 kb Y l V W ∧ Tm T T V W ∧ Jm Y l W ∧ Pr Y ∧ ∀ t, t < 6 → W 1048 0 0 = nI t → Jr Y l W t
theorem ST_time {kb T : Nat} {Y : HV} {l : List Ob} {V W : HV} (h : ST 1000 kb Y l V W) (hT : Tm T T V W) (hJ : Jm Y l W) (hT2 : T < 1073741824) : ST 1000 kb Y l (sv V 810 0 0 (V 810 0 0 + 1)) (sv W 1047 0 0 (W 1047 0 0 + 1)) ∧ Tm (T + 1) T (sv V 810 0 0 (V 810 0 0 + 1)) (sv W 1047 0 0 (W 1047 0 0 + 1)) ∧ Jm Y l (sv W 1047 0 0 (W 1047 0 0 + 1)) := by
  have aV : agr [810] V (sv V 810 0 0 (V 810 0 0 + 1)) := agr_sv _ _ _ _ _
  have aW : agr [1047] W (sv W 1047 0 0 (W 1047 0 0 + 1)) := agr_sv _ _ _ _ _
  refine ⟨ST_num h (aV.sub (by decide)) (aW.sub (by decide)) ?_, ?_, Jm_fr aW (by decide) hJ⟩
  · obtain ⟨s1, s2, s3, s4, s5, s6, s7, s8, s9⟩ := h.2.2.1
    refine ⟨s1, s2, s3, ?_, s5, s6, s7, s8, s9⟩
    rw [sv_at, sv_at, s4]
  · obtain ⟨a1, a2, a3, a4, a5⟩ := hT
    have hn : nth (sv W 1047 0 0 (W 1047 0 0 + 1)) = nth W := nth_fr aW (by decide)
    have hle : nI T ≤ nI (T + 1) := nI_le (Nat.le_succ T) (by omega)
    have e47 : (sv W 1047 0 0 (W 1047 0 0 + 1)) 1047 0 0 = nI (T + 1) := by rw [sv_at, a1, nI_1]
    generalize sv W 1047 0 0 (W 1047 0 0 + 1) = W' at *
    generalize sv V 810 0 0 (V 810 0 0 + 1) = V' at *
    unfold Tm
    rw [hn, e47, aW 1048 0 0 (by decide), aW 1080 0 0 (by decide), aW 1053 0 0 (by decide)]
    refine ⟨rfl, fun u hu => ?_, ?_, fun u hu q => ?_, a5⟩
    · rw [aV 718 u 0 (by decide), aW 5900 0 u (by decide)]
      exact ⟨Int32.le_trans (a2 u hu).1 hle, Int32.le_trans (a2 u hu).2 hle⟩
    · rcases a3 with a3 | ⟨c, c1, c2, c3⟩
      · exact Or.inl a3
      · refine Or.inr ⟨c, c1, c2, fun o hoo hne => ?_⟩
        rw [aV 718 o 0 (by decide), aV 718 c 0 (by decide), aW 5900 0 o (by decide), aW 5900 0 c (by decide)]
        exact c3 o hoo hne
    · rw [aW 4700 0 u (by decide)] at q
      rw [aV 714 u 0 (by decide), aW 6200 0 u (by decide)]; exact a4 u hu q
theorem tick_all {kb T : Nat} {Y : HV} {l : List Ob} {V W : HV} (h : RQ kb T Y l V W) (hT2 : T < 1073741000) : ∃ V1, f_X10_tick kb 0 V = some V1 ∧ ((∃ W5, f_X12_step 0 W = (bnd (f_X12_sweep 0 W5) fun p9 => some p9) ∧ V1 811 0 0 = -1 ∧ RQ kb (T + 1) Y l V1 W5) ∨ (∃ u W14, f_X12_step 0 W = stp (fun V6 => bnd (f_X12_sweep 0 V6) fun p9 => some p9) W14 ∧ V1 811 0 0 = nI u ∧ V1 711 u 0 = 0 ∧ OK 1000 kb (T + 1) T u Y l V1 W14)) := by
  obtain ⟨h1, h2, h3, hPr, h4⟩ := h
  obtain ⟨g1, g2, g3⟩ := ST_time h1 h2 h3 (by omega)
  obtain ⟨V4, W4, d1, d2, d3, d4, d5, d6⟩ := due_L (nth Y) 0 FU FU _ _ (by omega) (FU_gt (by have := h1.1.2.2.2.2.1; omega)) (FU_gt (by have := h1.1.2.2.2.2.1; omega)) g1 g2
  have aV4 : agr [711, 712, 810] V V4 := ((agr_sv V 810 0 0 _).app d5).sub (by decide)
  have aW4 : agr [1047, 4700, 4800] W W4 := ((agr_sv W 1047 0 0 _).app d6).sub (by decide)
  have hJ4 : Jm Y l W4 := Jm_fr aW4 (by decide) h3
  have hr4 : ∀ t, t < 6 → W4 1048 0 0 = nI t → Jr Y l W4 t := fun t ht q => Jr_fr aW4 (by decide) (h4 t ht ((aW4 1048 0 0 (by decide)).symm.trans q))
  obtain ⟨s1, s2, s6⟩ := ST_808 d3
  have hnY := nth_LY d3.2.1
  have hs := d3.2.2.1
  have hIn := d3.2.2.2.2.2.2.2.1
  have htk : ∀ b, b < nth Y → f_X10_taskAt kb 0 (nI b) V4 = some (some b) := fun b hb => taskAt_some hs hIn (by rw [hnY]; exact hb)
  have htn : f_X10_taskAt kb 0 (-1) V4 = some none := taskAt_none hs hIn (fun ⟨t, ht, q⟩ => m1_ne t (by rw [hnY] at ht; omega) q.symm)
  obtain ⟨z1, z2, z3, z4, z5⟩ := d3.2.2.2.2.2.2.2.2.2.2.2.2.2
  have hst : ∀ u, u < nth Y → (V4 711 u 0 = 0 ↔ W4 4700 0 u = 0) := fun u hu => by
    have r := z2 u (by rw [hnY]; exact hu)
    rcases r.2.2.2.2.2.2.2.2.2.2.1 with q | q
    · rw [q.1, q.2.1]; exact ⟨fun z => absurd z (by decide), fun z => absurd z (by decide)⟩
    · rw [q.1]
  have hp : ∀ u, u < nth Y → V4 706 u 0 = W4 5500 0 u := fun u hu => (z2 u (by rw [hnY]; exact hu)).2.2.1
  have ho : ∀ u b, u < nth Y → b < nth Y → (V4 718 u 0 < V4 718 b 0 ↔ W4 5900 0 u < W4 5900 0 b) := fun u b hu hb => z3 u b (by rw [hnY]; exact hu) (by rw [hnY]; exact hb)
  have e811 : V4 811 0 0 = W4 1048 0 0 := hs.2.2.2.2.1
  have e810 : V4 810 0 0 = nI (T + 1) := hs.2.2.2.1.trans d4.1
  have e1047 : W4 1047 0 0 = nI (T + 1) := d4.1
  obtain ⟨s', b1, b2, b3⟩ := bs_L s1 s2 s6 htk htn hst hp ho (nth Y) 0 FU FU none (by omega) (FU_gt (by omega)) (FU_gt (by omega)) ⟨fun b q => (by cases q), fun _ u hu => (by omega)⟩
  have hbest : f_X10_best kb 0 V4 = some (bst s') := by
    unfold f_X10_best
    rw [jn_def]
    exact b1
  have b2' : ∀ K : Int32 → Option HV, f_X12_chooses_L162 0 W4 K FU (-1) 0 = K (bst s') := b2
  have hstep : ∀ W5, f_X12_chooses 0 W4 = some W5 → f_X12_step 0 W = (if (W5 1048 0 0) = (-1) then (bnd (f_X12_sweep 0 W5) fun p9 => some p9) else (lt (sv W5 1080 0 0 (W5 1048 0 0)) fun V11 =>
    chk (inb (V11 1080 0 0) 6) <|
    chk (inb (V11 1080 0 0) 6) <|
    lt (sv V11 6000 0 (V11 1080 0 0).toNatClampNeg ((V11 6000 0 (V11 1080 0 0).toNatClampNeg) + 1)) fun V14 => stp (fun V6 => bnd (f_X12_sweep 0 V6) fun p9 => some p9) V14)) := by
    intro W5 hW5
    unfold f_X12_step
    rw [lt_def, jn_def]
    refine (d2 _).trans ?_
    rw [hW5, bnd_some, jn_def]
    rfl
  have run : ∀ W5 u, u < 6 → f_X12_chooses 0 W4 = some W5 → W5 1048 0 0 = nI u → f_X12_step 0 W = stp (fun V6 => bnd (f_X12_sweep 0 V6) fun p9 => some p9) (sv (sv W5 1080 0 0 (nI u)) 6000 0 u (W5 6000 0 u + 1)) := by
    intro W5 u hu6 hW5 e
    have i6 : inb (nI u) 6 := inb_nI hu6 (by decide)
    rw [hstep W5 hW5, e, if_neg (m1_ne u (by omega)), lt_def, sv_at, chk_t i6, chk_t i6, lt_def, cl_nI (by omega), sv_col (show ¬ 6000 = 1080 by decide)]
  have htick : ∀ E : Option HV, E = (bnd (f_X10_taskAt kb 0 (V4 811 0 0) V4) fun p5 =>
    jn (fun V6 =>
    bnd (f_X10_taskAt kb 0 (V6 811 0 0) V6) fun p9 =>
    onn p9 (some V6) fun a10 =>
    chk (a10 < 6) <|
    lt (sv V6 718 a10 0 (V6 810 0 0)) fun V12 =>
    lt (sv V12 812 0 0 ((V12 812 0 0) + 1)) fun V13 =>
    some V13) fun k7 =>
    jn (bnd (f_X10_best kb 0 V4) fun p16 =>
    bnd (f_X10_makeCurrent kb 0 p16 V4) fun p17 =>
    k7 p17) fun k14 =>
    onn p5 (k14) fun a18 =>
    chk (a18 < 6) <|
    if (V4 711 a18 0) = 0 then (bnd (f_X10_mustLeave kb 0 a18 V4) fun p21 =>
    if p21 = true then (k14) else (k7 V4)) else (k14)) → f_X10_tick kb 0 V = E := by
    intro E hE
    unfold f_X10_tick
    rw [lt_def, jn_def]
    exact (d1 _).trans hE.symm
  /- the current one leaves: the best is chosen -/
  have choose : (∀ c, c < nth Y → W4 1048 0 0 = nI c → ¬ s' = some c) → (∀ K : Bool → Option HV, True) → f_X12_chooses 0 W4 = (if bst s' = (-1) then (lt (sv W4 1048 0 0 (-1)) fun V33 => some V33) else (jn (fun V12 =>
    lt (sv V12 1048 0 0 (bst s')) fun V15 =>
    chk (inb (bst s') 6) <|
    lt (sv V15 5900 0 (bst s').toNatClampNeg (V15 1047 0 0)) fun V17 =>
    chk (inb (bst s') 6) <|
    lt (sv V17 6000 0 (bst s').toNatClampNeg 0) fun V19 =>
    jn (fun V22 =>
    some V22) fun k20 =>
    f_X12_chooses_L249 0 (bst s') k20 FU 0 V19) fun k13 =>
    if bst s' = (W4 1048 0 0) then (k13 W4) else (lt (sv W4 1052 0 0 ((W4 1052 0 0) + 1)) fun V32 =>
    k13 V32))) → f_X10_tick kb 0 V = (bnd (f_X10_makeCurrent kb 0 (bst s') V4) fun V6 =>
    bnd (f_X10_taskAt kb 0 (V6 811 0 0) V6) fun p9 =>
    onn p9 (some V6) fun a10 =>
    chk (a10 < 6) <|
    lt (sv V6 718 a10 0 (V6 810 0 0)) fun V12 =>
    lt (sv V12 812 0 0 ((V12 812 0 0) + 1)) fun V13 =>
    some V13) → ∃ V1, f_X10_tick kb 0 V = some V1 ∧ ((∃ W5, f_X12_step 0 W = (bnd (f_X12_sweep 0 W5) fun p9 => some p9) ∧ V1 811 0 0 = -1 ∧ RQ kb (T + 1) Y l V1 W5) ∨ (∃ u W14, f_X12_step 0 W = stp (fun V6 => bnd (f_X12_sweep 0 V6) fun p9 => some p9) W14 ∧ V1 811 0 0 = nI u ∧ V1 711 u 0 = 0 ∧ OK 1000 kb (T + 1) T u Y l V1 W14)) := by
    intro hne _ hM hC
    unfold f_X10_makeCurrent at hC
    rw [lt_def, lt_def] at hC
    have hs8 : ∀ z y : Int32, (sv (sv V4 811 0 0 z) 812 0 0 y) 808 0 0 = nI (nth Y) := fun z y => by rw [sv_col (by decide), sv_col (by decide)]; exact s1
    have tk2 : ∀ V6 : HV, V6 808 0 0 = nI (nth Y) → ∀ b, b < nth Y → f_X10_taskAt kb 0 (nI b) V6 = some (some b) := by
      intro V6 h8 b hb
      have := htk b hb
      unfold f_X10_taskAt at this ⊢
      rw [h8]
      rw [s1] at this
      exact this
    have tn2 : ∀ V6 : HV, V6 808 0 0 = nI (nth Y) → f_X10_taskAt kb 0 (-1) V6 = some none := by
      intro V6 h8
      have := htn
      unfold f_X10_taskAt at this ⊢
      rw [h8]
      rw [s1] at this
      exact this
    cases hs' : s' with
    | none =>
      rw [hs'] at hC hM
      have hM' : f_X12_chooses 0 W4 = some (sv W4 1048 0 0 (-1)) := by
        rw [hM, if_pos (show bst none = -1 from rfl), lt_def]
      have eb : bst none = -1 := rfl
      rw [eb, tn2 _ (hs8 _ _), bnd_some, onn_none, bnd_some, sv_col (show ¬ 811 = 812 by decide), sv_at, tn2 _ (hs8 _ _), bnd_some, onn_none] at hC
      obtain ⟨r1, r2, r3⟩ := RS_idle (V' := sv (sv V4 811 0 0 (-1)) 812 0 0 0) (W' := sv W4 1048 0 0 (-1)) d3 d4 hJ4 (by omega) ((agr_sv _ _ _ _ _).app (agr_sv _ _ _ _ _)) (agr_sv _ _ _ _ _) (by rw [sv_col (by decide), sv_at]) (sv_at _ _ _ _ _)
      refine ⟨_, hC, Or.inl ⟨sv W4 1048 0 0 (-1), ?_, by rw [sv_col (by decide), sv_at], r1, r2, r3, hPr, fun t ht q => ?_⟩⟩
      · rw [hstep _ hM', sv_at, if_pos rfl]
      · rw [sv_at] at q
        exact absurd q.symm (m1_ne t (by omega))
    | some u =>
      rw [hs'] at hC hM b3 hne
      obtain ⟨un, u0, umax⟩ := b3.1 u rfl
      have u6 : u < 6 := by omega
      have iu : inb (nI u) 6 := inb_nI u6 (by decide)
      have eb : bst (some u) = nI u := rfl
      have hneq : ¬ nI u = W4 1048 0 0 := by
        intro q
        exact hne u un q.symm rfl
      have hV6 : (sv (sv (sv V4 811 0 0 (nI u)) 812 0 0 0) 816 0 0 ((sv (sv V4 811 0 0 (nI u)) 812 0 0 0) 816 0 0 + 1)) 808 0 0 = nI (nth Y) := by rw [sv_col (by decide)]; exact hs8 _ _
      have a6 : agr [811, 812, 816] V4 (sv (sv (sv V4 811 0 0 (nI u)) 812 0 0 0) 816 0 0 ((sv (sv V4 811 0 0 (nI u)) 812 0 0 0) 816 0 0 + 1)) := ((agr_sv _ _ _ _ _).app (agr_sv _ _ _ _ _)).app (agr_sv _ _ _ _ _)
      have c811 : (sv (sv (sv V4 811 0 0 (nI u)) 812 0 0 0) 816 0 0 ((sv (sv V4 811 0 0 (nI u)) 812 0 0 0) 816 0 0 + 1)) 811 0 0 = nI u := by rw [sv_col (by decide), sv_col (by decide), sv_at]
      have c812 : (sv (sv (sv V4 811 0 0 (nI u)) 812 0 0 0) 816 0 0 ((sv (sv V4 811 0 0 (nI u)) 812 0 0 0) 816 0 0 + 1)) 812 0 0 = 0 := by rw [sv_col (by decide), sv_at]
      have c816 : (sv (sv (sv V4 811 0 0 (nI u)) 812 0 0 0) 816 0 0 ((sv (sv V4 811 0 0 (nI u)) 812 0 0 0) 816 0 0 + 1)) 816 0 0 = V4 816 0 0 + 1 := by rw [sv_at, sv_col (by decide), sv_col (by decide)]
      rw [eb, tk2 _ (hs8 _ _) u un, bnd_some, onn_some, chk_t u6, lt_def] at hC
      generalize sv (sv (sv V4 811 0 0 (nI u)) 812 0 0 0) 816 0 0 ((sv (sv V4 811 0 0 (nI u)) 812 0 0 0) 816 0 0 + 1) = V6 at *
      obtain ⟨V7, k1, k2⟩ := flb_C (t := u) (V := V6) d3.1.2.1 (Mk_fr (ST_Mk d3) a6 (by decide))
      have c7 : ∀ c o j, c ∉ [0, 1, 2, 3, 4, 5] → V7 c o j = V6 c o j := fun c o j hc => k2.2 c o j hc
      rw [k1, bnd_some, bnd_some, c7 811 0 0 (by decide), c811, tk2 V7 (by rw [c7 808 0 0 (by decide)]; exact hV6) u un, bnd_some, onn_some, chk_t u6, lt_def, lt_def, c7 810 0 0 (by decide), a6 810 0 0 (by decide), e810, sv_col (show ¬ 812 = 718 by decide), c7 812 0 0 (by decide), c812] at hC
      have cV6 : cC V6 = cC V4 := cC_fr a6 (by decide)
      rw [cV6] at k2
      have w19a : agr [1048, 1052, 5900, 6000] W4 (sv (sv (sv (sv W4 1052 0 0 (W4 1052 0 0 + 1)) 1048 0 0 (nI u)) 5900 0 u (nI (T + 1))) 6000 0 u 0) := ((((agr_sv _ _ _ _ _).app (agr_sv _ _ _ _ _)).app (agr_sv _ _ _ _ _)).app (agr_sv _ _ _ _ _)).sub (by decide)
      have w48 : (sv (sv (sv (sv W4 1052 0 0 (W4 1052 0 0 + 1)) 1048 0 0 (nI u)) 5900 0 u (nI (T + 1))) 6000 0 u 0) 1048 0 0 = nI u := by rw [sv_col (by decide), sv_col (by decide), sv_at]
      have w52 : (sv (sv (sv (sv W4 1052 0 0 (W4 1052 0 0 + 1)) 1048 0 0 (nI u)) 5900 0 u (nI (T + 1))) 6000 0 u 0) 1052 0 0 = W4 1052 0 0 + 1 := by rw [sv_col (by decide), sv_col (by decide), sv_col (by decide), sv_at]
      have w59 : (sv (sv (sv (sv W4 1052 0 0 (W4 1052 0 0 + 1)) 1048 0 0 (nI u)) 5900 0 u (nI (T + 1))) 6000 0 u 0) 5900 0 u = nI (T + 1) := by rw [sv_col (by decide), sv_at]
      have w59o : ∀ w, w ≠ u → (sv (sv (sv (sv W4 1052 0 0 (W4 1052 0 0 + 1)) 1048 0 0 (nI u)) 5900 0 u (nI (T + 1))) 6000 0 u 0) 5900 0 w = W4 5900 0 w := fun w hw => by rw [sv_col (by decide), sv_ne (fun q => hw q.2.2), sv_col (by decide), sv_col (by decide)]
      have w60 : (sv (sv (sv (sv W4 1052 0 0 (W4 1052 0 0 + 1)) 1048 0 0 (nI u)) 5900 0 u (nI (T + 1))) 6000 0 u 0) 6000 0 u = 0 := sv_at _ _ _ _ _
      rw [eb, if_neg (m1_ne u (by omega)), jn_def, if_neg hneq, lt_def] at hM
      dsimp only at hM
      rw [lt_def, chk_t iu, lt_def, chk_t iu, lt_def, cl_nI (by omega), jn_def, sv_col (show ¬ 1047 = 1048 by decide), sv_col (show ¬ 1047 = 1052 by decide), e1047] at hM
      generalize sv (sv (sv (sv W4 1052 0 0 (W4 1052 0 0 + 1)) 1048 0 0 (nI u)) 5900 0 u (nI (T + 1))) 6000 0 u 0 = W19 at *
      obtain ⟨W22, m1, m2⟩ := cf_L (kb := kb) (l := l) u6 17 0 FU W19 (by omega) (FU_gt (by omega)) (Rv_fr (ST_Rv d3) w19a (by decide) (by decide))
      have hM' : f_X12_chooses 0 W4 = some W22 := hM.trans (m1 (fun V22 => some V22))
      have cW19 : cM W19 = cM W4 := cM_fr w19a (by decide)
      rw [cW19] at m2
      have g22 : ∀ c o j, c ∉ [2400, 2500, 2600, 2700, 2800, 2900] → W22 c o j = W19 c o j := fun c o j hc => m2.2 c o j hc
      have r48 : W22 1048 0 0 = nI u := (g22 1048 0 0 (by decide)).trans w48
      refine ⟨_, hC, Or.inr ⟨u, _, run W22 u u6 hM' r48, ?_, ?_, ?_⟩⟩
      · rw [sv_col (by decide), sv_col (by decide), c7 811 0 0 (by decide), c811]
      · rw [sv_col (by decide), sv_col (by decide), c7 711 u 0 (by decide), a6 711 u 0 (by decide)]; exact (hst u un).mpr u0
      · have cVf : cC (sv (sv V7 718 u 0 (nI (T + 1))) 812 0 0 (0 + 1)) = fla kb l (rg2 u 0 17) (cC V4) := (cC_fr ((agr_sv V7 718 u 0 _).app (agr_sv _ 812 0 0 _)) (by decide)).trans k2.1
        have cWf : cM (sv (sv W22 1080 0 0 (nI u)) 6000 0 u (W22 6000 0 u + 1)) = fla kb l (rg2 u 0 17) (cM W4) := (cM_fr ((agr_sv W22 1080 0 0 _).app (agr_sv _ 6000 0 u _)) (by decide)).trans m2.1
        refine OK_cur d3 d4 hJ4 (by omega) un (((a6.app k2.2).app ((agr_sv _ _ _ _ _).app (agr_sv _ _ _ _ _))).sub (by decide)) (((w19a.app m2.2).app ((agr_sv _ _ _ _ _).app (agr_sv _ _ _ _ _))).sub (by decide)) ?_ (fun i hi => ?_) ?_ ?_ ?_ ?_ (fun w hw => ?_) (fun w hw => ?_) ?_ ?_ ?_ (fun o hoo hne' => ?_) (fun k hk => ?_)
        · rw [cVf, cWf]
          intro i hi
          obtain ⟨q1, q2, q3, q4⟩ := d3.2.2.2.2.2.2.2.2.2.1 i hi
          by_cases hin : 17 * u ≤ i ∧ i < 17 * u + 17
          · rw [fla_t (rg2_t (by omega) (by omega)), fla_t (rg2_t (by omega) (by omega))]
            refine ⟨fun y1 y2 => by rw [q1 y1 y2], gd_fil q2, fun y1 => ?_, fun y1 y2 => ?_⟩
            · rw [fil_un (q3 y1)]; exact q3 y1
            · rw [q4 y1 y2]; exact fil_nm _ _ _
          · rw [fla_f (rg2_f (by omega)), fla_f (rg2_f (by omega))]
            exact ⟨q1, q2, q3, q4⟩
        · rw [cWf, fla_f (rg2_f (by omega))]
        · rw [sv_col (by decide), sv_col (by decide), c7 811 0 0 (by decide), c811]
        · rw [sv_col (by decide), sv_col (by decide)]; exact r48
        · rw [sv_col (by decide), sv_at]
        · rw [sv_col (by decide), sv_at]
        · rw [sv_col (by decide), sv_ne (fun q => hw q.2.1), c7 718 w 0 (by decide), a6 718 w 0 (by decide)]
        · rw [sv_col (by decide), sv_col (by decide), g22 5900 0 w (by decide), w59o w hw]
        · rw [sv_col (by decide), sv_col (by decide), g22 5900 0 u (by decide), w59]; exact Int32.le_refl _
        · rw [sv_at, sv_at, g22 6000 0 u (by decide), w60]
        · rw [sv_col (by decide), sv_col (by decide), sv_col (by decide), sv_col (by decide), c7 816 0 0 (by decide), c816, g22 1052 0 0 (by decide), w52, hs.2.2.2.2.2.2.2.2]
        · have t2 := d4.2.1 o (by rw [hnY]; exact hoo)
          have t2' := h2.2.1 o (by rw [nth_LY h1.2.1]; exact hoo)
          rw [sv_col (show ¬ 718 = 812 by decide), sv_col (show ¬ 718 = 812 by decide), sv_ne (fun q => hne' q.2.1), sv_at, c7 718 o 0 (by decide), a6 718 o 0 (by decide), aV4 718 o 0 (by decide), sv_col (show ¬ 5900 = 6000 by decide), sv_col (show ¬ 5900 = 6000 by decide), sv_col (show ¬ 5900 = 1080 by decide), sv_col (show ¬ 5900 = 1080 by decide), g22 5900 0 o (by decide), g22 5900 0 u (by decide), w59o o hne', w59, aW4 5900 0 o (by decide)]
          have hlt : nI T < nI (T + 1) := nI_lt (Nat.lt_succ_self T) (by omega)
          exact ⟨Int32.lt_of_le_of_lt t2'.1 hlt, Int32.lt_of_le_of_lt t2'.2 hlt⟩
        · rw [cWf, fla_t (rg2_t (by omega) (by omega))]
          exact gd_fl d3.2.2.2.2.2.2.2.2.1.1 ((d3.2.2.2.2.2.2.2.2.2.1 (17 * u + k) (by omega)).2.1)
  have l28f : ∀ K : Bool → Option HV, f_X12_chooses_L28 0 W4 K FU false 0 = K false := by
    intro K
    obtain ⟨f, hf⟩ : ∃ f, FU = f + 1 := ⟨FU - 1, by have := FU_gt (k := 1) (by decide); omega⟩
    rw [hf]
    unfold f_X12_chooses_L28
    by_cases q : W4 1019 0 0 ≤ 0
    · rw [if_pos q]
    · rw [if_neg q, if_neg (show ¬ false = true by decide)]
  have leaveM : ∀ v1 : Bool, (∀ K : Bool → Option HV, f_X12_chooses_L28 0 W4 K FU v1 0 = K false) → (jn (fun v6 =>
    if v6 = true then (some W4) else (jn (fun v10 =>
    if v10 = (-1) then (lt (sv W4 1048 0 0 (-1)) fun V33 =>
    some V33) else (jn (fun V12 =>
    lt (sv V12 1048 0 0 v10) fun V15 =>
    chk (inb v10 6) <|
    lt (sv V15 5900 0 (v10).toNatClampNeg (V15 1047 0 0)) fun V17 =>
    chk (inb v10 6) <|
    lt (sv V17 6000 0 (v10).toNatClampNeg 0) fun V19 =>
    jn (fun V22 =>
    some V22) fun k20 =>
    f_X12_chooses_L249 0 v10 k20 FU 0 V19) fun k13 =>
    if v10 = (W4 1048 0 0) then (k13 W4) else (lt (sv W4 1052 0 0 ((W4 1052 0 0) + 1)) fun V32 =>
    k13 V32))) fun k8 =>
    f_X12_chooses_L162 0 W4 k8 FU (-1) 0)) fun k4 =>
    f_X12_chooses_L28 0 W4 k4 FU v1 0) = (if bst s' = (-1) then (lt (sv W4 1048 0 0 (-1)) fun V33 => some V33) else (jn (fun V12 =>
    lt (sv V12 1048 0 0 (bst s')) fun V15 =>
    chk (inb (bst s') 6) <|
    lt (sv V15 5900 0 (bst s').toNatClampNeg (V15 1047 0 0)) fun V17 =>
    chk (inb (bst s') 6) <|
    lt (sv V17 6000 0 (bst s').toNatClampNeg 0) fun V19 =>
    jn (fun V22 =>
    some V22) fun k20 =>
    f_X12_chooses_L249 0 (bst s') k20 FU 0 V19) fun k13 =>
    if bst s' = (W4 1048 0 0) then (k13 W4) else (lt (sv W4 1052 0 0 ((W4 1052 0 0) + 1)) fun V32 =>
    k13 V32))) := by
    intro v1 hv1
    rw [jn_def, hv1, if_neg (show ¬ false = true by decide), jn_def]
    exact b2' _
  rcases d4.2.2.1 with hA | ⟨c, hc1, ⟨hc2, -⟩, hc3⟩
  · refine choose (fun c hc q => absurd (q.symm.trans hA) (m1_ne c (by omega))) (fun _ => trivial) ?_ (htick _ ?_)
    · unfold f_X12_chooses
      rw [jn_def, jn_def, if_pos hA]
      exact leaveM false l28f
    · rw [e811, hA, htn, bnd_some, jn_def, jn_def, onn_none, hbest, bnd_some]
  · rw [hnY] at hc1
    have c6 : c < 6 := by omega
    have ic : inb (nI c) 6 := inb_nI c6 (by decide)
    by_cases hB : W4 4700 0 c = 0
    · obtain ⟨p0, hp0, ep0⟩ := hPr c hc1
      have lv1 : ∀ u, u < nth Y → (V4 706 u 0 < (if (V4 812 0 0) < 50 then (((V4 706 c 0) + 1)) else ((V4 706 c 0)) : Int32) ↔ ¬ (W4 5500 0 c < W4 5500 0 u ∨ (W4 5500 0 u = W4 5500 0 c ∧ ¬ W4 6000 0 c < 50))) := by
        intro u hu
        obtain ⟨p1, hp1, ep1⟩ := hPr u hu
        have eu : W4 5500 0 u = nI p1 := (d3.2.1 5500 (by decide) 0 u).trans ep1
        have ec : W4 5500 0 c = nI p0 := (d3.2.1 5500 (by decide) 0 c).trans ep0
        rw [hp u hu, hp c hc1, eu, ec, z5 c (by rw [hnY]; exact hc1) hc2, nI_1]
        by_cases q : W4 6000 0 c < 50
        · rw [if_pos q, nI_ltI (by omega) (by omega), nI_ltI (by omega) (by omega)]
          constructor
          · rintro z (y | y)
            · omega
            · exact y.2 q
          · intro z
            have : ¬ p0 < p1 := fun y => z (Or.inl y)
            omega
        · rw [if_neg q, nI_ltI (by omega) (by omega), nI_ltI (by omega) (by omega)]
          constructor
          · rintro z (y | y)
            · omega
            · have := nI_inj (by omega) (by omega) y.1
              omega
          · intro z
            have y1 : ¬ p0 < p1 := fun y => z (Or.inl y)
            have y2 : ¬ p1 = p0 := fun y => z (Or.inr ⟨by rw [y], q⟩)
            omega
      obtain ⟨b, m1, m2, m3⟩ := ml_L (v1 := (if (V4 812 0 0) < 50 then (((V4 706 c 0) + 1)) else ((V4 706 c 0)) : Int32)) s1 s2 s6 hc1 hc2 (z1 c c6) (z2 c (by rw [hnY]; exact hc1)).2.2.2.2.2.2.1 hst lv1 (nth Y) 0 FU FU (by omega) (FU_gt (by omega)) (by have := FU_gt (k := 10) (by decide); omega)
      have hml : f_X10_mustLeave kb 0 c V4 = some b := by
        unfold f_X10_mustLeave
        rw [lt_def, jn_def]
        exact m1
      have hch : f_X12_chooses 0 W4 = (jn (fun v6 =>
        if v6 = true then (some W4) else (jn (fun v10 =>
        if v10 = (-1) then (lt (sv W4 1048 0 0 (-1)) fun V33 =>
        some V33) else (jn (fun V12 =>
        lt (sv V12 1048 0 0 v10) fun V15 =>
        chk (inb v10 6) <|
        lt (sv V15 5900 0 (v10).toNatClampNeg (V15 1047 0 0)) fun V17 =>
        chk (inb v10 6) <|
        lt (sv V17 6000 0 (v10).toNatClampNeg 0) fun V19 =>
        jn (fun V22 =>
        some V22) fun k20 =>
        f_X12_chooses_L249 0 v10 k20 FU 0 V19) fun k13 =>
        if v10 = (W4 1048 0 0) then (k13 W4) else (lt (sv W4 1052 0 0 ((W4 1052 0 0) + 1)) fun V32 =>
        k13 V32))) fun k8 =>
        f_X12_chooses_L162 0 W4 k8 FU (-1) 0)) fun k4 =>
        f_X12_chooses_L28 0 W4 k4 FU true 0) := by
        unfold f_X12_chooses
        rw [jn_def, jn_def, hc2, if_neg (m1_ne c (by omega)), chk_t ic, cl_nI (by omega), if_pos hB]
      cases hb : b with
      | true =>
        rw [hb] at m2 m3 hml
        obtain ⟨u, un, ue, u0, up'⟩ := m3 rfl
        have m2' : ∀ K : Bool → Option HV, f_X12_chooses_L28 0 W4 K FU true 0 = K false := m2
        refine choose (fun c' hc' q => ?_) (fun _ => trivial) ?_ (htick _ ?_)
        · have e : c' = c := nI_inj (by omega) (by omega) (q.symm.trans hc2)
          rw [e]
          intro z
          refine (b3.1 c z).2.2 u un u0 ?_
          rcases up' with y | y
          · exact Or.inl y
          · exact Or.inr ⟨y.1, (hc3 u (by rw [hnY]; exact un) ue).2⟩
        · rw [hch]
          exact leaveM true m2'
        · rw [e811, hc2, htk c hc1, bnd_some, jn_def, jn_def, onn_some, chk_t c6, if_pos ((hst c hc1).mpr hB), hml, bnd_some, if_pos rfl, hbest, bnd_some]
      | false =>
        rw [hb] at m2 hml
        have m2' : ∀ K : Bool → Option HV, f_X12_chooses_L28 0 W4 K FU true 0 = K true := m2
        have hch2 : f_X12_chooses 0 W4 = some W4 := by
          rw [hch, jn_def, m2', if_pos rfl]
        have hC : f_X10_tick kb 0 V = some (sv (sv V4 718 c 0 (nI (T + 1))) 812 0 0 (V4 812 0 0 + 1)) := by
          refine htick _ ?_
          rw [e811, hc2, htk c hc1, bnd_some, jn_def, jn_def, onn_some, chk_t c6, if_pos ((hst c hc1).mpr hB), hml, bnd_some, if_neg (show ¬ false = true by decide)]
          dsimp only
          rw [e811, hc2, htk c hc1, bnd_some, onn_some, chk_t c6, lt_def, lt_def, e810, sv_col (show ¬ 812 = 718 by decide)]
        refine ⟨_, hC, Or.inr ⟨c, _, run W4 c c6 hch2 hc2, ?_, ?_, ?_⟩⟩
        · rw [sv_col (by decide), sv_col (by decide), e811, hc2]
        · rw [sv_col (by decide), sv_col (by decide)]; exact (hst c hc1).mpr hB
        · have cVf : cC (sv (sv V4 718 c 0 (nI (T + 1))) 812 0 0 (V4 812 0 0 + 1)) = cC V4 := cC_fr ((agr_sv V4 718 c 0 _).app (agr_sv _ 812 0 0 _)) (by decide)
          have cWf : cM (sv (sv W4 1080 0 0 (nI c)) 6000 0 c (W4 6000 0 c + 1)) = cM W4 := cM_fr ((agr_sv W4 1080 0 0 _).app (agr_sv _ 6000 0 c _)) (by decide)
          refine OK_cur d3 d4 hJ4 (by omega) hc1 (((agr_sv _ _ _ _ _).app (agr_sv _ _ _ _ _)).sub (by decide)) (((agr_sv _ _ _ _ _).app (agr_sv _ _ _ _ _)).sub (by decide)) ?_ (fun i hi => by rw [cWf]) ?_ ?_ ?_ ?_ (fun w hw => ?_) (fun w hw => ?_) ?_ ?_ ?_ (fun o hoo hne' => ?_) (fun k hk => ?_)
          · rw [cVf, cWf]; exact d3.2.2.2.2.2.2.2.2.2.1
          · rw [sv_col (by decide), sv_col (by decide), e811, hc2]
          · rw [sv_col (by decide), sv_col (by decide)]; exact hc2
          · rw [sv_col (by decide), sv_at]
          · rw [sv_col (by decide), sv_at]
          · rw [sv_col (by decide), sv_ne (fun q => hw q.2.1)]
          · rw [sv_col (by decide), sv_col (by decide)]
          · rw [sv_col (by decide), sv_col (by decide)]
            exact (d4.2.1 c (by rw [hnY]; exact hc1)).2
          · rw [sv_at, sv_at, z5 c (by rw [hnY]; exact hc1) hc2]
          · rw [sv_col (by decide), sv_col (by decide), sv_col (by decide), sv_col (by decide), hs.2.2.2.2.2.2.2.2]
          · have t2' := h2.2.1 o (by rw [nth_LY h1.2.1]; exact hoo)
            rw [sv_col (show ¬ 718 = 812 by decide), sv_col (show ¬ 718 = 812 by decide), sv_ne (fun q => hne' q.2.1), sv_at, aV4 718 o 0 (by decide), sv_col (show ¬ 5900 = 6000 by decide), sv_col (show ¬ 5900 = 6000 by decide), sv_col (show ¬ 5900 = 1080 by decide), sv_col (show ¬ 5900 = 1080 by decide)]
            exact ⟨Int32.lt_of_le_of_lt t2'.1 (nI_lt (Nat.lt_succ_self T) (by omega)), (hc3 o (by rw [hnY]; exact hoo) hne').2⟩
          · rw [cWf]; exact hr4 c c6 hc2 k hk
    · refine choose (fun c' hc' q => ?_) (fun _ => trivial) ?_ (htick _ ?_)
      · have e : c' = c := nI_inj (by omega) (by omega) (q.symm.trans hc2)
        rw [e]
        intro z
        exact hB (b3.1 c z).2.1
      · unfold f_X12_chooses
        rw [jn_def, jn_def, hc2, if_neg (m1_ne c (by omega)), chk_t ic, cl_nI (by omega), if_neg hB]
        rw [← hc2]
        exact leaveM false l28f
      · rw [e811, hc2, htk c hc1, bnd_some, jn_def, jn_def, onn_some, chk_t c6, if_neg (fun q => hB ((hst c hc1).mp q)), hbest, bnd_some]
