theorem and255_n (x : Int32) : ∃ n, n < 256 ∧ x &&& 255 = nI n := and_nI x 255 8 (by decide) (by decide)
/-- all columns that a boot changes, behind the reset -/
def btC : List Nat := [0, 1, 2, 3, 4, 5, 102, 103, 104, 105, 106, 107, 108, 109, 110, 111, 302, 303, 304, 305, 306, 307, 308, 401, 402, 403, 404, 405, 406, 407, 408, 409, 704, 705, 706, 707, 708, 709, 710, 711, 712, 713, 714, 715, 716, 717, 718, 807, 808, 809, 2300, 2400, 2500, 2600, 2700, 2800]
theorem boot_all : S_boot RZ := by
  intro cn kb V W hcn hz x1
  obtain ⟨Y0, l0, T0, hT0, hq⟩ := id hz
  have hS := hq.1
  have h1 : 1 ≤ kb := hS.1.1
  have hkb : kb ≤ 32 := hS.1.2.1
  have h10 : W 1000 0 0 = nI (1024 * kb) := (hS.2.1 1000 (by decide) 0 0).trans hS.1.2.2.1
  have h700 : ∀ t, t < 6 → V 700 t 0 = nI t := hS.2.2.2.2.2.2.2.2.2.2.2.2.2.1
  obtain ⟨e405, L, hL, e401, e1011, etape⟩ := hS.2.2.2.1
  unfold f_X11_boot f_X12_boot
  by_cases x0 : x1 < 0
  · rw [if_pos x0, if_pos x0]
    exact ⟨_, _, _, rfl, rfl, RZ_up hz⟩
  rw [if_neg x0, if_neg x0, e401, e1011]
  by_cases xN : ¬ x1 ≤ nI L
  · rw [if_neg xN, if_neg xN]
    exact ⟨_, _, _, rfl, rfl, RZ_up hz⟩
  have xL : x1 ≤ nI L := Classical.not_not.mp xN
  rw [if_pos xL, if_pos xL]
  obtain ⟨n, hn31, rfl⟩ := nI_of x0
  have hnL : n ≤ L := (nI_leI (by omega) (by omega)).mp xL
  have hn : n ≤ 5000 := by omega
  -- the class's reset
  obtain ⟨V1, a1, a2, a3⟩ := reset_C (kb := kb) (V := V) hkb
  generalize hV6 : sv (sv (sv (sv (sv V1 402 0 0 0) 403 0 0 (nI n)) 401 0 0 0) 404 0 0 0) 405 0 0 (-1) = V6
  have a6 : agr [401, 402, 403, 404, 405] V1 V6 := by rw [← hV6]; exact (((((agr_sv _ _ _ _ _).app (agr_sv _ _ _ _ _)).app (agr_sv _ _ _ _ _)).app (agr_sv _ _ _ _ _)).app (agr_sv _ _ _ _ _)).sub (by decide)
  have v402 : V6 402 0 0 = 0 := by rw [← hV6]; simp [sv]
  have v403 : V6 403 0 0 = nI n := by rw [← hV6]; simp [sv]
  have v401 : V6 401 0 0 = 0 := by rw [← hV6]; simp [sv]
  have v404 : V6 404 0 0 = 0 := by rw [← hV6]; simp [sv]
  have v405 : V6 405 0 0 = -1 := by rw [← hV6]; simp [sv]
  have hload : f_X5_load kb 0 0 (nI n) V = (bnd (f_X5_readImage kb 0 0 V6) fun p7 => ldt kb p7) := by
    unfold f_X5_load ldt
    rw [a1, bnd_some]
    simp only [lt_def]
    rw [hV6]
  -- the reference's beginning
  obtain ⟨W5, b1, b2, -, b4⟩ := cp_L hn n 0 FU W (by omega) (FU_gt (by omega))
  obtain ⟨W8, c1, c2, c3⟩ := begins_M (sv (sv W5 1011 0 0 0) 1013 0 0 (nI n))
  generalize hW10 : sv (sv W8 1015 0 0 0) 1016 0 0 (-1) = W10
  have a10 : agr [1015, 1016] W8 W10 := by rw [← hW10]; exact (agr_sv _ _ _ _ _).app (agr_sv _ _ _ _ _)
  have w15 : W10 1015 0 0 = 0 := by rw [← hW10]; simp [sv]
  have w16 : W10 1016 0 0 = -1 := by rw [← hW10]; simp [sv]
  have aW8 : ∀ c o j, c ∉ bgc → c ≠ 1011 → c ≠ 1013 → c ≠ 3200 → W8 c o j = W c o j := fun c o j q1 q2 q3 q4 => by
    rw [c2 c o j q1, sv_col q3, sv_col q2, b2 c o j (by simp; exact q4)]
  have w1000 : W8 1000 0 0 = nI (1024 * kb) := by rw [aW8 1000 0 0 (by decide) (by decide) (by decide) (by decide)]; exact h10
  have w1011 : W8 1011 0 0 = 0 := by rw [c2 1011 0 0 (by decide), sv_col (by decide), sv_at]
  have w1013 : W8 1013 0 0 = nI n := by rw [c2 1013 0 0 (by decide), sv_at]
  have w3200 : ∀ j, W8 3200 0 j = W5 3200 0 j := fun j => by rw [c2 3200 0 j (by decide), sv_col (by decide), sv_col (by decide)]
  -- the bytes
  have hPR : PR n (fun j => (and255_n (V 3100 0 j)).choose) V6 (sv W10 1014 0 0 0) := by
    have aW : agr [1014] W10 (sv W10 1014 0 0 0) := agr_sv _ _ _ _ _
    refine ⟨hn, v403, ?_, fun j hj => ?_, ?_, ?_, fun _ => ⟨0, Nat.zero_le _, v402, sv_at _ _ _ _ _⟩⟩
    · rw [aW 1013 0 0 (by decide), a10 1013 0 0 (by decide)]; exact w1013
    · have hb := (and255_n (V 3100 0 j)).choose_spec
      have ev : V6 3100 0 j = V 3100 0 j := by rw [a6 3100 0 j (by decide), a2 3100 0 j (by decide)]
      refine ⟨by rw [ev]; exact hb.2, ?_, hb.1⟩
      rw [aW 3200 0 j (by decide), a10 3200 0 j (by decide), w3200, b4 j (Nat.zero_le _) hj, b8and, ← etape j (by omega)]
      exact hb.2
    · rw [aW 1015 0 0 (by decide), v404, w15]
    · rw [aW 1016 0 0 (by decide), v405, w16]
  generalize hB : (fun j => (and255_n (V 3100 0 j)).choose) = B at hPR
  obtain ⟨V7, W11, d1, d2, d3, d4, d5, d6⟩ := ri_all (kb := kb) hPR
  obtain ⟨V', W', g1, g2, g3, g4, g5, g6, g7⟩ := mid_all (kb := kb) h1 hkb (by rw [d5 1000 0 0 (by decide), a10 1000 0 0 (by decide)]; exact w1000) d3 d6
  have hCb : f_X5_load kb 0 0 (nI n) V = bdt kb V' := by rw [hload, d1, bnd_some, g1]
  have hMb : f_X12_readAll 0 W10 = some W' := by rw [d2, g2]
  have bV : agr [102, 103, 104, 105, 106, 107, 108, 109, 110, 111, 401, 402, 403, 404, 405, 406, 407, 408, 409, 707, 708, 2700, 2800] V1 V' := ((a6.app d4).app g5).sub (by decide)
  have bW : agr [1014, 1015, 1016, 1018, 1019, 1054, 4000, 4100, 4200, 4300, 4400, 4500, 4600, 5100, 5500, 5600, 5700, 8800, 8900, 9000, 9100, 9200, 9300, 9400, 9500, 9600, 9700, 9800, 9900] W8 W' := ((a10.app d5).app g6).sub (by decide)
  have V401' : V' 401 0 0 = 0 := by rw [g5 401 0 0 (by decide), d4 401 0 0 (by decide)]; exact v401
  have W1011' : W' 1011 0 0 = 0 := by rw [bW 1011 0 0 (by decide)]; exact w1011
  have V700' : ∀ t, t < 6 → V' 700 t 0 = nI t := fun t ht => by rw [bV 700 t 0 (by decide), a2 700 t 0 (by decide)]; exact h700 t ht
  have W1000' : W' 1000 0 0 = nI (1024 * kb) := by rw [bW 1000 0 0 (by decide)]; exact w1000
  rw [hCb, jn_def]
  have hstep : f_X12_boot_L16 (nI n) (fun V5 => lt (sv V5 1011 0 0 0) fun V6 => lt (sv V6 1013 0 0 (nI n)) fun V7 => bnd (f_X12_begins 0 V7) fun p8 => lt (sv p8 1015 0 0 0) fun V9 => lt (sv V9 1016 0 0 (-1)) fun V10 => bnd (f_X12_readAll 0 V10) fun p11 => if (p11 1015 0 0) = 0 then (jn (fun V15 => jn (fun V18 => lt (sv V18 1017 0 0 (b2i true)) fun V19 => some ((0 : Int32), V19)) fun k16 => f_X12_boot_L118 0 k16 FU 0 V15) fun k13 => f_X12_boot_L97 0 k13 FU 0 p11) else (lt (p11 1015 0 0) fun v34 => lt (p11 1016 0 0) fun v35 => bnd (f_X12_begins 0 p11) fun p36 => lt (sv p36 1016 0 0 v35) fun V37 => some (v34, V37))) FU 0 W = (if (W' 1015 0 0) = 0 then (jn (fun V15 => jn (fun V18 => lt (sv V18 1017 0 0 (b2i true)) fun V19 => some ((0 : Int32), V19)) fun k16 => f_X12_boot_L118 0 k16 FU 0 V15) fun k13 => f_X12_boot_L97 0 k13 FU 0 W') else (lt (W' 1015 0 0) fun v34 => lt (W' 1016 0 0) fun v35 => bnd (f_X12_begins 0 W') fun p36 => lt (sv p36 1016 0 0 v35) fun V37 => some (v34, V37))) := by
    refine (b1 _).trans ?_
    simp only [lt_def]
    rw [c1, bnd_some, hW10, hMb, bnd_some]
  rw [hstep]
  unfold bdt
  by_cases q : V' 404 0 0 = 0
  · -- booted
    have q' : W' 1015 0 0 = 0 := g3.symm.trans q
    obtain ⟨C, T, tt, l1, l2, l3, l4, l5, l6, l7, l8, l9⟩ := g7 q
    obtain ⟨i1, i2, i3, i4, i5, i6, i7, i8, i9, i10, i11, i12⟩ := id l2
    have hsg := sg_le l2 T (Nat.le_refl _)
    rw [if_pos q, if_pos q']
    -- open, and the heap
    generalize hX1 : sv (sv (sv V' 807 0 0 (nI C)) 808 0 0 (nI T)) 809 0 0 (b2i true) = X1
    have aX1 : agr [807, 808, 809] V' X1 := by rw [← hX1]; exact ((agr_sv _ _ _ _ _).app (agr_sv _ _ _ _ _)).app (agr_sv _ _ _ _ _)
    have hop : f_X10_open kb 0 (V' 406 0 0) (V' 407 0 0) V' = X1 := by
      unfold f_X10_open
      rw [i5, i7, show f_J9_min_7cf53 (nI C) 8 = nI C from min_C (b := 8) i2 (by decide), show f_J9_min_7cf53 (nI T) 6 = nI T from min_C (b := 6) i4 (by decide), lt_def, lt_def, lt_def, lt_def, lt_def, hX1]
    obtain ⟨X2, m1, m2, m3⟩ := hreset_C (kb := kb) (h := sg W' C T) (V := X1) hkb (by omega)
    have aX2 : agr [302, 303, 304, 305, 306, 307, 308, 807, 808, 809, 2500, 2600] V' X2 := (aX1.app m2).sub (by decide)
    have x807 : X2 807 0 0 = nI C := by rw [m2 807 0 0 (by decide), ← hX1, sv_col (by decide), sv_col (by decide), sv_at]
    have x808 : X2 808 0 0 = nI T := by rw [m2 808 0 0 (by decide), ← hX1, sv_col (by decide), sv_at]
    have x809 : X2 809 0 0 = b2i true := by rw [m2 809 0 0 (by decide), ← hX1, sv_at]
    have hFC : FC kb n C T tt B X2 W' := by
      refine ⟨h1, hkb, PR_fr l1 aX2 (agr_rfl W') (by decide) (by decide), IM_ag l2 aX2 (agr_rfl W') (by decide) (by decide), l3, fun c hc => ⟨?_, (l7 c hc).2⟩, fun t ht => ⟨?_, (l8 t ht).2⟩, l9, x807⟩
      · have := (l7 c hc).1
        unfold LcC at this ⊢
        rw [aX2 108 c 0 (by decide), aX2 109 c 0 (by decide), aX2 110 c 0 (by decide), aX2 111 c 0 (by decide)]
        exact this
      · have := (l8 t ht).1
        unfold LtV at this ⊢
        rw [aX2 707 t 0 (by decide), aX2 708 t 0 (by decide)]
        exact this
    obtain ⟨⟨-, -, -, -, -, -, -, -, -⟩, r1, r2, r3, r4, -, -, -, s4, s5, s6, s7, s8, s9, s10, n1, n2⟩ := id a3
    obtain ⟨-, -, -, u4, u5, u6, u7, u8, u9, u10, u11, u12, u13, u14, u15, u16, u17, u18, k1, k2, k3, k4⟩ := id c3
    have hMB : MB kb W' X2 W' (cg W' 0) := by
      have t22 : ∀ g, g < 64 * kb → W' 2200 0 g = 0 := fun g hg => by rw [bW 2200 0 g (by decide)]; exact k2 g (by omega)
      have t23 : ∀ g, g < 64 * kb → W' 2300 0 g = 0 := fun g hg => by rw [bW 2300 0 g (by decide)]; exact k3 g (by omega)
      refine ⟨⟨fun a ha => ?_, fun g hg => ?_⟩, fun g hg => gd_mem (by rw [t22 g hg]; rfl), fun g hg => by rw [t23 g hg]; rfl, fun g _ hg => by rw [t22 g hg]; rfl⟩
      · rw [aX2 2300 0 a (by decide), bV 2300 0 a (by decide), n1 a ha, bW 2100 0 a (by decide), k1 a (by omega)]
      · rw [aX2 2400 0 g (by decide), bV 2400 0 g (by decide), n2 g hg, t22 g hg, t23 g hg]; rfl
    have hcz : ∀ i, i < 582 → cM W' i = nm 0 := fun i hi => by rw [cM_fr bW (by decide)]; exact k4 i (by omega)
    obtain ⟨X3, Z3, y1, y2, y3, y4, y5, y6⟩ := fl_L (kb := kb) (Y := W') C 0 FU FU X2 W' (by omega) (FU_gt (by omega)) (FU_gt (by omega)) hFC (fun _ _ _ _ => rfl) hMB
    have hFC3 := FC_ag hFC y3 y4 (by decide) (by decide)
    obtain ⟨X4, Z4, z1, z2, z3, z4, z5, z6, z7⟩ := st_L (kb := kb) (Y := W') T 0 FU FU X3 Z3 (by omega) (FU_gt (by omega)) (FU_gt (by omega)) hFC3 (fun t ht => GT_ag (l4 t ht) y4 (by decide)) (fun c hc o j => y4 c o j (by revert c; decide)) (fun t ht => by omega) (fun i _ hi => by rw [y5 i hi]; exact hcz i hi)
    have hFC4 := FC_ag8 hFC3 z3 z4 z5 (by decide) (by decide)
    have hbd : f_X5_build kb 0 0 V' = some X4 := by
      unfold f_X5_build
      rw [hop, lt_def, aX1 409 0 0 (by decide), l5, dv16 (by omega), show 16 * sg W' C T / 16 = sg W' C T by omega, m1, bnd_some, jn_def]
      refine (y1 _).trans ?_
      rw [jn_def]
      exact z1 _
    have aX : agr [0, 1, 2, 3, 4, 5, 302, 303, 304, 305, 306, 307, 308, 704, 705, 706, 708, 709, 710, 711, 712, 713, 714, 715, 716, 717, 718, 807, 808, 809, 2300, 2400, 2500, 2600] V' X4 := ((aX2.app y3).app z3).sub (by decide)
    have aX34 : agr [0, 1, 2, 3, 4, 5, 704, 705, 706, 708, 709, 710, 711, 712, 713, 714, 715, 716, 717, 718, 2300, 2400] X2 X4 := (y3.app z3).sub (by decide)
    have aZ : agr [2100, 2200, 2400, 2500, 2600, 2700, 2800, 2900, 4700, 4800, 4900, 5000, 5200, 5300, 5400, 5800, 5900, 6000, 6300] W' Z4 := (y4.app z4).sub (by decide)
    have aW5' : agr [1017] Z4 (sv Z4 1017 0 0 (b2i true)) := agr_sv _ _ _ _ _
    have w17 : i2b ((sv Z4 1017 0 0 (b2i true)) 1017 0 0) = true := by rw [sv_at]; rfl
    generalize hW5 : sv Z4 1017 0 0 (b2i true) = Z5 at *
    have aZ5 : agr [1017, 2100, 2200, 2400, 2500, 2600, 2700, 2800, 2900, 4700, 4800, 4900, 5000, 5200, 5300, 5400, 5800, 5900, 6000, 6300] W' Z5 := (aZ.app aW5').sub (by decide)
    have x404 : X4 404 0 0 = 0 := by rw [aX 404 0 0 (by decide)]; exact q
    rw [hbd, bnd_some, jn_def]
    refine ⟨0, X4, Z5, ?_, ?_, W', [], 0, Nat.zero_le _, ?_⟩
    · rw [x404, bnd_some]
    · refine (y2 _).trans ?_
      rw [jn_def]
      refine (z2 _).trans ?_
      rw [lt_def, hW5]
    · have hFC5 : FC kb n C T tt B X4 Z5 := FC_ag hFC4 (agr_rfl X4) aW5' (by decide) (by decide)
      have es : sg Z5 C T = sg W' C T := sg_fr aZ5 (by decide) T
      have cz5 : cM Z5 = cM Z4 := cM_fr aW5' (by decide)
      have hZ2 : Z2 Z5 := by
        have e : ∀ l, l ∈ [1047, 1048, 1049, 1050, 1051, 1052, 1053, 1055, 1060, 1061, 1062, 1064, 1066, 1067] → Z5 l 0 0 = W8 l 0 0 := fun l hl => by
          rw [aZ5 l 0 0 (by revert l; decide), bW l 0 0 (by revert l; decide)]
        refine ⟨?_, ?_, ?_, ?_, ?_, ?_, ?_, ?_, ?_, ?_, ?_, ?_, ?_, ?_⟩
        all_goals rw [e _ (by decide)]
        · exact u4
        · exact u5
        · exact u6
        · exact u7
        · exact u8
        · exact u9
        · exact u10
        · exact u12
        · exact u13
        · exact u14
        · exact u15
        · exact u16
        · exact u17
        · exact u18
      have ev : ∀ l o, l ∈ [501, 502, 810, 811, 813, 814, 815, 816] → X4 l o 0 = V1 l o 0 := fun l o hl => by
        rw [aX l o 0 (by revert l; decide), bV l o 0 (by revert l; decide)]
      refine RQ_boot (Y := W') hFC5 (fun c hc o j => ?_) W1000' ?_ ⟨?_, ?_, fun g hg => ?_⟩ (fun t ht => ?_) (fun i h1' h2' => ?_) hZ2 (fun t ht => ?_) ⟨?_, 0, by omega, ?_, ?_, fun j hj => by omega⟩ ?_ ?_ w17 ⟨?_, ?_, ?_, ?_, ?_, ?_⟩ ⟨?_, ?_, ?_, ?_⟩ ?_
      · exact aZ5 c o j (by revert c; decide)
      · rw [aZ5 1054 0 0 (by decide), es]; exact l6
      · exact Rm_fr z3 ((z4.app aW5').sub (by decide) : agr [1017, 2400, 2500, 2600, 2700, 2800, 2900, 4700, 4800, 4900, 5000, 5200, 5300, 5400, 5800, 5900, 6000, 6300] Z3 Z5) (by decide) (by decide) y6.1
      · exact Mgd_fr ((z4.app aW5').sub (by decide) : agr [1017, 2400, 2500, 2600, 2700, 2800, 2900, 4700, 4800, 4900, 5000, 5200, 5300, 5400, 5800, 5900, 6000, 6300] Z3 Z5) (by decide) y6.2.1
      · rw [aW5' 2300 0 g (by decide), z4 2300 0 g (by decide)]; exact y6.2.2.1 g hg
      · obtain ⟨o1, o2, o3, o4, o5, o6, o7, o8, o9, o10⟩ := z6 t ht
        refine ⟨Rt1_fr (agr_rfl X4) aW5' (by decide) (by decide) o1, ?_, ?_, ?_, ?_, ?_, ?_, o8, fun k hk => by rw [cz5]; exact o9 k hk, by rw [cz5]; exact o10⟩
        · rw [aW5' 5000 0 t (by decide)]; exact o2
        · rw [aW5' 4700 0 t (by decide)]; exact o3
        · rw [aW5' 4800 0 t (by decide)]; exact o4
        · rw [aW5' 6300 0 t (by decide)]; exact o5
        · rw [aW5' 5800 0 t (by decide)]; exact o6
        · rw [aW5' 5900 0 t (by decide)]; exact o7
      · rw [cz5]; exact z7 i h1' h2'
      · rw [aX 700 t 0 (by decide)]; exact V700' t ht
      · rw [aX 405 0 0 (by decide), aZ5 1016 0 0 (by decide)]; exact g4
      · rw [aX 401 0 0 (by decide)]; exact V401'
      · rw [aZ5 1011 0 0 (by decide)]; exact W1011'
      · rw [aX34 808 0 0 (by decide)]; exact x808
      · rw [aX34 809 0 0 (by decide), x809]; rfl
      · rw [ev _ _ (by decide)]; exact s4
      · rw [ev _ _ (by decide)]; exact s5
      · rw [ev _ _ (by decide)]; exact s7
      · rw [ev _ _ (by decide)]; exact s8
      · rw [ev _ _ (by decide)]; exact s9
      · rw [ev _ _ (by decide)]; exact s10
      · rw [ev _ _ (by decide)]; exact r1
      · rw [ev _ _ (by decide)]; exact r2
      · rw [ev _ _ (by decide)]; exact r3
      · rw [ev _ _ (by decide)]; exact r4
      · rw [es]
        obtain ⟨o1, o2, o3, o4, o5, o6, o7, o8, o9⟩ := m3
        have eh : ∀ l j, l ∈ zhc → X4 l 0 j = X2 l 0 j := fun l j hl => aX34 l 0 j (by revert l; decide)
        refine ⟨?_, ?_, ?_, ?_, ?_, ?_, ?_, fun j hj => ?_, fun j hj => ?_⟩
        all_goals rw [eh _ _ (by decide)]
        · exact o1
        · exact o2
        · exact o3
        · exact o4
        · exact o5
        · exact o6
        · exact o7
        · exact o8 j hj
        · exact o9 j hj
  · -- a fault
    have q' : ¬ W' 1015 0 0 = 0 := fun z => q (g3.trans z)
    rw [if_neg q, if_neg q', lt_def, lt_def, bnd_some]
    obtain ⟨W36, e1, e2, e3⟩ := begins_M W'
    have aS : agr [1016] W36 (sv W36 1016 0 0 (W' 1016 0 0)) := agr_sv _ _ _ _ _
    rw [e1, bnd_some, lt_def]
    refine ⟨V' 404 0 0, V', sv W36 1016 0 0 (W' 1016 0 0), rfl, by rw [g3], sv W36 1016 0 0 (W' 1016 0 0), [], 0, Nat.zero_le _, RQ_zero h1 hkb ?_ (Z0_ag a3 bV (by decide)) (Z1_ag e3 aS (by decide)) V700' ⟨?_, 0, by omega, V401', ?_, fun j hj => by omega⟩⟩
    · rw [aS 1000 0 0 (by decide), e2 1000 0 0 (by decide)]; exact W1000'
    · rw [sv_at]; exact g4
    · rw [aS 1011 0 0 (by decide), e2 1011 0 0 (by decide)]; exact W1011'
