theorem up_cg {f g : Nat → Cp} {i j : Nat} {y : Cp} (h : f i = g i) : up f j y i = up g j y i := by
  unfold up
  rw [h]
/-- a thread as it begins -/
def TF (Y V W : HV) (t : Nat) : Prop := Rt1 V W t ∧ W 5000 0 t = 0 ∧ W 4700 0 t = 0 ∧ W 4800 0 t = -1 ∧ W 6300 0 t = 0 ∧ W 5800 0 t = Y 5700 0 t ∧ W 5900 0 t = 0 ∧ V 718 t 0 = -1 ∧ (∀ k, k < 17 → cC V (17 * t + k) = cM W (17 * t + k) ∧ gd Y [] (cM W (17 * t + k))) ∧ cM W (17 * t) = nm 0
def mtC : List Nat := [0, 1, 2, 3, 4, 5, 704, 705, 706, 708, 709, 710, 711, 712, 713, 714, 715, 716, 717, 718]
theorem mt_1 {kb n C T tt t : Nat} {B : Nat → Nat} {V W Y : HV} (h : FC kb n C T tt B V W) (hgt : GT W C t) (hY : ∀ c, c ∈ [1018, 1019, 4000, 4200, 4300, 4400, 5600, 5700] → ∀ o j, W c o j = Y c o j) (ht : t < T) (hz : ∀ k, k < 17 → cM W (17 * t + k) = nm 0) : ∃ V' W', f_X5_makeTask kb 0 0 t (nI (tt + 5 * t)) V = some V' ∧ f_X12_starts 0 (nI t) W = some W' ∧ agr mtC V V' ∧ agr stM W W' ∧ (∀ c, ¬ c < 6 → ∀ u, u ≠ t → V' c u 0 = V c u 0) ∧ (∀ c, c ∈ [4700, 4800, 4900, 5000, 5200, 5300, 5400, 5800, 5900, 6000, 6300] → ∀ u, u ≠ t → W' c 0 u = W c 0 u) ∧ (∀ i, ¬ (17 * t ≤ i ∧ i < 17 * t + 17) → cC V' i = cC V i ∧ cM W' i = cM W i) ∧ V' 708 t 0 = V 708 t 0 ∧ TF Y V' W' t := by
  obtain ⟨k1, k2, k3, k4, k5, k6, k7, k8, k9⟩ := id h
  have hn := k3.1
  have hC := k4.2.1
  have hT := k4.2.2.2.1
  have htt := k4.2.2.2.2.2.2.2.2.2.2.2
  obtain ⟨t1, t2, t3, t4, t5, t6, t7, t8, t9, t10⟩ := k4.2.2.2.2.2.2.2.2.2.2.1 t ht
  have hpn : tt + 5 * t + 4 < n := by omega
  generalize hp : tt + 5 * t = p at *
  have b0 := (k3.2.2.2.1 p (by omega)).2.2
  have b1 := (k3.2.2.2.1 (p + 1) (by omega)).2.2
  obtain ⟨x, y, e, g1, g2, g3, g4, g5, g6⟩ := hgt
  have ex : x = B p := nI_inj (by omega) (by omega) (g1.symm.trans t2)
  have ey : y = B (p + 1) := nI_inj (by omega) (by omega) (g2.symm.trans t3)
  have t6' : t < 6 := by omega
  obtain ⟨w, gl, e', im, it, ct, c1, c2, c3, c4, c5, c6, c7, d1, d2, d3, d4, d5, d6, d7, d8, d9, d10, d11, d12, d13⟩ := k4.2.2.2.2.2.2.2.2.1 x g3
  have ee : e' = e := nI_inj (by omega) (by omega) (d6.symm.trans g4)
  rw [ee] at d5 d12 c4
  obtain ⟨xw, yk, z1, z2, z3, z4, z5, z6, z7⟩ := d12 y g5
  obtain ⟨⟨lc1, -, lc3, lc4⟩, lm1, -, lm3, lm4⟩ := k6 x g3
  obtain ⟨⟨lv1, lv2⟩, lt1, lt2⟩ := k7 t ht
  obtain ⟨hi1, hi2⟩ := FC_hi h g3
  have hsg := sg_mono (W := W) (C := C) (a := t + 1) T (by omega)
  have hsg0 : sg W C (t + 1) = sg W C t + xN W 9900 t := rfl
  -- the class
  have hat : f_X10_compartmentAt kb 0 (nI x) V = some (some x) := by
    unfold f_X10_compartmentAt
    rw [if_neg (nI_pos (by omega)), k9, if_neg (fun q => by have := (nI_leI (by omega) (by omega)).mp q; omega), if_neg (show ¬ (8 : Int32) ≤ nI x from fun q => by have := (nI_leI (a := 8) (by decide) (by omega)).mp q; omega), chk_t (inb_nI (by omega) (by decide)), cl_nI (by omega)]
  obtain ⟨V7, m1, m2, m3, m4, m5, m6, m7, m8, m9, m10, m11, m12, m13, m14, m15⟩ := begin_C (kb := kb) (t := t) (a := B (p + 2)) (b := B (p + 4)) (V := V) t10
  have p7 : PR n B V7 W := PR_fr k3 m3 (agr_rfl W) (by decide) (by decide)
  have f708 : V7 708 t 0 = V 708 t 0 := m3 708 t 0 (by decide)
  obtain ⟨V', r1, r2, r3, r4, r5, r6, r7⟩ := enter_C (kb := kb) (t := t) (k := x) (e := y) (xx := e) (mk := V7 708 t 0) (z := nI x) (V := V7) t6' ((m3 104 x 0 (by decide)).trans d5) g5 g6
  have hmt : f_X5_makeTask kb 0 0 t (nI p) V = some V' := by
    unfold f_X5_makeTask
    rw [byte_C k3 (by omega), bnd_some, ← ex, hat, bnd_some, onn_some, chk_t (by omega), show nI p + 2 = nI (p + 2) from nI_add p 2, byte_C k3 (by omega), bnd_some, show nI p + 4 = nI (p + 4) from nI_add p 4, byte_C k3 (by omega), bnd_some, m1, bnd_some, nI_1, byte_C p7 (by omega), bnd_some, ← ey, r1, bnd_some]
  -- the reference
  obtain ⟨W', s1, s2, s3, s4, s5, s6, s7, s8, s9, s10, s11, s12, s13, s14, s15⟩ := starts_M (t := t) (x := x) (y := y) (W := W) t6' (by omega) (by omega) g1 g2
  have aV : agr mtC V V' := (m3.app r3).sub (by decide)
  have oV : ∀ c, ¬ c < 6 → ∀ u, u ≠ t → V' c u 0 = V c u 0 := fun c hc u hu => by
    rw [← m4 c hc u hu]
    by_cases q : c ∈ [708, 709, 710]
    · exact r4 c q u hu
    · exact r3 c u 0 (by simp only [List.mem_cons, List.not_mem_nil, or_false] at q ⊢; omega)
  have v2700 : V7 2700 x y = nI xw := (m3 2700 x y (by decide)).trans z4
  have v2800 : V7 2800 x y = nI yk := (m3 2800 x y (by decide)).trans z6
  have v108 : V7 108 x 0 = W 4000 0 x := by rw [m3 108 x 0 (by decide), lc1, lm1]
  have v110 : V7 110 x 0 = W 4200 0 x := by rw [m3 110 x 0 (by decide), lc3, lm3]
  have v111 : V7 111 x 0 = W 4300 0 x := by rw [m3 111 x 0 (by decide), lc4, lm4]
  have v707 : V7 707 t 0 = W 5600 0 t := by rw [m3 707 t 0 (by decide), lv1, lt1]
  have v708 : V7 708 t 0 = W 5700 0 t := by rw [f708, lv2, lt2]
  have ecd : V7 108 x 0 + V7 2700 x y * 4 = W 4000 0 x + 4 * W 4500 0 (8 * x + y) := by rw [v108, v2700, z5, Int32.mul_comm]
  have cV : cC V' = etb t (W 4000 0 x + 4 * W 4500 0 (8 * x + y), W 4000 0 x, W 4200 0 x, 77, 0, true) (W 5700 0 t, W 5600 0 t, W 5700 0 t, 155, 0, true) (W 4200 0 x, W 4200 0 x, W 4300 0 x, 91, 0, true) (clr (rg2 t 0 17) (cC V)) := by
    rw [r2, ecd, v108, v110, v111, v707, v708, m2]
  refine ⟨V', W', hmt, s1, aV, s3, oV, s4, fun i hi => ⟨?_, ?_⟩, by rw [r6, f708], ?_, s8, s5, s6, s15, ?_, s13, ?_, fun k hk => ⟨?_, ?_⟩, ?_⟩
  · rw [cV]
    unfold etb
    rw [up_ne (by omega), up_ne (by omega), up_ne (by omega), up_ne (by omega), clr_f (rg2_f (by omega)), clr_f (rg2_f (by omega))]
  · rw [s2, up_ne (by omega), up_ne (by omega), up_ne (by omega), up_ne (by omega)]
  · -- Rt1
    have w51 : W' 5100 0 t = W 5100 0 t := s3 5100 0 t (by decide)
    have w55 : W' 5500 0 t = W 5500 0 t := s3 5500 0 t (by decide)
    have w56 : W' 5600 0 t = W 5600 0 t := s3 5600 0 t (by decide)
    unfold Rt1
    refine ⟨?_, ?_, ?_, ?_, ?_, ?_, ?_, ?_, ?_, ?_, Or.inr ⟨?_, s15, Or.inl s5⟩, fun q => absurd (s5.symm.trans q) (by decide)⟩
    · rw [r3 704 t 0 (by decide), m5, s8]
    · rw [r3 705 t 0 (by decide), m6, w51, t6]
    · rw [r3 706 t 0 (by decide), m7, w55, t4]
    · rw [r3 707 t 0 (by decide), v707, w56]
    · rw [r6, v708, s12]
    · rw [r5, s7]
    · rw [r7, m8, s9, v2800, z7, i2b_b2i]
      unfold nxt
      rcases (show yk = 1 ∨ yk = 2 ∨ yk = 3 by omega) with q | q | q <;> rw [q] <;> decide
    · rw [r3 712 t 0 (by decide), m10, s6]
    · rw [r3 716 t 0 (by decide), m13, s10]
    · rw [r3 717 t 0 (by decide), m14, s11]
    · rw [r3 711 t 0 (by decide), m9, s5]
  · rw [s12]; exact hY 5700 (by decide) 0 t
  · rw [r3 718 t 0 (by decide)]; exact m15
  · rw [cV, s2]
    unfold etb
    refine up_cg (up_cg (up_cg (up_cg ?_)))
    rw [hz k hk]
    by_cases q10 : k < 10
    · rw [clr_t (rg2_t (by omega) (by omega))]
    · rw [clr_f (rg2_f (by omega)), clr_t (rg2_t (by omega) (by omega))]
  · rw [s2]
    have hnc : ncp Y = C := by
      unfold ncp
      rw [← hY 1018 (by decide), k4.2.2.2.2.2.1]
      exact cl_nI (by omega)
    have hnt : nth Y = T := by
      unfold nth
      rw [← hY 1019 (by decide), k4.2.2.2.2.2.2.2.1]
      exact cl_nI (by omega)
    have G0 : gN Y 4000 x = cg W x := by unfold gN; rw [← hY 4000 (by decide), lm1, cl_nI (by omega)]; omega
    have G2 : gN Y 4200 x = cg W x + cwN W x + xN W 9000 x := by unfold gN; rw [← hY 4200 (by decide), lm3, cl_nI (by omega)]; omega
    have G3 : gN Y 4300 x = cg W (x + 1) := by unfold gN; rw [← hY 4300 (by decide), lm4, cl_nI (by omega)]; omega
    have S6 : gN Y 5600 t = sg W C t := by unfold gN; rw [← hY 5600 (by decide), lt1, cl_nI (by omega)]; omega
    have S7 : gN Y 5700 t = sg W C (t + 1) := by unfold gN; rw [← hY 5700 (by decide), lt2, cl_nI (by omega)]; omega
    by_cases q3 : k = 3
    · rw [q3, up_at]
      refine ⟨show (91 : Int32) &&& 255 = 91 by decide, show (0 : Int32) &&& 255 = 0 by decide, fun _ => ⟨fun z => absurd z (show ¬ (0 : Int32) = 4 by decide), fun _ => Or.inr (Or.inr (Or.inr (Or.inl ⟨x, by rw [hnc]; exact g3, ?_, ?_, show sub 91 91 by unfold sub; decide⟩)))⟩⟩
      · show 16 * gN Y 4200 x ≤ uN (W 4200 0 x)
        rw [lm3, uN_nI (by omega), G2]
        exact Nat.le_refl _
      · show uN (W 4300 0 x) ≤ 16 * gN Y 4300 x
        rw [lm4, uN_nI (by omega), G3]
        exact Nat.le_refl _
    rw [up_ne (by omega)]
    by_cases q2 : k = 2
    · rw [q2, up_at]
      refine ⟨show (155 : Int32) &&& 255 = 155 by decide, show (0 : Int32) &&& 255 = 0 by decide, fun _ => ⟨fun z => absurd z (show ¬ (0 : Int32) = 4 by decide), fun _ => Or.inr (Or.inr (Or.inr (Or.inr (Or.inl ⟨t, by rw [hnt]; exact ht, ?_, ?_, show sub 155 155 by unfold sub; decide⟩))))⟩⟩
      · show 16 * gN Y 5600 t ≤ uN (W 5600 0 t)
        rw [lt1, uN_nI (by omega), S6]
        exact Nat.le_refl _
      · show uN (W 5700 0 t) ≤ 16 * gN Y 5700 t
        rw [lt2, uN_nI (by omega), S7]
        exact Nat.le_refl _
    rw [up_ne (by omega)]
    by_cases q1 : k = 1
    · rw [q1, up_at]
      exact ⟨show (0 : Int32) &&& 255 = 0 by decide, show (5 : Int32) &&& 255 = 5 by decide, fun _ => ⟨fun z => absurd z (show ¬ (5 : Int32) = 4 by decide), fun z => absurd z (show ¬ uN 0 < uN 0 by decide)⟩⟩
    rw [up_ne (by omega)]
    by_cases q16 : k = 16
    · rw [q16, up_at]
      refine ⟨show (77 : Int32) &&& 255 = 77 by decide, show (0 : Int32) &&& 255 = 0 by decide, fun _ => ⟨fun z => absurd z (show ¬ (0 : Int32) = 4 by decide), fun _ => Or.inr (Or.inr (Or.inl ⟨x, by rw [hnc]; exact g3, ?_, ?_, show sub 77 77 by unfold sub; decide⟩))⟩⟩
      · show 16 * gN Y 4000 x ≤ uN (W 4000 0 x)
        rw [lm1, uN_nI (by omega), G0]
        exact Nat.le_refl _
      · show uN (W 4200 0 x) ≤ 16 * gN Y 4200 x
        rw [lm3, uN_nI (by omega), G2]
        exact Nat.le_refl _
    rw [up_ne (by omega), hz k hk]
    exact gd_num _ _ _
  · rw [s2, up_ne (by omega), up_ne (by omega), up_ne (by omega), up_ne (by omega)]
    exact hz 0 (by omega)
theorem TF_fr {t u : Nat} {Y V V' W W' : HV} (h : TF Y V W u) (hu : u ≠ t) (hV : agr mtC V V') (hW : agr stM W W') (oV : ∀ c, ¬ c < 6 → ∀ u, u ≠ t → V' c u 0 = V c u 0) (oW : ∀ c, c ∈ [4700, 4800, 4900, 5000, 5200, 5300, 5400, 5800, 5900, 6000, 6300] → ∀ u, u ≠ t → W' c 0 u = W c 0 u) (oc : ∀ i, ¬ (17 * t ≤ i ∧ i < 17 * t + 17) → cC V' i = cC V i ∧ cM W' i = cM W i) : TF Y V' W' u := by
  obtain ⟨a1, a2, a3, a4, a5, a6, a7, a8, a9, a10⟩ := h
  have c0 : ∀ k, k < 17 → cC V' (17 * u + k) = cC V (17 * u + k) ∧ cM W' (17 * u + k) = cM W (17 * u + k) := fun k hk => oc _ (by omega)
  refine ⟨Rt1_pt (fun c hc => oV c (by simp only [List.mem_cons, List.not_mem_nil, or_false] at hc; omega) u hu) (fun c hc => ?_) a1, ?_, ?_, ?_, ?_, ?_, ?_, ?_, fun k hk => ?_, ?_⟩
  · by_cases q : c ∈ [4700, 4800, 4900, 5000, 5200, 5300, 5400, 5800, 5900, 6000, 6300]
    · exact oW c q u hu
    · exact hW c 0 u (by unfold stM; simp only [List.mem_cons, List.not_mem_nil, or_false] at hc q ⊢; omega)
  · rw [oW 5000 (by decide) u hu]; exact a2
  · rw [oW 4700 (by decide) u hu]; exact a3
  · rw [oW 4800 (by decide) u hu]; exact a4
  · rw [oW 6300 (by decide) u hu]; exact a5
  · rw [oW 5800 (by decide) u hu]; exact a6
  · rw [oW 5900 (by decide) u hu]; exact a7
  · rw [oV 718 (by decide) u hu]; exact a8
  · rw [(c0 k hk).1, (c0 k hk).2]; exact a9 k hk
  · have := (c0 0 (by omega)).2
    rw [Nat.add_zero] at this
    rw [this]; exact a10
theorem st_L {kb n C T tt : Nat} {B : Nat → Nat} {Y : HV} : ∀ (r k f f' : Nat) (V W : HV), k + r = T → r < f → r < f' → FC kb n C T tt B V W → (∀ t, t < T → GT W C t) → (∀ c, c ∈ [1018, 1019, 4000, 4200, 4300, 4400, 5600, 5700] → ∀ o j, W c o j = Y c o j) → (∀ t, t < k → TF Y V W t) → (∀ i, 17 * k ≤ i → i < 582 → cM W i = nm 0) → ∃ V' W', (∀ K : HV → Option HV, f_X5_build_L163 0 0 kb K f (nI k) V = K V') ∧ (∀ K : HV → Option (Int32 × HV), f_X12_boot_L118 0 K f' (nI k) W = K W') ∧ agr mtC V V' ∧ agr stM W W' ∧ (∀ t, V' 708 t 0 = V 708 t 0) ∧ (∀ t, t < T → TF Y V' W' t) ∧ (∀ i, 17 * T ≤ i → i < 582 → cM W' i = nm 0)
  | _, _, 0, _, _, _, _, hf, _, _, _, _, _, _ => absurd hf (by omega)
  | _, _, _, 0, _, _, _, _, hf, _, _, _, _, _ => absurd hf (by omega)
  | 0, k, f + 1, f' + 1, V, W, hk, _, _, h, hg, hY, htf, hz => by
    have hT := h.2.2.2.1.2.2.2.1
    refine ⟨V, W, fun K => ?_, fun K => ?_, (agr_rfl V).sub (by decide), (agr_rfl W).sub (by decide), fun _ => rfl, fun t ht => htf t (by omega), fun i h1 h2 => hz i (by omega) h2⟩
    · unfold f_X5_build_L163
      rw [h.2.2.2.1.2.2.2.2.2.2.1, if_pos (nI_le (by omega) (by omega))]
    · unfold f_X12_boot_L118
      rw [h.2.2.2.1.2.2.2.2.2.2.2.1, if_pos (nI_le (by omega) (by omega))]
  | r + 1, k, f + 1, f' + 1, V, W, hk, hf, hf', h, hg, hY, htf, hz => by
    have hI := h.2.2.2.1
    have hT := hI.2.2.2.1
    have ik : inb (nI k) 6 := inb_nI (by omega) (by decide)
    obtain ⟨V1, W1, a1, a2, a3, a4, a5, a6, a7, a8, a9⟩ := mt_1 (Y := Y) h (hg k (by omega)) hY (show k < T by omega) (fun j hj => hz _ (by omega) (by omega))
    have e8 : ∀ t, V1 708 t 0 = V 708 t 0 := fun t => by
      by_cases q : t = k
      · rw [q]; exact a8
      · exact a5 708 (by decide) t q
    obtain ⟨V', W', x1, x2, x3, x4, x5, x6, x7⟩ := st_L (kb := kb) (n := n) (B := B) (Y := Y) r (k + 1) f f' V1 W1 (by omega) (by omega) (by omega) (FC_ag8 h a3 a4 e8 (by decide) (by decide)) (fun t ht => GT_ag (hg t ht) a4 (by decide)) (fun l hl o j => (a4 l o j (by unfold stM; simp only [List.mem_cons, List.not_mem_nil, or_false] at hl ⊢; omega)).trans (hY l hl o j)) (fun t ht => by
      by_cases q : t = k
      · rw [q]; exact a9
      · exact TF_fr (htf t (by omega)) q a3 a4 a5 a6 a7) (fun i h1 h2 => by rw [(a7 i (by omega)).2]; exact hz i (by omega) h2)
    have e5 : nI tt + nI k * 5 = nI (tt + 5 * k) := by rw [show (5 : Int32) = nI 5 from rfl, pk_mul, nI_add, Nat.mul_comm]
    refine ⟨V', W', fun K => ?_, fun K => ?_, a3.trans x3, a4.trans x4, fun t => (x5 t).trans (e8 t), x6, x7⟩
    · unfold f_X5_build_L163
      rw [hI.2.2.2.2.2.2.1, if_neg (fun q => by have := (nI_leI (by omega) (by omega)).mp q; omega), if_neg (show ¬ (6 : Int32) ≤ nI k from fun q => by have := (nI_leI (a := 6) (by decide) (by omega)).mp q; omega), chk_t ik, cl_nI (by omega), hI.2.2.2.2.2.2.2.2.2.1, e5, a1, bnd_some, lt_def, nI_1]
      exact x1 K
    · unfold f_X12_boot_L118
      rw [hI.2.2.2.2.2.2.2.1, if_neg (fun q => by have := (nI_leI (by omega) (by omega)).mp q; omega), a2, bnd_some, lt_def, nI_1]
      exact x2 K
