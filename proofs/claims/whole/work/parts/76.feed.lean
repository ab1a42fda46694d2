/-! what stays: V' is V but in the columns cs -/
def agr (cs : List Nat) (V V' : HV) : Prop := ∀ c o j, c ∉ cs → V' c o j = V c o j
theorem agr_rfl (V : HV) : agr [] V V := fun _ _ _ _ => rfl
theorem agr_sv (V : HV) (c o j : Nat) (x : Int32) : agr [c] V (sv V c o j x) := fun c' _ _ h => sv_col (fun q => h (by simp [q]))
theorem agr.app {cs ds : List Nat} {V V' V'' : HV} (h1 : agr cs V V') (h2 : agr ds V' V'') : agr (cs ++ ds) V V'' := fun c o j h => (h2 c o j (fun q => h (List.mem_append_right _ q))).trans (h1 c o j (fun q => h (List.mem_append_left _ q)))
theorem agr.sub {cs ds : List Nat} {V V' : HV} (h : agr cs V V') (hs : ∀ c ∈ cs, c ∈ ds) : agr ds V V' := fun c o j hc => h c o j (fun q => hc (hs c q))
theorem Rs_fr {cs ds : List Nat} {V V' W W' : HV} (hV : agr cs V V') (hW : agr ds W W') (h1 : ∀ c ∈ [807, 808, 809, 810, 811, 813, 814, 815, 816], c ∉ cs) (h2 : ∀ c ∈ [1017, 1018, 1019, 1047, 1048, 1049, 1050, 1051, 1052], c ∉ ds) (h : Rs V W) : Rs V' W' := by
  unfold Rs at h ⊢
  rw [hV 807 0 0 (h1 _ (by decide)), hV 808 0 0 (h1 _ (by decide)), hV 809 0 0 (h1 _ (by decide)), hV 810 0 0 (h1 _ (by decide)), hV 811 0 0 (h1 _ (by decide)), hV 813 0 0 (h1 _ (by decide)), hV 814 0 0 (h1 _ (by decide)), hV 815 0 0 (h1 _ (by decide)), hV 816 0 0 (h1 _ (by decide)), hW 1017 0 0 (h2 _ (by decide)), hW 1018 0 0 (h2 _ (by decide)), hW 1019 0 0 (h2 _ (by decide)), hW 1047 0 0 (h2 _ (by decide)), hW 1048 0 0 (h2 _ (by decide)), hW 1049 0 0 (h2 _ (by decide)), hW 1050 0 0 (h2 _ (by decide)), hW 1051 0 0 (h2 _ (by decide)), hW 1052 0 0 (h2 _ (by decide))]
  exact h
theorem Rl_fr {cs ds : List Nat} {V V' W W' : HV} (hV : agr cs V V') (hW : agr ds W W') (h1 : ∀ c ∈ [401, 405, 3100], c ∉ cs) (h2 : ∀ c ∈ [1011, 1016, 3000], c ∉ ds) (h : Rl V W) : Rl V' W' := by
  obtain ⟨a1, L, a2, a3, a4, a5⟩ := h
  refine ⟨?_, L, a2, ?_, ?_, fun j hj => ?_⟩
  · rw [hV 405 0 0 (h1 _ (by decide)), hW 1016 0 0 (h2 _ (by decide))]; exact a1
  · rw [hV 401 0 0 (h1 _ (by decide))]; exact a3
  · rw [hW 1011 0 0 (h2 _ (by decide))]; exact a4
  · rw [hV 3100 0 j (h1 _ (by decide)), hW 3000 0 j (h2 _ (by decide))]; exact a5 j hj
theorem nth_fr {ds : List Nat} {W W' : HV} (hW : agr ds W W') (h2 : 1019 ∉ ds) : nth W' = nth W := by unfold nth; rw [hW 1019 0 0 h2]
theorem ncp_fr {ds : List Nat} {W W' : HV} (hW : agr ds W W') (h2 : 1018 ∉ ds) : ncp W' = ncp W := by unfold ncp; rw [hW 1018 0 0 h2]
theorem Rt1_fr {cs ds : List Nat} {V V' W W' : HV} {t : Nat} (hV : agr cs V V') (hW : agr ds W W') (h1 : ∀ c ∈ [704, 705, 706, 707, 708, 709, 710, 711, 712, 713, 715, 716, 717], c ∉ cs) (h2 : ∀ c ∈ [4700, 4800, 4900, 5000, 5100, 5200, 5300, 5400, 5500, 5600, 5800, 6100, 6300], c ∉ ds) (h : Rt1 V W t) : Rt1 V' W' t := by
  unfold Rt1 at h ⊢
  rw [hV 704 t 0 (h1 _ (by decide)), hV 705 t 0 (h1 _ (by decide)), hV 706 t 0 (h1 _ (by decide)), hV 707 t 0 (h1 _ (by decide)), hV 708 t 0 (h1 _ (by decide)), hV 709 t 0 (h1 _ (by decide)), hV 710 t 0 (h1 _ (by decide)), hV 711 t 0 (h1 _ (by decide)), hV 712 t 0 (h1 _ (by decide)), hV 713 t 0 (h1 _ (by decide)), hV 715 t 0 (h1 _ (by decide)), hV 716 t 0 (h1 _ (by decide)), hV 717 t 0 (h1 _ (by decide)),
    hW 4700 0 t (h2 _ (by decide)), hW 4800 0 t (h2 _ (by decide)), hW 4900 0 t (h2 _ (by decide)), hW 5000 0 t (h2 _ (by decide)), hW 5100 0 t (h2 _ (by decide)), hW 5200 0 t (h2 _ (by decide)), hW 5300 0 t (h2 _ (by decide)), hW 5400 0 t (h2 _ (by decide)), hW 5500 0 t (h2 _ (by decide)), hW 5600 0 t (h2 _ (by decide)), hW 5800 0 t (h2 _ (by decide)), hW 6100 0 t (h2 _ (by decide)), hW 6300 0 t (h2 _ (by decide))]
  exact h
theorem Rt_fr {cs ds : List Nat} {V V' W W' : HV} (hV : agr cs V V') (hW : agr ds W W') (h1 : ∀ c ∈ [700, 704, 705, 706, 707, 708, 709, 710, 711, 712, 713, 714, 715, 716, 717, 718, 812], c ∉ cs) (h2 : ∀ c ∈ [1019, 1048, 4700, 4800, 4900, 5000, 5100, 5200, 5300, 5400, 5500, 5600, 5800, 5900, 6000, 6100, 6200, 6300], c ∉ ds) (h : Rt V W) : Rt V' W' := by
  obtain ⟨a1, a2, a3, a4, a5⟩ := h
  unfold Rt
  rw [nth_fr hW (h2 _ (by decide))]
  refine ⟨fun t ht => ?_, fun t ht => ?_, fun t u ht hu => ?_, fun t u ht hu => ?_, fun c hc => ?_⟩
  · rw [hV 700 t 0 (h1 _ (by decide))]; exact a1 t ht
  · exact Rt1_fr hV hW (fun c hc => h1 c (by revert c; decide)) (fun c hc => h2 c (by revert c; decide)) (a2 t ht)
  · rw [hV 718 t 0 (h1 _ (by decide)), hV 718 u 0 (h1 _ (by decide)), hW 5900 0 t (h2 _ (by decide)), hW 5900 0 u (h2 _ (by decide))]; exact a3 t u ht hu
  · rw [hV 714 t 0 (h1 _ (by decide)), hV 714 u 0 (h1 _ (by decide)), hW 4700 0 t (h2 _ (by decide)), hW 4700 0 u (h2 _ (by decide)), hW 6200 0 t (h2 _ (by decide)), hW 6200 0 u (h2 _ (by decide))]; exact a4 t u ht hu
  · rw [hV 812 0 0 (h1 _ (by decide)), hW 1048 0 0 (h2 _ (by decide)), hW 6000 0 c (h2 _ (by decide))]; exact a5 c hc
theorem Rc_fr {cs ds : List Nat} {V V' W W' : HV} (hV : agr cs V V') (hW : agr ds W W') (h1 : ∀ c ∈ [104, 108, 109, 110, 111, 2700, 2800], c ∉ cs) (h2 : ∀ c ∈ [1018, 4000, 4100, 4200, 4300, 4400, 4500, 4600], c ∉ ds) (h : Rc V W) : Rc V' W' := by
  intro c hc
  rw [ncp_fr hW (h2 _ (by decide))] at hc
  obtain ⟨a1, a2, a3, a4, a5, x, a6, a7, a8⟩ := h c hc
  rw [hV 108 c 0 (h1 _ (by decide)), hV 109 c 0 (h1 _ (by decide)), hV 110 c 0 (h1 _ (by decide)), hV 111 c 0 (h1 _ (by decide)), hV 104 c 0 (h1 _ (by decide)), hW 4000 0 c (h2 _ (by decide)), hW 4100 0 c (h2 _ (by decide)), hW 4200 0 c (h2 _ (by decide)), hW 4300 0 c (h2 _ (by decide)), hW 4400 0 c (h2 _ (by decide))]
  refine ⟨a1, a2, a3, a4, a5, x, a6, a7, fun j hj => ?_⟩
  rw [hV 2700 c j (h1 _ (by decide)), hV 2800 c j (h1 _ (by decide)), hW 4500 0 _ (h2 _ (by decide)), hW 4600 0 _ (h2 _ (by decide))]
  exact a8 j hj
theorem Rm_fr {kb : Nat} {cs ds : List Nat} {V V' W W' : HV} (hV : agr cs V V') (hW : agr ds W W') (h1 : ∀ c ∈ [2300, 2400], c ∉ cs) (h2 : ∀ c ∈ [2100, 2200, 2300], c ∉ ds) (h : Rm kb V W) : Rm kb V' W' := by
  refine ⟨fun a ha => ?_, fun g hg => ?_⟩
  · rw [hV 2300 0 a (h1 _ (by decide)), hW 2100 0 a (h2 _ (by decide))]; exact h.1 a ha
  · rw [hV 2400 0 g (h1 _ (by decide)), hW 2200 0 g (h2 _ (by decide)), hW 2300 0 g (h2 _ (by decide))]; exact h.2 g hg
theorem Rk_fr {cs ds : List Nat} {V V' W W' : HV} (hV : agr cs V V') (hW : agr ds W W') (h1 : ∀ c ∈ [0, 1, 2, 3, 4, 5], c ∉ cs) (h2 : ∀ c ∈ [1019, 2400, 2500, 2600, 2700, 2800, 2900, 5000], c ∉ ds) (h : Rk V W) : Rk V' W' := by
  intro i hi
  unfold okc at hi
  rw [nth_fr hW (h2 _ (by decide)), hW 5000 0 _ (h2 _ (by decide))] at hi
  have a := h i hi
  unfold Rk1 at a ⊢
  rw [hV 0 i 0 (h1 _ (by decide)), hV 1 i 0 (h1 _ (by decide)), hV 2 i 0 (h1 _ (by decide)), hV 3 i 0 (h1 _ (by decide)), hV 4 i 0 (h1 _ (by decide)), hV 5 i 0 (h1 _ (by decide)), hW 2400 0 i (h2 _ (by decide)), hW 2500 0 i (h2 _ (by decide)), hW 2600 0 i (h2 _ (by decide)), hW 2700 0 i (h2 _ (by decide)), hW 2800 0 i (h2 _ (by decide)), hW 2900 0 i (h2 _ (by decide))]
  exact a
theorem Ri_fr {cs ds : List Nat} {V V' W W' : HV} (hV : agr cs V V') (hW : agr ds W W') (h1 : ∀ c ∈ [501, 502, 2000], c ∉ cs) (h2 : ∀ c ∈ [1064, 1066, 1067, 8300, 8500], c ∉ ds) (h : Ri V W) : Ri V' W' := by
  obtain ⟨⟨L, F, a1, a2, a3, a4, a5, a6⟩, L2, F2, G2, b1, b2, b3, b4, b5, b6, b7, b8⟩ := h
  unfold Ri
  rw [hV 502 0 0 (h1 _ (by decide)), hV 501 0 0 (h1 _ (by decide)), hV 502 1 0 (h1 _ (by decide)), hV 501 1 0 (h1 _ (by decide)), hW 1064 0 0 (h2 _ (by decide)), hW 1066 0 0 (h2 _ (by decide)), hW 1067 0 0 (h2 _ (by decide))]
  refine ⟨⟨L, F, a1, a2, a3, a4, a5, fun k hk => ?_⟩, L2, F2, G2, b1, b2, b3, b4, b5, b6, b7, fun k hk => ?_⟩
  · rw [hV 2000 0 _ (h1 _ (by decide)), hW 8300 0 _ (h2 _ (by decide))]; exact a6 k hk
  · rw [hV 2000 1 _ (h1 _ (by decide)), hW 8500 0 _ (h2 _ (by decide))]; exact b8 k hk
theorem In_fr {kb : Nat} {ds : List Nat} {W W' : HV} (hW : agr ds W W') (h2 : ∀ c ∈ [1000, 1017, 1018, 1019], c ∉ ds) (h : In kb W) : In kb W' := by
  unfold In at h ⊢
  rw [nth_fr hW (h2 _ (by decide)), ncp_fr hW (h2 _ (by decide)), hW 1000 0 0 (h2 _ (by decide)), hW 1017 0 0 (h2 _ (by decide)), hW 1018 0 0 (h2 _ (by decide)), hW 1019 0 0 (h2 _ (by decide))]
  exact h
/-! feed -/
theorem low8 {x y : Int32} (h : ∀ i, i < 8 → x.toBitVec.getLsbD i = y.toBitVec.getLsbD i) : x.toInt8 = y.toInt8 := by
  apply Int8.toBitVec_inj.mp
  apply BitVec.eq_of_getLsbD_eq
  intro i hi
  rw [Int32.toBitVec_toInt8, Int32.toBitVec_toInt8, BitVec.getLsbD_signExtend, BitVec.getLsbD_signExtend]
  simpa [hi, show i < 32 by omega] using h i hi
theorem nar8 (x : Int32) : (x.toInt8.toInt32).toInt8.toInt32 = x.toInt8.toInt32 := by rw [Int8.toInt8_toInt32]
def TP (L : Nat) (V W : HV) : Prop := V 401 0 0 = nI L ∧ W 1011 0 0 = nI L ∧ ∀ j, j < L → V 3100 0 j = W 3000 0 j
def ap1 (V : HV) (L : Nat) (x : Int32) : HV := sv (sv V 3100 0 L x) 401 0 0 (nI (L + 1))
def aw1 (W : HV) (L : Nat) (x : Int32) : HV := sv (sv W 3000 0 L x) 1011 0 0 (nI (L + 1))
theorem TP_1 {L : Nat} {V W : HV} {x : Int32} (h : TP L V W) : TP (L + 1) (ap1 V L x) (aw1 W L x) := by
  refine ⟨by simp [ap1, sv], by simp [aw1, sv], fun j hj => ?_⟩
  simp only [ap1, aw1, sv]
  by_cases hjL : j = L
  · simp [hjL]
  · simp [hjL]
    exact h.2.2 j (by omega)
theorem ap_step {L n : Nat} {V : HV} {x s : Int32} {k : HV → Option HV} (h : V 401 0 0 = nI L) (hL : L < 5000) (hs : ¬ s < 0) : f_X5_append_L3 0 x k (n + 1) s V = f_X5_append_L3 0 x k n (s + (-8)) (ap1 V L ((x.toUInt32 >>> (Int32.toUInt32 s &&& Int32.toUInt32 31)).toInt32.toInt8.toInt32)) := by
  rw [f_X5_append_L3, if_neg hs]
  simp only [jn_def, lt_def]
  rw [h, if_neg (nI_pos (by omega)), if_neg (show ¬ (5000 : Int32) ≤ nI L from nI_ge (b := 5000) hL (by decide)), chk_t (inb_nI hL (by decide)), cl_nI (by omega), nar8, sv_col (by decide), h, nI_1]
  rfl
theorem aw_step {L n : Nat} {W : HV} {x s : Int32} {k : HV → Option HV} (h : W 1011 0 0 = nI L) (hL : L < 5000) (hs : ¬ s < 0) : f_X12_word_L3 0 x k (n + 1) s W = f_X12_word_L3 0 x k n (s + (-8)) (aw1 W L ((x >>> (s &&& 31)).toInt8.toInt32)) := by
  rw [f_X12_word_L3, if_neg hs]
  simp only [lt_def]
  rw [h, chk_t (inb_nI hL (by decide)), cl_nI (by omega), nar8, sv_col (by decide), h, nI_1]
  rfl
theorem sh_same {x : Int32} (s : Int32) (hs : s = 24 ∨ s = 16 ∨ s = 8 ∨ s = 0) : (x.toUInt32 >>> (Int32.toUInt32 s &&& Int32.toUInt32 31)).toInt32.toInt8 = (x >>> (s &&& 31)).toInt8 := by
  apply low8
  intro i hi
  rcases hs with rfl | rfl | rfl | rfl
  · have e1 : (x.toUInt32 >>> (Int32.toUInt32 24 &&& Int32.toUInt32 31)).toInt32.toBitVec = x.toBitVec >>> 24 := rfl
    have e2 : (x >>> ((24 : Int32) &&& 31)).toBitVec = x.toBitVec.sshiftRight 24 := rfl
    rw [e1, e2, BitVec.getLsbD_ushiftRight, BitVec.getLsbD_sshiftRight]
    simp [show ¬ 32 ≤ i by omega, show 24 + i < 32 by omega]
  · have e1 : (x.toUInt32 >>> (Int32.toUInt32 16 &&& Int32.toUInt32 31)).toInt32.toBitVec = x.toBitVec >>> 16 := rfl
    have e2 : (x >>> ((16 : Int32) &&& 31)).toBitVec = x.toBitVec.sshiftRight 16 := rfl
    rw [e1, e2, BitVec.getLsbD_ushiftRight, BitVec.getLsbD_sshiftRight]
    simp [show ¬ 32 ≤ i by omega, show 16 + i < 32 by omega]
  · have e1 : (x.toUInt32 >>> (Int32.toUInt32 8 &&& Int32.toUInt32 31)).toInt32.toBitVec = x.toBitVec >>> 8 := rfl
    have e2 : (x >>> ((8 : Int32) &&& 31)).toBitVec = x.toBitVec.sshiftRight 8 := rfl
    rw [e1, e2, BitVec.getLsbD_ushiftRight, BitVec.getLsbD_sshiftRight]
    simp [show ¬ 32 ≤ i by omega, show 8 + i < 32 by omega]
  · have e1 : (x.toUInt32 >>> (Int32.toUInt32 0 &&& Int32.toUInt32 31)).toInt32.toBitVec = x.toBitVec >>> 0 := rfl
    have e2 : (x >>> ((0 : Int32) &&& 31)).toBitVec = x.toBitVec.sshiftRight 0 := rfl
    rw [e1, e2, BitVec.getLsbD_ushiftRight, BitVec.getLsbD_sshiftRight]
    simp [show ¬ 32 ≤ i by omega, show i < 32 by omega]
theorem ap1_agr (V : HV) (L : Nat) (x : Int32) : agr [3100, 401] V (ap1 V L x) := ((agr_sv V 3100 0 L x).app (agr_sv _ 401 0 0 _)).sub (by decide)
theorem aw1_agr (W : HV) (L : Nat) (x : Int32) : agr [3000, 1011] W (aw1 W L x) := ((agr_sv W 3000 0 L x).app (agr_sv _ 1011 0 0 _)).sub (by decide)
theorem feed_word {kb L : Nat} {V W : HV} (h : TP L V W) (hL : L + 4 ≤ 5000) (x : Int32) : ∃ V' W', f_X5_append kb 0 x V = some V' ∧ f_X12_word 0 x W = some W' ∧ TP (L + 4) V' W' ∧ agr [3100, 401] V V' ∧ agr [3000, 1011] W W' := by
  unfold f_X5_append f_X12_word
  simp only [jn_def]
  rw [show FU = 4294967291 + 1 + 1 + 1 + 1 + 1 from FU_eq]
  have h1 := TP_1 (x := (x >>> ((24 : Int32) &&& 31)).toInt8.toInt32) h
  have h2 := TP_1 (x := (x >>> ((16 : Int32) &&& 31)).toInt8.toInt32) h1
  have h3 := TP_1 (x := (x >>> ((8 : Int32) &&& 31)).toInt8.toInt32) h2
  have h4 := TP_1 (x := (x >>> ((0 : Int32) &&& 31)).toInt8.toInt32) h3
  rw [ap_step h.1 (by omega) (by decide), aw_step h.2.1 (by omega) (by decide), sh_same 24 (by decide)]
  rw [show (24 : Int32) + (-8) = 16 by decide, ap_step h1.1 (by omega) (by decide), aw_step h1.2.1 (by omega) (by decide), sh_same 16 (by decide)]
  rw [show (16 : Int32) + (-8) = 8 by decide, ap_step h2.1 (by omega) (by decide), aw_step h2.2.1 (by omega) (by decide), sh_same 8 (by decide)]
  rw [show (8 : Int32) + (-8) = 0 by decide, ap_step h3.1 (by omega) (by decide), aw_step h3.2.1 (by omega) (by decide), sh_same 0 (by decide)]
  rw [show (0 : Int32) + (-8) = -8 by decide, f_X5_append_L3, f_X12_word_L3, if_pos (by decide), if_pos (by decide)]
  refine ⟨_, _, rfl, rfl, h4, ?_, ?_⟩
  · exact ((((ap1_agr _ _ _).app (ap1_agr _ _ _)).app (ap1_agr _ _ _)).app (ap1_agr _ _ _)).sub (by decide)
  · exact ((((aw1_agr _ _ _).app (aw1_agr _ _ _)).app (aw1_agr _ _ _)).app (aw1_agr _ _ _)).sub (by decide)
theorem feed_all {kb : Nat} {V W : HV} (h : Rl V W) (x1 x2 x3 x4 x5 : Int32) : ∃ r V' W', f_X11_feed kb 0 x1 x2 x3 x4 x5 V = some (r, V') ∧ f_X12_feed 0 x1 x2 x3 x4 x5 W = some (r, W') ∧ Rl V' W' ∧ agr [3100, 401] V V' ∧ agr [3000, 1011] W W' := by
  obtain ⟨p1, L, hL, l1, l2, l3⟩ := id h
  unfold f_X11_feed f_X12_feed f_X5_hasRoom
  simp only [lt_def]
  rw [l1, l2, show (20 : Int32) = nI 20 from rfl, nI_add, show (5000 : Int32) = nI 5000 from rfl]
  by_cases hr : L + 20 ≤ 5000
  · rw [if_neg (nI_nlt hr (by decide)), if_pos rfl, if_pos (nI_le hr (by decide))]
    obtain ⟨V1, W1, a1, b1, t1, c1, d1⟩ := feed_word (kb := kb) ⟨l1, l2, l3⟩ (by omega) x1
    obtain ⟨V2, W2, a2, b2, t2, c2, d2⟩ := feed_word (kb := kb) t1 (by omega) x2
    obtain ⟨V3, W3, a3, b3, t3, c3, d3⟩ := feed_word (kb := kb) t2 (by omega) x3
    obtain ⟨V4, W4, a4, b4, t4, c4, d4⟩ := feed_word (kb := kb) t3 (by omega) x4
    obtain ⟨V5, W5, a5, b5, t5, c5, d5⟩ := feed_word (kb := kb) t4 (by omega) x5
    rw [a1, b1, bnd_some, bnd_some, a2, b2, bnd_some, bnd_some, a3, b3, bnd_some, bnd_some, a4, b4, bnd_some, bnd_some, a5, b5, bnd_some, bnd_some]
    have e1 := ((((c1.app c2).app c3).app c4).app c5).sub (ds := [3100, 401]) (by decide)
    have e2 := ((((d1.app d2).app d3).app d4).app d5).sub (ds := [3000, 1011]) (by decide)
    refine ⟨true, V5, W5, rfl, rfl, ⟨?_, L + 4 + 4 + 4 + 4 + 4, by omega, t5.1, t5.2.1, t5.2.2⟩, e1, e2⟩
    rw [e1 405 0 0 (by decide), e2 1016 0 0 (by decide)]
    exact p1
  · rw [if_pos (nI_lt (by omega) (by omega)), if_neg (by decide), if_neg (nI_ge (by omega) (by omega))]
    exact ⟨false, V, W, rfl, rfl, h, (agr_rfl V).sub (by decide), (agr_rfl W).sub (by decide)⟩
