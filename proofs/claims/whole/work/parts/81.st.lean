/-! the state's parts, put together again behind a change -/
theorem ST_caps {x x' kb : Nat} {Y : HV} {l : List Ob} {V V' W W' : HV} (h : ST x kb Y l V W) (hV : agr [0, 1, 2, 3, 4, 5] V V') (hW : agr [2400, 2500, 2600, 2700, 2800, 2900] W W') (hc : CpsF x' Y l (okc W) (cC V') (cM W')) (hf : ∀ t f, t < nth Y → f < xN W 5000 t → (cM W' (102 + 80 * t + 5 * f + 1)).1 = (cM W (102 + 80 * t + 5 * f + 1)).1 ∧ (cM W' (102 + 80 * t + 5 * f + 1)).2.2.1 = (cM W (102 + 80 * t + 5 * f + 1)).2.2.1) : ST x' kb Y l V' W' := by
  obtain ⟨h1, h2, h3, h4, h5, h6, h7, h8, h9, h10, h11, h12, h13, h14⟩ := h
  refine ⟨h1, LY_fr hW (by decide) h2, Rs_fr hV hW (by decide) (by decide) h3, Rl_fr hV hW (by decide) (by decide) h4, Rc_fr hV hW (by decide) (by decide) h5, Rm_fr hV hW (by decide) (by decide) h6, Ri_fr hV hW (by decide) (by decide) h7, In_fr hW (by decide) h8, Hp_fr hV hW (by decide) (by decide) h9, ?_, Mgd_fr hW (by decide) h11, ?_, Thr_fr hW (by decide) h13, Rt_fr hV hW (by decide) (by decide) h14⟩
  · unfold Cps
    rw [okc_fr hW (by decide)]
    exact hc
  · intro t f ht hq
    rw [xN_fr hW (by decide)] at hq
    obtain ⟨e1, e2⟩ := hf t f ht hq
    have a := h12 t f ht hq
    rw [hV 205 _ 0 (by decide), hV 206 _ 0 (by decide), hW 6400 0 _ (by decide), hW 6500 0 _ (by decide), hW 6600 0 _ (by decide)]
    have e1' : W' 2400 0 (102 + 80 * t + 5 * f + 1) = W 2400 0 (102 + 80 * t + 5 * f + 1) := e1
    have e2' : W' 2600 0 (102 + 80 * t + 5 * f + 1) = W 2600 0 (102 + 80 * t + 5 * f + 1) := e2
    rw [e1', e2']
    exact a
theorem nth_LY {Y W : HV} (h : LY Y W) : nth W = nth Y := by unfold nth; rw [h 1019 (by decide)]
theorem ncp_LY {Y W : HV} (h : LY Y W) : ncp W = ncp Y := by unfold ncp; rw [h 1018 (by decide)]
theorem okc_reg' {W : HV} {t k : Nat} (ht : t < nth W) (h6 : nth W ≤ 6) (hk : k < 17) : okc W (17 * t + k) := Or.inl ⟨by omega, by omega⟩
theorem ST_reg {x x' kb t : Nat} {Y : HV} {l : List Ob} {V V' W W' : HV} {f g : Nat → Cp} (h : ST x kb Y l V W) (ht : t < nth Y) (hV : UC V f V') (hW : UM W g W') (ho : ∀ i, i < 582 → ¬ (17 * t ≤ i ∧ i < 17 * t + 17) → f i = cC V i ∧ g i = cM W i) (hr : ∀ k, k < 17 → (17 * t + k ≠ x' → f (17 * t + k) = g (17 * t + k)) ∧ gd Y l (g (17 * t + k))) (h0 : g (17 * t) = nm 0) (hx : x = x' ∨ (17 * t ≤ x ∧ x < 17 * t + 17) ∨ 582 ≤ x) : ST x' kb Y l V' W' := by
  have hLY := h.2.1
  have hLay := h.1
  have hC := h.2.2.2.2.2.2.2.2.2.1
  refine ST_caps h hV.2 hW.2 ?_ ?_
  · intro i hi
    rw [hV.1, hW.1]
    by_cases hin : 17 * t ≤ i ∧ i < 17 * t + 17
    · obtain ⟨k, hk, rfl⟩ : ∃ k, k < 17 ∧ i = 17 * t + k := ⟨i - 17 * t, by omega, by omega⟩
      obtain ⟨r1, r2⟩ := hr k hk
      refine ⟨fun _ q => r1 q, r2, fun q => absurd (okc_reg' (by rw [nth_LY hLY]; exact ht) (by rw [nth_LY hLY]; exact hLay.2.2.2.2.1) hk) q, fun _ q => ?_⟩
      have e : k = 0 := by omega
      subst e
      exact h0
    · obtain ⟨o1, o2⟩ := ho i hi hin
      rw [o1, o2]
      obtain ⟨c1, c2, c3, c4⟩ := hC i hi
      refine ⟨fun q1 q2 => c1 q1 ?_, c2, c3, c4⟩
      rcases hx with rfl | hx | hx
      · exact q2
      · omega
      · omega
  · intro u f' hu hf'
    rw [hW.1]
    have h6 : nth Y ≤ 6 := hLay.2.2.2.2.1
    have hd : xN W 5000 u ≤ 16 := Nat.le_trans (h.2.2.2.2.2.2.2.2.2.2.2.2.1 u hu).2.1 (hLay.2.2.2.2.2.2.2.2.2.2 u hu).2.2.2.2.2
    obtain ⟨o1, o2⟩ := ho (102 + 80 * u + 5 * f' + 1) (by omega) (by omega)
    rw [o2]
    exact ⟨rfl, rfl⟩
/-- the reference's own two words -/
theorem ST_W {x kb : Nat} {Y : HV} {l : List Ob} {V W W' : HV} (h : ST x kb Y l V W) (hW : agr [1080, 1081] W W') : ST x kb Y l V W' := by
  obtain ⟨h1, h2, h3, h4, h5, h6, h7, h8, h9, h10, h11, h12, h13, h14⟩ := h
  have hV : agr [] V V := agr_rfl V
  exact ⟨h1, LY_fr hW (by decide) h2, Rs_fr hV hW (by decide) (by decide) h3, Rl_fr hV hW (by decide) (by decide) h4, Rc_fr hV hW (by decide) (by decide) h5, Rm_fr hV hW (by decide) (by decide) h6, Ri_fr hV hW (by decide) (by decide) h7, In_fr hW (by decide) h8, Hp_fr hV hW (by decide) (by decide) h9, Cps_fr hV hW (by decide) (by decide) h10, Mgd_fr hW (by decide) h11, Frm_fr hV hW (by decide) (by decide) h12, Thr_fr hW (by decide) h13, Rt_fr hV hW (by decide) (by decide) h14⟩
/-- memory -/
theorem ST_mem {x kb : Nat} {Y : HV} {l : List Ob} {V V' W W' : HV} (h : ST x kb Y l V W) (hV : agr [2300, 2400] V V') (hW : agr [2100, 2200] W W') (hm : Rm kb V' W') (hg : Mgd kb Y l W') : ST x kb Y l V' W' := by
  obtain ⟨h1, h2, h3, h4, h5, h6, h7, h8, h9, h10, h11, h12, h13, h14⟩ := h
  exact ⟨h1, LY_fr hW (by decide) h2, Rs_fr hV hW (by decide) (by decide) h3, Rl_fr hV hW (by decide) (by decide) h4, Rc_fr hV hW (by decide) (by decide) h5, hm, Ri_fr hV hW (by decide) (by decide) h7, In_fr hW (by decide) h8, Hp_fr hV hW (by decide) (by decide) h9, Cps_fr hV hW (by decide) (by decide) h10, hg, Frm_fr hV hW (by decide) (by decide) h12, Thr_fr hW (by decide) h13, Rt_fr hV hW (by decide) (by decide) h14⟩
/-- input and output -/
theorem ST_io {x kb : Nat} {Y : HV} {l : List Ob} {V V' W W' : HV} (h : ST x kb Y l V W) (hV : agr [501, 502, 2000] V V') (hW : agr [1064, 1066, 1067, 8300, 8500] W W') (hm : Ri V' W') : ST x kb Y l V' W' := by
  obtain ⟨h1, h2, h3, h4, h5, h6, h7, h8, h9, h10, h11, h12, h13, h14⟩ := h
  exact ⟨h1, LY_fr hW (by decide) h2, Rs_fr hV hW (by decide) (by decide) h3, Rl_fr hV hW (by decide) (by decide) h4, Rc_fr hV hW (by decide) (by decide) h5, Rm_fr hV hW (by decide) (by decide) h6, hm, In_fr hW (by decide) h8, Hp_fr hV hW (by decide) (by decide) h9, Cps_fr hV hW (by decide) (by decide) h10, Mgd_fr hW (by decide) h11, Frm_fr hV hW (by decide) (by decide) h12, Thr_fr hW (by decide) h13, Rt_fr hV hW (by decide) (by decide) h14⟩
/-- the machine's numbers (not: the threads', the current one) -/
theorem ST_num {x kb : Nat} {Y : HV} {l : List Ob} {V V' W W' : HV} (h : ST x kb Y l V W) (hV : agr [810, 813, 814, 815, 816] V V') (hW : agr [1047, 1049, 1050, 1051, 1052] W W') (hm : Rs V' W') : ST x kb Y l V' W' := by
  obtain ⟨h1, h2, h3, h4, h5, h6, h7, h8, h9, h10, h11, h12, h13, h14⟩ := h
  exact ⟨h1, LY_fr hW (by decide) h2, hm, Rl_fr hV hW (by decide) (by decide) h4, Rc_fr hV hW (by decide) (by decide) h5, Rm_fr hV hW (by decide) (by decide) h6, Ri_fr hV hW (by decide) (by decide) h7, In_fr hW (by decide) h8, Hp_fr hV hW (by decide) (by decide) h9, Cps_fr hV hW (by decide) (by decide) h10, Mgd_fr hW (by decide) h11, Frm_fr hV hW (by decide) (by decide) h12, Thr_fr hW (by decide) h13, Rt_fr hV hW (by decide) (by decide) h14⟩
/-- the threads' numbers, the current one, its turns -/
theorem ST_thr {x kb : Nat} {Y : HV} {l : List Ob} {V V' W W' : HV} (h : ST x kb Y l V W) (hV : agr [708, 709, 710, 711, 712, 713, 714, 715, 716, 717, 718, 811, 812] V V') (hW : agr [1048, 1053, 4700, 4800, 4900, 5200, 5300, 5400, 5800, 5900, 6000, 6100, 6200, 6300] W W') (hs : Rs V' W') (ht : Thr Y W') (hm : Rt V' W') : ST x kb Y l V' W' := by
  obtain ⟨h1, h2, h3, h4, h5, h6, h7, h8, h9, h10, h11, h12, h13, h14⟩ := h
  exact ⟨h1, LY_fr hW (by decide) h2, hs, Rl_fr hV hW (by decide) (by decide) h4, Rc_fr hV hW (by decide) (by decide) h5, Rm_fr hV hW (by decide) (by decide) h6, Ri_fr hV hW (by decide) (by decide) h7, In_fr hW (by decide) h8, Hp_fr hV hW (by decide) (by decide) h9, Cps_fr hV hW (by decide) (by decide) h10, Mgd_fr hW (by decide) h11, Frm_fr hV hW (by decide) (by decide) h12, ht, hm⟩
theorem Tm_fr {T Tw : Nat} {cs ds : List Nat} {V V' W W' : HV} (hV : agr cs V V') (hW : agr ds W W') (h1 : ∀ c ∈ [714, 718], c ∉ cs) (h2 : ∀ c ∈ [1019, 1047, 1048, 1053, 1080, 4700, 5900, 6200], c ∉ ds) (h : Tm T Tw V W) : Tm T Tw V' W' := by
  obtain ⟨a1, a2, a3, a4, a5⟩ := h
  unfold Tm
  rw [nth_fr hW (h2 _ (by decide)), hW 1047 0 0 (h2 _ (by decide)), hW 1048 0 0 (h2 _ (by decide)), hW 1080 0 0 (h2 _ (by decide)), hW 1053 0 0 (h2 _ (by decide))]
  refine ⟨a1, fun t ht => ?_, ?_, fun t ht => ?_, a5⟩
  · rw [hV 718 t 0 (h1 _ (by decide)), hW 5900 0 t (h2 _ (by decide))]; exact a2 t ht
  · rcases a3 with a3 | ⟨c, b1, b2, b3⟩
    · exact Or.inl a3
    · refine Or.inr ⟨c, b1, b2, fun o ho hne => ?_⟩
      rw [hV 718 o 0 (h1 _ (by decide)), hV 718 c 0 (h1 _ (by decide)), hW 5900 0 o (h2 _ (by decide)), hW 5900 0 c (h2 _ (by decide))]
      exact b3 o ho hne
  · rw [hW 4700 0 t (h2 _ (by decide)), hV 714 t 0 (h1 _ (by decide)), hW 6200 0 t (h2 _ (by decide))]; exact a4 t ht
