/-! the thread's registers and numbers, put together again -/
theorem ST_genM {x x' kb : Nat} {Y : HV} {l : List Ob} {V V' W W' : HV} (h : ST x kb Y l V W) (hV : agr [0, 1, 2, 3, 4, 5, 205, 206, 704, 708, 709, 710, 711, 712, 713, 714, 715, 716, 717, 718, 810, 811, 812, 813, 814, 815, 816, 2300, 2400] V V') (hW : agr [1047, 1048, 1049, 1050, 1051, 1052, 1053, 1080, 1081, 2100, 2200, 2400, 2500, 2600, 2700, 2800, 2900, 4700, 4800, 4900, 5000, 5200, 5300, 5400, 5800, 5900, 6000, 6100, 6200, 6300, 6400, 6500, 6600] W W') (hs : Rs V' W') (hm : Rm kb V' W') (hg : Mgd kb Y l W') (hc : Cps x' Y l V' W') (hf : Frm Y V' W') (ht : Thr Y W') (hr : Rt V' W') : ST x' kb Y l V' W' := by
  obtain ⟨h1, h2, h3, h4, h5, h6, h7, h8, h9, h10, h11, h12, h13, h14⟩ := h
  exact ⟨h1, LY_fr hW (by decide) h2, hs, Rl_fr hV hW (by decide) (by decide) h4, Rc_fr hV hW (by decide) (by decide) h5, hm, Ri_fr hV hW (by decide) (by decide) h7, In_fr hW (by decide) h8, Hp_fr hV hW (by decide) (by decide) h9, hc, hg, hf, ht, hr⟩
theorem OK_updM {x x' kb T Tw t d : Nat} {Y : HV} {l : List Ob} {V V' W W' : HV} (h : OK x kb T Tw t Y l V W) (hV : agr [0, 1, 2, 3, 4, 5, 704, 708, 709, 710, 2300, 2400] V V') (hW : agr [2100, 2200, 2400, 2500, 2600, 2700, 2800, 2900, 4900, 5000, 5200, 5800] W W') (hm : Rm kb V' W') (hg : Mgd kb Y l W') (hJ : Jm Y l W')
  (hd : d ≤ xN W 5000 t) (e4 : V' 704 t 0 = nI d) (e50 : W' 5000 0 t = nI d)
  (ho : ∀ i, i < 582 → ¬ (17 * t ≤ i ∧ i < 17 * t + 17) → (okc W' i → cC V' i = cC V i ∧ cM W' i = cM W i) ∧ (¬ okc W' i → (¬ okc W i ∧ cM W' i = cM W i) ∨ cM W' i = nm 0))
  (hr : ∀ k, k < 17 → (17 * t + k ≠ x' → cC V' (17 * t + k) = cM W' (17 * t + k)) ∧ gd Y (lv l) (cM W' (17 * t + k))) (h0 : cM W' (17 * t) = nm 0) (hx : x = x' ∨ (17 * t ≤ x ∧ x < 17 * t + 17) ∨ 582 ≤ x)
  (hu : ∀ c ∈ [704, 708, 709, 710], ∀ u, u ≠ t → V' c u 0 = V c u 0) (hw : ∀ c ∈ [4900, 5000, 5200, 5800], ∀ u, u ≠ t → W' c 0 u = W c 0 u)
  (e9 : V' 709 t 0 = W' 4900 0 t) (e10 : i2b (V' 710 t 0) = i2b (W' 5200 0 t)) (e8 : V' 708 t 0 = W' 5800 0 t) (eg : ∃ e, W' 5800 0 t = nI (16 * e) ∧ gN Y 5600 t ≤ e ∧ e ≤ gN Y 5700 t) : OK x' kb T Tw t Y l V' W' := by
  have h6 := OK_t6 h
  obtain ⟨h1, h2, h3, h4, h5, hn⟩ := id h
  have hL := h1.1
  have hT := OK_Thr h
  have hd16 : ∀ u, u < nth Y → xN W 5000 u ≤ 16 := fun u hu => Nat.le_trans (hT u hu).2.1 (hL.2.2.2.2.2.2.2.2.2.2 u hu).2.2.2.2.2
  have hdt := hd16 t hn
  have hnth : nth W' = nth W := nth_fr hW (by decide)
  have hx5 : ∀ u, xN W' 5000 u = if u = t then d else xN W 5000 u := by
    intro u
    by_cases e : u = t
    · unfold xN
      rw [if_pos e, e, e50, cl_nI (by omega)]
    · rw [if_neg e]
      unfold xN
      rw [hw 5000 (by decide) u e]
  have r1 := OK_Rt1 h
  have hC := h1.2.2.2.2.2.2.2.2.2.1
  refine ⟨ST_genM h1 (hV.sub (by decide)) (hW.sub (by decide)) (Rs_fr hV hW (by decide) (by decide) h1.2.2.1) hm hg ?_ ?_ ?_ ?_, Tm_fr hV hW (by decide) (by decide) h2, fun k hk => (hr k hk).2, hJ, (hW 1080 0 0 (by decide)).trans h5, hn⟩
  · intro i hi
    by_cases hin : 17 * t ≤ i ∧ i < 17 * t + 17
    · obtain ⟨k, hk, rfl⟩ : ∃ k, k < 17 ∧ i = 17 * t + k := ⟨i - 17 * t, by omega, by omega⟩
      obtain ⟨r2, r3⟩ := hr k hk
      refine ⟨fun _ q => r2 q, gd_lv r3, fun q => absurd (okc_reg' (by rw [hnth, nth_LY h1.2.1]; exact hn) (by rw [hnth, nth_LY h1.2.1]; exact hL.2.2.2.2.1) hk) q, fun _ q => ?_⟩
      have e : k = 0 := by omega
      subst e
      exact h0
    · obtain ⟨c1, c2, c3, c4⟩ := hC i hi
      obtain ⟨o1, o2⟩ := ho i hi hin
      by_cases hok : okc W' i
      · obtain ⟨p1, p2⟩ := o1 hok
        have hokW : okc W i := by
          by_cases h102 : i < 102
          · exact (okc_R hnth h102).mp hok
          · obtain ⟨u, f, k, hu6, hf, hk, rfl⟩ := fr_ex (by omega) hi
            rw [okc_F hu6 hf hk] at hok ⊢
            rw [hnth, hx5] at hok
            refine ⟨hok.1, ?_⟩
            by_cases e : u = t
            · have := hok.2
              rw [if_pos e] at this
              rw [e]
              omega
            · have := hok.2
              rw [if_neg e] at this
              exact this
        rw [p1, p2]
        refine ⟨fun _ q => c1 hokW ?_, c2, fun q => absurd hok q, c4⟩
        rcases hx with rfl | hx | hx
        · exact q
        · omega
        · omega
      · rcases o2 hok with ⟨p1, p2⟩ | p2
        · rw [p2]
          exact ⟨fun q => absurd q hok, c2, fun _ => c3 p1, c4⟩
        · rw [p2]
          exact ⟨fun q => absurd q hok, gd_num _ _ _, fun _ => rfl, fun _ _ => rfl⟩
  · intro u f hu2 hf
    have hu6 : u < 6 := Nat.lt_of_lt_of_le hu2 hL.2.2.2.2.1
    have hf2 := hf
    rw [hx5 u] at hf
    have hf' : f < xN W 5000 u := by
      by_cases e2 : u = t
      · rw [if_pos e2] at hf
        rw [e2]
        omega
      · rw [if_neg e2] at hf
        exact hf
    have hf16 : f < 16 := Nat.lt_of_lt_of_le hf' (hd16 u hu2)
    have ek : cM W' (102 + 80 * u + 5 * f + 1) = cM W (102 + 80 * u + 5 * f + 1) := ((ho (102 + 80 * u + 5 * f + 1) (by omega) (by omega)).1 ((okc_F hu6 hf16 (by decide)).mpr ⟨by rw [hnth, nth_LY h1.2.1]; exact hu2, hf2⟩)).2
    rw [hV 206 _ 0 (by decide), hV 205 _ 0 (by decide), hW 6400 0 _ (by decide), hW 6500 0 _ (by decide), hW 6600 0 _ (by decide), show W' 2600 0 (102 + 80 * u + 5 * f + 1) = W 2600 0 (102 + 80 * u + 5 * f + 1) from cM_2 ek, show W' 2400 0 (102 + 80 * u + 5 * f + 1) = W 2400 0 (102 + 80 * u + 5 * f + 1) from cM_0 ek]
    exact h1.2.2.2.2.2.2.2.2.2.2.2.1 u f hu2 hf'
  · intro u hu2
    have a := hT u hu2
    obtain ⟨a1, a2, a3, a4, a5, a6⟩ := a
    rw [hW 4700 0 u (by decide), hW 4800 0 u (by decide), hW 6300 0 u (by decide)]
    have hgk : gN Y 5700 t < 134217728 := by
      have q1 := (hL.2.2.2.2.2.2.2.2.2.2 t hn).2.2.2.1
      have q2 := hL.2.2.2.2.2.2.2.2.1
      have q3 := hL.2.1
      omega
    by_cases e : u = t
    · obtain ⟨g, g1, g2, g3⟩ := eg
      have hg : gN W' 5800 u = g := by
        unfold gN
        rw [e, g1, cl_nI (by omega)]
        omega
      refine ⟨?_, ?_, ?_, ?_, ?_, a6⟩
      · rw [hx5, if_pos e, e]; exact e50
      · rw [hx5, if_pos e, e]; exact Nat.le_trans hd (e ▸ a2)
      · unfold isG
        rw [hg, e]; exact g1
      · rw [hg, e]; exact g2
      · rw [hg, e]; exact g3
    · have hg : gN W' 5800 u = gN W 5800 u := by
        unfold gN
        rw [hw 5800 (by decide) u e]
      refine ⟨?_, ?_, ?_, ?_, ?_, a6⟩
      · rw [hx5, if_neg e, hw 5000 (by decide) u e]; exact a1
      · rw [hx5, if_neg e]; exact a2
      · unfold isG
        rw [hg, hw 5800 (by decide) u e]; exact a3
      · rw [hg]; exact a4
      · rw [hg]; exact a5
  · refine Rt_one (t := t) h1.2.2.2.2.2.2.2.2.2.2.2.2.2 hnth (fun c hc u hne => ?_) (fun c hc u hne => ?_) (fun u => hV 700 u 0 (by decide)) (fun c hc o j => hV c o j (by revert c; decide)) (fun c hc o j => hW c o j (by revert c; decide)) ?_
    · by_cases e : c ∈ [704, 708, 709, 710]
      · exact hu c e u hne
      · exact hV c u 0 (by revert c; decide)
    · by_cases e : c ∈ [4900, 5000, 5200, 5800]
      · exact hw c e u hne
      · exact hW c 0 u (by revert c; decide)
    · unfold Rt1 at r1 ⊢
      rw [e4, e50, e9, e8, e10, hV 705 t 0 (by decide), hV 706 t 0 (by decide), hV 707 t 0 (by decide), hV 711 t 0 (by decide), hV 712 t 0 (by decide), hV 713 t 0 (by decide), hV 715 t 0 (by decide), hV 716 t 0 (by decide), hV 717 t 0 (by decide), hW 4700 0 t (by decide), hW 4800 0 t (by decide), hW 5100 0 t (by decide), hW 5300 0 t (by decide), hW 5400 0 t (by decide), hW 5500 0 t (by decide), hW 5600 0 t (by decide), hW 6100 0 t (by decide), hW 6300 0 t (by decide)]
      obtain ⟨z1, z2, z3, z4, z5, z6, z7, z8, z9, z10, z11, z12⟩ := r1
      exact ⟨rfl, z2, z3, z4, rfl, rfl, rfl, z8, z9, z10, z11, z12⟩
theorem OK_upd {x x' kb T Tw t d : Nat} {Y : HV} {l : List Ob} {V V' W W' : HV} (h : OK x kb T Tw t Y l V W) (hV : agr [0, 1, 2, 3, 4, 5, 704, 708, 709, 710] V V') (hW : agr [2400, 2500, 2600, 2700, 2800, 2900, 4900, 5000, 5200, 5800] W W')
  (hd : d ≤ xN W 5000 t) (e4 : V' 704 t 0 = nI d) (e50 : W' 5000 0 t = nI d)
  (ho : ∀ i, i < 582 → ¬ (17 * t ≤ i ∧ i < 17 * t + 17) → (okc W' i → cC V' i = cC V i ∧ cM W' i = cM W i) ∧ (¬ okc W' i → (¬ okc W i ∧ cM W' i = cM W i) ∨ cM W' i = nm 0))
  (hr : ∀ k, k < 17 → (17 * t + k ≠ x' → cC V' (17 * t + k) = cM W' (17 * t + k)) ∧ gd Y (lv l) (cM W' (17 * t + k))) (h0 : cM W' (17 * t) = nm 0) (hx : x = x' ∨ (17 * t ≤ x ∧ x < 17 * t + 17) ∨ 582 ≤ x)
  (hu : ∀ c ∈ [704, 708, 709, 710], ∀ u, u ≠ t → V' c u 0 = V c u 0) (hw : ∀ c ∈ [4900, 5000, 5200, 5800], ∀ u, u ≠ t → W' c 0 u = W c 0 u)
  (e9 : V' 709 t 0 = W' 4900 0 t) (e10 : i2b (V' 710 t 0) = i2b (W' 5200 0 t)) (e8 : V' 708 t 0 = W' 5800 0 t) (eg : ∃ e, W' 5800 0 t = nI (16 * e) ∧ gN Y 5600 t ≤ e ∧ e ≤ gN Y 5700 t) : OK x' kb T Tw t Y l V' W' := OK_updM h (hV.sub (by decide)) (hW.sub (by decide)) (Rm_fr hV hW (by decide) (by decide) h.1.2.2.2.2.2.1) (Mgd_fr hW (by decide) h.1.2.2.2.2.2.2.2.2.2.2.1) (Jm_fr hW (by decide) h.2.2.2.1) hd e4 e50 ho hr h0 hx hu hw e9 e10 e8 eg
/-- the thread's registers alone, and its interrupts -/
theorem OK_regs {x x' kb T Tw t : Nat} {Y : HV} {l : List Ob} {V V' W W' : HV} (h : OK x kb T Tw t Y l V W) (hV : agr [0, 1, 2, 3, 4, 5, 710] V V') (hW : agr [2400, 2500, 2600, 2700, 2800, 2900, 5200] W W')
  (ho : ∀ i, i < 582 → ¬ (17 * t ≤ i ∧ i < 17 * t + 17) → cC V' i = cC V i ∧ cM W' i = cM W i)
  (hr : ∀ k, k < 17 → (17 * t + k ≠ x' → cC V' (17 * t + k) = cM W' (17 * t + k)) ∧ gd Y (lv l) (cM W' (17 * t + k))) (h0 : cM W' (17 * t) = nm 0) (hx : x = x' ∨ (17 * t ≤ x ∧ x < 17 * t + 17) ∨ 582 ≤ x)
  (hu : ∀ u, u ≠ t → V' 710 u 0 = V 710 u 0) (hw : ∀ u, u ≠ t → W' 5200 0 u = W 5200 0 u) (e10 : i2b (V' 710 t 0) = i2b (W' 5200 0 t)) : OK x' kb T Tw t Y l V' W' := by
  have r := OK_Rt1 h
  have a := OK_Thr h t h.2.2.2.2.2
  have hok : okc W' = okc W := okc_fr hW (by decide)
  refine OK_upd (d := xN W 5000 t) h (hV.sub (by decide)) (hW.sub (by decide)) (Nat.le_refl _) ?_ ?_ (fun i hi hni => ?_) hr h0 hx (fun c hc u hne => ?_) (fun c hc u hne => ?_) ?_ e10 ?_ ⟨gN W 5800 t, ?_, a.2.2.2.1, a.2.2.2.2.1⟩
  · rw [hV 704 t 0 (by decide), r.1]; exact a.1
  · rw [hW 5000 0 t (by decide)]; exact a.1
  · rw [hok]
    obtain ⟨o1, o2⟩ := ho i hi hni
    exact ⟨fun _ => ⟨o1, o2⟩, fun q => Or.inl ⟨q, o2⟩⟩
  · by_cases e : c = 710
    · rw [e]; exact hu u hne
    · exact hV c u 0 (by revert c; decide)
  · by_cases e : c = 5200
    · rw [e]; exact hw u hne
    · exact hW c 0 u (by revert c; decide)
  · rw [hV 709 t 0 (by decide), hW 4900 0 t (by decide)]; exact r.2.2.2.2.2.1
  · rw [hV 708 t 0 (by decide), hW 5800 0 t (by decide)]; exact r.2.2.2.2.1
  · rw [hW 5800 0 t (by decide)]; exact a.2.2.1
