/-! the thread's end -/
theorem ret_end {kb T Tw t : Nat} {Y : HV} {l : List Ob} {V0 V W0 W : HV} {f g : Nat → Cp} (h : OK 1000 kb T Tw t Y l V0 W0) (hV : UC V0 f V) (hW : UM W0 g W) (ho : ∀ i, i < 582 → ¬ (17 * t ≤ i ∧ i < 17 * t + 17) → f i = cC V0 i ∧ g i = cM W0 i) (hxd : xN W0 5000 t = 0) (hst : V0 711 t 0 = 0) : ∃ V' W', f_X9_giveBack kb t 0 V = some V' ∧ f_X12_returns 0 W = some W' ∧ OK 1000 kb T Tw t Y l V' W' ∧ V' 711 t 0 = 3 := by
  have h6 := OK_t6 h
  obtain ⟨h1, h2, h3, h4, h5, hn⟩ := id h
  have hL := h1.1
  have r1 := OK_Rt1 h
  have hT := OK_Thr h t hn
  have i6 : inb (nI t) 6 := inb_nI h6 (by decide)
  have gV : ∀ c o j, c ∉ [0, 1, 2, 3, 4, 5] → V c o j = V0 c o j := fun c o j hc => hV.2 c o j hc
  have gW : ∀ c o j, c ∉ [2400, 2500, 2600, 2700, 2800, 2900] → W c o j = W0 c o j := fun c o j hc => hW.2 c o j hc
  have hd0 : W0 5000 0 t = nI 0 := by have e := hT.1; rw [hxd] at e; exact e
  have hst2 : W0 4700 0 t = 0 ∧ W0 6300 0 t = 0 := by
    rcases r1.2.2.2.2.2.2.2.2.2.2.1 with q | q
    · exact absurd (hst.symm.trans q.1) (by decide)
    · exact ⟨q.1.symm.trans hst, q.2.1⟩
  have h48 : W0 4800 0 t = -1 := hT.2.2.2.2.2.1 (Or.inl hst2.1)
  obtain ⟨V1, e1, e2⟩ := end_C (kb := kb) (t := t) (V := V)
  have hg : f_X9_giveBack kb t 0 V = some (sv (sv V1 704 t 0 0) 711 t 0 3) := by
    unfold f_X9_giveBack
    rw [jn_def, if_pos (show V 704 t 0 ≤ 0 by rw [gV 704 t 0 (by decide), r1.1, hd0]; decide), e1, bnd_some]
  have w80 : W 1080 0 0 = nI t := (gW 1080 0 0 (by decide)).trans h5
  have s1 : (sv (sv W 4700 0 t 3) 4800 0 t (-1)) 1080 0 0 = nI t := by rw [sv_col (by decide), sv_col (by decide)]; exact w80
  obtain ⟨W', n1, n2⟩ := nL_end (K := fun V64 => some V64) h6 17 0 FU (sv (sv W 4700 0 t 3) 4800 0 t (-1)) (by omega) (FU_gt (by omega)) s1
  have hr : f_X12_returns 0 W = some W' := by
    unfold f_X12_returns
    rw [w80, chk_t i6, cl_nI (by omega), if_pos (show W 5000 0 t = 0 by rw [gW 5000 0 t (by decide), hd0]; rfl), chk_t i6, lt_def, sv_col (show ¬ 1080 = 4700 by decide), w80, chk_t i6, lt_def, cl_nI (by omega), jn_def]
    exact n1
  refine ⟨_, W', hg, hr, ?_, sv_at _ _ _ _ _⟩
  have aV : agr [0, 1, 2, 3, 4, 5, 704, 711] V0 (sv (sv V1 704 t 0 0) 711 t 0 3) := (((hV.2.app e2.2).app (agr_sv _ _ _ _ _)).app (agr_sv _ _ _ _ _)).sub (by decide)
  have aW : agr [2400, 2500, 2600, 2700, 2800, 2900, 4700, 4800] W0 W' := (((hW.2.app (agr_sv _ _ _ _ _)).app (agr_sv _ _ _ _ _)).app n2.2).sub (by decide)
  have cV : cC (sv (sv V1 704 t 0 0) 711 t 0 3) = clr (rg2 t 0 17) f := by
    rw [cC_fr ((agr_sv V1 704 t 0 0).app (agr_sv _ 711 t 0 3)) (by decide), e2.1, hV.1]
  have cW : cM W' = clr (rg2 t 0 17) g := by
    rw [n2.1, cM_fr ((agr_sv W 4700 0 t 3).app (agr_sv _ 4800 0 t (-1))) (by decide), hW.1]
  have o704 : ∀ u, (sv (sv V1 704 t 0 0) 711 t 0 3) 704 u 0 = V0 704 u 0 := by
    intro u
    rw [sv_col (by decide)]
    by_cases e : u = t
    · rw [e, sv_at, r1.1, hd0]; rfl
    · rw [sv_ne (fun q => e q.2.1), e2.2 704 u 0 (by decide), gV 704 u 0 (by decide)]
  have o711 : ∀ u, u ≠ t → (sv (sv V1 704 t 0 0) 711 t 0 3) 711 u 0 = V0 711 u 0 := by
    intro u e
    rw [sv_ne (fun q => e q.2.1), sv_col (by decide), e2.2 711 u 0 (by decide), gV 711 u 0 (by decide)]
  have n47 : ∀ u, W' 4700 0 u = if u = t then 3 else W0 4700 0 u := by
    intro u
    rw [n2.2 4700 0 u (by decide), sv_col (by decide)]
    by_cases e : u = t
    · rw [if_pos e, e, sv_at]
    · rw [if_neg e, sv_ne (fun q => e q.2.2), gW 4700 0 u (by decide)]
  have n48 : ∀ u, W' 4800 0 u = W0 4800 0 u := by
    intro u
    rw [n2.2 4800 0 u (by decide)]
    by_cases e : u = t
    · rw [e, sv_at, h48]
    · rw [sv_ne (fun q => e q.2.2), sv_col (by decide), gW 4800 0 u (by decide)]
  have hnth : nth W' = nth W0 := nth_fr aW (by decide)
  have okE : okc W' = okc W0 := okc_fr aW (by decide)
  have hC := h1.2.2.2.2.2.2.2.2.2.1
  obtain ⟨t1, t2, t3, t4, t5⟩ := h2
  obtain ⟨z1, z2, z3, z4, z5⟩ := h1.2.2.2.2.2.2.2.2.2.2.2.2.2
  refine ⟨ST_gen h1 (aV.sub (by decide)) (aW.sub (by decide)) (Rs_fr aV aW (by decide) (by decide) h1.2.2.1) ?_ ?_ ?_ ⟨fun u hu => (aV 700 u 0 (by decide)).trans (z1 u hu), fun u hu => ?_, fun u v hu hv => ?_, fun u v hu hv q1 q2 => ?_, fun c hc q => ?_⟩, ?_, fun k hk => ?_, Jm_fr aW (by decide) h4, (aW 1080 0 0 (by decide)).trans h5, hn⟩
  · unfold Cps
    rw [okE, cV, cW]
    intro i hi
    by_cases hin : 17 * t ≤ i ∧ i < 17 * t + 17
    · rw [clr_t (rg2_t (by omega) (by omega)), clr_t (rg2_t (by omega) (by omega))]
      exact ⟨fun _ _ => rfl, gd_num _ _ _, fun _ => rfl, fun _ _ => rfl⟩
    · rw [clr_f (rg2_f (by omega)), clr_f (rg2_f (by omega)), (ho i hi hin).1, (ho i hi hin).2]
      exact hC i hi
  · intro u ff hu hf
    rw [xN_fr aW (by decide)] at hf
    have hu6 : u < 6 := Nat.lt_of_lt_of_le hu hL.2.2.2.2.1
    have hf16 : ff < 16 := Nat.lt_of_lt_of_le hf (Nat.le_trans (OK_Thr h u hu).2.1 (hL.2.2.2.2.2.2.2.2.2.2 u hu).2.2.2.2.2)
    have ek : cM W' (102 + 80 * u + 5 * ff + 1) = cM W0 (102 + 80 * u + 5 * ff + 1) := by rw [cW, clr_f (rg2_f (by omega)), (ho _ (by omega) (by omega)).2]
    rw [aV 206 _ 0 (by decide), aV 205 _ 0 (by decide), aW 6400 0 _ (by decide), aW 6500 0 _ (by decide), aW 6600 0 _ (by decide), show W' 2600 0 (102 + 80 * u + 5 * ff + 1) = W0 2600 0 (102 + 80 * u + 5 * ff + 1) from cM_2 ek, show W' 2400 0 (102 + 80 * u + 5 * ff + 1) = W0 2400 0 (102 + 80 * u + 5 * ff + 1) from cM_0 ek]
    exact h1.2.2.2.2.2.2.2.2.2.2.2.1 u ff hu hf
  · intro u hu
    have a := OK_Thr h u hu
    unfold isG at a ⊢
    rw [xN_fr aW (by decide), gN_fr aW (by decide), aW 5000 0 u (by decide), aW 5800 0 u (by decide), n47, n48, aW 6300 0 u (by decide)]
    obtain ⟨a1, a2, a3, a4, a5, a6, a7, a8⟩ := a
    refine ⟨a1, a2, a3, a4, a5, ?_, ?_, ?_⟩
    · by_cases e : u = t
      · intro _; rw [e]; exact h48
      · rw [if_neg e]; exact a6
    · by_cases e : u = t
      · rw [if_pos e]; intro q; exact absurd q (by decide)
      · rw [if_neg e]; exact a7
    · by_cases e : u = t
      · rw [if_pos e]; rintro (q | q)
        · exact absurd q (by decide)
        · exact absurd q.1 (by decide)
      · rw [if_neg e]; exact a8
  · by_cases e : u = t
    · rw [e]
      unfold Rt1 at r1 ⊢
      rw [o704, sv_at, aV 705 t 0 (by decide), aV 706 t 0 (by decide), aV 707 t 0 (by decide), aV 708 t 0 (by decide), aV 709 t 0 (by decide), aV 710 t 0 (by decide), aV 712 t 0 (by decide), aV 713 t 0 (by decide), aV 715 t 0 (by decide), aV 716 t 0 (by decide), aV 717 t 0 (by decide), n47, if_pos rfl, n48, aW 4900 0 t (by decide), aW 5000 0 t (by decide), aW 5100 0 t (by decide), aW 5200 0 t (by decide), aW 5300 0 t (by decide), aW 5400 0 t (by decide), aW 5500 0 t (by decide), aW 5600 0 t (by decide), aW 5800 0 t (by decide), aW 6100 0 t (by decide), aW 6300 0 t (by decide)]
      obtain ⟨b1, b2, b3, b4, b5, b6, b7, b8, b9, b10, b11, b12⟩ := r1
      exact ⟨b1, b2, b3, b4, b5, b6, b7, b8, b9, b10, Or.inr ⟨rfl, hst2.2, Or.inr (Or.inr (Or.inr rfl))⟩, fun q => absurd q (by decide)⟩
    · refine Rt1_pt (fun c hc => ?_) (fun c hc => ?_) (z2 u (by rw [← hnth]; exact hu))
      · by_cases e4 : c = 704
        · rw [e4]; exact o704 u
        · by_cases e7 : c = 711
          · rw [e7]; exact o711 u e
          · exact aV c u 0 (by revert c; decide)
      · by_cases e4 : c = 4700
        · rw [e4, n47, if_neg e]
        · by_cases e7 : c = 4800
          · rw [e7]; exact n48 u
          · exact aW c 0 u (by revert c; decide)
  · rw [aV 718 u 0 (by decide), aV 718 v 0 (by decide), aW 5900 0 u (by decide), aW 5900 0 v (by decide)]
    exact z3 u v (by rw [← hnth]; exact hu) (by rw [← hnth]; exact hv)
  · rw [n47] at q1 q2
    by_cases e : u = t
    · rw [if_pos e] at q1; exact absurd q1 (by decide)
    by_cases e' : v = t
    · rw [if_pos e'] at q2; exact absurd q2 (by decide)
    rw [if_neg e] at q1
    rw [if_neg e'] at q2
    rw [aV 714 u 0 (by decide), aV 714 v 0 (by decide), aW 6200 0 u (by decide), aW 6200 0 v (by decide)]
    exact z4 u v (by rw [← hnth]; exact hu) (by rw [← hnth]; exact hv) q1 q2
  · rw [aV 812 0 0 (by decide), aW 6000 0 c (by decide)]
    rw [aW 1048 0 0 (by decide)] at q
    exact z5 c (by rw [← hnth]; exact hc) q
  · unfold Tm
    rw [hnth, aW 1047 0 0 (by decide), aW 1048 0 0 (by decide), aW 1080 0 0 (by decide), aW 1053 0 0 (by decide)]
    refine ⟨t1, fun u hu => ?_, ?_, fun u hu q => ?_, t5⟩
    · rw [aV 718 u 0 (by decide), aW 5900 0 u (by decide)]; exact t2 u hu
    · rcases t3 with t3 | ⟨c, c1, c2, c3⟩
      · exact Or.inl t3
      · refine Or.inr ⟨c, c1, c2, fun o hoo hne => ?_⟩
        rw [aV 718 o 0 (by decide), aV 718 c 0 (by decide), aW 5900 0 o (by decide), aW 5900 0 c (by decide)]
        exact c3 o hoo hne
    · rw [n47] at q
      by_cases e : u = t
      · rw [if_pos e] at q; exact absurd q (by decide)
      · rw [if_neg e] at q
        rw [aV 714 u 0 (by decide), aW 6200 0 u (by decide)]; exact t4 u hu q
  · rw [cW, clr_t (rg2_t (by omega) (by omega))]
    exact gd_num _ _ _
theorem agr_sv2 {cs : List Nat} {V V' : HV} {c o j : Nat} {x y : Int32} (h : agr cs V V') (hxy : y = x) : agr cs (sv V c o j x) (sv V' c o j y) := by
  intro a b e ha
  rw [hxy]
  by_cases q : a = c ∧ b = o ∧ e = j
  · obtain ⟨rfl, rfl, rfl⟩ := q
    rw [sv_at, sv_at]
  · rw [sv_ne q, sv_ne q]; exact h a b e ha
theorem UC_sv {V V' : HV} {f : Nat → Cp} {c o j : Nat} {x y : Int32} (h : UC V f V') (hc : ∀ k ∈ [0, 1, 2, 3, 4, 5], k ∉ [c]) (hxy : y = x) : UC (sv V c o j x) f (sv V' c o j y) := ⟨(cC_fr (agr_sv V' c o j y) hc).trans h.1, agr_sv2 h.2 hxy⟩
theorem OK_setF {x kb T Tw t : Nat} {Y : HV} {l : List Ob} {V W : HV} {c : Int32} (h : OK x kb T Tw t Y l V W) : OK x kb T Tw t Y l (sv V 716 t 0 c) (sv W 5300 0 t c) := by
  refine OK_col h (by decide) (by decide) ?_ (Thr_sv (by decide) (OK_Thr h))
  have r := OK_Rt1 h
  unfold Rt1 at r ⊢
  simp only [sv_col (show ¬ 704 = 716 by decide), sv_col (show ¬ 705 = 716 by decide), sv_col (show ¬ 706 = 716 by decide), sv_col (show ¬ 707 = 716 by decide), sv_col (show ¬ 708 = 716 by decide), sv_col (show ¬ 709 = 716 by decide), sv_col (show ¬ 711 = 716 by decide), sv_col (show ¬ 712 = 716 by decide), sv_col (show ¬ 713 = 716 by decide), sv_col (show ¬ 715 = 716 by decide), sv_col (show ¬ 710 = 716 by decide), sv_col (show ¬ 717 = 716 by decide), sv_col (show ¬ 4700 = 5300 by decide), sv_col (show ¬ 4800 = 5300 by decide), sv_col (show ¬ 4900 = 5300 by decide), sv_col (show ¬ 5000 = 5300 by decide), sv_col (show ¬ 5100 = 5300 by decide), sv_col (show ¬ 5200 = 5300 by decide), sv_col (show ¬ 5400 = 5300 by decide), sv_col (show ¬ 5500 = 5300 by decide), sv_col (show ¬ 5600 = 5300 by decide), sv_col (show ¬ 5800 = 5300 by decide), sv_col (show ¬ 6100 = 5300 by decide), sv_col (show ¬ 6300 = 5300 by decide), sv_at]
  obtain ⟨r1, r2, r3, r4, r5, r6, r7, r8, r9, r10, r11, r12⟩ := r
  exact ⟨r1, r2, r3, r4, r5, r6, r7, r8, trivial, r10, r11, r12⟩
theorem OK_done {x kb T Tw t : Nat} {Y : HV} {l : List Ob} {V W : HV} (h : OK x kb T Tw t Y l V W) : OK x kb T Tw t Y l (sv V 717 t 0 (V 717 t 0 + 1)) (sv W 5400 0 t (W 5400 0 t + 1)) := by
  have r := OK_Rt1 h
  have e := r.2.2.2.2.2.2.2.2.2.1
  rw [e]
  refine OK_col h (by decide) (by decide) ?_ (Thr_sv (by decide) (OK_Thr h))
  unfold Rt1 at r ⊢
  simp only [sv_col (show ¬ 704 = 717 by decide), sv_col (show ¬ 705 = 717 by decide), sv_col (show ¬ 706 = 717 by decide), sv_col (show ¬ 707 = 717 by decide), sv_col (show ¬ 708 = 717 by decide), sv_col (show ¬ 709 = 717 by decide), sv_col (show ¬ 711 = 717 by decide), sv_col (show ¬ 712 = 717 by decide), sv_col (show ¬ 713 = 717 by decide), sv_col (show ¬ 715 = 717 by decide), sv_col (show ¬ 710 = 717 by decide), sv_col (show ¬ 716 = 717 by decide), sv_col (show ¬ 4700 = 5400 by decide), sv_col (show ¬ 4800 = 5400 by decide), sv_col (show ¬ 4900 = 5400 by decide), sv_col (show ¬ 5000 = 5400 by decide), sv_col (show ¬ 5100 = 5400 by decide), sv_col (show ¬ 5200 = 5400 by decide), sv_col (show ¬ 5300 = 5400 by decide), sv_col (show ¬ 5500 = 5400 by decide), sv_col (show ¬ 5600 = 5400 by decide), sv_col (show ¬ 5800 = 5400 by decide), sv_col (show ¬ 6100 = 5400 by decide), sv_col (show ¬ 6300 = 5400 by decide), sv_at]
  obtain ⟨r1, r2, r3, r4, r5, r6, r7, r8, r9, r10, r11, r12⟩ := r
  exact ⟨r1, r2, r3, r4, r5, r6, r7, r8, r9, trivial, r11, r12⟩
