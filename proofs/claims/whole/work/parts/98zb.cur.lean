/-! the chosen thread -/
theorem OK_cur {kb T u : Nat} {Y : HV} {l : List Ob} {V V' W W' : HV} (h : ST 1000 kb Y l V W) (hT : Tm (T + 1) T V W) (hJ : Jm Y l W) (hT2 : T < 1073741824) (hu : u < nth Y) (hV : agr [0, 1, 2, 3, 4, 5, 718, 811, 812, 816] V V') (hW : agr [1048, 1052, 1080, 2400, 2500, 2600, 2700, 2800, 2900, 5900, 6000] W W')
  (hc : CpsF 1000 Y l (okc W) (cC V') (cM W')) (hf : ∀ i, 102 ≤ i → cM W' i = cM W i) (e811 : V' 811 0 0 = nI u) (e48 : W' 1048 0 0 = nI u) (e80 : W' 1080 0 0 = nI u) (e718 : V' 718 u 0 = nI (T + 1)) (o718 : ∀ w, w ≠ u → V' 718 w 0 = V 718 w 0) (o59 : ∀ w, w ≠ u → W' 5900 0 w = W 5900 0 w) (l59 : W' 5900 0 u ≤ nI (T + 1)) (e812 : V' 812 0 0 = W' 6000 0 u) (e816 : V' 816 0 0 = W' 1052 0 0)
  (hord : ∀ o, o < nth Y → o ≠ u → V' 718 o 0 < V' 718 u 0 ∧ W' 5900 0 o < W' 5900 0 u) (hJr : Jr Y l W' u) : OK 1000 kb (T + 1) T u Y l V' W' := by
  have hnth : nth W' = nth W := nth_fr hW (by decide)
  have hnY := nth_LY h.2.1
  have hL := h.1
  obtain ⟨t1, t2, t3, t4, t5⟩ := hT
  obtain ⟨z1, z2, z3, z4, z5⟩ := h.2.2.2.2.2.2.2.2.2.2.2.2.2
  obtain ⟨s1, s2, s3, s4, s5, s6, s7, s8, s9⟩ := h.2.2.1
  have u6 : u < 6 := Nat.lt_of_lt_of_le hu hL.2.2.2.2.1
  refine ⟨ST_gen h (hV.sub (by decide)) (hW.sub (by decide)) ?_ ?_ ?_ (Thr_fr hW (by decide) h.2.2.2.2.2.2.2.2.2.2.2.2.1) ⟨fun w hw => (hV 700 w 0 (by decide)).trans (z1 w hw), fun w hw => Rt1_fr hV hW (by decide) (by decide) (z2 w (by rw [← hnth]; exact hw)), fun a b ha hb => ?_, fun a b ha hb q1 q2 => ?_, fun c hc2 q => ?_⟩, ?_, hJr, Jm_fr hW (by decide) hJ, e80, hu⟩
  · unfold Rs
    rw [hV 807 0 0 (by decide), hV 808 0 0 (by decide), hV 809 0 0 (by decide), hV 810 0 0 (by decide), e811, hV 813 0 0 (by decide), hV 814 0 0 (by decide), hV 815 0 0 (by decide), e816, hW 1018 0 0 (by decide), hW 1019 0 0 (by decide), hW 1017 0 0 (by decide), hW 1047 0 0 (by decide), e48, hW 1049 0 0 (by decide), hW 1050 0 0 (by decide), hW 1051 0 0 (by decide)]
    exact ⟨s1, s2, s3, s4, rfl, s6, s7, s8, rfl⟩
  · unfold Cps
    rw [okc_fr hW (by decide)]
    exact hc
  · intro w f hw hff
    rw [xN_fr hW (by decide)] at hff
    have ek := hf (102 + 80 * w + 5 * f + 1) (by omega)
    rw [hV 206 _ 0 (by decide), hV 205 _ 0 (by decide), hW 6400 0 _ (by decide), hW 6500 0 _ (by decide), hW 6600 0 _ (by decide), show W' 2600 0 (102 + 80 * w + 5 * f + 1) = W 2600 0 (102 + 80 * w + 5 * f + 1) from cM_2 ek, show W' 2400 0 (102 + 80 * w + 5 * f + 1) = W 2400 0 (102 + 80 * w + 5 * f + 1) from cM_0 ek]
    exact h.2.2.2.2.2.2.2.2.2.2.2.1 w f hw hff
  · rw [hnth, hnY] at ha hb
    by_cases ea : a = u
    · by_cases eb : b = u
      · rw [ea, eb]
        exact ⟨fun q => (Int32.lt_irrefl q).elim, fun q => (Int32.lt_irrefl q).elim⟩
      · obtain ⟨o1, o2⟩ := hord b hb eb
        rw [ea]
        exact ⟨fun q => (Int32.lt_irrefl (Int32.lt_trans o1 q)).elim, fun q => (Int32.lt_irrefl (Int32.lt_trans o2 q)).elim⟩
    · by_cases eb : b = u
      · obtain ⟨o1, o2⟩ := hord a ha ea
        rw [eb]
        exact ⟨fun _ => o2, fun _ => o1⟩
      · rw [o718 a ea, o718 b eb, o59 a ea, o59 b eb]
        exact z3 a b (by rw [hnY]; exact ha) (by rw [hnY]; exact hb)
  · rw [hV 714 a 0 (by decide), hV 714 b 0 (by decide), hW 6200 0 a (by decide), hW 6200 0 b (by decide)]
    rw [hW 4700 0 a (by decide)] at q1
    rw [hW 4700 0 b (by decide)] at q2
    exact z4 a b (by rw [← hnth]; exact ha) (by rw [← hnth]; exact hb) q1 q2
  · rw [e48] at q
    rw [hnth, hnY] at hc2
    have h6' := hL.2.2.2.2.1
    have : u = c := nI_inj (by omega) (by omega) q
    rw [← this]; exact e812
  · unfold Tm
    rw [hnth, hW 1047 0 0 (by decide), hW 1053 0 0 (by decide)]
    refine ⟨t1, fun w hw => ?_, Or.inr ⟨u, by rw [hnY]; exact hu, ⟨e48, e80⟩, fun o ho hne => hord o (by rw [← hnY]; exact ho) hne⟩, fun w hw q => ?_, t5⟩
    · by_cases e : w = u
      · rw [e, e718]
        exact ⟨Int32.le_refl _, l59⟩
      · rw [o718 w e, o59 w e]; exact t2 w hw
    · rw [hW 4700 0 w (by decide)] at q
      rw [hV 714 w 0 (by decide), hW 6200 0 w (by decide)]; exact t4 w hw q
/-- nobody runs -/
theorem RS_idle {kb T : Nat} {Y : HV} {l : List Ob} {V V' W W' : HV} (h : ST 1000 kb Y l V W) (hT : Tm (T + 1) T V W) (hJ : Jm Y l W) (hT2 : T < 1073741824) (aV : agr [811, 812] V V') (aW : agr [1048] W W') (e1 : V' 811 0 0 = -1) (e2 : W' 1048 0 0 = -1) : ST 1000 kb Y l V' W' ∧ Tm (T + 1) (T + 1) V' W' ∧ Jm Y l W' := by
  have hm1 : ∀ c, c < 6 → ¬ (-1 : Int32) = nI c := fun c hc q => m1_ne c (by omega) q.symm
  have hn : nth W' = nth W := nth_fr aW (by decide)
  refine ⟨ST_thr h (aV.sub (by decide)) (aW.sub (by decide)) ?_ (Thr_fr aW (by decide) h.2.2.2.2.2.2.2.2.2.2.2.2.1) ?_, ?_, Jm_fr aW (by decide) hJ⟩
  · obtain ⟨s1, s2, s3, s4, s5, s6, s7, s8, s9⟩ := h.2.2.1
    unfold Rs
    rw [aV 807 0 0 (by decide), aV 808 0 0 (by decide), aV 809 0 0 (by decide), aV 810 0 0 (by decide), e1, aV 813 0 0 (by decide), aV 814 0 0 (by decide), aV 815 0 0 (by decide), aV 816 0 0 (by decide), aW 1018 0 0 (by decide), aW 1019 0 0 (by decide), aW 1017 0 0 (by decide), aW 1047 0 0 (by decide), e2, aW 1049 0 0 (by decide), aW 1050 0 0 (by decide), aW 1051 0 0 (by decide), aW 1052 0 0 (by decide)]
    exact ⟨s1, s2, s3, s4, rfl, s6, s7, s8, s9⟩
  · obtain ⟨z1, z2, z3, z4, z5⟩ := h.2.2.2.2.2.2.2.2.2.2.2.2.2
    refine ⟨fun u hu => (aV 700 u 0 (by decide)).trans (z1 u hu), fun u hu => Rt1_fr aV aW (by decide) (by decide) (z2 u (by rw [← hn]; exact hu)), fun u v hu hv => ?_, fun u v hu hv q1 q2 => ?_, fun c hc q => ?_⟩
    · rw [aV 718 u 0 (by decide), aV 718 v 0 (by decide), aW 5900 0 u (by decide), aW 5900 0 v (by decide)]
      exact z3 u v (by rw [← hn]; exact hu) (by rw [← hn]; exact hv)
    · rw [aV 714 u 0 (by decide), aV 714 v 0 (by decide), aW 6200 0 u (by decide), aW 6200 0 v (by decide)]
      rw [aW 4700 0 u (by decide)] at q1
      rw [aW 4700 0 v (by decide)] at q2
      exact z4 u v (by rw [← hn]; exact hu) (by rw [← hn]; exact hv) q1 q2
    · rw [e2] at q
      rw [hn, nth_LY h.2.1] at hc
      exact absurd q (hm1 c (Nat.lt_of_lt_of_le hc h.1.2.2.2.2.1))
  · obtain ⟨a1, a2, a3, a4, a5⟩ := Tm_up hT (Nat.le_succ T) (by omega)
    unfold Tm
    rw [hn, aW 1047 0 0 (by decide), e2, aW 1053 0 0 (by decide)]
    refine ⟨a1, fun u hu => ?_, Or.inl rfl, fun u hu q => ?_, a5⟩
    · rw [aV 718 u 0 (by decide), aW 5900 0 u (by decide)]; exact a2 u hu
    · rw [aW 4700 0 u (by decide)] at q
      rw [aV 714 u 0 (by decide), aW 6200 0 u (by decide)]; exact a4 u hu q
theorem cf_L {kb u : Nat} {l : List Ob} (hu : u < 6) : ∀ (r k f : Nat) (W : HV), k + r = 17 → r < f → Rv kb l W → ∃ W', (∀ K : HV → Option HV, f_X12_chooses_L249 0 (nI u) K f (nI k) W = K W') ∧ UM W (fla kb l (rg2 u k 17) (cM W)) W'
  | _, _, 0, _, _, hf, _ => absurd hf (by omega)
  | 0, k, f + 1, W, hk, _, _ => by
    refine ⟨W, fun K => ?_, ?_, (agr_rfl W).sub (by decide)⟩
    · unfold f_X12_chooses_L249
      rw [if_pos (show (16 : Int32) < nI k from nI_lt (a := 16) (by omega) (by omega))]
    · funext i
      rw [fla_f (rg2_0 (by omega) i)]
  | r + 1, k, f + 1, W, hk, hf, hr => by
    obtain ⟨W1, a1, u1⟩ := filter_M (i := 17 * u + k) hr (by omega)
    obtain ⟨W', e1, e2⟩ := cf_L (kb := kb) (l := l) hu r (k + 1) f W1 (by omega) (by omega) (Rv_fr hr u1.2 (by decide) (by decide))
    refine ⟨W', fun K => ?_, ?_, (u1.trans e2).2⟩
    · unfold f_X12_chooses_L249
      rw [if_neg (show ¬ (16 : Int32) < nI k from nI_nlt (b := k) (a := 16) (by omega) (by omega)), lt_def, reg_M', a1, bnd_some, lt_def, nI_1]
      exact e1 K
    · rw [e2.1, u1.1]
      funext i
      by_cases h1 : i = 17 * u + k
      · rw [h1, fla_f (rg2_f (by omega)), fla_t (rg2_t (by omega) (by omega)), up_at]
      · unfold fla
        rw [up_ne h1, rg2_n h1]
