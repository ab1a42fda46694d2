/-! sleep, wait -/
theorem QS_Rt1 {kb T Tw t : Nat} {Y : HV} {l : List Ob} {V W : HV} (h : QS kb T Tw t Y l V W) : Rt1 V W t := by
  obtain ⟨V0, f, h1, h2, h4, h5, hn, hu, ho, hk, hz⟩ := h
  exact Rt1_fr hu.2 (agr_rfl W) (by decide) (by decide) (h1.2.2.2.2.2.2.2.2.2.2.2.2.2.2.1 t (by rw [nth_LY h1.2.1]; exact hn))
theorem QS_st {kb T Tw t : Nat} {Y : HV} {l : List Ob} {V W : HV} (h : QS kb T Tw t Y l V W) (hst : V 711 t 0 = 0) : W 4700 0 t = 0 ∧ W 6300 0 t = 0 := by
  rcases (QS_Rt1 h).2.2.2.2.2.2.2.2.2.2.1 with q | q
  · exact absurd (hst.symm.trans q.1) (by decide)
  · exact ⟨q.1.symm.trans hst, q.2.1⟩
theorem QS_T {kb T Tw t : Nat} {Y : HV} {l : List Ob} {V W : HV} (h : QS kb T Tw t Y l V W) : W 1047 0 0 = nI T ∧ V 810 0 0 = nI T := by
  obtain ⟨V0, f, h1, h2, h4, h5, hn, hu, ho, hk, hz⟩ := h
  refine ⟨h2.1, ?_⟩
  rw [hu.2 810 0 0 (by decide), h1.2.2.1.2.2.2.1]
  exact h2.1
theorem op_sleep {kb T Tw t n : Nat} {Y : HV} {l : List Ob} {V W : HV} (hT1 : Tw ≤ T) (hT2 : T < 1073741824) (hn : n ≤ 10000) (h : QS kb T Tw t Y l V W) (hst : V 711 t 0 = 0) : QR kb T t Y (kC (sv (sv V 711 t 0 1) 712 t 0 (nI (T + n))) (17 * t + 10) (nm 0)) (kM (sv (sv W 4700 0 t 1) 4800 0 t (nI (T + n))) (17 * t + 10) (nm 0)) := by
  have r := QS_Rt1 h
  obtain ⟨s1, s2⟩ := QS_st h hst
  have bV : agr [711, 712] V (sv (sv V 711 t 0 1) 712 t 0 (nI (T + n))) := (agr_sv _ _ _ _ _).app (agr_sv _ _ _ _ _)
  have aW : agr [4700, 4800] W (sv (sv W 4700 0 t 1) 4800 0 t (nI (T + n))) := (agr_sv _ _ _ _ _).app (agr_sv _ _ _ _ _)
  have v1 : (sv (sv V 711 t 0 1) 712 t 0 (nI (T + n))) 711 t 0 = 1 := by rw [sv_col (by decide), sv_at]
  have v2 : (sv (sv V 711 t 0 1) 712 t 0 (nI (T + n))) 712 t 0 = nI (T + n) := sv_at _ _ _ _ _
  have vo : ∀ c, ∀ u, u ≠ t → (sv (sv V 711 t 0 1) 712 t 0 (nI (T + n))) c u 0 = V c u 0 := fun c u hu => by rw [sv_ne (fun q => hu q.2.1), sv_ne (fun q => hu q.2.1)]
  have w1 : (sv (sv W 4700 0 t 1) 4800 0 t (nI (T + n))) 4700 0 t = 1 := by rw [sv_col (by decide), sv_at]
  have w2 : (sv (sv W 4700 0 t 1) 4800 0 t (nI (T + n))) 4800 0 t = nI (T + n) := sv_at _ _ _ _ _
  have wo : ∀ c, ∀ u, u ≠ t → (sv (sv W 4700 0 t 1) 4800 0 t (nI (T + n))) c 0 u = W c 0 u := fun c u hu => by rw [sv_ne (fun q => hu q.2.2), sv_ne (fun q => hu q.2.2)]
  generalize sv (sv V 711 t 0 1) 712 t 0 (nI (T + n)) = V' at *
  generalize sv (sv W 4700 0 t 1) 4800 0 t (nI (T + n)) = W' at *
  refine QR_num (l := l) (QS_col h bV aW (by decide) (by decide) (fun V0 hu h1 h2 h4 => ?_))
  have aV : agr [711, 712] V0 (mrg V0 V') := mrg_agr (f := cC V) ⟨rfl, hu⟩ bV
  have g0 : ∀ c u, ¬ c < 6 → u ≠ t → (mrg V0 V') c u 0 = V0 c u 0 := fun c u hc he => by rw [mrg_ge hc, vo c u he, hu c u 0 (cap_lt hc)]
  refine ⟨ST_state (t := t) h1 (aV.sub (by decide)) (aW.sub (by decide)) (fun c hc u he => g0 c u (by revert c; decide) he) (fun c _ u he => wo c u he) ?_ ?_ (fun q => absurd (w1.symm.trans q) (by decide)), ?_, Jm_fr aW (by decide) h4⟩
  · unfold Rt1 at r ⊢
    rw [mrg_ge (show ¬ 704 < 6 by decide), mrg_ge (show ¬ 705 < 6 by decide), mrg_ge (show ¬ 706 < 6 by decide), mrg_ge (show ¬ 707 < 6 by decide), mrg_ge (show ¬ 708 < 6 by decide), mrg_ge (show ¬ 709 < 6 by decide), mrg_ge (show ¬ 710 < 6 by decide), mrg_ge (show ¬ 711 < 6 by decide), mrg_ge (show ¬ 712 < 6 by decide), mrg_ge (show ¬ 713 < 6 by decide), mrg_ge (show ¬ 715 < 6 by decide), mrg_ge (show ¬ 716 < 6 by decide), mrg_ge (show ¬ 717 < 6 by decide), v1, v2, w1, w2, bV 704 t 0 (by decide), bV 705 t 0 (by decide), bV 706 t 0 (by decide), bV 707 t 0 (by decide), bV 708 t 0 (by decide), bV 709 t 0 (by decide), bV 710 t 0 (by decide), bV 713 t 0 (by decide), bV 715 t 0 (by decide), bV 716 t 0 (by decide), bV 717 t 0 (by decide), aW 4900 0 t (by decide), aW 5000 0 t (by decide), aW 5100 0 t (by decide), aW 5200 0 t (by decide), aW 5300 0 t (by decide), aW 5400 0 t (by decide), aW 5500 0 t (by decide), aW 5600 0 t (by decide), aW 5800 0 t (by decide), aW 6100 0 t (by decide), aW 6300 0 t (by decide)]
    obtain ⟨b1, b2, b3, b4, b5, b6, b7, b8, b9, b10, b11, b12⟩ := r
    exact ⟨b1, b2, b3, b4, b5, b6, b7, rfl, b9, b10, Or.inr ⟨rfl, s2, Or.inr (Or.inl rfl)⟩, fun q => absurd q (by decide)⟩
  · rw [w1, w2, aW 6300 0 t (by decide)]
    refine ⟨fun q => ?_, fun _ q => absurd s2 q, fun _ => m1_ne _ (by omega)⟩
    rcases q with q | q
    · exact absurd q (by decide)
    · exact absurd q (by decide)
  · obtain ⟨o, ho, e53⟩ := h2.2.2.2.2
    refine Tm_state (t := t) (o := o) h2 hT1 (by omega) (aV.sub (by decide)) (aW.sub (by decide)) (fun c hc u he => g0 c u (by revert c; decide) he) (fun c _ u he => wo c u he) (by omega) ?_ ?_ (fun q => absurd (w1.symm.trans q) (by decide))
    · rw [aW 1053 0 0 (by decide)]; exact e53
    · rw [aW 1053 0 0 (by decide)]; exact Int32.le_refl _
theorem op_wait {kb T Tw t n : Nat} {a : Int32} {Y : HV} {l : List Ob} {V W : HV} (hT1 : Tw + 1 = T) (hT2 : T < 1073741824) (hn : n ≤ 10000) (h : QS kb T Tw t Y l V W) (hst : V 711 t 0 = 0) : QR kb T t Y (kC (sv (sv (sv (sv V 713 t 0 a) 714 t 0 (nI T)) 711 t 0 2) 712 t 0 (nI (T + n))) (17 * t + 10) (nm 2)) (kM (sv (sv (sv (sv (sv W 4700 0 t 2) 4800 0 t (nI (T + n))) 6100 0 t a) 6200 0 t (W 1053 0 0)) 1053 0 0 (W 1053 0 0 + 1)) (17 * t + 10) (nm 2)) := by
  have r := QS_Rt1 h
  obtain ⟨s1, s2⟩ := QS_st h hst
  have bV : agr [711, 712, 713, 714] V (sv (sv (sv (sv V 713 t 0 a) 714 t 0 (nI T)) 711 t 0 2) 712 t 0 (nI (T + n))) := ((((agr_sv _ _ _ _ _).app (agr_sv _ _ _ _ _)).app (agr_sv _ _ _ _ _)).app (agr_sv _ _ _ _ _)).sub (by decide)
  have aW : agr [1053, 4700, 4800, 6100, 6200] W (sv (sv (sv (sv (sv W 4700 0 t 2) 4800 0 t (nI (T + n))) 6100 0 t a) 6200 0 t (W 1053 0 0)) 1053 0 0 (W 1053 0 0 + 1)) := (((((agr_sv _ _ _ _ _).app (agr_sv _ _ _ _ _)).app (agr_sv _ _ _ _ _)).app (agr_sv _ _ _ _ _)).app (agr_sv _ _ _ _ _)).sub (by decide)
  have v1 : (sv (sv (sv (sv V 713 t 0 a) 714 t 0 (nI T)) 711 t 0 2) 712 t 0 (nI (T + n))) 711 t 0 = 2 := by rw [sv_col (by decide), sv_at]
  have v2 : (sv (sv (sv (sv V 713 t 0 a) 714 t 0 (nI T)) 711 t 0 2) 712 t 0 (nI (T + n))) 712 t 0 = nI (T + n) := sv_at _ _ _ _ _
  have v3 : (sv (sv (sv (sv V 713 t 0 a) 714 t 0 (nI T)) 711 t 0 2) 712 t 0 (nI (T + n))) 713 t 0 = a := by rw [sv_col (by decide), sv_col (by decide), sv_col (by decide), sv_at]
  have v4 : (sv (sv (sv (sv V 713 t 0 a) 714 t 0 (nI T)) 711 t 0 2) 712 t 0 (nI (T + n))) 714 t 0 = nI T := by rw [sv_col (by decide), sv_col (by decide), sv_at]
  have vo : ∀ c, ∀ u, u ≠ t → (sv (sv (sv (sv V 713 t 0 a) 714 t 0 (nI T)) 711 t 0 2) 712 t 0 (nI (T + n))) c u 0 = V c u 0 := fun c u hu => by rw [sv_ne (fun q => hu q.2.1), sv_ne (fun q => hu q.2.1), sv_ne (fun q => hu q.2.1), sv_ne (fun q => hu q.2.1)]
  have w1 : (sv (sv (sv (sv (sv W 4700 0 t 2) 4800 0 t (nI (T + n))) 6100 0 t a) 6200 0 t (W 1053 0 0)) 1053 0 0 (W 1053 0 0 + 1)) 4700 0 t = 2 := by rw [sv_col (by decide), sv_col (by decide), sv_col (by decide), sv_col (by decide), sv_at]
  have w2 : (sv (sv (sv (sv (sv W 4700 0 t 2) 4800 0 t (nI (T + n))) 6100 0 t a) 6200 0 t (W 1053 0 0)) 1053 0 0 (W 1053 0 0 + 1)) 4800 0 t = nI (T + n) := by rw [sv_col (by decide), sv_col (by decide), sv_col (by decide), sv_at]
  have w3 : (sv (sv (sv (sv (sv W 4700 0 t 2) 4800 0 t (nI (T + n))) 6100 0 t a) 6200 0 t (W 1053 0 0)) 1053 0 0 (W 1053 0 0 + 1)) 6100 0 t = a := by rw [sv_col (by decide), sv_col (by decide), sv_at]
  have w4 : (sv (sv (sv (sv (sv W 4700 0 t 2) 4800 0 t (nI (T + n))) 6100 0 t a) 6200 0 t (W 1053 0 0)) 1053 0 0 (W 1053 0 0 + 1)) 6200 0 t = W 1053 0 0 := by rw [sv_col (by decide), sv_at]
  have w5 : (sv (sv (sv (sv (sv W 4700 0 t 2) 4800 0 t (nI (T + n))) 6100 0 t a) 6200 0 t (W 1053 0 0)) 1053 0 0 (W 1053 0 0 + 1)) 1053 0 0 = W 1053 0 0 + 1 := sv_at _ _ _ _ _
  have wo : ∀ c ∈ [4700, 4800, 6100, 6200, 6300], ∀ u, u ≠ t → (sv (sv (sv (sv (sv W 4700 0 t 2) 4800 0 t (nI (T + n))) 6100 0 t a) 6200 0 t (W 1053 0 0)) 1053 0 0 (W 1053 0 0 + 1)) c 0 u = W c 0 u := fun c hc u hu => by rw [sv_col (by revert c; decide), sv_ne (fun q => hu q.2.2), sv_ne (fun q => hu q.2.2), sv_ne (fun q => hu q.2.2), sv_ne (fun q => hu q.2.2)]
  generalize sv (sv (sv (sv V 713 t 0 a) 714 t 0 (nI T)) 711 t 0 2) 712 t 0 (nI (T + n)) = V' at *
  generalize sv (sv (sv (sv (sv W 4700 0 t 2) 4800 0 t (nI (T + n))) 6100 0 t a) 6200 0 t (W 1053 0 0)) 1053 0 0 (W 1053 0 0 + 1) = W' at *
  refine QR_num (l := l) (QS_col h bV aW (by decide) (by decide) (fun V0 hu h1 h2 h4 => ?_))
  have aV : agr [711, 712, 713, 714] V0 (mrg V0 V') := mrg_agr (f := cC V) ⟨rfl, hu⟩ bV
  have g0 : ∀ c u, ¬ c < 6 → u ≠ t → (mrg V0 V') c u 0 = V0 c u 0 := fun c u hc he => by rw [mrg_ge hc, vo c u he, hu c u 0 (cap_lt hc)]
  obtain ⟨o, ho, e53⟩ := h2.2.2.2.2
  refine ⟨ST_state (t := t) h1 (aV.sub (by decide)) (aW.sub (by decide)) (fun c hc u he => g0 c u (by revert c; decide) he) wo ?_ ?_ (fun _ u hu2 he q => ?_), ?_, Jm_fr aW (by decide) h4⟩
  · unfold Rt1 at r ⊢
    rw [mrg_ge (show ¬ 704 < 6 by decide), mrg_ge (show ¬ 705 < 6 by decide), mrg_ge (show ¬ 706 < 6 by decide), mrg_ge (show ¬ 707 < 6 by decide), mrg_ge (show ¬ 708 < 6 by decide), mrg_ge (show ¬ 709 < 6 by decide), mrg_ge (show ¬ 710 < 6 by decide), mrg_ge (show ¬ 711 < 6 by decide), mrg_ge (show ¬ 712 < 6 by decide), mrg_ge (show ¬ 713 < 6 by decide), mrg_ge (show ¬ 715 < 6 by decide), mrg_ge (show ¬ 716 < 6 by decide), mrg_ge (show ¬ 717 < 6 by decide), v1, v2, v3, w1, w2, w3, bV 704 t 0 (by decide), bV 705 t 0 (by decide), bV 706 t 0 (by decide), bV 707 t 0 (by decide), bV 708 t 0 (by decide), bV 709 t 0 (by decide), bV 710 t 0 (by decide), bV 715 t 0 (by decide), bV 716 t 0 (by decide), bV 717 t 0 (by decide), aW 4900 0 t (by decide), aW 5000 0 t (by decide), aW 5100 0 t (by decide), aW 5200 0 t (by decide), aW 5300 0 t (by decide), aW 5400 0 t (by decide), aW 5500 0 t (by decide), aW 5600 0 t (by decide), aW 5800 0 t (by decide), aW 6300 0 t (by decide)]
    obtain ⟨b1, b2, b3, b4, b5, b6, b7, b8, b9, b10, b11, b12⟩ := r
    exact ⟨b1, b2, b3, b4, b5, b6, b7, rfl, b9, b10, Or.inr ⟨rfl, s2, Or.inr (Or.inr (Or.inl rfl))⟩, fun _ => rfl⟩
  · rw [w1, w2, aW 6300 0 t (by decide)]
    refine ⟨fun q => ?_, fun q => absurd q (by decide), fun _ => m1_ne _ (by omega)⟩
    rcases q with q | q
    · exact absurd q (by decide)
    · exact absurd q (by decide)
  · obtain ⟨z1, z2⟩ := h2.2.2.2.1 u hu2 q
    rw [mrg_ge (show ¬ 714 < 6 by decide), v4, w4]
    exact ⟨Int32.lt_of_le_of_lt z1 (nI_lt (by omega) (by omega)), z2⟩
  · refine Tm_state (t := t) (o := o + 1) h2 (by omega) (by omega) (aV.sub (by decide)) (aW.sub (by decide)) (fun c hc u he => g0 c u (by revert c; decide) he) wo (by omega) ?_ ?_ (fun _ => ?_)
    · rw [w5, e53, nI_1]
    · rw [w5, e53, nI_1]; exact nI_le (by omega) (by omega)
    · rw [mrg_ge (show ¬ 714 < 6 by decide), v4, w4, w5, e53, nI_1]
      exact ⟨Int32.le_refl _, nI_lt (by omega) (by omega)⟩
