theorem RZ_fr {cn kb : Nat} {V V' W W' : HV} (h : ∀ Y l T, RQ kb T Y l V W → RQ kb T Y l V' W') (hz : RZ cn kb V W) : RZ (cn + 1) kb V' W' := by
  obtain ⟨Y, l, T, h1, h2⟩ := hz
  exact ⟨Y, l, T, by omega, h Y l T h2⟩
theorem feed_S : S_feed RZ := by
  intro cn kb V W _ hz x1 x2 x3 x4 x5
  obtain ⟨Y, l, T, hT, hq⟩ := id hz
  obtain ⟨r, V', W', a1, a2, a3, a4, a5⟩ := feed_all (kb := kb) hq.1.2.2.2.1 x1 x2 x3 x4 x5
  refine ⟨r, V', W', a1, a2, RZ_fr (fun Y l T h => ?_) hz⟩
  obtain ⟨⟨h1, h2, h3, h4, h5, h6, h7, h8, h9, h10, h11, h12, h13, h14⟩, g2, g3, g4, g5⟩ := h
  exact ⟨⟨h1, LY_fr a5 (by decide) h2, Rs_fr a4 a5 (by decide) (by decide) h3, a3, Rc_fr a4 a5 (by decide) (by decide) h5, Rm_fr a4 a5 (by decide) (by decide) h6, Ri_fr a4 a5 (by decide) (by decide) h7, In_fr a5 (by decide) h8, Hp_fr a4 a5 (by decide) (by decide) h9, Cps_fr a4 a5 (by decide) (by decide) h10, Mgd_fr a5 (by decide) h11, Frm_fr a4 a5 (by decide) (by decide) h12, Thr_fr a5 (by decide) h13, Rt_fr a4 a5 (by decide) (by decide) h14⟩, Tm_fr a4 a5 (by decide) (by decide) g2, Jm_fr a5 (by decide) g3, g4, fun t ht q => Jr_fr a5 (by decide) (g5 t ht ((a5 1048 0 0 (by decide)).symm.trans q))⟩
theorem input_S : S_input RZ := by
  intro cn kb V W _ hz x1
  obtain ⟨Y, l, T, hT, hq⟩ := id hz
  obtain ⟨r, V', W', a1, a2, a3, a4, a5⟩ := in_all (kb := kb) hq.1.2.2.1 hq.1.2.2.2.2.2.2.1 x1
  refine ⟨r, V', W', a1, a2, RZ_fr (fun Y l T h => ?_) hz⟩
  obtain ⟨h1, g2, g3, g4, g5⟩ := h
  exact ⟨ST_io h1 (a4.sub (by decide)) (a5.sub (by decide)) a3, Tm_fr a4 a5 (by decide) (by decide) g2, Jm_fr a5 (by decide) g3, g4, fun t ht q => Jr_fr a5 (by decide) (g5 t ht ((a5 1048 0 0 (by decide)).symm.trans q))⟩
theorem fetch_S : S_fetch RZ := by
  intro cn kb V W _ hz
  obtain ⟨Y, l, T, hT, hq⟩ := id hz
  obtain ⟨r, V', W', a1, a2, a3, a4, a5⟩ := fetch_all (kb := kb) hq.1.2.2.2.2.2.2.1
  refine ⟨r, V', W', a1, a2, RZ_fr (fun Y l T h => ?_) hz⟩
  obtain ⟨h1, g2, g3, g4, g5⟩ := h
  exact ⟨ST_io h1 (a4.sub (by decide)) (a5.sub (by decide)) a3, Tm_fr a4 a5 (by decide) (by decide) g2, Jm_fr a5 (by decide) g3, g4, fun t ht q => Jr_fr a5 (by decide) (g5 t ht ((a5 1048 0 0 (by decide)).symm.trans q))⟩
theorem Cps_Rk {kb : Nat} {Y : HV} {l : List Ob} {V W : HV} (h : ST 1000 kb Y l V W) : Rk V W := by
  intro i hok
  have hi : i < 582 := by
    rcases hok with ⟨o1, _⟩ | ⟨_, o2, _⟩ <;> omega
  exact Rk1_iff.mpr ((h.2.2.2.2.2.2.2.2.2.1 i hi).1 hok (by omega))
theorem sim_main : ∃ RR, SIM RR := by
  refine ⟨RZ, start_all, fun cn kb V W h => RZ_up h, feed_S, boot_all, ?_, run_all, input_S, fetch_S, ?_, ?_, ?_, ?_, ?_, heap_all, ?_, broken_all⟩
  · intro cn kb V W _ hz
    obtain ⟨Y, l, T, hT, hq⟩ := hz
    exact ⟨_, look_place hq.1.2.2.2.1, rfl⟩
  · intro cn kb V W _ hz x1 x2 x3
    obtain ⟨Y, l, T, hT, hq⟩ := hz
    exact look_register hq.1.2.2.1 (Cps_Rk hq.1) hq.1.2.2.2.2.2.2.2.1 x1 x2 x3
  · intro cn kb V W _ hz x1 x2
    obtain ⟨Y, l, T, hT, hq⟩ := hz
    exact look_memory hq.1.2.2.1 hq.1.2.2.2.2.2.1 hq.1.2.2.2.2.2.2.2.1 x1 x2
  · intro cn kb V W _ hz x1
    obtain ⟨Y, l, T, hT, hq⟩ := hz
    exact look_tag hq.1.2.2.1 hq.1.2.2.2.2.2.1 hq.1.2.2.2.2.2.2.2.1 x1
  · intro cn kb V W _ hz x1 x2
    obtain ⟨Y, l, T, hT, hq⟩ := hz
    exact look_thread hq.1.2.2.1 hq.1.2.2.2.2.2.2.2.2.2.2.2.2.2 hq.1.2.2.2.2.2.2.2.1 x1 x2
  · intro cn kb V W _ hz x1 x2
    obtain ⟨Y, l, T, hT, hq⟩ := hz
    exact look_compartment hq.1.2.2.1 hq.1.2.2.2.2.1 hq.1.2.2.2.2.2.2.2.1 x1 x2
  · intro cn kb V W _ hz x1
    obtain ⟨Y, l, T, hT, hq⟩ := hz
    exact ⟨_, look_count hq.1.2.2.1 hq.1.2.2.2.1 hq.1.2.2.2.2.2.2.1 x1, rfl⟩
