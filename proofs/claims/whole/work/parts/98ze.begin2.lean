/-! the state when a sweep begins -/
theorem ST_hl {x kb : Nat} {Y : HV} {l l' : List Ob} {V V' W W' : HV} (h : ST x kb Y l V W) (hV : agr [303, 304, 305, 306, 307, 308, 2500, 2600] V V') (hW : agr [1055, 1060, 1061, 1062, 7600, 7700, 7800, 7900] W W') (hH : Hp kb Y l' V' W') (hl : ∀ o, o ∈ l → ∃ o', o' ∈ l' ∧ o'.1 = o.1 ∧ o'.2.1 = o.2.1) : ST x kb Y l' V' W' := by
  obtain ⟨h1, h2, h3, h4, h5, h6, h7, h8, h9, h10, h11, h12, h13, h14⟩ := h
  refine ⟨h1, LY_fr hW (by decide) h2, Rs_fr hV hW (by decide) (by decide) h3, Rl_fr hV hW (by decide) (by decide) h4, Rc_fr hV hW (by decide) (by decide) h5, Rm_fr hV hW (by decide) (by decide) h6, Ri_fr hV hW (by decide) (by decide) h7, In_fr hW (by decide) h8, hH, fun i hi => ?_, fun q hq => gd_map hl (Mgd_fr hW (by decide) h11 q hq), Frm_fr hV hW (by decide) (by decide) h12, Thr_fr hW (by decide) h13, Rt_fr hV hW (by decide) (by decide) h14⟩
  have := Cps_fr hV hW (by decide) (by decide) h10 i hi
  exact ⟨this.1, gd_map hl this.2.1, this.2.2⟩
theorem RQ_ask {kb T : Nat} {Y : HV} {l : List Ob} {V W : HV} (h : RQ kb T Y l V W) : RQ kb T Y l (sv V 308 0 0 (b2i false)) (sv W 1060 0 0 (b2i false)) := by
  obtain ⟨h1, h2, h3, h4, h5⟩ := h
  have aV : agr [308] V (sv V 308 0 0 (b2i false)) := agr_sv V 308 0 0 _
  have aW : agr [1060] W (sv W 1060 0 0 (b2i false)) := agr_sv W 1060 0 0 _
  refine ⟨ST_hp h1 (aV.sub (by decide)) (aW.sub (by decide)) ?_, Tm_fr aV aW (by decide) (by decide) h2, Jm_fr aW (by decide) h3, h4, fun t ht q => Jr_fr aW (by decide) (h5 t ht ((aW 1048 0 0 (by decide)).symm.trans q))⟩
  obtain ⟨s1, s2, s3, s4⟩ := h1.2.2.2.2.2.2.2.2.1.2.2.2.1
  unfold HpS
  rw [aV 307 0 0 (by decide), aV 306 0 0 (by decide), sv_at, aW 1061 0 0 (by decide), aW 1062 0 0 (by decide), sv_at]
  exact ⟨s1, s2, rfl, s4⟩
theorem sweep_begin {kb T : Nat} {Y : HV} {l : List Ob} {V W : HV} (h : RQ kb T Y l V W) (hsw : W 1061 0 0 = -1) : ∃ V' W' l', f_X10_sweep kb 0 V = some V' ∧ f_X12_sweep 0 W = some W' ∧ RQ kb T Y l' V' W' := by
  obtain ⟨h1, h2, h3, h4, h5⟩ := id h
  have hL := h1.1
  have hkb := hL.2.1
  have hhp := hL.2.2.2.2.2.2.2.2.1
  obtain ⟨hs, ⟨b1, b2, b3, b4, b5⟩, hM, hS, hRv⟩ := h1.2.2.2.2.2.2.2.2.1
  have h10 : W 1000 0 0 = nI (1024 * kb) := (h1.2.1 1000 (by decide) 0 0).trans hL.2.2.1
  have h54 : W 1054 0 0 = nI (16 * hp Y) := (h1.2.1 1054 (by decide) 0 0).trans hL.2.2.2.2.2.2.2.1
  have hlen := srt_len l _ hs
  have htot := tot_le l _ hs
  have hfs : ∀ K : Int32 → Option HV, f_X12_sweep_L12 0 W K FU 0 0 = K (nI (16 * hld l)) := fun K => by
    have := fs_L (W := W) (K := K) l 0 FU 0 (fun i o hi => by rw [Nat.zero_add]; exact ⟨(hM.2 i o hi).2.1, (hM.2 i o hi).2.2.1⟩) (by rw [Nat.zero_add]; exact hM.1) (by omega) (FU_gt (by omega))
    rw [Nat.zero_add] at this
    exact this
  have e307 : V 307 0 0 = -1 := hS.1.trans hsw
  have hask : i2b (V 308 0 0) = i2b (W 1060 0 0) := hS.2.2.1
  unfold f_X10_sweep f_X12_sweep
  rw [e307, if_neg (show ¬ (0 : Int32) ≤ -1 by decide), if_pos hsw, jn_def, hfs]
  unfold f_X4_beginSweepIfDue
  rw [jn_def, jn_def, b5, b1]
  have notdue : ∀ X : Bool, X = false → ∃ V' W' l', (bnd (some (sv V 308 0 0 (b2i X))) fun p15 => some p15) = some V' ∧ (lt (sv W 1060 0 0 (b2i false)) fun V126 => some V126) = some W' ∧ RQ kb T Y l' V' W' := by
    intro X hX
    rw [hX, bnd_some, lt_def]
    exact ⟨_, _, l, rfl, rfl, RQ_ask h⟩
  by_cases hz : hld l = 0
  · rw [hz, if_pos (show nI 0 ≤ 0 by decide), jn_def, if_pos (show nI (16 * 0) ≤ 0 by decide)]
    dsimp only
    rw [lt_def, if_pos (show nI 0 ≤ 0 by decide), lt_def, if_neg (show ¬ false = true by decide), Bool.and_false]
    exact notdue false rfl
  · have hp0 : 0 < hld l := by omega
    have n1 : ¬ nI (hld l) ≤ 0 := nI_nle hp0 (by omega)
    have n2 : ¬ nI (16 * hld l) ≤ 0 := nI_nle (by omega) (by omega)
    rw [if_neg n1, jn_def, jn_def, if_neg n2, jn_def, hask]
    have hcond : (4 * nI (hld l) < (Int32.ofNat (64 * kb)) - nI (hp Y)) ↔ (4 * nI (16 * hld l) < W 1000 0 0 - W 1054 0 0) := by
      rw [h10, h54, ofNat_nI, nI_sub (by omega), nI_sub (by omega), show (4 : Int32) = nI 4 from rfl, pk_mul, pk_mul, nI_ltI (by omega) (by omega), nI_ltI (by omega) (by omega)]
      omega
    have due : ∃ V' W' l', (bnd (lt (if nI (hld l) ≤ 0 then (false) else (if true = true then (false) else (true)) : Bool) fun v4 =>
      lt (sv V 308 0 0 (b2i ((i2b (W 1060 0 0)) && v4))) fun V6 =>
      if true = true then (lt (sv V6 307 0 0 0) fun V8 =>
      lt (V8 302 0 0) fun v9 =>
      jn (fun V12 =>
      some V12) fun k10 =>
      f_X4_beginSweepIfDue_L78 kb k10 FU v9 V8) else (some V6)) fun p15 => some p15) = some V' ∧ (lt (sv W 1061 0 0 0) fun V130 =>
      jn (fun V133 =>
      (fun V123 => lt (sv V123 1060 0 0 (b2i false)) fun V126 => some V126) V133) fun k131 =>
      f_X12_sweep_L81 0 k131 FU 0 V130) = some W' ∧ RQ kb T Y l' V' W' := by
      rw [lt_def, if_neg n1, if_pos rfl, lt_def, Bool.and_false, if_pos rfl, lt_def, lt_def, sv_col (show ¬ 302 = 307 by decide), sv_col (show ¬ 302 = 308 by decide), b1, jn_def]
      have a8 : agr [307, 308] V (sv (sv V 308 0 0 (b2i false)) 307 0 0 0) := ((agr_sv _ _ _ _ _).app (agr_sv _ _ _ _ _)).sub (by decide)
      have e8 : (sv (sv V 308 0 0 (b2i false)) 307 0 0 0) 307 0 0 = 0 := sv_at _ _ _ _ _
      have e8' : (sv (sv V 308 0 0 (b2i false)) 307 0 0 0) 308 0 0 = b2i false := by rw [sv_col (by decide), sv_at]
      generalize sv (sv V 308 0 0 (b2i false)) 307 0 0 0 = V8 at *
      obtain ⟨V12, p1, p2, p3, p4⟩ := bg_L (kb := kb) hkb l (hp Y) FU V8 hs (fun g y1 y2 => by rw [a8 2500 0 g (by decide), a8 2600 0 g (by decide)]; exact b2 g y2) (by have := FU_gt (k := 5000) (by decide); omega)
      obtain ⟨W8, q1, q2, q3, q4⟩ := ss_L l 0 FU (sv W 1061 0 0 0) (fun i o hi => by rw [Nat.zero_add, sv_col (by decide)]; exact (hM.2 i o hi).2.2.1) (by rw [Nat.zero_add, sv_col (by decide)]; exact hM.1) (by omega) (FU_gt (by omega))
      have q1' : ∀ K : HV → Option HV, f_X12_sweep_L81 0 K FU 0 (sv W 1061 0 0 0) = K W8 := q1
      rw [p1, bnd_some, lt_def, jn_def, q1']
      show ∃ V' W' l', some V12 = some V' ∧ some (sv W8 1060 0 0 (b2i false)) = some W' ∧ RQ kb T Y l' V' W'
      have aV : agr [307, 308, 2600] V V12 := (a8.app p2).sub (by decide)
      have aW : agr [1060, 1061, 7900] W (sv W8 1060 0 0 (b2i false)) := (((agr_sv _ _ _ _ _).app q2).app (agr_sv _ _ _ _ _)).sub (by decide)
      have w61 : (sv W8 1060 0 0 (b2i false)) 1061 0 0 = 0 := by rw [sv_col (by decide), q2 1061 0 0 (by decide), sv_at]
      have w60 : (sv W8 1060 0 0 (b2i false)) 1060 0 0 = b2i false := sv_at _ _ _ _ _
      have w79 : ∀ i o, l[i]? = some o → i2b ((sv W8 1060 0 0 (b2i false)) 7900 0 i) = decide (o.2.2 ≠ 1) := fun i o hi => by
        have := q4 i o hi
        rw [Nat.zero_add] at this
        rw [sv_col (by decide)]; exact this
      generalize sv W8 1060 0 0 (b2i false) = W9 at *
      obtain ⟨n1', n2', n3', n4'⟩ := cnt_mk3 l
      have hH : Hp kb Y (mk3 l) V12 W9 := by
        refine ⟨srt_mk3 l _ hs, ⟨?_, fun g hg => ⟨?_, ?_⟩, ?_, ?_, ?_⟩, ⟨?_, fun i o hi => ?_⟩, ⟨?_, ?_, ?_, ?_⟩, fun g hg => ?_⟩
        · rw [aV 302 0 0 (by decide)]; exact b1
        · rw [aV 2500 0 g (by decide), lk_mk3]; exact (b2 g hg).1
        · by_cases z : hp Y ≤ g
          · exact p4 g z hg
          · rw [p3 g (by omega), a8 2600 0 g (by decide), (b2 g hg).2, lk_lo hs (by omega), lk_lo (srt_mk3 l _ hs) (by omega)]
        · rw [aV 303 0 0 (by decide), n1']; exact b3
        · rw [aV 304 0 0 (by decide), n2']; exact b4
        · rw [aV 305 0 0 (by decide), n3']; exact b5
        · rw [aW 1055 0 0 (by decide), hM.1]; unfold mk3; rw [List.length_map]
        · unfold mk3 at hi
          rw [List.getElem?_map] at hi
          cases hq : l[i]? with
          | none => rw [hq] at hi; cases hi
          | some o2 =>
            rw [hq] at hi
            have e : o = (if o2.2.2 = 2 then (o2.1, o2.2.1, 3) else o2) := (Option.some.inj hi).symm
            obtain ⟨m1, m2, m3⟩ := mk3_1 o2
            obtain ⟨y1, y2, y3, y4⟩ := hM.2 i o2 hq
            have ym := srt_mem hs (List.mem_of_getElem? hq)
            rw [e, m1, m2, m3, aW 7600 0 i (by decide), aW 7700 0 i (by decide), aW 7800 0 i (by decide), w79 i o2 hq]
            refine ⟨y1, y2, ?_, ?_⟩
            · rw [y3]
              apply decide_eq_decide.mpr
              by_cases q : o2.2.2 = 2
              · rw [if_pos q]; omega
              · rw [if_neg q]
            · apply decide_eq_decide.mpr
              by_cases q : o2.2.2 = 2
              · rw [if_pos q]; omega
              · rw [if_neg q]; omega
        · rw [p2 307 0 0 (by decide), e8, w61]
        · rw [aV 306 0 0 (by decide), aW 1062 0 0 (by decide)]; exact hS.2.1
        · rw [p2 308 0 0 (by decide), e8', w60]
        · exact Or.inr ⟨0, by omega, w61⟩
        · rw [aW 2300 0 g (by decide), n4']; exact hRv g hg
      refine ⟨V12, W9, mk3 l, rfl, rfl, ST_hl h1 (aV.sub (by decide)) (aW.sub (by decide)) hH map_mk3, Tm_fr aV aW (by decide) (by decide) h2, fun s z1 z2 q hq => ?_, h4, fun t ht q k hk => ?_⟩
      · rw [w61] at z1
        have : 0 = s := nI_inj (a := 0) (by decide) z2 z1
        omega
      · have := Jr_fr aW (by decide) (h5 t ht ((aW 1048 0 0 (by decide)).symm.trans q)) k hk
        rw [mk3_lv]
        exact this
    by_cases ha : i2b (W 1060 0 0) = true
    · rw [if_pos ha, if_pos ha]
      exact due
    · rw [if_neg ha, if_neg ha]
      by_cases hc : 4 * nI (hld l) < (Int32.ofNat (64 * kb)) - nI (hp Y)
      · rw [if_pos hc, if_pos (hcond.mp hc)]
        dsimp only
        rw [lt_def, if_neg n1, if_neg (show ¬ false = true by decide), lt_def, if_neg (show ¬ false = true by decide)]
        exact notdue _ (by rw [bF ha]; rfl)
      · rw [if_neg hc, if_neg (fun z => hc (hcond.mpr z))]
        exact due
