/-! free bytes, words -/
theorem tot_le {hi : Nat} : ∀ (l : List Ob) (lo : Nat), srt hi lo l → lo + (gvn l + hld l) ≤ hi
  | [], lo, h => h
  | o :: l, lo, h => by
    have := tot_le l _ h.2.2.2
    have := h.1
    rw [show gvn (o :: l) = (if o.2.2 = 1 then o.2.1 else 0) + gvn l from rfl, show hld (o :: l) = (if o.2.2 = 1 then 0 else o.2.1) + hld l from rfl]
    by_cases q : o.2.2 = 1
    · rw [if_pos q, if_pos q]; omega
    · rw [if_neg q, if_neg q]; omega
theorem fb_L {W : HV} {K : Int32 → Option Int32} : ∀ (l : List Ob) (k f A : Nat), (∀ i o, l[i]? = some o → W 7700 0 (k + i) = nI (16 * o.2.1)) → W 1055 0 0 = nI (k + l.length) → k + l.length ≤ 2048 → l.length < f → 16 * (gvn l + hld l) ≤ A → f_X12_freeBytes_L12 0 W K f (nI A) (nI k) = K (nI (A - 16 * (gvn l + hld l)))
  | _, _, 0, _, _, _, _, hf, _ => absurd hf (by omega)
  | [], k, f + 1, A, ha, hn, hk, hf, hA => by
    unfold f_X12_freeBytes_L12
    rw [hn, if_pos (show nI (k + ([] : List Ob).length) ≤ nI k from nI_le (by simp) (by simp at hk; omega))]
    rfl
  | o :: l, k, f + 1, A, ha, hn, hk, hf, hA => by
    have hk' : k + l.length + 1 ≤ 2048 := by simp only [List.length_cons] at hk; omega
    have hf' : l.length < f := by simp only [List.length_cons] at hf; omega
    have ik : inb (nI k) 2049 := inb_nI (by omega) (by decide)
    have a1 := ha 0 o rfl
    rw [Nat.add_zero] at a1
    have et : gvn (o :: l) + hld (o :: l) = o.2.1 + (gvn l + hld l) := by
      rw [show gvn (o :: l) = (if o.2.2 = 1 then o.2.1 else 0) + gvn l from rfl, show hld (o :: l) = (if o.2.2 = 1 then 0 else o.2.1) + hld l from rfl]
      by_cases q : o.2.2 = 1
      · rw [if_pos q, if_pos q]; omega
      · rw [if_neg q, if_neg q]; omega
    rw [et] at hA ⊢
    unfold f_X12_freeBytes_L12
    rw [hn, if_neg (fun q => by have := (nI_leI (by simp only [List.length_cons]; omega) (by omega)).mp q; simp only [List.length_cons] at this; omega), chk_t ik, cl_nI (by omega), a1, nI_sub (by omega), lt_def, lt_def, nI_1, fb_L l (k + 1) f (A - 16 * o.2.1) (fun i o' hi' => by
        have := ha (i + 1) o' hi'
        rw [show k + (i + 1) = k + 1 + i by omega] at this
        exact this) (by rw [hn]; congr 1; simp only [List.length_cons]; omega) (by omega) hf' (by omega)]
    congr 2
    omega
theorem fb_all {kb : Nat} {Y : HV} {l : List Ob} {V W : HV} (hH : Hp kb Y l V W) (hkb : kb ≤ 32) (hhp : hp Y < 64 * kb) (h10 : W 1000 0 0 = nI (1024 * kb)) (h54 : W 1054 0 0 = nI (16 * hp Y)) : f_X12_freeBytes 0 W = some (f_X4_freeBytes kb 0 V) := by
  obtain ⟨hs, ⟨b1, b2, b3, b4, b5⟩, hM, hS, hRv⟩ := hH
  have ht := tot_le l _ hs
  have hlen := srt_len l _ hs
  unfold f_X12_freeBytes f_X4_freeBytes f_X4_bytes
  rw [lt_def, h10, h54, nI_sub (by omega), jn_def, lt_def, b1, b4, b5, ofNat_nI, nI_sub (by omega), nI_add, show (16 : Int32) = nI 16 from rfl, pk_mul, pk_mul, nI_sub (by omega)]
  have := fb_L (W := W) (K := fun v4 => some v4) l 0 FU (1024 * kb - 16 * hp Y) (fun i o hi => by rw [Nat.zero_add]; exact (hM.2 i o hi).2.1) (by rw [Nat.zero_add]; exact hM.1) (by omega) (FU_gt (by omega)) (by omega)
  refine Eq.trans this ?_
  congr 2
  omega
theorem isw {kb i j : Nat} {Y : HV} {l : List Ob} {V W : HV} {c : Cp} {need : Int32} (hL : Lay kb Y) (hs : srt (64 * kb) (hp Y) l) (hg : gd Y l c) (hc : cC V i = c) (hc' : cM W j = c) (hj : j < 600) (hneed : need = 1 ∨ need = 2) : ∃ s, f_X7_isWordFor kb 0 i need V = s ∧ f_X12_isWord 0 (nI j) need W = some s ∧ (s = true → ∃ a, c.1 = nI a ∧ a + 4 ≤ 1024 * kb) := by
  have ij : inb (nI j) 600 := inb_nI hj (by decide)
  have hfm := fault_M (W := W) (need := need) (a := c.1) (i := j) (n := 4) hj (by decide)
  rw [hc', show nI 4 = (4 : Int32) from rfl] at hfm
  unfold f_X7_isWordFor f_X12_isWord
  rw [lt_def, lt_def, fault_C, hc, V0_cap hc, chk_t ij, cl_nI (by omega), cM_0 hc', hfm, bnd_some]
  by_cases hf : flt c need c.1 4 = 0
  · rw [if_pos hf, if_pos hf, chk_t ij, lt_def, dev_eqM]
    have hacc := acc (n := 4) hL hs hg (by decide) (by decide) hf (by rcases hneed with q | q <;> rw [q] <;> decide)
    have hkb := hL.2.1
    rcases hacc with q | q
    · have hu : c.1 = nI (uN c.1) := nI_uN (by omega)
      have hh : f_X8_has kb 0 c.1 4 V = true := by
        have := has_C (V := V) (k := 4) (a := uN c.1) hkb (by decide) hL.1 (by omega)
        rw [← hu] at this
        exact this.trans (decide_eq_true q)
      rw [decide_eq_false (by omega), if_neg (show ¬ false = true by decide), hh, if_pos rfl]
      exact ⟨true, rfl, rfl, fun _ => ⟨_, hu, q⟩⟩
    · rw [decide_eq_true q.1, if_pos rfl]
      have hh : f_X8_has kb 0 c.1 4 V = false := by
        have hu : c.1 = nI (uN c.1) := nI_uN (by omega)
        have := has_C (V := V) (k := 4) (a := uN c.1) hkb (by decide) hL.1 (by omega)
        rw [← hu] at this
        exact this.trans (decide_eq_false (by omega))
      rw [hh, if_neg (show ¬ false = true by decide)]
      exact ⟨false, rfl, rfl, fun z => absurd z (by decide)⟩
  · rw [if_neg hf, if_neg hf]
    exact ⟨false, rfl, rfl, fun z => absurd z (by decide)⟩
/-! all services -/
theorem srv_all {kb T Tw t : Nat} {Y : HV} (hT1 : Tw + 1 = T) (hT2 : T < 1073741824) : SRV kb T Tw t Y := by
  intro l V W x h hst
  have h6 := OK_t6 h
  have hTw : Tw ≤ T := by omega
  have hT31 : T < 2147483648 := by omega
  have c10 := OK_cap h (k := 10) (by decide) (by omega)
  have c11 := OK_cap h (k := 11) (by decide) (by omega)
  have c12 := OK_cap h (k := 12) (by decide) (by omega)
  have g10 := OK_gd h (k := 10) (by decide)
  obtain ⟨W15, b1, hQ, b3, b4⟩ := srv_begin (x := x) h
  have R10 : f_X9_reg t 10 = 17 * t + 10 := reg_C' (d := 10) (by decide)
  have R11 : f_X9_reg t 11 = 17 * t + 11 := reg_C' (d := 11) (by decide)
  have R12 : f_X9_reg t 12 = 17 * t + 12 := reg_C' (d := 12) (by decide)
  have hL := h.1.1
  have cV1 : cC (sv V 815 0 0 (V 815 0 0 + 1)) = cC V := cC_fr (agr_sv V 815 0 0 _) (by decide)
  have st1 : (sv V 815 0 0 (V 815 0 0 + 1)) 711 t 0 = 0 := (sv_col (by decide)).trans hst
  have w80 : W15 1080 0 0 = nI t := by obtain ⟨V0, f, -, -, -, h5, -⟩ := hQ; exact h5
  have n7 : (sv V 815 0 0 (V 815 0 0 + 1)) 700 t 0 = nI t := (sv_col (by decide)).trans (h.1.2.2.2.2.2.2.2.2.2.2.2.2.2.1 t h6)
  rw [b1]
  unfold f_X7_serve
  rw [lt_def, jn_def, R10]
  generalize sv V 815 0 0 (V 815 0 0 + 1) = V1 at hQ cV1 st1 n7 ⊢
  have k10 : cC V1 (17 * t + 10) = cM W (17 * t + 10) := by rw [cV1]; exact c10
  have v10 : V1 0 (17 * t + 10) 0 = (cM W (17 * t + 10)).1 := V0_cap k10
  have v11 : V1 0 (17 * t + 11) 0 = (cM W (17 * t + 11)).1 := V0_cap (by rw [cV1]; exact c11)
  have v12 : V1 0 (17 * t + 12) 0 = (cM W (17 * t + 12)).1 := V0_cap (by rw [cV1]; exact c12)
  have fin : ∀ V2 W2, QR kb T t Y V2 W2 → ∃ V' W' l', (lt (f_X0_clear kb (f_X9_reg t 11) V2) fun V5 => bnd (f_X9_forgetOthers kb t V5) fun p6 => bnd (f_X9_filterBy kb t 0 p6) fun p7 => some p7) = some V' ∧ (lt (f_X12_pcc 0 W2) fun v17 =>
    bnd (f_X12_filter 0 v17 W2) fun p18 =>
    lt (f_X12_reg (p18 1080 0 0) 2) fun v19 =>
    bnd (f_X12_filter 0 v19 p18) fun p20 =>
    lt (f_X12_reg (p20 1080 0 0) 3) fun v21 =>
    bnd (f_X12_filter 0 v21 p20) fun p22 =>
    lt (f_X12_reg (p22 1080 0 0) 8) fun v23 =>
    bnd (f_X12_filter 0 v23 p22) fun p24 =>
    lt (f_X12_reg (p24 1080 0 0) 9) fun v25 =>
    bnd (f_X12_filter 0 v25 p24) fun p26 =>
    some p26) = some W' ∧ OK (17 * t) kb T T t Y l' V' W' := by
    intro V2 W2 hR
    obtain ⟨l', q1, q2, q3, q4⟩ := hR
    obtain ⟨V', W', z1, z2, z3⟩ := srv_end q1 q2 q3 q4
    exact ⟨V', W', l', z1, z2, z3⟩
  generalize (cM W (17 * t + 11)).1 = y11 at *
  generalize (cM W (17 * t + 12)).1 = y12 at *
  generalize cM W (17 * t + 10) = c at *
  unfold f_X12_serves
  by_cases x0 : x = 0
  · obtain ⟨V2, W2, e1, e2, e3⟩ := op_alloc (x := c.1) hTw hT2 hQ st1 v10 b4
    rw [if_pos x0, if_pos x0, e1, e2, bnd_some, bnd_some, bnd_some]
    exact fin V2 W2 e3
  rw [if_neg x0, if_neg x0]
  by_cases x1 : x = 1
  · obtain ⟨r, s, V2, W2, l', e1, e2, e3, e4⟩ := op_free hTw hT2 hQ k10 b3
    rw [if_pos x1, if_pos x1, e1, e2, bnd_some, bnd_some, lt_def, e3, lt_def, number_C]
    have w82 : W2 1080 0 0 = nI t := by obtain ⟨V0, f, -, -, -, h5, -⟩ := e4; exact h5
    rw [ans_M w82 h6, bnd_some, bnd_some]
    exact fin _ _ (QR_num e4)
  rw [if_neg x1, if_neg x1]
  by_cases x2 : x = 2
  · rw [if_pos x2, if_pos x2, lt_def, lt_def, number_C, ans_M w80 h6, bnd_some, lt_def, bnd_some, sv_kM (by decide)]
    exact fin _ _ (op_yield hTw hT31 hQ)
  rw [if_neg x2, if_neg x2]
  obtain ⟨t1, t2⟩ := QS_T hQ
  by_cases x3 : x = 3
  · have hsl : ∃ v V2 W2, f_X7_sleep kb 0 t V1 = (v, V2) ∧ (lt (if c.1 < 1 then ((-1)) else (if 10000 < c.1 then ((-1)) else (0)) : Int32) fun v14 =>
      bnd (f_X12_answers 0 v14 W15) fun p16 =>
      if c.1 < 1 then (some p16) else (if 10000 < c.1 then (some p16) else (bnd (f_X12_sleeps 0 ((p16 1047 0 0) + c.1) p16) fun p19 =>
      some p19))) = some W2 ∧ QR kb T t Y (kC V2 (17 * t + 10) (nm v)) W2 := by
      by_cases q1 : c.1 < 1
      · refine ⟨-1, V1, kM W15 (17 * t + 10) (nm (-1)), ?_, ?_, op_num hTw hT31 hQ⟩
        · unfold f_X7_sleep
          rw [lt_def, R10, v10, if_pos q1]
        · rw [lt_def, if_pos q1, ans_M w80 h6, bnd_some, if_pos q1]
      · by_cases q2 : c.1 ≤ 10000
        · obtain ⟨n, hn, en⟩ : ∃ n, n ≤ 10000 ∧ c.1 = nI n := by
            have q0 : ¬ c.1 < 0 := fun z => q1 (Int32.lt_trans z (by decide))
            obtain ⟨n, hn, en⟩ := nI_of q0
            rw [en] at q2
            exact ⟨n, (nI_leI hn (by decide)).mp q2, en⟩
          have i6 : inb (nI t) 6 := inb_nI h6 (by decide)
          have z80 : (kM W15 (17 * t + 10) (nm 0)) 1080 0 0 = nI t := (UM_80 (kM_U _ _ _)).trans w80
          have z47 : (kM W15 (17 * t + 10) (nm 0)) 1047 0 0 = nI T := ((kM_U W15 (17 * t + 10) (nm 0)).2 1047 0 0 (by decide)).trans t1
          refine ⟨0, sv (sv V1 711 t 0 1) 712 t 0 (nI (T + n)), _, ?_, ?_, op_sleep hTw hT2 hn hQ st1⟩
          · unfold f_X7_sleep f_X9_restUntil
            rw [lt_def, R10, v10, if_neg q1, if_pos q2, lt_def, lt_def, lt_def, t2, en, nI_add]
          · rw [lt_def, if_neg q1, if_neg (Int32.not_lt.mpr q2), ans_M w80 h6, bnd_some, if_neg q1, if_neg (Int32.not_lt.mpr q2)]
            unfold f_X12_sleeps
            rw [z80, chk_t i6, lt_def, cl_nI (by omega), sv_col (show ¬ 1080 = 4700 by decide), z80, chk_t i6, lt_def, cl_nI (by omega), bnd_some, z47, en, nI_add, sv_kM (by decide), sv_kM (by decide)]
        · refine ⟨-1, V1, kM W15 (17 * t + 10) (nm (-1)), ?_, ?_, op_num hTw hT31 hQ⟩
          · unfold f_X7_sleep
            rw [lt_def, R10, v10, if_neg q1, if_neg q2]
          · rw [lt_def, if_neg q1, if_pos (Int32.not_le.mp q2), ans_M w80 h6, bnd_some, if_neg q1, if_pos (Int32.not_le.mp q2)]
    obtain ⟨v, V2, W2, e1, e2, e3⟩ := hsl
    rw [if_pos x3, if_pos x3, lt_def, e1, e2, bnd_some, lt_def, number_C]
    exact fin _ _ e3
  rw [if_neg x3, if_neg x3]
  obtain ⟨hH, hkb, hhp, h10, h54, hmk⟩ := QS_heap hQ
  by_cases x4 : x = 4
  · obtain ⟨s, s1, s2, s3⟩ := isw (need := 1) (i := 17 * t + 10) (j := 584) (V := V1) (W := W15) hL hH.1 g10 k10 b3 (by decide) (Or.inl rfl)
    have s2' : f_X12_isWord 0 584 1 W15 = some s := s2
    have haw : ∃ v V2 W2, f_X7_await kb 0 t V1 = some (v, V2) ∧ f_X12_waits 0 584 y11 y12 W15 = some W2 ∧ QR kb T t Y (kC V2 (17 * t + 10) (nm v)) W2 := by
      have badM : ∀ b : Bool, (if s = true then (if y12 < 0 then (false) else (if 10000 < y12 then (false) else (true))) else (false) : Bool) = false → b = false → f_X12_waits 0 584 y11 y12 W15 = some (kM W15 (17 * t + 10) (nm (-1))) := by
        intro b hb _
        unfold f_X12_waits
        rw [s2', bnd_some, lt_def, hb, jn_def, if_neg (show ¬ false = true by decide), lt_def, if_neg (show ¬ false = true by decide), ans_M w80 h6, bnd_some]
      by_cases hs : s = true
      · obtain ⟨a, ea, ha⟩ := s3 hs
        by_cases q1 : y12 < 0
        · refine ⟨-1, V1, _, ?_, badM false (by rw [if_pos hs, if_pos q1]) rfl, op_num hTw hT31 hQ⟩
          unfold f_X7_await
          rw [lt_def, R12, v12, lt_def, R10, s1, if_pos hs, if_pos q1]
        · by_cases q2 : y12 ≤ 10000
          · obtain ⟨n, hn, en⟩ : ∃ n, n ≤ 10000 ∧ y12 = nI n := by
              obtain ⟨n, hn, en⟩ := nI_of q1
              rw [en] at q2
              exact ⟨n, (nI_leI hn (by decide)).mp q2, en⟩
            have i584 : inb (584 : Int32) 600 := inb_nI (k := 584) (by decide) (by decide)
            have c584 : (584 : Int32).toNatClampNeg = 584 := cl_nI (k := 584) (by decide)
            have l4 := load_C (V := V1) (a := a) (k := 4) hkb hL.1 (by decide) ha
            have g4 := get_M (W := W15) (a := a) (k := 4) (by decide) (by omega)
            rw [show nI 4 = (4 : Int32) from rfl] at l4 g4
            have lg : ldv (V1 2300 0) a 4 0 = ldv (W15 2100 0) a 4 0 := by
              obtain ⟨V0, f, h1, -, -, -, -, hu, -⟩ := hQ
              refine ldv_congr 4 0 (fun j hj => ?_)
              rw [hu.2 2300 0 (a + j) (by decide)]
              exact h1.2.2.2.2.2.1.1 (a + j) (by omega)
            have hv2 : (if s = true then (if y12 < 0 then (false) else (if 10000 < y12 then (false) else (true))) else (false) : Bool) = true := by rw [if_pos hs, if_neg q1, if_neg (Int32.not_lt.mpr q2)]
            by_cases q3 : ldv (W15 2100 0) a 4 0 = y11
            · have i6 : inb (nI t) 6 := inb_nI h6 (by decide)
              have z80 : (kM W15 (17 * t + 10) (nm 2)) 1080 0 0 = nI t := (UM_80 (kM_U _ _ _)).trans w80
              have z47 : (kM W15 (17 * t + 10) (nm 2)) 1047 0 0 = nI T := ((kM_U W15 (17 * t + 10) (nm 2)).2 1047 0 0 (by decide)).trans t1
              have z24 : (kM W15 (17 * t + 10) (nm 2)) 2400 0 584 = nI a := by
                have : cM (kM W15 (17 * t + 10) (nm 2)) 584 = c := by rw [(kM_U _ _ _).1, up_ne (by omega)]; exact b3
                exact (cM_0 this).trans ea
              have z53 : (kM W15 (17 * t + 10) (nm 2)) 1053 0 0 = W15 1053 0 0 := (kM_U W15 (17 * t + 10) (nm 2)).2 1053 0 0 (by decide)
              refine ⟨2, sv (sv (sv (sv V1 713 t 0 (nI a)) 714 t 0 (nI T)) 711 t 0 2) 712 t 0 (nI (T + n)), _, ?_, ?_, op_wait hT1 hT2 hn hQ st1⟩
              · unfold f_X7_await f_X9_restUntil
                rw [lt_def, R12, v12, lt_def, R10, s1, if_pos hs, if_neg q1, if_pos q2, v10, ea, l4, bnd_some, lg, R11, v11, if_pos q3, lt_def, lt_def, lt_def, lt_def, lt_def, sv_col (show ¬ 810 = 713 by decide), t2, sv_col (show ¬ 810 = 714 by decide), sv_col (show ¬ 810 = 713 by decide), t2, en, nI_add]
              · unfold f_X12_waits
                rw [s2', bnd_some, lt_def, hv2, jn_def, if_pos rfl, chk_t i584, c584, cM_0 b3, ea, g4, bnd_some, if_pos q3, ans_M w80 h6, bnd_some, z80, chk_t i6, lt_def, cl_nI (by omega), sv_col (show ¬ 1080 = 4700 by decide), z80, chk_t i6, lt_def, cl_nI (by omega), chk_t i584, sv_col (show ¬ 1080 = 4800 by decide), sv_col (show ¬ 1080 = 4700 by decide), z80, chk_t i6, lt_def, cl_nI (by omega), sv_col (show ¬ 1080 = 6100 by decide), sv_col (show ¬ 1080 = 4800 by decide), sv_col (show ¬ 1080 = 4700 by decide), z80, chk_t i6, lt_def, cl_nI (by omega), lt_def]
                rw [sv_col (show ¬ 1047 = 4700 by decide), z47, sv_col (show ¬ 2400 = 4800 by decide), sv_col (show ¬ 2400 = 4700 by decide), z24, sv_col (show ¬ 1053 = 6200 by decide), sv_col (show ¬ 1053 = 6100 by decide), sv_col (show ¬ 1053 = 4800 by decide), sv_col (show ¬ 1053 = 4700 by decide), z53, en, nI_add, sv_kM (by decide), sv_kM (by decide), sv_kM (by decide), sv_kM (by decide), sv_kM (by decide)]
            · refine ⟨1, V1, kM W15 (17 * t + 10) (nm 1), ?_, ?_, op_num hTw hT31 hQ⟩
              · unfold f_X7_await
                rw [lt_def, R12, v12, lt_def, R10, s1, if_pos hs, if_neg q1, if_pos q2, v10, ea, l4, bnd_some, lg, R11, v11, if_neg q3]
              · unfold f_X12_waits
                rw [s2', bnd_some, lt_def, hv2, jn_def, if_pos rfl, chk_t i584, c584, cM_0 b3, ea, g4, bnd_some, if_neg q3, lt_def, if_pos rfl, ans_M w80 h6, bnd_some]
          · refine ⟨-1, V1, _, ?_, badM false (by rw [if_pos hs, if_neg q1, if_pos (Int32.not_le.mp q2)]) rfl, op_num hTw hT31 hQ⟩
            unfold f_X7_await
            rw [lt_def, R12, v12, lt_def, R10, s1, if_pos hs, if_neg q1, if_neg q2]
      · refine ⟨-1, V1, _, ?_, badM false (by rw [if_neg hs]) rfl, op_num hTw hT31 hQ⟩
        unfold f_X7_await
        rw [lt_def, R12, v12, lt_def, R10, s1, if_neg hs]
    obtain ⟨v, V2, W2, e1, e2, e3⟩ := haw
    rw [if_pos x4, if_pos x4, e1, e2, bnd_some, bnd_some, bnd_some, lt_def, number_C]
    exact fin _ _ e3
  rw [if_neg x4, if_neg x4]
  by_cases x5 : x = 5
  · obtain ⟨s, s1, s2, s3⟩ := isw (need := 2) (i := 17 * t + 10) (j := 584) (V := V1) (W := W15) hL hH.1 g10 k10 b3 (by decide) (Or.inr rfl)
    have s2' : f_X12_isWord 0 584 2 W15 = some s := s2
    have i584 : inb (584 : Int32) 600 := inb_nI (k := 584) (by decide) (by decide)
    have c584 : (584 : Int32).toNatClampNeg = 584 := cl_nI (k := 584) (by decide)
    rw [if_pos x5, if_pos x5]
    unfold f_X7_wake
    rw [lt_def, R10, s1, s2', bnd_some, jn_def]
    by_cases hs : s = true
    · obtain ⟨z1, z2⟩ := QS_st hQ st1
      have hQ2 := QS_up hQ hTw hT31
      have hmin : ∃ m : Nat, (f_J9_min_f86c9 (pl y11) 6).toInt = (m : Int) ∧ m ≤ 6 ∧ m = if uN y11 ≤ 6 then uN y11 else 6 := by
        unfold f_J9_min_f86c9
        rw [lt_def]
        by_cases q : 0 < lg_cmp (pl y11) 6
        · have q' : ¬ uN y11 ≤ 6 := by
            rw [lg_cmp_gt, show (6 : Int64) = pl 6 by decide, pl_lt, show uN 6 = 6 by decide] at q
            omega
          rw [if_pos q, if_neg q']
          exact ⟨6, by decide, by decide, rfl⟩
        · have q' : uN y11 ≤ 6 := Nat.not_lt.mp fun z => q (by rw [lg_cmp_gt, show (6 : Int64) = pl 6 by decide, pl_lt, show uN 6 = 6 by decide]; exact z)
          rw [if_neg q, if_pos q']
          exact ⟨uN y11, pl_toInt _, q', rfl⟩
      obtain ⟨m, hm1, hm2, hm3⟩ := hmin
      have hnot : ¬ W15 4700 0 t = 2 := by rw [z1]; decide
      have hcw : cw W15 (nth Y) ≤ 5 := by
        have := cw_lt hnot (nth Y) (by obtain ⟨V0, f, -, -, -, -, hn, -⟩ := hQ; exact hn)
        have := hL.2.2.2.2.1
        omega
      obtain ⟨n', V2, W2, e1, e2, e3⟩ := wk_L (KC := fun v7 V8 => some (v7, V8)) (KM := fun v3 V4 => some (v3, V4)) (a := c.1) hT2 hm1 hm2 (pl_toInt y11) hm3 (cw W15 (nth Y)) 0 FU FU V1 W15 rfl (by omega) (by have := FU_gt (k := 8) (by decide); omega) (by have := FU_gt (k := 20) (by decide); omega) hQ2 v10 hnot
      have e1' : f_X7_wake_L43 0 t kb (f_J9_min_f86c9 (pl y11) 6) (fun v7 V8 => some (v7, V8)) FU 0 0 V1 = some (nI n', V2) := e1
      have e2' : f_X12_wakes 0 c.1 (pl y11) W15 = some (nI n', W2) := by
        unfold f_X12_wakes
        rw [jn_def]
        exact e2
      rw [if_pos hs, if_pos hs, lt_def, R11, v11, unsigned_pl, lt_def, jn_def, e1', chk_t i584, lt_def, plain_pl, c584, cM_0 b3, e2', bnd_some, bnd_some, lt_def, number_C]
      have w82 : W2 1080 0 0 = nI t := by obtain ⟨V0, f, -, -, -, h5, -⟩ := e3; exact h5
      dsimp only
      rw [ans_M w82 h6, bnd_some, bnd_some]
      exact fin _ _ (QR_num e3)
    · rw [if_neg hs, if_neg hs, bnd_some, lt_def, number_C]
      dsimp only
      rw [ans_M w80 h6, bnd_some, bnd_some]
      exact fin _ _ (op_num hTw hT31 hQ)
  rw [if_neg x5, if_neg x5]
  by_cases x6 : x = 6
  · have w81 : (sv W15 1060 0 0 (b2i true)) 1080 0 0 = nI t := (sv_col (by decide)).trans w80
    rw [if_pos x6, if_pos x6, lt_def, lt_def, number_C, lt_def, ans_M w81 h6, bnd_some, bnd_some]
    exact fin _ _ (op_sweep hTw hT31 hQ)
  rw [if_neg x6, if_neg x6]
  by_cases x7 : x = 7
  · rw [if_pos x7, if_pos x7, lt_def, number_C, n7, w80, ans_M w80 h6, bnd_some, bnd_some]
    exact fin _ _ (op_num hTw hT31 hQ)
  · rw [if_neg x7, if_neg x7, fb_all hH hkb hhp h10 h54, bnd_some, lt_def, lt_def, number_C, ans_M w80 h6, bnd_some, bnd_some]
    exact fin _ _ (op_num hTw hT31 hQ)
