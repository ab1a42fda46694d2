/-! links -/
def lkc (c : Cp) (on : Bool) : Cp := (c.1 + 4, c.2.1, c.2.2.1, c.2.2.2.1, (if on = true then 3 else 2), c.2.2.2.2.2)
theorem gd_lkc {Y : HV} {l : List Ob} {c : Cp} {on : Bool} (h : gd Y l c) : gd Y l (lkc c on) := by
  refine ⟨h.1, ?_, fun q => ⟨fun q4 => ?_, (h.2.2 q).2⟩⟩
  · cases on
    · show (2 : Int32) &&& 255 = 2; decide
    · show (3 : Int32) &&& 255 = 3; decide
  · cases on
    · exact absurd q4 (by show ¬ (2 : Int32) = 4; decide)
    · exact absurd q4 (by show ¬ (3 : Int32) = 4; decide)
theorem link_C {kb t i : Nat} {V : HV} (hi : ¬ i = 17 * t + 16) : UC V (up (cC V) i (lkc (cC V (17 * t + 16)) (i2b (V 710 t 0)))) (f_X2_link kb t i V) := by
  unfold f_X2_link
  simp only [lt_def, copy_C]
  have u1 := kC_U V i (cC V (17 * t + 16))
  have u2 := s0_U (kC V i (cC V (17 * t + 16))) i ((kC V i (cC V (17 * t + 16))) 0 i 0 + 4)
  have u3 := s4_U (sv (kC V i (cC V (17 * t + 16))) 0 i 0 ((kC V i (cC V (17 * t + 16))) 0 i 0 + 4)) i (if i2b ((sv (kC V i (cC V (17 * t + 16))) 0 i 0 ((kC V i (cC V (17 * t + 16))) 0 i 0 + 4)) 710 t 0) = true then 3 else 2)
  have e710 : (sv (kC V i (cC V (17 * t + 16))) 0 i 0 ((kC V i (cC V (17 * t + 16))) 0 i 0 + 4)) 710 t 0 = V 710 t 0 := by simp [kC, sv]
  have e0 : (kC V i (cC V (17 * t + 16))) 0 i 0 = (cC V (17 * t + 16)).1 := by simp [kC, sv]
  rw [e710] at u3 ⊢
  refine ⟨?_, (u1.trans (u2.trans u3)).2⟩
  rw [u3.1, u2.1, u1.1, up_up, up_at, up_up, up_at, e0]
  rfl
theorem link_M {t : Nat} {W : HV} (h80 : W 1080 0 0 = nI t) (ht : t < 6) : ∃ W', f_X12_link 0 W = some W' ∧ UM W (up (cM W) 582 (lkc (cM W (17 * t + 16)) (i2b (W 5200 0 t)))) W' := by
  unfold f_X12_link
  rw [lt_def, pcc_M h80, show (582 : Int32) = nI 582 from rfl, copy_M (by omega) (by omega), bnd_some]
  simp only [chk_t (inb_nI (show 582 < 600 by decide) (by decide)), cl_nI (show 582 < 2147483648 by decide), lt_def]
  have e80 : (sv (kM W 582 (cM W (17 * t + 16))) 2400 0 582 ((kM W 582 (cM W (17 * t + 16))) 2400 0 582 + 4)) 1080 0 0 = nI t := by simp [kM, sv, h80]
  have e52 : (sv (kM W 582 (cM W (17 * t + 16))) 2400 0 582 ((kM W 582 (cM W (17 * t + 16))) 2400 0 582 + 4)) 5200 0 t = W 5200 0 t := by simp [kM, sv]
  have e0 : (kM W 582 (cM W (17 * t + 16))) 2400 0 582 = (cM W (17 * t + 16)).1 := by simp [kM, sv]
  rw [e80, chk_t (inb_nI ht (by decide)), cl_nI (by omega), e52]
  have u1 := kM_U W 582 (cM W (17 * t + 16))
  have u2 := m0_U (kM W 582 (cM W (17 * t + 16))) 582 ((kM W 582 (cM W (17 * t + 16))) 2400 0 582 + 4)
  have u3 := m4_U (sv (kM W 582 (cM W (17 * t + 16))) 2400 0 582 ((kM W 582 (cM W (17 * t + 16))) 2400 0 582 + 4)) 582 (if i2b (W 5200 0 t) = true then 3 else 2)
  refine ⟨_, rfl, ?_, (u1.trans (u2.trans u3)).2⟩
  rw [u3.1, u2.1, u1.1, up_up, up_at, up_up, up_at, e0]
  rfl
theorem OK_on {x kb T Tw t : Nat} {Y : HV} {l : List Ob} {V W : HV} (h : OK x kb T Tw t Y l V W) : i2b (V 710 t 0) = i2b (W 5200 0 t) := by
  have hR := h.1.2.2.2.2.2.2.2.2.2.2.2.2.2.2.1 t (by rw [nth_LY h.1.2.1]; exact h.2.2.2.2.2)
  exact hR.2.2.2.2.2.2.1
theorem UM_80 {W W' : HV} {g : Nat → Cp} (h : UM W g W') : W' 1080 0 0 = W 1080 0 0 := h.2 1080 0 0 (by decide)
theorem UM_81 {W W' : HV} {g : Nat → Cp} (h : UM W g W') : W' 1081 0 0 = W 1081 0 0 := h.2 1081 0 0 (by decide)
theorem if_UM2 {t d : Nat} {W W1 : HV} {g : Nat → Cp} (h : UM W g W1) (y : Cp) : UM W (if d = 0 then g else up g (17 * t + d) y) (if d = 0 then W1 else kM W1 (17 * t + d) y) := by
  by_cases h0 : d = 0
  · rw [if_pos h0, if_pos h0]; exact h
  · rw [if_neg h0, if_neg h0]
    have := kM_U W1 (17 * t + d) y
    rw [h.1] at this
    exact h.trans this
theorem ex_111 {kb T Tw t : Nat} {Y : HV} {l : List Ob} {V W : HV} {x : Int32} (h : OK 1000 kb T Tw t Y l V W) (hx : W 1081 0 0 = x) (hr : f_X12_isRight 0 W = true) (ho : x &&& 127 = 111) (hpt : (cM W (17 * t + 16)).2.2.2.2.1 = 0) : ∃ c V' W', f_X2_execute kb 0 t x V = some (c, V') ∧ dtl (nI (17 * t + 16)) W = some (c, W') ∧ RES kb T Tw t Y l V c V' W' := by
  have h6 := OK_t6 h
  obtain ⟨d, hd32, ed⟩ := fd_n x
  have hd := fl16 hd32 ed (rt_d hx hr (by simp [ho]))
  have hpc := OK_cap h (k := 16) (by decide) (by omega)
  obtain ⟨W1, hl, hU⟩ := link_M h.2.2.2.2.1 h6
  have hy : gd Y (lv l) (lkc (cM W (17 * t + 16)) (i2b (W 5200 0 t))) := gd_lkc (h.2.2.1 16 (by decide))
  have uC := link_C (kb := kb) (t := t) (i := 17 * t + d) (V := V) (by omega)
  rw [hpc, OK_on h] at uC
  have h582 : cM W1 582 = lkc (cM W (17 * t + 16)) (i2b (W 5200 0 t)) := by rw [hU.1, up_at]
  have uM := if_UM2 (t := t) (d := d) hU (lkc (cM W (17 * t + 16)) (i2b (W 5200 0 t)))
  unfold f_X2_execute dtl
  simp only [lt_def, jn_def, d_C, d_M, hx, ho, ed, reg_C' hd, hl, bnd_some, UM_81 hU]
  rw [show (582 : Int32) = nI 582 from rfl, comes_M ((UM_80 hU).trans h.2.2.2.2.1) h6 hd (by decide), bnd_some, h582, jo_C]
  simp only [chk_t (inb_nI (show 17 * t + 16 < 600 by omega) (by decide)), cl_nI (show 17 * t + 16 < 2147483648 by omega)]
  refine ⟨0, _, _, rfl, rfl, fun _ => OK_fin h hd hy hpt uC (fun _ _ => rfl) uM (fun i hi => ?_), fun q => absurd rfl q⟩
  by_cases h0 : d = 0
  · rw [if_pos h0, if_pos h0, up_ne (by omega)]
  · rw [if_neg h0, if_neg h0]
    unfold up
    by_cases hid : i = 17 * t + d
    · rw [if_pos hid, if_pos hid]
    · rw [if_neg hid, if_neg hid, if_neg (by omega)]
theorem ex_23 {kb T Tw t : Nat} {Y : HV} {l : List Ob} {V W : HV} {x : Int32} (h : OK 1000 kb T Tw t Y l V W) (hx : W 1081 0 0 = x) (hr : f_X12_isRight 0 W = true) (ho : x &&& 127 = 23) (hpt : (cM W (17 * t + 16)).2.2.2.2.1 = 0) : ∃ c V' W', f_X2_execute kb 0 t x V = some (c, V') ∧ dtl (nI (17 * t + 16)) W = some (c, W') ∧ RES kb T Tw t Y l V c V' W' := by
  have h6 := OK_t6 h
  obtain ⟨d, hd32, ed⟩ := fd_n x
  have hd := fl16 hd32 ed (rt_d hx hr (by simp [ho]))
  have hpc := OK_cap h (k := 16) (by decide) (by omega)
  have hpg := h.2.2.1 16 (by decide)
  have hy : gd Y (lv l) ((cM W (17 * t + 16)).1 + (x &&& (-4096)), (cM W (17 * t + 16)).2) := ⟨hpg.1, hpg.2.1, fun q => ⟨fun q4 => absurd (hpt.symm.trans q4) (by decide), (hpg.2.2 q).2⟩⟩
  have c1 := kC_U V (17 * t + d) (cC V (17 * t + 16))
  have c2 := s0_U (kC V (17 * t + d) (cC V (17 * t + 16))) (17 * t + d) ((cM W (17 * t + 16)).1 + (x &&& (-4096)))
  rw [c1.1, up_at, up_up, hpc] at c2
  have c3 := (kC_U V (17 * t + d) (cM W (17 * t + 16))).trans c2
  have m1 := kM_U W 582 (cM W (17 * t + 16))
  have m2 := m0_U (kM W 582 (cM W (17 * t + 16))) 582 ((cM W (17 * t + 16)).1 + (x &&& (-4096)))
  rw [m1.1, up_at, up_up] at m2
  have m3 := m1.trans m2
  have k0 : (kC V (17 * t + d) (cM W (17 * t + 16))) 0 (17 * t + d) 0 = (cM W (17 * t + 16)).1 := by simp [kC, sv]
  have k1 : (kM W 582 (cM W (17 * t + 16))) 2400 0 582 = (cM W (17 * t + 16)).1 := by simp [kM, sv]
  have k2 : (kM W 582 (cM W (17 * t + 16))) 1081 0 0 = x := (UM_81 m1).trans hx
  unfold f_X2_execute dtl
  simp only [lt_def, jn_def, d_C, d_M, hx, ho, ed, reg_C' hd, copy_C, hpc]
  rw [show (582 : Int32) = nI 582 from rfl, copy_M (by omega) (by decide), bnd_some]
  simp only [chk_t (inb_nI (show 582 < 600 by decide) (by decide)), cl_nI (show 582 < 2147483648 by decide), k0, k1, k2]
  rw [goesOn_M ((UM_80 m3).trans h.2.2.2.2.1) h6, bnd_some]
  generalize hW2 : sv (kM W 582 (cM W (17 * t + 16))) 2400 0 582 ((cM W (17 * t + 16)).1 + (x &&& (-4096))) = W2 at m3 ⊢
  generalize hV2 : sv (kC V (17 * t + d) (cM W (17 * t + 16))) 0 (17 * t + d) 0 ((cM W (17 * t + 16)).1 + (x &&& (-4096))) = V2 at c3 ⊢
  have p1 : cM W2 (17 * t + 16) = cM W (17 * t + 16) := by rw [m3.1, up_ne (by omega)]
  have p1' : W2 2400 0 (17 * t + 16) = (cM W (17 * t + 16)).1 := congrArg (fun c : Cp => c.1) p1
  have p2 : cC V2 (17 * t + 16) = cM W (17 * t + 16) := by rw [c3.1, up_ne (by omega), hpc]
  have p2' : V2 0 (17 * t + 16) 0 = (cM W (17 * t + 16)).1 := congrArg (fun c : Cp => c.1) p2
  rw [p1', p2']
  have m4 := m0_U W2 (17 * t + 16) ((cM W (17 * t + 16)).1 + 4)
  have c4 := s0_U V2 (17 * t + 16) ((cM W (17 * t + 16)).1 + 4)
  rw [p1, m3.1] at m4
  rw [p2, c3.1] at c4
  have m5 := m3.trans m4
  have q81 := (UM_81 m5).trans hx
  rw [q81, ed, comes_M ((UM_80 m5).trans h.2.2.2.2.1) h6 hd (by decide), bnd_some]
  have h582 : cM (sv W2 2400 0 (17 * t + 16) ((cM W (17 * t + 16)).1 + 4)) 582 = ((cM W (17 * t + 16)).1 + (x &&& (-4096)), (cM W (17 * t + 16)).2) := by
    rw [m5.1, up_ne (by omega), up_at]
  rw [h582]
  have m6 := if_UM2 (t := t) (d := d) m5 ((cM W (17 * t + 16)).1 + (x &&& (-4096)), (cM W (17 * t + 16)).2)
  refine ⟨0, _, _, rfl, rfl, fun _ => OK_rp h hd hy hpt (c3.trans c4) (fun _ _ => rfl) m6 (fun i hi => ?_), fun q => absurd rfl q⟩
  by_cases h0 : d = 0
  · rw [if_pos h0, if_pos h0]
    unfold up
    by_cases e1 : i = 17 * t + 16
    · rw [if_pos e1, if_pos e1]
    · rw [if_neg e1, if_neg e1, if_neg (by omega)]
  · rw [if_neg h0, if_neg h0]
    unfold up
    by_cases e1 : i = 17 * t + 16
    · rw [if_neg (by omega), if_pos e1, if_pos e1]
    · rw [if_neg e1, if_neg e1, if_neg (show ¬ i = 582 by omega)]
