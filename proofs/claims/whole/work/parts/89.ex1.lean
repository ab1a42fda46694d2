/-! the reference's instruction behind its fetch -/
noncomputable def dtl (v1 : Int32) (V7 : HV) : Option (Int32 × HV) :=
  lt ((V7 1081 0 0) >>> ((20 : Int32) &&& 31)) fun v10 =>
  if ((V7 1081 0 0) &&& 127) = 3 then (lt (f_X12_a 0 V7) fun v12 =>
  bnd (f_X12_value 0 v12 V7) fun p13 =>
  bnd (f_X12_loads 0 (p13 + v10) V7) fun p14 =>
  some (p14.1, p14.2)) else
  if ((V7 1081 0 0) &&& 127) = 19 then (lt (f_X12_d 0 V7) fun v16 =>
  lt (f_X12_f 0 V7) fun v17 =>
  lt (f_X12_a 0 V7) fun v18 =>
  bnd (f_X12_value 0 v18 V7) fun p19 =>
  lt (f_X12_f 0 V7) fun v20 =>
  lt (if v20 = 1 then ((f_X12_b 0 V7)) else (if (f_X12_f 0 V7) = 5 then ((f_X12_b 0 V7)) else (v10)) : Int32) fun v21 =>
  lt (f_X12_f 0 V7) fun v23 =>
  lt (if v23 = 5 then (if (f_X12_g 0 V7) = 32 then (true) else (false)) else (false) : Bool) fun v24 =>
  lt (f_X12_sums v17 p19 v21 v24) fun v26 =>
  bnd (f_X12_writes 0 v16 v26 V7) fun p27 =>
  bnd (f_X12_goesOn 0 p27) fun p28 =>
  some (0, p28)) else
  if ((V7 1081 0 0) &&& 127) = 23 then (bnd (f_X12_copy 0 v1 582 V7) fun p36 =>
  chk (inb (582 : Int32) 600) <|
  chk (inb (582 : Int32) 600) <|
  lt (sv p36 2400 0 (582 : Int32).toNatClampNeg ((p36 2400 0 ((582 : Int32)).toNatClampNeg) + ((p36 1081 0 0) &&& (-4096)))) fun V39 =>
  bnd (f_X12_goesOn 0 V39) fun p40 =>
  lt (f_X12_d 0 p40) fun v41 =>
  bnd (f_X12_comes 0 582 v41 p40) fun p42 =>
  some (0, p42)) else
  if ((V7 1081 0 0) &&& 127) = 35 then (lt (f_X12_a 0 V7) fun v44 =>
  bnd (f_X12_value 0 v44 V7) fun p45 =>
  lt (f_X12_d 0 V7) fun v46 =>
  bnd (f_X12_stores 0 (p45 + ((((V7 1081 0 0) >>> ((25 : Int32) &&& 31)) <<< ((5 : Int32) &&& 31)) ||| v46)) V7) fun p47 =>
  some (p47.1, p47.2)) else
  if ((V7 1081 0 0) &&& 127) = 51 then (lt (f_X12_d 0 V7) fun v49 =>
  lt (f_X12_g 0 V7) fun v50 =>
  jn (fun v51 =>
  bnd (f_X12_writes 0 v49 v51 V7) fun p54 =>
  bnd (f_X12_goesOn 0 p54) fun p55 =>
  some (0, p55)) fun k52 =>
  if v50 = 1 then (lt (f_X12_f 0 V7) fun v78 =>
  lt (f_X12_a 0 V7) fun v79 =>
  bnd (f_X12_value 0 v79 V7) fun p80 =>
  lt (f_X12_b 0 V7) fun v81 =>
  bnd (f_X12_value 0 v81 V7) fun p82 =>
  bnd (f_X12_products v78 p80 p82) fun p83 =>
  k52 p83) else (lt (f_X12_f 0 V7) fun v57 =>
  jn (lt (f_X12_f 0 V7) fun v60 =>
  lt (f_X12_a 0 V7) fun v61 =>
  bnd (f_X12_value 0 v61 V7) fun p62 =>
  lt (f_X12_b 0 V7) fun v63 =>
  bnd (f_X12_value 0 v63 V7) fun p64 =>
  lt (f_X12_g 0 V7) fun v65 =>
  lt (if v65 = 32 then (true) else (false) : Bool) fun v66 =>
  lt (f_X12_sums v60 p62 p64 v66) fun v68 =>
  k52 v68) fun k58 =>
  if v57 = 0 then (lt (f_X12_g 0 V7) fun v72 =>
  if v72 = 32 then (lt (f_X12_a 0 V7) fun v74 =>
  bnd (f_X12_value 0 v74 V7) fun p75 =>
  lt (f_X12_b 0 V7) fun v76 =>
  bnd (f_X12_value 0 v76 V7) fun p77 =>
  k52 (p75 - p77)) else (k58)) else (k58))) else
  if ((V7 1081 0 0) &&& 127) = 55 then (lt (f_X12_d 0 V7) fun v85 =>
  bnd (f_X12_writes 0 v85 ((V7 1081 0 0) &&& (-4096)) V7) fun p86 =>
  bnd (f_X12_goesOn 0 p86) fun p87 =>
  some (0, p87)) else
  if ((V7 1081 0 0) &&& 127) = 91 then (bnd (f_X12_shapes 0 v10 V7) fun p89 =>
  bnd (f_X12_goesOn 0 p89) fun p90 =>
  some (0, p90)) else
  if ((V7 1081 0 0) &&& 127) = 99 then (lt ((((((V7 1081 0 0) >>> ((31 : Int32) &&& 31)) <<< ((12 : Int32) &&& 31)) ||| ((((V7 1081 0 0) >>> ((7 : Int32) &&& 31)) &&& 1) <<< ((11 : Int32) &&& 31))) ||| ((((V7 1081 0 0) >>> ((25 : Int32) &&& 31)) &&& 63) <<< ((5 : Int32) &&& 31))) ||| ((((V7 1081 0 0) >>> ((8 : Int32) &&& 31)) &&& 15) <<< ((1 : Int32) &&& 31))) fun v92 =>
  chk (inb v1 600) <|
  lt (f_X12_f 0 V7) fun v94 =>
  lt (f_X12_a 0 V7) fun v95 =>
  bnd (f_X12_value 0 v95 V7) fun p96 =>
  lt (f_X12_b 0 V7) fun v97 =>
  bnd (f_X12_value 0 v97 V7) fun p98 =>
  lt (f_X12_branches v94 p96 p98) fun v99 =>
  lt (if v99 = true then (v92) else (4) : Int32) fun v100 =>
  chk (inb v1 600) <|
  lt (sv V7 2400 0 (v1).toNatClampNeg ((V7 2400 0 (v1).toNatClampNeg) + v100)) fun V103 =>
  some (0, V103)) else
  if ((V7 1081 0 0) &&& 127) = 111 then (lt ((((((V7 1081 0 0) >>> ((31 : Int32) &&& 31)) <<< ((20 : Int32) &&& 31)) ||| ((V7 1081 0 0) &&& 1044480)) ||| ((((V7 1081 0 0) >>> ((20 : Int32) &&& 31)) &&& 1) <<< ((11 : Int32) &&& 31))) ||| ((((V7 1081 0 0) >>> ((21 : Int32) &&& 31)) &&& 1023) <<< ((1 : Int32) &&& 31))) fun v107 =>
  bnd (f_X12_link 0 V7) fun p108 =>
  lt (f_X12_d 0 p108) fun v109 =>
  bnd (f_X12_comes 0 582 v109 p108) fun p110 =>
  chk (inb v1 600) <|
  chk (inb v1 600) <|
  lt (sv p110 2400 0 (v1).toNatClampNeg ((p110 2400 0 (v1).toNatClampNeg) + v107)) fun V113 =>
  some (0, V113)) else
  bnd (f_X12_jumps 0 v10 V7) fun p114 =>
  some (p114.1, p114.2)
theorem does_h {t n : Nat} {W : HV} {x : Int32} (h80 : W 1080 0 0 = nI t) (ht : t < 6) (hf : flt (cM W (17 * t + 16)) 4 (cM W (17 * t + 16)).1 4 = 0) (hn : W 2400 0 (17 * t + 16) = nI n) (hn2 : n + 4 ≤ 32768) (hx : ldv (W 2100 0) n 4 0 = x) : f_X12_does 0 W = if f_X12_isRight 0 (sv W 1081 0 0 x) = true then dtl (nI (17 * t + 16)) (sv W 1081 0 0 x) else some (6, sv W 1081 0 0 x) := by
  have hg := get_M (W := W) (a := n) (k := 4) (by decide) hn2
  have hr := fault_M (W := W) (need := 4) (a := W 2400 0 (17 * t + 16)) (i := 17 * t + 16) (n := 4) (by omega) (by decide)
  have hf' : flt (cM W (17 * t + 16)) 4 (W 2400 0 (17 * t + 16)) (nI 4) = 0 := hf
  rw [show nI 4 = (4 : Int32) from rfl] at hr hf' hg
  unfold f_X12_does dtl
  rw [lt_def, pcc_M h80, chk_t (inb_nI (by omega) (by decide)), cl_nI (by omega), hr, bnd_some, hf', if_pos rfl, chk_t (inb_nI (by omega) (by decide)), hn, hg, bnd_some, lt_def, lt_def, hx]
theorem does_f {t : Nat} {W : HV} {c : Int32} (h80 : W 1080 0 0 = nI t) (ht : t < 6) (hf : flt (cM W (17 * t + 16)) 4 (cM W (17 * t + 16)).1 4 = c) (hc : ¬ c = 0) : f_X12_does 0 W = some (c, W) := by
  have hr := fault_M (W := W) (need := 4) (a := W 2400 0 (17 * t + 16)) (i := 17 * t + 16) (n := 4) (by omega) (by decide)
  have hf' : flt (cM W (17 * t + 16)) 4 (W 2400 0 (17 * t + 16)) (nI 4) = c := hf
  unfold f_X12_does
  rw [lt_def, pcc_M h80, chk_t (inb_nI (by omega) (by decide)), cl_nI (by omega)]
  rw [show nI 4 = (4 : Int32) from rfl] at hr hf'
  rw [hr, bnd_some, hf', if_neg hc]
/-! registers and the PCC -/
theorem if_UM {t d : Nat} (W : HV) (y : Cp) : UM W (if d = 0 then cM W else up (cM W) (17 * t + d) y) (if d = 0 then W else kM W (17 * t + d) y) := by
  by_cases h : d = 0
  · rw [if_pos h, if_pos h]; exact UM_rfl W
  · rw [if_neg h, if_neg h]; exact kM_U W _ y
theorem OK_fin {kb T Tw t d : Nat} {Y : HV} {l : List Ob} {V V1 W W1 : HV} {f g : Nat → Cp} {y : Cp} {w : Int32} (h : OK 1000 kb T Tw t Y l V W) (hd : d < 16) (hy : gd Y (lv l) y) (hpt : (cM W (17 * t + 16)).2.2.2.2.1 = 0) (hV : UC V f V1) (hf : ∀ i, i < 582 → f i = up (cC V) (17 * t + d) y i) (hW : UM W g W1) (hg : ∀ i, i < 582 → g i = (if d = 0 then cM W else up (cM W) (17 * t + d) y) i) : OK (17 * t) kb T Tw t Y l (sv V1 0 (17 * t + 16) 0 (V1 0 (17 * t + 16) 0 + w)) (sv W1 2400 0 (17 * t + 16) (W1 2400 0 (17 * t + 16) + w)) := by
  have h6 := OK_t6 h
  have e1 : cC V1 (17 * t + 16) = cM W (17 * t + 16) := by
    rw [hV.1, hf _ (by omega), up_ne (by omega)]
    exact OK_cap h (by decide) (by omega)
  have e2 : cM W1 (17 * t + 16) = cM W (17 * t + 16) := by
    rw [hW.1, hg _ (by omega)]
    by_cases h0 : d = 0
    · rw [if_pos h0]
    · rw [if_neg h0, up_ne (by omega)]
  have k1 : V1 0 (17 * t + 16) 0 = (cM W (17 * t + 16)).1 := congrArg (fun c : Cp => c.1) e1
  have k2 : W1 2400 0 (17 * t + 16) = (cM W (17 * t + 16)).1 := congrArg (fun c : Cp => c.1) e2
  rw [k1, k2]
  have u1 := s0_U V1 (17 * t + 16) ((cM W (17 * t + 16)).1 + w)
  have u2 := m0_U W1 (17 * t + 16) ((cM W (17 * t + 16)).1 + w)
  rw [e1] at u1
  rw [e2] at u2
  refine OK_rp (z := (cM W (17 * t + 16)).1 + w) h hd hy hpt (hV.trans u1) (fun i hi => ?_) (hW.trans u2) (fun i hi => ?_)
  · unfold up
    by_cases hi : i = 17 * t + 16
    · rw [if_pos hi, if_pos hi]
    · rw [if_neg hi, if_neg hi, hV.1, hf i (by omega)]
      rfl
  · unfold up
    by_cases hi : i = 17 * t + 16
    · rw [if_pos hi, if_pos hi]
    · rw [if_neg hi, if_neg hi, hW.1, hg i (by omega)]
      rfl
/-- a number into a register -/
theorem OK_nm {kb T Tw t d : Nat} {Y : HV} {l : List Ob} {V W : HV} {v w : Int32} (h : OK 1000 kb T Tw t Y l V W) (hd : d < 16) (hpt : (cM W (17 * t + 16)).2.2.2.2.1 = 0) : OK (17 * t) kb T Tw t Y l (sv (kC V (17 * t + d) (nm v)) 0 (17 * t + 16) 0 ((kC V (17 * t + d) (nm v)) 0 (17 * t + 16) 0 + w)) (sv (if d = 0 then W else kM W (17 * t + d) (nm v)) 2400 0 (17 * t + 16) ((if d = 0 then W else kM W (17 * t + d) (nm v)) 2400 0 (17 * t + 16) + w)) := OK_fin h hd (gd_num Y (lv l) v) hpt (kC_U V _ _) (fun _ _ => rfl) (if_UM W _) (fun _ _ => rfl)
/-- what an instruction comes to -/
def RES (kb T Tw t : Nat) (Y : HV) (l : List Ob) (V : HV) (c : Int32) (V' W' : HV) : Prop := (c = 0 → OK (17 * t) kb T Tw t Y l V' W') ∧ (¬ c = 0 → V' = V ∧ OK 1000 kb T Tw t Y l V W')
theorem ex_55 {kb T Tw t : Nat} {Y : HV} {l : List Ob} {V W : HV} {x : Int32} (h : OK 1000 kb T Tw t Y l V W) (hx : W 1081 0 0 = x) (hr : f_X12_isRight 0 W = true) (ho : x &&& 127 = 55) (hpt : (cM W (17 * t + 16)).2.2.2.2.1 = 0) : ∃ c V' W', f_X2_execute kb 0 t x V = some (c, V') ∧ dtl (nI (17 * t + 16)) W = some (c, W') ∧ RES kb T Tw t Y l V c V' W' := by
  have h6 := OK_t6 h
  obtain ⟨d, hd32, ed⟩ := fd_n x
  have hd := fl16 hd32 ed (rt_d hx hr (by simp [ho]))
  unfold f_X2_execute dtl
  simp only [lt_def, jn_def, d_C, d_M, hx, ho, ed, reg_C' hd, number_C]
  rw [writes_M h.2.2.2.2.1 h6 hd, bnd_some, goesOn_M (t := t) (by by_cases h0 : d = 0 <;> simp [h0, kM, sv, h.2.2.2.2.1]) h6, bnd_some]
  exact ⟨0, _, _, rfl, rfl, fun _ => OK_nm h hd hpt, fun q => absurd rfl q⟩
