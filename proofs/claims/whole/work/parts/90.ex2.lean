theorem V0_cap {V : HV} {i : Nat} {c : Cp} (h : cC V i = c) : V 0 i 0 = c.1 := congrArg (fun c : Cp => c.1) h
theorem if_80 {W : HV} {d i t : Nat} {y : Cp} (h : W 1080 0 0 = nI t) : (if d = 0 then W else kM W i y) 1080 0 0 = nI t := by
  by_cases h0 : d = 0 <;> simp [h0, kM, sv, h]
theorem ex_19 {kb T Tw t : Nat} {Y : HV} {l : List Ob} {V W : HV} {x : Int32} (h : OK 1000 kb T Tw t Y l V W) (hx : W 1081 0 0 = x) (hr : f_X12_isRight 0 W = true) (ho : x &&& 127 = 19) (hpt : (cM W (17 * t + 16)).2.2.2.2.1 = 0) : ∃ c V' W', f_X2_execute kb 0 t x V = some (c, V') ∧ dtl (nI (17 * t + 16)) W = some (c, W') ∧ RES kb T Tw t Y l V c V' W' := by
  have h6 := OK_t6 h
  obtain ⟨d, hd32, ed⟩ := fd_n x
  have hd := fl16 hd32 ed (rt_d hx hr (by simp [ho]))
  obtain ⟨a, ha32, ea⟩ := fa_n x
  have ha := fl16 ha32 ea (rt_a hx hr (by simp [ho]))
  have hva := V0_cap (OK_cap h (k := a) (by omega) (by omega))
  have hval : f_X2_withImmediate kb t x V = f_X12_sums (ff x) (cM W (17 * t + a)).1 (if ff x = 1 then fb x else if ff x = 5 then fb x else x >>> ((20 : Int32) &&& 31)) (if ff x = 5 then (if fg x = 32 then true else false) else false) := by
    unfold f_X2_withImmediate f_X2_immediate
    simp only [lt_def, f_C, g_C, a_C, ea, reg_C' ha, hva]
    rw [comb_sums (fun q => by rw [q]; rfl)]
    by_cases h1 : ff x = 1
    · rw [sums_imm (Or.inl h1), if_pos h1]
    · by_cases h5 : ff x = 5
      · rw [sums_imm (Or.inr h5), if_neg h1, if_pos h5, if_pos h5]
      · rw [if_neg h1, if_neg h5, if_neg h5]
  unfold f_X2_execute dtl
  simp only [lt_def, jn_def, d_C, d_M, f_M, g_M, a_M, b_M, hx, ho, ed, ea, reg_C' hd, number_C, value_M h.2.2.2.2.1 h6 (show a < 17 by omega), bnd_some, hval]
  rw [writes_M h.2.2.2.2.1 h6 hd, bnd_some, goesOn_M (t := t) (if_80 h.2.2.2.2.1) h6, bnd_some]
  exact ⟨0, _, _, rfl, rfl, fun _ => OK_nm h hd hpt, fun q => absurd rfl q⟩
theorem ex_51 {kb T Tw t : Nat} {Y : HV} {l : List Ob} {V W : HV} {x : Int32} (h : OK 1000 kb T Tw t Y l V W) (hx : W 1081 0 0 = x) (hr : f_X12_isRight 0 W = true) (ho : x &&& 127 = 51) (hpt : (cM W (17 * t + 16)).2.2.2.2.1 = 0) : ∃ c V' W', f_X2_execute kb 0 t x V = some (c, V') ∧ dtl (nI (17 * t + 16)) W = some (c, W') ∧ RES kb T Tw t Y l V c V' W' := by
  have h6 := OK_t6 h
  obtain ⟨d, hd32, ed⟩ := fd_n x
  have hd := fl16 hd32 ed (rt_d hx hr (by simp [ho]))
  obtain ⟨a, ha32, ea⟩ := fa_n x
  have ha := fl16 ha32 ea (rt_a hx hr (by simp [ho]))
  obtain ⟨b, hb32, eb⟩ := fb_n x
  have hb := fl16 hb32 eb (rt_b hx hr (by simp [ho]))
  have hva := V0_cap (OK_cap h (k := a) (by omega) (by omega))
  have hvb := V0_cap (OK_cap h (k := b) (by omega) (by omega))
  have fin : ∀ v, ∃ c V' W', (some ((0 : Int32), sv (kC V (17 * t + d) (nm v)) 0 (17 * t + 16) 0 ((kC V (17 * t + d) (nm v)) 0 (17 * t + 16) 0 + 4)) : Option (Int32 × HV)) = some (c, V') ∧ (bnd (f_X12_writes 0 (nI d) v W) fun p54 => bnd (f_X12_goesOn 0 p54) fun p55 => some ((0 : Int32), p55)) = some (c, W') ∧ RES kb T Tw t Y l V c V' W' := by
    intro v
    rw [writes_M h.2.2.2.2.1 h6 hd, bnd_some, goesOn_M (t := t) (if_80 h.2.2.2.2.1) h6, bnd_some]
    exact ⟨0, _, _, rfl, rfl, fun _ => OK_nm h hd hpt, fun q => absurd rfl q⟩
  unfold f_X2_execute dtl f_X2_withRegisters
  simp only [lt_def, jn_def, d_C, f_C, g_C, a_C, b_C, d_M, f_M, g_M, a_M, b_M, hx, ho, ed, ea, eb, reg_C' hd, reg_C' ha, reg_C' hb, number_C, hva, hvb, value_M h.2.2.2.2.1 h6 (show a < 17 by omega), value_M h.2.2.2.2.1 h6 (show b < 17 by omega), bnd_some]
  generalize (cM W (17 * t + a)).1 = xa
  generalize (cM W (17 * t + b)).1 = xb
  by_cases hg1 : fg x = 1
  · have e := prod_C (x := xa) (y := xb) (ff_n x)
    have hs : ∃ v, f_X12_products (ff x) xa xb = some v := by
      unfold f_X12_products
      rcases n8 (ff_n x) with q | q | q | q | q | q | q | q <;> rw [q] <;> by_cases q0 : xb = 0 <;> by_cases q1 : xb = -1 <;> simp [q0, q1, chk, lt_def, plain_pl, pl_0]
    obtain ⟨v, hv⟩ := hs
    rw [hv] at e
    simp only [hg1, if_true, hv, bnd_some]
    by_cases h4 : 4 ≤ ff x
    · rw [if_pos h4] at e
      simp only [h4, if_true, e, bnd_some]
      exact fin v
    · rw [if_neg h4] at e
      have e' : f_X2_multiply (ff x) xa xb = v := Option.some.inj e
      simp only [h4, if_false, e', bnd_some]
      exact fin v
  · simp only [hg1, if_false, bnd_some]
    by_cases h0 : ff x = 0
    · by_cases h32 : fg x = 32
      · have e : f_X2_combine (ff x) xa xb (if fg x = 32 then true else false) = xa - xb := by
          unfold f_X2_combine
          simp [h0, h32, lt_def]
        simp only [h0, h32, if_true]
        rw [h0, h32] at e
        simp only [if_true] at e
        rw [e]
        exact fin _
      · simp only [h0, h32, if_true, if_false]
        rw [comb_sums (fun _ => rfl)]
        exact fin _
    · simp only [h0, if_false]
      rw [comb_sums (fun q => absurd q h0)]
      exact fin _
theorem ex_99 {kb T Tw t : Nat} {Y : HV} {l : List Ob} {V W : HV} {x : Int32} (h : OK 1000 kb T Tw t Y l V W) (hx : W 1081 0 0 = x) (hr : f_X12_isRight 0 W = true) (ho : x &&& 127 = 99) (hpt : (cM W (17 * t + 16)).2.2.2.2.1 = 0) : ∃ c V' W', f_X2_execute kb 0 t x V = some (c, V') ∧ dtl (nI (17 * t + 16)) W = some (c, W') ∧ RES kb T Tw t Y l V c V' W' := by
  have h6 := OK_t6 h
  obtain ⟨a, ha32, ea⟩ := fa_n x
  have ha := fl16 ha32 ea (rt_a hx hr (by simp [ho]))
  obtain ⟨b, hb32, eb⟩ := fb_n x
  have hb := fl16 hb32 eb (rt_b hx hr (by simp [ho]))
  have hva := V0_cap (OK_cap h (k := a) (by omega) (by omega))
  have hvb := V0_cap (OK_cap h (k := b) (by omega) (by omega))
  have hbr : f_X2_branches kb t x V = f_X12_branches (ff x) (cM W (17 * t + a)).1 (cM W (17 * t + b)).1 := by
    unfold f_X2_branches f_X12_branches
    simp only [lt_def, f_C, a_C, b_C, ea, eb, reg_C' ha, reg_C' hb, hva, hvb, unsigned_pl, plain_pl]
  unfold f_X2_execute dtl
  simp only [lt_def, jn_def, d_C, f_C, g_C, a_C, b_C, d_M, f_M, g_M, a_M, b_M, hx, ho, ea, eb, hbr, bo_C, chk_t (inb_nI (show 17 * t + 16 < 600 by omega) (by decide)), cl_nI (show 17 * t + 16 < 2147483648 by omega), value_M h.2.2.2.2.1 h6 (show a < 17 by omega), value_M h.2.2.2.2.1 h6 (show b < 17 by omega), bnd_some]
  refine ⟨0, _, _, rfl, rfl, fun _ => ?_, fun q => absurd rfl q⟩
  have e := OK_fin (d := 0) (y := cC V (17 * t)) (w := if f_X12_branches (ff x) (cM W (17 * t + a)).1 (cM W (17 * t + b)).1 = true then ((((x >>> ((31 : Int32) &&& 31)) <<< ((12 : Int32) &&& 31)) ||| (((x >>> ((7 : Int32) &&& 31)) &&& 1) <<< ((11 : Int32) &&& 31))) ||| (((x >>> ((25 : Int32) &&& 31)) &&& 63) <<< ((5 : Int32) &&& 31))) ||| (((x >>> ((8 : Int32) &&& 31)) &&& 15) <<< ((1 : Int32) &&& 31)) else 4) h (by decide) (by rw [show 17 * t = 17 * t + 0 from rfl, OK_cap h (by decide) (by omega)]; exact h.2.2.1 0 (by decide)) hpt (UC_rfl V) (fun i _ => ?_) (UM_rfl W) (fun _ _ => rfl)
  · exact e
  · unfold up
    by_cases hi : i = 17 * t + 0
    · rw [if_pos hi, hi]; rfl
    · rw [if_neg hi]
