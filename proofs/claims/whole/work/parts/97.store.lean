/-! stores -/
theorem OK_pc {kb T Tw t : Nat} {Y : HV} {l : List Ob} {V W : HV} {w : Int32} (h : OK 1000 kb T Tw t Y l V W) (hpt : (cM W (17 * t + 16)).2.2.2.2.1 = 0) : OK (17 * t) kb T Tw t Y l (sv V 0 (17 * t + 16) 0 (V 0 (17 * t + 16) 0 + w)) (sv W 2400 0 (17 * t + 16) (W 2400 0 (17 * t + 16) + w)) := by
  have h6 := OK_t6 h
  have e := OK_fin (d := 0) (y := cC V (17 * t)) (w := w) h (by decide) (by rw [show 17 * t = 17 * t + 0 from rfl, OK_cap h (by decide) (by omega)]; exact h.2.2.1 0 (by decide)) hpt (UC_rfl V) (fun i _ => ?_) (UM_rfl W) (fun _ _ => rfl)
  · exact e
  · unfold up
    by_cases hi : i = 17 * t + 0
    · rw [if_pos hi, hi]; rfl
    · rw [if_neg hi]
theorem OK_mem {x kb T Tw t : Nat} {Y : HV} {l : List Ob} {V V1 W W1 : HV} (h : OK x kb T Tw t Y l V W) (hS : ST x kb Y l V1 W1) (hV : agr [2300, 2400] V V1) (hW : agr [2100, 2200] W W1) (hJ : Jm Y l W1) : OK x kb T Tw t Y l V1 W1 := by
  obtain ⟨h1, h2, h3, h4, h5, h6⟩ := h
  exact ⟨hS, Tm_fr hV hW (by decide) (by decide) h2, Jr_fr hW (by decide) h3, hJ, (hW 1080 0 0 (by decide)).trans h5, h6⟩
theorem size_s {f : Int32} (hf : ∃ n, n < 8 ∧ f = nI n) (h : ¬ 4 ≤ f) : ∃ n : Nat, (n = 1 ∨ n = 2 ∨ n = 4 ∨ n = 16) ∧ f_X2_sizeOf f = nI n ∧ (if f = 0 then (1) else (if f = 1 then (2) else (if f = 2 then (4) else (16))) : Int32) = nI n ∧ (nI n = 4 ↔ f = 2) ∧ (nI n = 16 ↔ f = 3) := by
  rcases n8 hf with q | q | q | q | q | q | q | q <;> subst q
  · exact ⟨1, by decide, by decide, by decide, by decide, by decide⟩
  · exact ⟨2, by decide, by decide, by decide, by decide, by decide⟩
  · exact ⟨4, by decide, by decide, by decide, by decide, by decide⟩
  · exact ⟨16, by decide, by decide, by decide, by decide, by decide⟩
  · exact absurd (by decide) h
  · exact absurd (by decide) h
  · exact absurd (by decide) h
  · exact absurd (by decide) h
/-- may it be stored with its tag -/
def may (c s : Cp) : Bool := s.2.2.2.2.2 && (decide (¬ c.2.2.2.1 &&& 16 = 0) && (decide (¬ s.2.2.2.1 &&& 64 = 0) || decide (¬ c.2.2.2.1 &&& 128 = 0)))
theorem may_C {kb i j : Nat} {c s : Cp} {V : HV} (hc : cC V i = c) (hs : cC V j = s) : (if (i2b (V 5 j 0)) = true then (if (if f_X0_has kb i 16 V = true then (if (f_X0_has kb j 64 V) = true then (true) else (if (f_X0_has kb i 128 V) = true then (true) else (false))) else (false) : Bool) = true then (true) else (false)) else (false) : Bool) = may c s := by
  have e5 : i2b (V 5 j 0) = s.2.2.2.2.2 := congrArg (fun c : Cp => c.2.2.2.2.2) hs
  have b16 : (c.2.2.2.1 &&& 16 = 16) ↔ ¬ (c.2.2.2.1 &&& 16 = 0) := bit_iff (k := 4) (by decide) (by decide)
  have b64 : (s.2.2.2.1 &&& 64 = 64) ↔ ¬ (s.2.2.2.1 &&& 64 = 0) := bit_iff (k := 6) (by decide) (by decide)
  have b128 : (c.2.2.2.1 &&& 128 = 128) ↔ ¬ (c.2.2.2.1 &&& 128 = 0) := bit_iff (k := 7) (by decide) (by decide)
  rw [has_c, has_c, has_c, hc, hs, e5, decide_eq_decide.mpr b16, decide_eq_decide.mpr b64, decide_eq_decide.mpr b128]
  unfold may
  generalize decide (¬ c.2.2.2.1 &&& 16 = 0) = p
  generalize decide (¬ s.2.2.2.1 &&& 64 = 0) = q
  generalize decide (¬ c.2.2.2.1 &&& 128 = 0) = r
  generalize s.2.2.2.2.2 = g
  cases p <;> cases q <;> cases r <;> cases g <;> rfl
theorem may_M {i j : Nat} {c s : Cp} {A : Int32} {W : HV} {K : HV → Option (Int32 × HV)} (hi : i < 600) (hj : j < 600) (hc : cM W i = c) (hs : cM W j = s) : (chk (inb (nI i) 600) <|
  jn (fun v25 =>
  chk (inb (nI j) 600) <|
  lt (if (i2b (W 2900 0 (nI j).toNatClampNeg)) = true then (if v25 = true then (true) else (false)) else (false) : Bool) fun v29 =>
  bnd (f_X12_putCapability 0 A (nI j) v29 W) fun p31 =>
  K p31) fun k26 =>
  jn (k26 false) fun k35 =>
  if ((W 2700 0 (nI i).toNatClampNeg) &&& 16) = 0 then (k35) else (chk (inb (nI j) 600) <|
  jn (k26 true) fun k39 =>
  if ((W 2700 0 (nI j).toNatClampNeg) &&& 64) = 0 then (chk (inb (nI i) 600) <|
  if ((W 2700 0 (nI i).toNatClampNeg) &&& 128) = 0 then (k35) else (k39)) else (k39))) = bnd (f_X12_putCapability 0 A (nI j) (may c s) W) fun p31 => K p31 := by
  have ii : inb (nI i) 600 := inb_nI hi (by decide)
  have ij : inb (nI j) 600 := inb_nI hj (by decide)
  rw [chk_t ii, jn_def, jn_def, cl_nI (by omega), cl_nI (by omega), cM_3 hc, cM_3 hs, cM_5 hs]
  have fin : ∀ b : Bool, (s.2.2.2.2.2 && b) = may c s → (chk (inb (nI j) 600) <| lt (if s.2.2.2.2.2 = true then (if b = true then (true) else (false)) else (false) : Bool) fun v29 => bnd (f_X12_putCapability 0 A (nI j) v29 W) fun p31 => K p31) = bnd (f_X12_putCapability 0 A (nI j) (may c s) W) fun p31 => K p31 := by
    intro b hb
    have e : (if s.2.2.2.2.2 = true then (if b = true then (true) else (false)) else (false) : Bool) = may c s := by
      rw [← hb]
      generalize s.2.2.2.2.2 = g
      cases g <;> cases b <;> rfl
    rw [chk_t ij, lt_def, e]
  by_cases h1 : c.2.2.2.1 &&& 16 = 0
  · rw [if_pos h1]
    exact fin false (by unfold may; rw [dNf h1]; rfl)
  · rw [if_neg h1, chk_t ij, jn_def]
    by_cases h2 : s.2.2.2.1 &&& 64 = 0
    · rw [if_pos h2, chk_t ii]
      by_cases h3 : c.2.2.2.1 &&& 128 = 0
      · rw [if_pos h3]
        exact fin false (by unfold may; rw [dNt h1, dNf h2, dNf h3]; rfl)
      · rw [if_neg h3]
        exact fin true (by unfold may; rw [dNt h1, dNt h3, Bool.or_true]; rfl)
    · rw [if_neg h2]
      exact fin true (by unfold may; rw [dNt h1, dNt h2, Bool.true_or]; rfl)
theorem store_all {kb T Tw t a b : Nat} {Y : HV} {l : List Ob} {V W : HV} {x : Int32} (h : OK 1000 kb T Tw t Y l V W) (hx : W 1081 0 0 = x) (ea : fa x = nI a) (ha : a < 16) (eb : fb x = nI b) (hb : b < 16) (hf : ¬ 4 ≤ ff x) (hpt : (cM W (17 * t + 16)).2.2.2.2.1 = 0) : ∃ c V1 W2, f_X2_write kb 0 t x V = some (c, V1) ∧ f_X12_stores 0 ((cM W (17 * t + a)).1 + (((x >>> ((25 : Int32) &&& 31)) <<< ((5 : Int32) &&& 31)) ||| fd x)) W = some (c, W2) ∧ (¬ c = 0 → V1 = V ∧ W2 = W) ∧ (c = 0 → OK (17 * t) kb T Tw t Y l (sv V1 0 (17 * t + 16) 0 (V1 0 (17 * t + 16) 0 + 4)) W2) := by
  have h6 := OK_t6 h
  have hkb := h.1.1.2.1
  have h1 := h.1.1.1
  have h80 := h.2.2.2.2.1
  have hR := h.1.2.2.2.2.2.1
  obtain ⟨n, hn, s1, s2, s4, s16⟩ := size_s (ff_n x) hf
  have hc := OK_cap h (k := a) (by omega) (by omega)
  have hs := OK_cap h (k := b) (by omega) (by omega)
  have hcg := OK_gd h (k := a) (by omega)
  have hia : inb (nI (17 * t + a)) 600 := inb_nI (by omega) (by decide)
  have hib : inb (nI (17 * t + b)) 600 := inb_nI (by omega) (by decide)
  have eo : f_X2_storeOffset x = (((x >>> ((25 : Int32) &&& 31)) <<< ((5 : Int32) &&& 31)) ||| fd x) := by
    unfold f_X2_storeOffset
    rw [lt_def, d_C]
  have go : ∀ W1, W1 1080 0 0 = nI t → (bnd (f_X12_goesOn 0 W1) fun p17 => some ((0 : Int32), p17)) = some (0, sv W1 2400 0 (17 * t + 16) (W1 2400 0 (17 * t + 16) + 4)) := fun W1 q => by rw [goesOn_M q h6, bnd_some]
  unfold f_X2_write f_X12_stores
  simp only [lt_def, a_C, b_C, f_C, ea, eb, reg_C' ha, reg_C' hb, V0_cap hc, s1, fault_C, hc, f_M, a_M, b_M, hx, h80, reg_M', s2, eo]
  rw [fault_M (by omega) hn, bnd_some]
  generalize hA : (cM W (17 * t + a)).1 + (((x >>> ((25 : Int32) &&& 31)) <<< ((5 : Int32) &&& 31)) ||| fd x) = A
  by_cases hfl : flt (cM W (17 * t + a)) 2 A (nI n) = 0
  · rw [if_pos hfl, if_pos hfl, dev_eq, dev_eqM]
    obtain ⟨p1, p2, p3, p4, p5, p6⟩ := flt_0 (by omega) hfl
    have hacc := acc h.1.1 h.1.2.2.2.2.2.2.2.2.1.1 hcg (by omega) (by omega) hfl (Or.inr (Or.inl rfl))
    by_cases hdv : 268435456 ≤ uN A
    · rw [decide_eq_true hdv, if_pos rfl, jn_def, if_pos rfl]
      by_cases f2 : ff x = 2
      · rw [if_pos f2, if_pos (s4.mpr f2), jn_def, if_pos rfl]
        unfold f_X10_writeDevice
        by_cases hD : A = 268435456
        · rw [if_pos hD, if_pos hD, chk_t hib, cl_nI (by omega), V0_cap hs]
          obtain ⟨V1, W1, q1, q2, q3, q4, q5⟩ := out_wr (kb := kb) (v := (cM W (17 * t + b)).1) h.1.2.2.2.2.2.2.1
          have hOK := OK_io h (q4.sub (by decide)) (q5.sub (by decide)) q3
          have q2' : f_X12_writesOut 0 (W 2400 0 (17 * t + b) &&& 255) W = some W1 := q2
          rw [q1, q2', bnd_some, bnd_some, bnd_some]
          have hpt' : (cM W1 (17 * t + 16)).2.2.2.2.1 = 0 := by
            rw [show cM W1 = cM W from cM_fr q5 (by decide)]
            exact hpt
          exact ⟨0, _, _, rfl, go W1 hOK.2.2.2.2.1, fun q => absurd rfl q, fun _ => OK_pc hOK hpt'⟩
        · rw [if_neg hD, if_neg hD, bnd_some]
          exact ⟨0, _, _, rfl, go W h80, fun q => absurd rfl q, fun _ => OK_pc h hpt⟩
      · rw [if_neg f2, if_neg (fun q => f2 (s4.mp q))]
        exact ⟨5, V, W, rfl, rfl, fun _ => ⟨rfl, rfl⟩, fun q => absurd q (by decide)⟩
    · rw [decide_eq_false hdv, if_neg (show ¬ false = true by decide), jn_def, if_neg (show ¬ false = true by decide), jn_def, if_neg (show ¬ false = true by decide)]
      have hin : uN A + n ≤ 1024 * kb := by
        rcases hacc with q | q
        · exact q
        · exact absurd q.1 hdv
      have hAn := nI_uN (x := A) (by omega)
      have hal := algn hn p6
      generalize uN A = u at hin hAn hal
      subst hAn
      by_cases f3 : ff x = 3
      · have h16 : n = 16 := nI_inj (by omega) (by decide) (s16.mpr f3)
        rw [if_pos f3, if_pos (s16.mpr f3)]
        subst h16
        obtain ⟨q, rfl⟩ : ∃ q, u = 16 * q := ⟨u / 16, by omega⟩
        rw [may_C hc hs]
        obtain ⟨V1, W1, q1, q2, q3, q4, q5, q6⟩ := st_cap (b := may (cM W (17 * t + a)) (cM W (17 * t + b))) h.1 (show q < 64 * kb by omega) (show 17 * t + b < 582 by omega) hs (fun z => by unfold may at z; rw [Bool.and_eq_true] at z; exact z.1)
        rw [q1, bnd_some]
        have hOK := OK_mem h q3 q4 q5 (q6 (gd_sw (h.2.2.1 b (by omega))) h.2.2.2.1)
        have hpt' : (cM W1 (17 * t + 16)).2.2.2.2.1 = 0 := by
          rw [show cM W1 = cM W from cM_fr q5 (by decide)]
          exact hpt
        exact ⟨0, _, _, rfl, Eq.trans (may_M (K := fun V14 => bnd (f_X12_goesOn 0 V14) fun p17 => some ((0 : Int32), p17)) (show 17 * t + a < 600 by omega) (show 17 * t + b < 600 by omega) rfl rfl) (by rw [q2, bnd_some]; exact go W1 hOK.2.2.2.2.1), fun q => absurd rfl q, fun _ => OK_pc hOK hpt'⟩
      · have h16 : ¬ nI n = 16 := fun q => f3 (s16.mp q)
        have hn' : n = 1 ∨ n = 2 ∨ n = 4 := by
          rcases hn with q | q | q | q
          · exact Or.inl q
          · exact Or.inr (Or.inl q)
          · exact Or.inr (Or.inr q)
          · exact absurd (by rw [q]; rfl) h16
        rw [if_neg f3, if_neg h16, chk_t hib, cl_nI (by omega), V0_cap hs]
        obtain ⟨V1, W1, q1, q2, q3, q4, q5, q6⟩ := st_num (v := (cM W (17 * t + b)).1) h.1 hn' hin hal
        have q2' : f_X12_put 0 (nI u) (nI n) (W 2400 0 (17 * t + b)) W = some W1 := q2
        rw [q1, q2', bnd_some, bnd_some, dv16 (by omega), chk_t (inb_nI (by omega) (by decide)), cl_nI (by omega)]
        have hOK := OK_mem h q3 q4 q5 (Jm_sub q6 (q5 1061 0 0 (by decide)) h.2.2.2.1)
        generalize sv W1 2200 0 (u / 16) (b2i false) = W2 at q3 q5 q6 hOK ⊢
        have hpt' : (cM W2 (17 * t + 16)).2.2.2.2.1 = 0 := by
          rw [show cM W2 = cM W from cM_fr q5 (by decide)]
          exact hpt
        exact ⟨0, _, _, rfl, go W2 hOK.2.2.2.2.1, fun q => absurd rfl q, fun _ => OK_pc hOK hpt'⟩
  · rw [if_neg hfl, if_neg hfl]
    exact ⟨_, V, W, rfl, rfl, fun _ => ⟨rfl, rfl⟩, fun q => absurd q hfl⟩
theorem ex_35 {kb T Tw t : Nat} {Y : HV} {l : List Ob} {V W : HV} {x : Int32} (h : OK 1000 kb T Tw t Y l V W) (hx : W 1081 0 0 = x) (hr : f_X12_isRight 0 W = true) (ho : x &&& 127 = 35) (hpt : (cM W (17 * t + 16)).2.2.2.2.1 = 0) : ∃ c V' W', f_X2_execute kb 0 t x V = some (c, V') ∧ dtl (nI (17 * t + 16)) W = some (c, W') ∧ RES kb T Tw t Y l V c V' W' := by
  have h6 := OK_t6 h
  obtain ⟨b, hb32, eb⟩ := fb_n x
  have hb := fl16 hb32 eb (rt_b hx hr (by simp [ho]))
  obtain ⟨a, ha32, ea⟩ := fa_n x
  have ha := fl16 ha32 ea (rt_a hx hr (by simp [ho]))
  obtain ⟨c, V1, W2, q1, q2, q3, q4⟩ := store_all h hx ea ha eb hb (rt_f35 hx hr ho) hpt
  unfold f_X2_execute dtl
  simp only [lt_def, jn_def, hx, ho, a_M, d_M, ea, value_M h.2.2.2.2.1 h6 (show a < 17 by omega), bnd_some, q1, q2]
  by_cases hc : c = 0
  · rw [if_neg (show ¬ (35 : Int32) = 3 by decide), if_neg (show ¬ (35 : Int32) = 19 by decide), if_neg (show ¬ (35 : Int32) = 23 by decide), if_pos trivial, if_neg (show ¬ (35 : Int32) = 3 by decide), if_neg (show ¬ (35 : Int32) = 19 by decide), if_neg (show ¬ (35 : Int32) = 23 by decide), if_pos trivial, if_pos hc]
    exact ⟨c, _, _, rfl, rfl, fun _ => q4 hc, fun q => absurd hc q⟩
  · rw [if_neg (show ¬ (35 : Int32) = 3 by decide), if_neg (show ¬ (35 : Int32) = 19 by decide), if_neg (show ¬ (35 : Int32) = 23 by decide), if_pos trivial, if_neg (show ¬ (35 : Int32) = 3 by decide), if_neg (show ¬ (35 : Int32) = 19 by decide), if_neg (show ¬ (35 : Int32) = 23 by decide), if_pos trivial, if_neg hc]
    obtain ⟨e1, e2⟩ := q3 hc
    exact ⟨c, _, _, rfl, rfl, fun q => absurd q hc, fun _ => ⟨e1, by rw [e2]; exact h⟩⟩
