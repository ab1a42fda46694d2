/-! capabilities shaped -/
def mvT (c : Cp) (a : Int32) : Cp := (a, c.2.1, c.2.2.1, c.2.2.2.1, c.2.2.2.2.1, c.2.2.2.2.2 && decide (c.2.2.2.2.1 = 0))
def nrw (c : Cp) (n : Int64) : Cp := (c.1, c.1, (pl c.1 + n).toInt32, c.2.2.2.1, c.2.2.2.2.1, c.2.2.2.2.2 && (decide (c.2.2.2.2.1 = 0) && (decide (¬ pl c.1 < pl c.2.1) && decide (¬ pl c.2.2.1 < pl c.1 + n))))
def lim (c : Cp) (m : Int32) : Cp := (c.1, c.2.1, c.2.2.1, c.2.2.2.1 &&& m, c.2.2.2.2.1, c.2.2.2.2.2 && decide (c.2.2.2.2.1 = 0))
def csl (s : Cp) : Bool := s.2.2.2.2.2 && (decide (s.2.2.2.2.1 = 0) && (decide (s.2.2.2.1 &&& 32 = 32) && (decide (¬ pl s.1 < pl s.2.1) && (decide (¬ pl s.2.2.1 < pl s.1 + (1 : Int32).toInt64) && (decide (¬ s.1 < 8) && decide (¬ 255 < s.1))))))
def utg (c : Cp) : Cp := (c.1, c.2.1, c.2.2.1, c.2.2.2.1, c.2.2.2.2.1, false)
def sea (c s : Cp) : Cp := if c.2.2.2.2.2 = true ∧ c.2.2.2.2.1 = 0 ∧ csl s = true then (c.1, c.2.1, c.2.2.1, c.2.2.2.1, s.1, c.2.2.2.2.2) else utg c
def uns (c s : Cp) : Cp := if c.2.2.2.2.2 = true ∧ c.2.2.2.2.1 = s.1 ∧ csl s = true then (c.1, c.2.1, c.2.2.1, (if s.2.2.2.1 &&& 64 = 64 then c.2.2.2.1 else c.2.2.2.1 &&& (-65)), 0, c.2.2.2.2.2) else utg c
def ent (c : Cp) (k : Int32) : Cp := if c.2.2.2.2.2 = true ∧ c.2.2.2.2.1 = 0 ∧ c.2.2.2.1 &&& 4 = 4 then (c.1, c.2.1, c.2.2.1, c.2.2.2.1, k, c.2.2.2.2.2) else utg c
def wit (b c : Cp) : Bool := decide (¬ pl b.2.1 < pl c.2.1) && (decide (¬ pl c.2.2.1 < pl b.2.2.1) && (decide (c.2.2.2.1 &&& b.2.2.2.1 = b.2.2.2.1) && decide (b.2.2.2.2.2 = c.2.2.2.2.2)))
def drv (c s : Cp) (g : Int32) : Cp := if g = 0 then mvT c (c.1 + s.1) else if g = 1 then mvT c s.1 else if g = 2 then nrw c (pl s.1) else if g = 3 then lim c s.1 else if g = 4 then sea c s else if g = 5 then uns c s else if g = 6 then nm (b2i (wit s c)) else nm (b2i (decide (s = c)))
def isp (c : Cp) (k : Int32) (on : Bool) : Cp := if k = 0 then nm c.2.2.2.1 else if k = 1 then nm c.2.2.2.2.1 else if k = 2 then nm c.2.1 else if k = 3 then nm (c.2.2.1 - c.2.1) else if k = 4 then nm (b2i c.2.2.2.2.2) else if k = 5 then nm c.2.2.1 else if k = 6 then nm c.1 else if k = 7 then nm (b2i on) else if k = 8 then c else if k = 9 then utg c else ent c (k - 9)
theorem mv_C (kb i : Nat) (a : Int32) (V : HV) : UC V (up (cC V) i (mvT (cC V i) a)) (f_X0_moveTo kb i a V) := by
  unfold f_X0_moveTo
  simp only [lt_def, dec_tf]
  refine ⟨?_, ((agr_sv _ _ _ _ _).app (agr_sv _ _ _ _ _)).sub (by decide)⟩
  funext j
  by_cases h : j = i
  · subst h; by_cases h4 : V 4 j 0 = 0 <;> simp [cC, up, sv, mvT, i2b_b2i, h4]
  · simp [cC, up, sv, h]
theorem nr_C (kb i : Nat) (n : Int64) (V : HV) : UC V (up (cC V) i (nrw (cC V i) n)) (f_X0_narrow kb i n V) := by
  unfold f_X0_narrow
  simp only [lt_def, unsigned_pl, lg_cmp_lt, lg_cmp_gt]
  refine ⟨?_, (((agr_sv _ _ _ _ _).app (agr_sv _ _ _ _ _)).app (agr_sv _ _ _ _ _)).sub (by decide)⟩
  funext j
  by_cases h : j = i
  · subst h
    simp [cC, up, sv, nrw, i2b_b2i]
    by_cases h1 : V 4 j 0 = 0
    · by_cases h2 : pl (V 0 j 0) < pl (V 1 j 0)
      · simp [h1, h2, Int64.not_le.mpr h2]
      · by_cases h3 : pl (V 2 j 0) < pl (V 0 j 0) + n
        · simp [h1, h2, h3, Int64.not_le.mpr h3]
        · simp [h1, h2, h3, Int64.not_lt.mp h2, Int64.not_lt.mp h3]
    · simp [h1]
  · simp [cC, up, sv, h]
theorem li_C (kb i : Nat) (m : Int32) (V : HV) : UC V (up (cC V) i (lim (cC V i) m)) (f_X0_limit kb i m V) := by
  unfold f_X0_limit
  simp only [lt_def, dec_tf]
  refine ⟨?_, ((agr_sv _ _ _ _ _).app (agr_sv _ _ _ _ _)).sub (by decide)⟩
  funext j
  by_cases h : j = i
  · subst h; by_cases h4 : V 4 j 0 = 0 <;> simp [cC, up, sv, lim, i2b_b2i, h4]
  · simp [cC, up, sv, h]
theorem cs_C (kb i : Nat) (V : HV) : f_X0_canSeal kb i V = csl (cC V i) := by
  unfold f_X0_canSeal f_X0_isPlainWith f_X0_holds csl
  simp only [lt_def, lg_cmp_lt, lg_cmp_gt]
  show _ = (i2b (V 5 i 0) && (decide (V 4 i 0 = 0) && (decide (V 3 i 0 &&& 32 = 32) && (decide (¬ pl (V 0 i 0) < pl (V 1 i 0)) && (decide (¬ pl (V 2 i 0) < pl (V 0 i 0) + (1 : Int32).toInt64) && (decide (¬ V 0 i 0 < 8) && decide (¬ 255 < V 0 i 0)))))))
  unfold pl
  by_cases h1 : i2b (V 5 i 0) = true
  · by_cases h2 : V 4 i 0 = 0
    · by_cases h3 : V 3 i 0 &&& 32 = 32
      · by_cases h4 : ((V 0 i 0).toInt64 &&& 4294967295) < ((V 1 i 0).toInt64 &&& 4294967295)
        · simp [h1, h2, h3, h4, Int64.not_le.mpr h4]
        · by_cases h5 : ((V 2 i 0).toInt64 &&& 4294967295) < ((V 0 i 0).toInt64 &&& 4294967295) + 1
          · simp [h1, h2, h3, h4, h5, Int64.not_le.mpr h5]
          · by_cases h6 : V 0 i 0 < 8
            · simp [h1, h2, h3, h4, h5, h6, Int32.not_le.mpr h6]
            · by_cases h7 : 255 < V 0 i 0
              · simp [h1, h2, h3, h4, h5, h6, h7, Int32.not_le.mpr h7]
              · simp [h1, h2, h3, h4, h5, h6, h7, Int64.not_lt.mp h4, Int64.not_lt.mp h5, Int32.not_lt.mp h6, Int32.not_lt.mp h7]
      · simp [h1, h2, h3]
    · simp [h1, h2]
  · simp [h1]
theorem ut_C (V : HV) (i : Nat) : UC V (up (cC V) i (utg (cC V i))) (sv V 5 i 0 (b2i false)) := s5_U V i false
theorem se_C (kb i j : Nat) (V : HV) : UC V (up (cC V) i (sea (cC V i) (cC V j))) (f_X0_seal kb i j V) := by
  unfold f_X0_seal sea
  simp only [lt_def, jn_def, cs_C]
  show UC V (up (cC V) i (if i2b (V 5 i 0) = true ∧ V 4 i 0 = 0 ∧ csl (cC V j) = true then _ else _)) _
  by_cases h1 : i2b (V 5 i 0) = true
  · by_cases h2 : V 4 i 0 = 0
    · by_cases h3 : csl (cC V j) = true
      · rw [if_pos h1, if_pos h2, if_pos h3, if_pos ⟨h1, h2, h3⟩]
        exact s4_U V i (V 0 j 0)
      · rw [if_pos h1, if_pos h2, if_neg h3, if_neg (fun q => h3 q.2.2)]
        exact ut_C V i
    · rw [if_pos h1, if_neg h2, if_neg (fun q => h2 q.2.1)]
      exact ut_C V i
  · rw [if_neg h1, if_neg (fun q => h1 q.1)]
    exact ut_C V i
theorem un_C (kb i j : Nat) (V : HV) (hij : ¬ j = i) : UC V (up (cC V) i (uns (cC V i) (cC V j))) (f_X0_unseal kb i j V) := by
  unfold f_X0_unseal uns f_X0_has
  simp only [lt_def, jn_def, cs_C, dec_tf]
  show UC V (up (cC V) i (if i2b (V 5 i 0) = true ∧ V 4 i 0 = V 0 j 0 ∧ csl (cC V j) = true then _ else _)) _
  by_cases h1 : i2b (V 5 i 0) = true
  · by_cases h2 : V 4 i 0 = V 0 j 0
    · by_cases h3 : csl (cC V j) = true
      · rw [if_pos h1, if_pos h2, if_pos h3, if_pos ⟨h1, h2, h3⟩]
        have e1 : (sv V 4 i 0 0) 3 j 0 = V 3 j 0 := sv_col (by decide)
        have e2 : (sv V 4 i 0 0) 3 i 0 = V 3 i 0 := sv_col (by decide)
        rw [e1, e2]
        by_cases h4 : V 3 j 0 &&& 64 = 64
        · have h4' : (cC V j).2.2.2.1 &&& 64 = 64 := h4
          rw [decide_eq_true h4, if_pos rfl, if_pos h4']
          exact s4_U V i 0
        · have h4' : ¬ (cC V j).2.2.2.1 &&& 64 = 64 := h4
          rw [decide_eq_false h4, if_neg (show ¬ false = true by decide), if_neg h4']
          have u1 := s4_U V i 0
          have u2 := s3_U (sv V 4 i 0 0) i (V 3 i 0 &&& (-65))
          rw [u1.1, up_up, up_at] at u2
          exact u1.trans u2
      · rw [if_pos h1, if_pos h2, if_neg h3, if_neg (fun q => h3 q.2.2)]
        exact ut_C V i
    · rw [if_pos h1, if_neg h2, if_neg (fun q => h2 q.2.1)]
      exact ut_C V i
  · rw [if_neg h1, if_neg (fun q => h1 q.1)]
    exact ut_C V i
theorem en_C (kb i : Nat) (k : Int32) (V : HV) : UC V (up (cC V) i (ent (cC V i) k)) (f_X0_becomeEntry kb i k V) := by
  unfold f_X0_becomeEntry ent f_X0_isPlainWith
  simp only [lt_def]
  show UC V (up (cC V) i (if i2b (V 5 i 0) = true ∧ V 4 i 0 = 0 ∧ V 3 i 0 &&& 4 = 4 then _ else _)) _
  by_cases h1 : i2b (V 5 i 0) = true
  · by_cases h2 : V 4 i 0 = 0
    · by_cases h3 : V 3 i 0 &&& 4 = 4
      · rw [if_pos h1, if_pos h2, if_pos h3, if_pos rfl, if_pos ⟨h1, h2, h3⟩]
        exact s4_U V i k
      · rw [if_pos h1, if_pos h2, if_neg h3, if_neg (show ¬ false = true by decide), if_neg (fun q => h3 q.2.2)]
        exact ut_C V i
    · rw [if_pos h1, if_neg h2, if_neg (show ¬ false = true by decide), if_neg (fun q => h2 q.2.1)]
      exact ut_C V i
  · rw [if_neg h1, if_neg (show ¬ false = true by decide), if_neg (fun q => h1 q.1)]
    exact ut_C V i
theorem b2i_eq (a b : Bool) : (b2i a = b2i b) ↔ a = b := by cases a <;> cases b <;> decide
theorem wi_C (kb i j : Nat) (V : HV) : f_X0_isWithin kb i j V = wit (cC V i) (cC V j) := by
  unfold f_X0_isWithin f_X0_has wit
  simp only [lt_def, unsigned_pl, lg_cmp_lt, lg_cmp_gt, dec_tf, b2i_eq]
  show _ = (decide (¬ pl (V 1 i 0) < pl (V 1 j 0)) && (decide (¬ pl (V 2 j 0) < pl (V 2 i 0)) && (decide (V 3 j 0 &&& V 3 i 0 = V 3 i 0) && decide (i2b (V 5 i 0) = i2b (V 5 j 0)))))
  by_cases h1 : pl (V 1 i 0) < pl (V 1 j 0)
  · simp [h1, Int64.not_le.mpr h1]
  · by_cases h2 : pl (V 2 j 0) < pl (V 2 i 0)
    · simp [h1, h2, Int64.not_le.mpr h2]
    · by_cases h3 : V 3 j 0 &&& V 3 i 0 = V 3 i 0
      · simp [h1, h2, h3, Int64.not_lt.mp h1, Int64.not_lt.mp h2]
      · simp [h1, h2, h3]
theorem lk_C (kb i j : Nat) (V : HV) : f_X0_isLike kb i j V = decide (cC V i = cC V j) := by
  unfold f_X0_isLike cC
  simp only [lt_def, b2i_eq, Prod.mk.injEq]
  by_cases h0 : V 0 i 0 = V 0 j 0
  · by_cases h1 : V 1 i 0 = V 1 j 0
    · by_cases h2 : V 2 i 0 = V 2 j 0
      · by_cases h3 : V 3 i 0 = V 3 j 0
        · by_cases h4 : V 4 i 0 = V 4 j 0
          · by_cases h5 : i2b (V 5 i 0) = i2b (V 5 j 0)
            · simp [h0, h1, h2, h3, h4, h5]
            · simp [h0, h1, h2, h3, h4, h5]
          · simp [h0, h1, h2, h3, h4]
        · simp [h0, h1, h2, h3]
      · simp [h0, h1, h2]
    · simp [h0, h1]
  · simp [h0]
theorem dr_C (kb i j : Nat) (g : Int32) (V : HV) (hij : ¬ j = i) : UC V (up (cC V) i (drv (cC V i) (cC V j) g)) (f_X2_derive kb i j g V) := by
  unfold f_X2_derive drv
  by_cases h0 : g = 0
  · rw [if_pos h0, if_pos h0, lt_def]; exact mv_C kb i _ V
  rw [if_neg h0, if_neg h0]
  by_cases h1 : g = 1
  · rw [if_pos h1, if_pos h1, lt_def]; exact mv_C kb i _ V
  rw [if_neg h1, if_neg h1]
  by_cases h2 : g = 2
  · rw [if_pos h2, if_pos h2, lt_def, lt_def, unsigned_pl]; exact nr_C kb i _ V
  rw [if_neg h2, if_neg h2]
  by_cases h3 : g = 3
  · rw [if_pos h3, if_pos h3, lt_def]; exact li_C kb i _ V
  rw [if_neg h3, if_neg h3]
  by_cases h4 : g = 4
  · rw [if_pos h4, if_pos h4, lt_def]; exact se_C kb i j V
  rw [if_neg h4, if_neg h4]
  by_cases h5 : g = 5
  · rw [if_pos h5, if_pos h5, lt_def]; exact un_C kb i j V hij
  rw [if_neg h5, if_neg h5]
  by_cases h6 : g = 6
  · rw [if_pos h6, if_pos h6, lt_def, lt_def, lt_def, wi_C, ite_tf, number_C]; exact kC_U V i _
  · rw [if_neg h6, if_neg h6, lt_def, lt_def, lt_def, lk_C, ite_tf, number_C]; exact kC_U V i _
theorem UC_same (V : HV) (i : Nat) : UC V (up (cC V) i (cC V i)) V := by
  refine ⟨?_, (agr_rfl V).sub (by decide)⟩
  funext j
  by_cases hj : j = i <;> simp [up, hj]
theorem is_C (kb i : Nat) (k : Int32) (on : Bool) (V : HV) : UC V (up (cC V) i (isp (cC V i) k on)) (f_X2_inspect kb i k on V) := by
  unfold f_X2_inspect isp
  by_cases h0 : k = 0
  · rw [if_pos h0, if_pos h0, lt_def, number_C]; exact kC_U V i _
  rw [if_neg h0, if_neg h0]
  by_cases h1 : k = 1
  · rw [if_pos h1, if_pos h1, lt_def, number_C]; exact kC_U V i _
  rw [if_neg h1, if_neg h1]
  by_cases h2 : k = 2
  · rw [if_pos h2, if_pos h2, lt_def, number_C]; exact kC_U V i _
  rw [if_neg h2, if_neg h2]
  by_cases h3 : k = 3
  · rw [if_pos h3, if_pos h3, lt_def, number_C]; exact kC_U V i _
  rw [if_neg h3, if_neg h3]
  by_cases h4 : k = 4
  · rw [if_pos h4, if_pos h4, lt_def, lt_def, ite_tf, number_C]; exact kC_U V i _
  rw [if_neg h4, if_neg h4]
  by_cases h5 : k = 5
  · rw [if_pos h5, if_pos h5, lt_def, number_C]; exact kC_U V i _
  rw [if_neg h5, if_neg h5]
  by_cases h6 : k = 6
  · rw [if_pos h6, if_pos h6, lt_def, number_C]; exact kC_U V i _
  rw [if_neg h6, if_neg h6]
  by_cases h7 : k = 7
  · rw [if_pos h7, if_pos h7, lt_def, lt_def, ite_tf, number_C]; exact kC_U V i _
  rw [if_neg h7, if_neg h7]
  by_cases h8 : k = 8
  · rw [if_pos h8, if_pos h8]; exact UC_same V i
  rw [if_neg h8, if_neg h8]
  by_cases h9 : k = 9
  · rw [if_pos h9, if_pos h9, lt_def]; exact ut_C V i
  · rw [if_neg h9, if_neg h9, lt_def]; exact en_C kb i _ V
