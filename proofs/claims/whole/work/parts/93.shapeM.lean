/-! the reference's shapes -/
theorem dNt {p : Prop} [Decidable p] (h : ¬ p) : decide (¬ p) = true := decide_eq_true h
theorem dNf {p : Prop} [Decidable p] (h : p) : decide (¬ p) = false := decide_eq_false (fun q => q h)
theorem bF {b : Bool} (h : ¬ b = true) : b = false := by cases b <;> simp_all
theorem n0 {W W1 : HV} {i : Nat} {c : Cp} (h : UM W (up (cM W) i c) W1) (x : Int32) : UM W (up (cM W) i (x, c.2)) (sv W1 2400 0 i x) := by
  have u := m0_U W1 i x
  rw [h.1, up_at, up_up] at u
  exact h.trans u
theorem n1 {W W1 : HV} {i : Nat} {c : Cp} (h : UM W (up (cM W) i c) W1) (x : Int32) : UM W (up (cM W) i (c.1, x, c.2.2)) (sv W1 2500 0 i x) := by
  have u := m1_U W1 i x
  rw [h.1, up_at, up_up] at u
  exact h.trans u
theorem n2 {W W1 : HV} {i : Nat} {c : Cp} (h : UM W (up (cM W) i c) W1) (x : Int32) : UM W (up (cM W) i (c.1, c.2.1, x, c.2.2.2)) (sv W1 2600 0 i x) := by
  have u := m2_U W1 i x
  rw [h.1, up_at, up_up] at u
  exact h.trans u
theorem n3 {W W1 : HV} {i : Nat} {c : Cp} (h : UM W (up (cM W) i c) W1) (x : Int32) : UM W (up (cM W) i (c.1, c.2.1, c.2.2.1, x, c.2.2.2.2)) (sv W1 2700 0 i x) := by
  have u := m3_U W1 i x
  rw [h.1, up_at, up_up] at u
  exact h.trans u
theorem n4 {W W1 : HV} {i : Nat} {c : Cp} (h : UM W (up (cM W) i c) W1) (x : Int32) : UM W (up (cM W) i (c.1, c.2.1, c.2.2.1, c.2.2.2.1, x, c.2.2.2.2.2)) (sv W1 2800 0 i x) := by
  have u := m4_U W1 i x
  rw [h.1, up_at, up_up] at u
  exact h.trans u
theorem n5 {W W1 : HV} {i : Nat} {c : Cp} (h : UM W (up (cM W) i c) W1) (b : Bool) : UM W (up (cM W) i (c.1, c.2.1, c.2.2.1, c.2.2.2.1, c.2.2.2.2.1, b)) (sv W1 2900 0 i (b2i b)) := by
  have u := m5_U W1 i b
  rw [h.1, up_at, up_up] at u
  exact h.trans u
theorem g_at {W W1 : HV} {i : Nat} {c : Cp} (h : UM W (up (cM W) i c) W1) : cM W1 i = c := by rw [h.1, up_at]
theorem g_ne {W W1 : HV} {i j : Nat} {c : Cp} (h : UM W (up (cM W) i c) W1) (hj : ¬ j = i) : cM W1 j = cM W j := by rw [h.1, up_ne hj]
theorem i582 : inb (582 : Int32) 600 := inb_nI (k := 582) (by decide) (by decide)
theorem c582 : (582 : Int32).toNatClampNeg = 582 := cl_nI (k := 582) (by decide)
theorem cM_0 {W : HV} {i : Nat} {c : Cp} (h : cM W i = c) : W 2400 0 i = c.1 := congrArg (fun c : Cp => c.1) h
theorem cM_1 {W : HV} {i : Nat} {c : Cp} (h : cM W i = c) : W 2500 0 i = c.2.1 := congrArg (fun c : Cp => c.2.1) h
theorem cM_2 {W : HV} {i : Nat} {c : Cp} (h : cM W i = c) : W 2600 0 i = c.2.2.1 := congrArg (fun c : Cp => c.2.2.1) h
theorem cM_3 {W : HV} {i : Nat} {c : Cp} (h : cM W i = c) : W 2700 0 i = c.2.2.2.1 := congrArg (fun c : Cp => c.2.2.2.1) h
theorem cM_4 {W : HV} {i : Nat} {c : Cp} (h : cM W i = c) : W 2800 0 i = c.2.2.2.2.1 := congrArg (fun c : Cp => c.2.2.2.2.1) h
theorem cM_5 {W : HV} {i : Nat} {c : Cp} (h : cM W i = c) : i2b (W 2900 0 i) = c.2.2.2.2.2 := congrArg (fun c : Cp => c.2.2.2.2.2) h
theorem bounds_M {W W1 : HV} {xa : Nat} {c : Cp} {n : Int64} {is : Bool} (h : UM W (up (cM W) 582 c) W1) (hx : xa < 582) (hc : cM W xa = c) : ∃ W', f_X12_bounds 0 (nI xa) n is W1 = some W' ∧ UM W (up (cM W) 582 (c.1, c.1, (pl c.1 + n).toInt32, c.2.2.2.1, c.2.2.2.2.1, is && (decide (¬ pl c.1 < pl c.2.1) && decide (¬ pl c.2.2.1 < pl c.1 + n)))) W' := by
  have hc' : cM W1 xa = c := (g_ne h (by omega)).trans hc
  have u := n2 (n1 h c.1) (pl c.1 + n).toInt32
  unfold f_X12_bounds
  rw [chk_t (inb_nI (by omega) (by decide)), lt_def, chk_t (inb_nI (by omega) (by decide)), chk_t i582, lt_def, chk_t i582, lt_def, cl_nI (by omega), c582, plain_pl, cM_0 hc', jn_def, jn_def]
  generalize hW7 : sv (sv W1 2500 0 582 c.1) 2600 0 582 (pl c.1 + n).toInt32 = W7 at u ⊢
  have f1 : W7 2500 0 xa = c.2.1 := by rw [← hW7, sv_col (by decide), sv_ne (by omega), cM_1 hc']
  have f2 : W7 2600 0 xa = c.2.2.1 := by rw [← hW7, sv_ne (by omega), sv_col (by decide), cM_2 hc']
  have key : ∀ b : Bool, b = (is && (decide (¬ pl c.1 < pl c.2.1) && decide (¬ pl c.2.2.1 < pl c.1 + n))) → ∃ W', (chk (inb (582 : Int32) 600) <| lt (sv W7 2900 0 582 (b2i b)) fun V12 => some V12) = some W' ∧ UM W (up (cM W) 582 (c.1, c.1, (pl c.1 + n).toInt32, c.2.2.2.1, c.2.2.2.2.1, is && (decide (¬ pl c.1 < pl c.2.1) && decide (¬ pl c.2.2.1 < pl c.1 + n)))) W' := by
    intro b hb
    rw [← hb, chk_t i582, lt_def]
    exact ⟨_, rfl, n5 u b⟩
  by_cases hi : is = true
  · rw [if_pos hi, chk_t (inb_nI (by omega) (by decide)), lt_def, f1, plain_pl]
    by_cases h1 : lg_cmp (pl c.1) (pl c.2.1) < 0
    · rw [if_pos h1]
      exact key false (by rw [dNf ((lg_cmp_lt _ _).mp h1), hi]; rfl)
    · rw [if_neg h1, chk_t (inb_nI (by omega) (by decide)), lt_def, f2, plain_pl]
      by_cases h2 : 0 < lg_cmp (pl c.1 + n) (pl c.2.2.1)
      · rw [if_pos h2]
        exact key false (by rw [dNf ((lg_cmp_gt _ _).mp h2), hi, Bool.and_false]; rfl)
      · rw [if_neg h2]
        exact key true (by rw [dNt (mt (lg_cmp_lt _ _).mpr h1), dNt (mt (lg_cmp_gt _ _).mpr h2), hi]; rfl)
  · rw [if_neg hi]
    exact key false (by rw [bF hi]; rfl)
theorem i64_8 : (8 : Int64) = pl 8 := by decide
theorem i64_255 : (255 : Int64) = pl 255 := by decide
theorem rng_M {a : Int32} : (¬ a < 8 ∧ ¬ 255 < a) ↔ (¬ pl a < 8 ∧ ¬ 255 < pl a) := by
  rw [i64_8, i64_255, pl_lt, pl_lt, show uN 8 = 8 by decide, show uN 255 = 255 by decide]
  by_cases hn : a < 0
  · have h1 := neg_uN.mp hn
    exact ⟨fun q => absurd (Int32.lt_trans hn (by decide)) q.1, fun q => absurd (show 255 < uN a by omega) q.2⟩
  · obtain ⟨j, hj, rfl⟩ := nI_of hn
    rw [uN_nI (by omega), show (8 : Int32) = nI 8 from rfl, show (255 : Int32) = nI 255 from rfl, nI_ltI hj (by decide), nI_ltI (by decide) hj]
theorem nx_M {a t : Int32} : (¬ pl t < pl a + (1 : Int32).toInt64) ↔ pl a < pl t := by
  rw [pl_add_gt (n := 1) (by decide) (by decide), pl_lt]
  omega
noncomputable def slt (x1 x2 : Int32) (x3 : Bool) (V : HV) (v4 : Bool) : Option (HV) :=
  lt (f_X12_g 0 V) fun v7 =>
  if v7 = 4 then (lt (if x3 = true then (if v4 = true then (true) else (false)) else (false) : Bool) fun v31 =>
  chk (inb (582 : Int32) 600) <|
  lt (sv V 2900 0 (582 : Int32).toNatClampNeg (b2i v31)) fun V34 =>
  chk (inb (582 : Int32) 600) <|
  if (i2b (V34 2900 0 ((582 : Int32)).toNatClampNeg)) = true then (chk (inb x2 600) <|
  chk (inb (582 : Int32) 600) <|
  lt (sv V34 2800 0 (582 : Int32).toNatClampNeg (V34 2400 0 (x2).toNatClampNeg)) fun V39 =>
  some V39) else (some V34)) else (chk (inb x1 600) <|
  jn (fun v10 =>
  chk (inb (582 : Int32) 600) <|
  lt (sv V 2900 0 (582 : Int32).toNatClampNeg (b2i v10)) fun V14 =>
  chk (inb (582 : Int32) 600) <|
  if (i2b (V14 2900 0 ((582 : Int32)).toNatClampNeg)) = true then (chk (inb (582 : Int32) 600) <|
  lt (sv V14 2800 0 (582 : Int32).toNatClampNeg 0) fun V18 =>
  chk (inb x2 600) <|
  if ((V18 2700 0 (x2).toNatClampNeg) &&& 64) = 0 then (chk (inb (582 : Int32) 600) <|
  chk (inb (582 : Int32) 600) <|
  lt (sv V18 2700 0 (582 : Int32).toNatClampNeg ((V18 2700 0 ((582 : Int32)).toNatClampNeg) &&& (-65))) fun V23 =>
  some V23) else (some V18)) else (some V14)) fun k11 =>
  jn (k11 false) fun k24 =>
  if (i2b (V 2900 0 (x1).toNatClampNeg)) = true then (if v4 = true then (chk (inb x1 600) <|
  chk (inb x2 600) <|
  if (V 2800 0 (x1).toNatClampNeg) = (V 2400 0 (x2).toNatClampNeg) then (k11 true) else (k24)) else (k24)) else (k24))
theorem csl_at {s : Cp} (h1 : s.2.2.2.2.2 = true) (h2 : s.2.2.2.2.1 = 0) (h3 : ¬ s.2.2.2.1 &&& 32 = 0) (h4 : ¬ pl s.1 < pl s.2.1) (h5 : pl s.1 < pl s.2.2.1) (h6 : ¬ pl s.1 < 8) (h7 : ¬ 255 < pl s.1) : csl s = true := by
  have h8 := rng_M.mpr ⟨h6, h7⟩
  unfold csl
  rw [h1, decide_eq_true h2, decide_eq_true ((b32 _).mpr h3), decide_eq_true h4, decide_eq_true (nx_M.mpr h5), decide_eq_true h8.1, decide_eq_true h8.2]
  rfl
theorem csl_no {s : Cp} (h : csl s = true) : s.2.2.2.2.2 = true ∧ s.2.2.2.2.1 = 0 ∧ (¬ s.2.2.2.1 &&& 32 = 0) ∧ (¬ pl s.1 < pl s.2.1) ∧ pl s.1 < pl s.2.2.1 ∧ (¬ pl s.1 < 8) ∧ (¬ 255 < pl s.1) ∧ (¬ s.1 < 8) ∧ (¬ 255 < s.1) := by
  unfold csl at h
  simp only [Bool.and_eq_true, decide_eq_true_eq] at h
  obtain ⟨h1, h2, h3, h4, h5, h6, h7⟩ := h
  have h8 := rng_M.mp ⟨h6, h7⟩
  exact ⟨h1, h2, (b32 _).mp h3, h4, nx_M.mp h5, h8.1, h8.2, h6, h7⟩
theorem csl_f {s : Cp} (h : ¬ csl s = true) : csl s = false := by cases hq : csl s <;> simp_all
theorem seals_h {W : HV} {xa xb : Nat} {s : Cp} {is : Bool} (hb : xb < 582) (hs : cM W xb = s) : f_X12_seals 0 (nI xa) (nI xb) is W = slt (nI xa) (nI xb) is W (csl s) := by
  unfold f_X12_seals slt
  have hi : inb (nI xb) 600 := inb_nI (by omega) (by decide)
  rw [chk_t hi, lt_def, chk_t hi, jn_def, jn_def, cl_nI (by omega), plain_pl, cM_0 hs, cM_5 hs]
  by_cases h1 : s.2.2.2.2.2 = true
  · rw [if_pos h1, chk_t hi, cM_4 hs]
    by_cases h2 : s.2.2.2.2.1 = 0
    · rw [if_pos h2, chk_t hi, cM_3 hs]
      by_cases h3 : s.2.2.2.1 &&& 32 = 0
      · rw [if_pos h3, csl_f (fun q => (csl_no q).2.2.1 h3)]
      · rw [if_neg h3, chk_t hi, lt_def, cM_1 hs, plain_pl]
        by_cases h4 : lg_cmp (pl s.1) (pl s.2.1) < 0
        · rw [if_pos h4, csl_f (fun q => (csl_no q).2.2.2.1 ((lg_cmp_lt _ _).mp h4))]
        · rw [if_neg h4, chk_t hi, lt_def, cM_2 hs, plain_pl]
          by_cases h5 : 0 ≤ lg_cmp (pl s.1) (pl s.2.2.1)
          · rw [if_pos h5, csl_f (fun q => Int64.not_lt.mpr ((lg_cmp_ge _ _).mp h5) (csl_no q).2.2.2.2.1)]
          · rw [if_neg h5]
            by_cases h6 : lg_cmp (pl s.1) (8 : Int64) < 0
            · rw [if_pos h6, csl_f (fun q => (csl_no q).2.2.2.2.2.1 ((lg_cmp_lt _ _).mp h6))]
            · rw [if_neg h6]
              by_cases h7 : 0 < lg_cmp (pl s.1) (255 : Int64)
              · rw [if_pos h7, csl_f (fun q => (csl_no q).2.2.2.2.2.2.1 ((lg_cmp_gt _ _).mp h7))]
              · rw [if_neg h7, csl_at h1 h2 h3 (fun q => h4 ((lg_cmp_lt _ _).mpr q)) (Int64.not_le.mp fun q => h5 ((lg_cmp_ge _ _).mpr q)) (fun q => h6 ((lg_cmp_lt _ _).mpr q)) (fun q => h7 ((lg_cmp_gt _ _).mpr q))]
    · rw [if_neg h2, csl_f (fun q => h2 (csl_no q).2.1)]
  · rw [if_neg h1, csl_f (fun q => h1 (csl_no q).1)]
theorem sea_M {W W1 : HV} {xa xb : Nat} {c s : Cp} {x : Int32} (h : UM W (up (cM W) 582 c) W1) (hx : W1 1081 0 0 = x) (hg : fg x = 4) (hb : xb < 582) (hs : cM W xb = s) : ∃ W', slt (nI xa) (nI xb) (c.2.2.2.2.2 && decide (c.2.2.2.2.1 = 0)) W1 (csl s) = some W' ∧ UM W (up (cM W) 582 (sea c s)) W' := by
  unfold slt
  rw [lt_def, g_M, hx, if_pos hg, lt_def, chk_t i582, lt_def, chk_t i582, c582, sv_at, i2b_b2i]
  have u := n5 h
  by_cases hq : c.2.2.2.2.2 = true ∧ c.2.2.2.2.1 = 0 ∧ csl s = true
  · obtain ⟨q1, q2, q3⟩ := hq
    rw [q1, q3, decide_eq_true q2, Bool.true_and, if_pos rfl, if_pos rfl, if_pos rfl, chk_t (inb_nI (by omega) (by decide)), chk_t i582, lt_def, cl_nI (by omega), sv_col (by decide), cM_0 ((g_ne h (by omega)).trans hs)]
    refine ⟨_, rfl, ?_⟩
    have e : sea c s = (c.1, c.2.1, c.2.2.1, c.2.2.2.1, s.1, true) := by
      unfold sea
      rw [if_pos ⟨q1, q2, q3⟩, q1]
    rw [e]
    exact n4 (u true) s.1
  · have e : (if (c.2.2.2.2.2 && decide (c.2.2.2.2.1 = 0)) = true then (if csl s = true then true else false) else false) = false := by
      by_cases q1 : c.2.2.2.2.2 = true
      · by_cases q2 : c.2.2.2.2.1 = 0
        · by_cases q3 : csl s = true
          · exact absurd ⟨q1, q2, q3⟩ hq
          · rw [if_neg q3, ite_self]
        · rw [decide_eq_false q2, Bool.and_false]; rfl
      · rw [bF q1]; rfl
    rw [e, if_neg (show ¬ false = true by decide)]
    refine ⟨_, rfl, ?_⟩
    have e2 : sea c s = utg c := if_neg hq
    rw [e2]
    exact u false
theorem uns_M {W W1 : HV} {xa xb : Nat} {c s : Cp} {x : Int32} {is : Bool} (h : UM W (up (cM W) 582 c) W1) (hx : W1 1081 0 0 = x) (hg : ¬ fg x = 4) (ha : xa < 582) (hc : cM W xa = c) (hb : xb < 582) (hs : cM W xb = s) : ∃ W', slt (nI xa) (nI xb) is W1 (csl s) = some W' ∧ UM W (up (cM W) 582 (uns c s)) W' := by
  unfold slt
  have hia : inb (nI xa) 600 := inb_nI (by omega) (by decide)
  have hib : inb (nI xb) 600 := inb_nI (by omega) (by decide)
  have hc' : cM W1 xa = c := (g_ne h (by omega)).trans hc
  have hs' : cM W1 xb = s := (g_ne h (by omega)).trans hs
  rw [lt_def, g_M, hx, if_neg hg, chk_t hia, jn_def, jn_def, cl_nI (by omega), cl_nI (by omega), cM_5 hc']
  have u := n5 h
  have no : ¬ (c.2.2.2.2.2 = true ∧ c.2.2.2.2.1 = s.1 ∧ csl s = true) → ∃ W', (chk (inb (582 : Int32) 600) <| lt (sv W1 2900 0 (582 : Int32).toNatClampNeg (b2i false)) fun V14 => chk (inb (582 : Int32) 600) <|
    if (i2b (V14 2900 0 ((582 : Int32)).toNatClampNeg)) = true then (chk (inb (582 : Int32) 600) <|
    lt (sv V14 2800 0 (582 : Int32).toNatClampNeg 0) fun V18 =>
    chk (inb (nI xb) 600) <|
    if ((V18 2700 0 xb) &&& 64) = 0 then (chk (inb (582 : Int32) 600) <|
    chk (inb (582 : Int32) 600) <|
    lt (sv V18 2700 0 (582 : Int32).toNatClampNeg ((V18 2700 0 ((582 : Int32)).toNatClampNeg) &&& (-65))) fun V23 =>
    some V23) else (some V18)) else (some V14)) = some W' ∧ UM W (up (cM W) 582 (uns c s)) W' := by
    intro q
    rw [chk_t i582, lt_def, chk_t i582, c582, sv_at, i2b_b2i, if_neg (show ¬ false = true by decide)]
    refine ⟨_, rfl, ?_⟩
    have e2 : uns c s = utg c := if_neg q
    rw [e2]
    exact u false
  by_cases q1 : c.2.2.2.2.2 = true
  · rw [if_pos q1]
    by_cases q3 : csl s = true
    · rw [if_pos q3, chk_t hia, chk_t hib, cM_4 hc', cM_0 hs']
      by_cases q2 : c.2.2.2.2.1 = s.1
      · rw [if_pos q2]
        dsimp only
        rw [chk_t i582, lt_def, chk_t i582, c582, sv_at, i2b_b2i, if_pos rfl, chk_t i582, lt_def, chk_t hib]
        have e3 : (sv (sv W1 2900 0 582 (b2i true)) 2800 0 582 0) 2700 0 xb = s.2.2.2.1 := by rw [sv_col (by decide), sv_col (by decide), cM_3 hs']
        have e4 : (sv (sv W1 2900 0 582 (b2i true)) 2800 0 582 0) 2700 0 582 = c.2.2.2.1 := by rw [sv_col (by decide), sv_col (by decide), cM_3 (g_at h)]
        rw [e3, e4]
        have e5 : uns c s = (c.1, c.2.1, c.2.2.1, (if s.2.2.2.1 &&& 64 = 64 then c.2.2.2.1 else c.2.2.2.1 &&& (-65)), 0, true) := by
          unfold uns
          rw [if_pos ⟨q1, q2, q3⟩, q1]
        rw [e5]
        have b64 : (s.2.2.2.1 &&& 64 = 64) ↔ ¬ (s.2.2.2.1 &&& 64 = 0) := bit_iff (k := 6) (by decide) (by decide)
        by_cases q4 : s.2.2.2.1 &&& 64 = 0
        · rw [if_pos q4, if_neg (fun q => b64.mp q q4), chk_t i582, chk_t i582, lt_def]
          exact ⟨_, rfl, n3 (n4 (u true) 0) _⟩
        · rw [if_neg q4, if_pos (b64.mpr q4)]
          exact ⟨_, rfl, n4 (u true) 0⟩
      · rw [if_neg q2]
        exact no (fun q => q2 q.2.1)
    · rw [if_neg q3]
      exact no (fun q => q3 q.2.2)
  · rw [if_neg q1]
    exact no (fun q => q1 q.1)
theorem sub_bits {p q : Int32} : (p &&& (q ^^^ (-1)) = 0) ↔ (q &&& p = p) := by
  constructor
  · intro h
    apply Int32.toBitVec_inj.mp
    apply BitVec.eq_of_getLsbD_eq
    intro i hi
    have h2 := congrArg (fun z : Int32 => z.toBitVec.getLsbD i) h
    simp [hi] at h2 ⊢
    exact h2
  · intro h
    apply Int32.toBitVec_inj.mp
    apply BitVec.eq_of_getLsbD_eq
    intro i hi
    have h2 := congrArg (fun z : Int32 => z.toBitVec.getLsbD i) h
    simp [hi] at h2 ⊢
    exact h2
theorem wit_M {W : HV} {i j : Nat} {b c : Cp} (hi : i < 600) (hj : j < 600) (h1 : cM W i = b) (h2 : cM W j = c) : f_X12_isWithin 0 (nI i) (nI j) W = some (wit b c) := by
  have ii : inb (nI i) 600 := inb_nI hi (by decide)
  have ij : inb (nI j) 600 := inb_nI hj (by decide)
  unfold f_X12_isWithin wit
  rw [chk_t ii, lt_def, chk_t ij, lt_def, cl_nI (by omega), cl_nI (by omega), plain_pl, plain_pl, cM_1 h1, cM_1 h2]
  by_cases q1 : lg_cmp (pl b.2.1) (pl c.2.1) < 0
  · rw [if_pos q1, dNf ((lg_cmp_lt _ _).mp q1)]; rfl
  · rw [if_neg q1, chk_t ii, lt_def, chk_t ij, lt_def, plain_pl, plain_pl, cM_2 h1, cM_2 h2, dNt (mt (lg_cmp_lt _ _).mpr q1)]
    by_cases q2 : 0 < lg_cmp (pl b.2.2.1) (pl c.2.2.1)
    · rw [if_pos q2, dNf ((lg_cmp_gt _ _).mp q2)]; rfl
    · rw [if_neg q2, chk_t ii, chk_t ij, cM_3 h1, cM_3 h2, dNt (mt (lg_cmp_gt _ _).mpr q2)]
      by_cases q3 : b.2.2.2.1 &&& (c.2.2.2.1 ^^^ (-1)) = 0
      · rw [if_pos q3, chk_t ij, chk_t ii, cM_5 h1, cM_5 h2, decide_eq_true (sub_bits.mp q3)]
        by_cases q4 : b2i c.2.2.2.2.2 = b2i b.2.2.2.2.2
        · rw [if_pos q4, decide_eq_true ((b2i_eq _ _).mp q4).symm]; rfl
        · rw [if_neg q4, decide_eq_false (fun q => q4 ((b2i_eq _ _).mpr q.symm))]; rfl
      · rw [if_neg q3, decide_eq_false (fun q => q3 (sub_bits.mpr q))]; rfl
theorem like_M {W : HV} {i j : Nat} {b c : Cp} (hi : i < 600) (hj : j < 600) (h1 : cM W i = c) (h2 : cM W j = b) : f_X12_isLike 0 (nI i) (nI j) W = some (decide (b = c)) := by
  have ii : inb (nI i) 600 := inb_nI hi (by decide)
  have ij : inb (nI j) 600 := inb_nI hj (by decide)
  have key : decide (b = c) = decide (c.1 = b.1 ∧ c.2.1 = b.2.1 ∧ c.2.2.1 = b.2.2.1 ∧ c.2.2.2.1 = b.2.2.2.1 ∧ c.2.2.2.2.1 = b.2.2.2.2.1 ∧ b2i c.2.2.2.2.2 = b2i b.2.2.2.2.2) := by
    obtain ⟨b0, b1, b2, b3, b4, b5⟩ := b
    obtain ⟨c0, c1, c2, c3, c4, c5⟩ := c
    simp only [Prod.mk.injEq, b2i_eq]
    apply decide_eq_decide.mpr
    constructor
    · rintro ⟨rfl, rfl, rfl, rfl, rfl, rfl⟩; exact ⟨rfl, rfl, rfl, rfl, rfl, rfl⟩
    · rintro ⟨rfl, rfl, rfl, rfl, rfl, rfl⟩; exact ⟨rfl, rfl, rfl, rfl, rfl, rfl⟩
  unfold f_X12_isLike
  rw [key, chk_t ii, chk_t ij, cl_nI (by omega), cl_nI (by omega), cM_0 h1, cM_0 h2, cM_1 h1, cM_1 h2, cM_2 h1, cM_2 h2, cM_3 h1, cM_3 h2, cM_4 h1, cM_4 h2, cM_5 h1, cM_5 h2]
  by_cases q0 : c.1 = b.1
  · rw [if_pos q0, chk_t ii, chk_t ij]
    by_cases q1 : c.2.1 = b.2.1
    · rw [if_pos q1, chk_t ii, chk_t ij]
      by_cases q2 : c.2.2.1 = b.2.2.1
      · rw [if_pos q2, chk_t ii, chk_t ij]
        by_cases q3 : c.2.2.2.1 = b.2.2.2.1
        · rw [if_pos q3, chk_t ii, chk_t ij]
          by_cases q4 : c.2.2.2.2.1 = b.2.2.2.2.1
          · rw [if_pos q4, chk_t ii, chk_t ij]
            by_cases q5 : b2i c.2.2.2.2.2 = b2i b.2.2.2.2.2
            · rw [if_pos q5, decide_eq_true ⟨q0, q1, q2, q3, q4, q5⟩]
            · rw [if_neg q5, decide_eq_false (fun q => q5 q.2.2.2.2.2)]
          · rw [if_neg q4, decide_eq_false (fun q => q4 q.2.2.2.2.1)]
        · rw [if_neg q3, decide_eq_false (fun q => q3 q.2.2.2.1)]
      · rw [if_neg q2, decide_eq_false (fun q => q2 q.2.2.1)]
    · rw [if_neg q1, decide_eq_false (fun q => q1 q.2.1)]
  · rw [if_neg q0, decide_eq_false (fun q => q0 q.1)]
/-- the result goes into register d -/
def SH (W : HV) (t d : Nat) (y : Cp) (E : Option HV) : Prop := ∃ W' g, E = some W' ∧ UM W g W' ∧ ∀ i, i < 582 → g i = (if d = 0 then cM W else up (cM W) (17 * t + d) y) i
theorem sh_g {W : HV} {t d : Nat} {y z : Cp} (i : Nat) (hi : i < 582) : (if d = 0 then up (cM W) 582 z else up (up (cM W) 582 z) (17 * t + d) y) i = (if d = 0 then cM W else up (cM W) (17 * t + d) y) i := by
  by_cases h0 : d = 0
  · rw [if_pos h0, if_pos h0, up_ne (by omega)]
  · rw [if_neg h0, if_neg h0]
    unfold up
    by_cases hid : i = 17 * t + d
    · rw [if_pos hid, if_pos hid]
    · rw [if_neg hid, if_neg hid, if_neg (by omega)]
theorem sh_end {W W1 : HV} {t d : Nat} {y : Cp} {x : Int32} (h : UM W (up (cM W) 582 y) W1) (h80 : W 1080 0 0 = nI t) (ht : t < 6) (hx : W 1081 0 0 = x) (ed : fd x = nI d) (hd : d < 16) : SH W t d y (lt (f_X12_d 0 W1) fun v16 => bnd (f_X12_comes 0 582 v16 W1) fun p17 => some p17) := by
  rw [lt_def, d_M, UM_81 h, hx, ed, show (582 : Int32) = nI 582 from rfl, comes_M ((UM_80 h).trans h80) ht hd (by decide), bnd_some, g_at h]
  exact ⟨_, _, rfl, if_UM2 h y, sh_g⟩
theorem sh_wr {W W1 : HV} {t d : Nat} {z : Cp} {x v : Int32} (h : UM W (up (cM W) 582 z) W1) (h80 : W 1080 0 0 = nI t) (ht : t < 6) (hx : W 1081 0 0 = x) (ed : fd x = nI d) (hd : d < 16) : SH W t d (nm v) (lt (f_X12_d 0 W1) fun v8 => bnd (f_X12_writes 0 v8 v W1) fun p => some p) := by
  rw [lt_def, d_M, UM_81 h, hx, ed, writes_M ((UM_80 h).trans h80) ht hd, bnd_some]
  exact ⟨_, _, rfl, if_UM2 h (nm v), sh_g⟩
