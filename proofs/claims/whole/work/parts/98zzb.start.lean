/-! the threads begin -/
theorem FC_8 {kb n C T tt : Nat} {B : Nat → Nat} {V V' W : HV} (h : FC kb n C T tt B V W) (hV : agr [708] V V') (h8 : ∀ t, V' 708 t 0 = V 708 t 0) : FC kb n C T tt B V' W := by
  obtain ⟨a1, a2, a3, a4, a5, a6, a7, a8, a9⟩ := h
  refine ⟨a1, a2, PR_fr a3 hV (agr_rfl W) (by decide) (by decide), IM_ag a4 hV (agr_rfl W) (by decide) (by decide), a5, fun c hc => ⟨?_, (a6 c hc).2⟩, fun t ht => ⟨?_, (a7 t ht).2⟩, a8, by rw [hV 807 0 0 (by decide)]; exact a9⟩
  · have := (a6 c hc).1
    unfold LcC at this ⊢
    rw [hV 108 c 0 (by decide), hV 109 c 0 (by decide), hV 110 c 0 (by decide), hV 111 c 0 (by decide)]
    exact this
  · have := (a7 t ht).1
    unfold LtV at this ⊢
    rw [hV 707 t 0 (by decide), h8]
    exact this
theorem FC_ag8 {kb n C T tt : Nat} {B : Nat → Nat} {cs ds : List Nat} {V V' W W' : HV} (h : FC kb n C T tt B V W) (hV : agr cs V V') (hW : agr ds W W') (h8 : ∀ t, V' 708 t 0 = V 708 t 0) (h1 : ∀ l ∈ [102, 103, 104, 105, 106, 107, 108, 109, 110, 111, 402, 403, 404, 405, 406, 407, 408, 707, 807, 2700, 2800, 3100], l ∉ cs) (h2 : ∀ l ∈ [1013, 1014, 1015, 1016, 1018, 1019, 3200, 4000, 4100, 4200, 4300, 4400, 4500, 4600, 5100, 5500, 5600, 5700, 8800, 8900, 9000, 9100, 9200, 9300, 9400, 9500, 9600, 9700, 9800, 9900], l ∉ ds) : FC kb n C T tt B V' W' := by
  have e1 : agr (cs.filter fun c => decide (c ≠ 708)) V (fun c o j => if c = 708 then V 708 o j else V' c o j) := by
    intro c o j hc
    show (if c = 708 then V 708 o j else V' c o j) = V c o j
    by_cases e : c = 708
    · rw [if_pos e, e]
    · rw [if_neg e]
      exact hV c o j (fun z => hc (List.mem_filter.mpr ⟨z, decide_eq_true e⟩))
  have e2 : agr [708] (fun c o j => if c = 708 then V 708 o j else V' c o j) V' := by
    intro c o j hc
    show V' c o j = if c = 708 then V 708 o j else V' c o j
    rw [if_neg (fun z => hc (by rw [z]; decide))]
  refine FC_8 (FC_ag h e1 hW (fun l hl z => ?_) h2) e2 (fun t => ?_)
  · obtain ⟨z1, z2⟩ := List.mem_filter.mp z
    have z2' := of_decide_eq_true z2
    exact h1 l (by simp only [List.mem_cons, List.not_mem_nil, or_false] at hl ⊢; omega) z1
  · show V' 708 t 0 = if (708 : Nat) = 708 then V 708 t 0 else V' 708 t 0
    rw [if_pos rfl]; exact h8 t
theorem min_C {a b : Nat} (h : a ≤ b) (hb : b < 2147483648) : f_J9_min_7cf53 (nI a) (nI b) = nI a := by
  unfold f_J9_min_7cf53
  rw [lt_def, if_neg (nI_nlt h hb)]
def beC : List Nat := [0, 1, 2, 3, 4, 5, 704, 705, 706, 710, 711, 712, 713, 714, 715, 716, 717, 718]
theorem begin_C {kb t a b : Nat} {V : HV} (hb : b ≤ 16) : ∃ V', f_X9_begin kb t (nI a) (nI b) V = some V' ∧ cC V' = clr (rg2 t 0 17) (cC V) ∧ agr beC V V' ∧ (∀ c, ¬ c < 6 → ∀ u, u ≠ t → V' c u 0 = V c u 0) ∧ V' 704 t 0 = 0 ∧ V' 705 t 0 = nI b ∧ V' 706 t 0 = nI a ∧ V' 710 t 0 = b2i true ∧ V' 711 t 0 = 0 ∧ V' 712 t 0 = -1 ∧ V' 714 t 0 = 0 ∧ V' 715 t 0 = 0 ∧ V' 716 t 0 = 0 ∧ V' 717 t 0 = 0 ∧ V' 718 t 0 = -1 := by
  unfold f_X9_begin f_X9_forgetAll
  rw [show f_J9_min_7cf53 (nI b) 16 = nI b from min_C (b := 16) hb (by decide), lt_def, lt_def, lt_def, lt_def, jn_def]
  generalize hV3 : sv (sv V 706 t 0 (nI a)) 705 t 0 (nI b) = V3
  have a3 : agr [705, 706] V V3 := by rw [← hV3]; exact ((agr_sv _ _ _ _ _).app (agr_sv _ _ _ _ _)).sub (by decide)
  obtain ⟨V1, e1, e2⟩ := fa_L (t := t) (kb := kb) (K := fun V4 => lt (f_X0_clear kb (17 * t + 16) V4) fun V5 => lt (sv V5 704 t 0 0) fun V6 => some V6) 16 0 FU V3 (by omega) (FU_gt (by omega))
  have e0 : f_X9_forgetAll_L10 t kb (Int32.ofNat 16) (fun V4 => lt (f_X0_clear kb (17 * t + 16) V4) fun V5 => lt (sv V5 704 t 0 0) fun V6 => some V6) FU 0 V3 = some (sv (kC V1 (17 * t + 16) (nm 0)) 704 t 0 0) := e1
  rw [e0, bnd_some]
  have u := kC_U V1 (17 * t + 16) (nm 0)
  rw [e2.1] at u
  have uu : UC V3 (clr (rg2 t 0 17) (cC V)) (kC V1 (17 * t + 16) (nm 0)) := by
    refine ⟨?_, (e2.trans u).2⟩
    rw [u.1, cC_fr a3 (by decide)]
    funext i
    unfold up clr
    by_cases h1 : i = 17 * t + 16
    · rw [if_pos h1, rg2_t (by omega) (by omega), if_pos rfl]
    · rw [if_neg h1]
      by_cases h2 : 17 * t ≤ i ∧ i < 17 * t + 16
      · rw [rg2_t (by omega) (by omega), rg2_t (by omega) (by omega)]
      · rw [rg2_f (by omega), rg2_f (by omega)]
  generalize kC V1 (17 * t + 16) (nm 0) = V4 at *
  simp only [lt_def]
  refine ⟨_, rfl, ?_, ?_, fun c hc u' hu => ?_, ?_, ?_, ?_, ?_, ?_, ?_, ?_, ?_, ?_, ?_, ?_⟩
  · rw [cC_fr ((((((((((agr_sv V4 704 t 0 0).app (agr_sv _ 710 t 0 (b2i true))).app (agr_sv _ 711 t 0 0)).app (agr_sv _ 712 t 0 (-1))).app (agr_sv _ 713 t 0 (-1))).app (agr_sv _ 714 t 0 0)).app (agr_sv _ 715 t 0 0)).app (agr_sv _ 716 t 0 0)).app (agr_sv _ 717 t 0 0)).app (agr_sv _ 718 t 0 (-1))) (by decide)]
    exact uu.1
  · exact ((a3.app uu.2).app ((((((((((agr_sv V4 704 t 0 0).app (agr_sv _ 710 t 0 (b2i true))).app (agr_sv _ 711 t 0 0)).app (agr_sv _ 712 t 0 (-1))).app (agr_sv _ 713 t 0 (-1))).app (agr_sv _ 714 t 0 0)).app (agr_sv _ 715 t 0 0)).app (agr_sv _ 716 t 0 0)).app (agr_sv _ 717 t 0 0)).app (agr_sv _ 718 t 0 (-1)))).sub (by decide)
  · have n : ∀ (X : HV) (l : Nat) (x : Int32), (sv X l t 0 x) c u' 0 = X c u' 0 := fun X l x => sv_ne (fun q => hu q.2.1)
    rw [n, n, n, n, n, n, n, n, n, n, uu.2 c u' 0 (by simp only [List.mem_cons, List.not_mem_nil, or_false]; omega), ← hV3, n, n]
  · simp [sv]
  · have : V4 705 t 0 = nI b := by rw [uu.2 705 t 0 (by decide), ← hV3, sv_at]
    simp [sv, this]
  · have : V4 706 t 0 = nI a := by rw [uu.2 706 t 0 (by decide), ← hV3, sv_col (by decide), sv_at]
    simp [sv, this]
  · simp [sv]
  · simp [sv]
  · simp [sv]
  · simp [sv]
  · simp [sv]
  · simp [sv]
  · simp [sv]
  · simp [sv]
/-- a thread begun -/
def stM : List Nat := [2400, 2500, 2600, 2700, 2800, 2900, 4700, 4800, 4900, 5000, 5200, 5300, 5400, 5800, 5900, 6000, 6300]
theorem starts_M {t x y : Nat} {W : HV} (ht : t < 6) (hx : x < 8) (hy : y < 8) (h7 : W 9700 0 t = nI x) (h8 : W 9800 0 t = nI y) : ∃ W', f_X12_starts 0 (nI t) W = some W' ∧ cM W' = up (up (up (up (cM W) (17 * t + 16) (W 4000 0 x + 4 * W 4500 0 (8 * x + y), W 4000 0 x, W 4200 0 x, 77, 0, true)) (17 * t + 1) rtc) (17 * t + 2) (W 5700 0 t, W 5600 0 t, W 5700 0 t, 155, 0, true)) (17 * t + 3) (W 4200 0 x, W 4200 0 x, W 4300 0 x, 91, 0, true) ∧ agr stM W W' ∧ (∀ c, c ∈ [4700, 4800, 4900, 5000, 5200, 5300, 5400, 5800, 5900, 6000, 6300] → ∀ u, u ≠ t → W' c 0 u = W c 0 u) ∧ W' 4700 0 t = 0 ∧ W' 4800 0 t = -1 ∧ W' 4900 0 t = nI x ∧ W' 5000 0 t = 0 ∧ i2b (W' 5200 0 t) = decide (¬ W 4600 0 (8 * x + y) = 2) ∧ W' 5300 0 t = 0 ∧ W' 5400 0 t = 0 ∧ W' 5800 0 t = W 5700 0 t ∧ W' 5900 0 t = 0 ∧ W' 6000 0 t = 0 ∧ W' 6300 0 t = 0 := by
  have it : inb (nI t) 6 := inb_nI ht (by decide)
  have ix : inb (nI x) 8 := inb_nI hx (by decide)
  have iv : inb (nI (8 * x + y)) 64 := inb_nI (by omega) (by decide)
  have e8 : (8 : Int32) * nI x + nI y = nI (8 * x + y) := by rw [show (8 : Int32) = nI 8 from rfl, pk_mul, nI_add]
  have R16 : f_X12_reg (nI t) 16 = nI (17 * t + 16) := reg_M' t 16
  have R1 : f_X12_reg (nI t) 1 = nI (17 * t + 1) := reg_M' t 1
  have R2 : f_X12_reg (nI t) 2 = nI (17 * t + 2) := reg_M' t 2
  have R3 : f_X12_reg (nI t) 3 = nI (17 * t + 3) := reg_M' t 3
  have v14 : ∀ z : Int32, (if z = 2 then false else true : Bool) = decide (¬ z = 2) := fun z => by by_cases q : z = 2 <;> simp [q]
  unfold f_X12_starts
  rw [cl_nI (show t < 2147483648 by omega)]
  simp only [lt_def, chk_t it]
  rw [h7, h8, e8, chk_t iv, cl_nI (show 8 * x + y < 2147483648 by omega), chk_t iv, R16, R1, R2, R3]
  generalize hW28 : sv (sv (sv (sv (sv (sv (sv (sv (sv (sv (sv W 4700 0 t 0) 4800 0 t (-1)) 4900 0 t (nI x)) 5000 0 t 0) 5200 0 t (b2i (if (sv (sv (sv (sv W 4700 0 t 0) 4800 0 t (-1)) 4900 0 t (nI x)) 5000 0 t 0) 4600 0 (8 * x + y) = 2 then false else true))) 5300 0 t 0) 5400 0 t 0) 5800 0 t ((sv (sv (sv (sv (sv (sv (sv W 4700 0 t 0) 4800 0 t (-1)) 4900 0 t (nI x)) 5000 0 t 0) 5200 0 t (b2i (if (sv (sv (sv (sv W 4700 0 t 0) 4800 0 t (-1)) 4900 0 t (nI x)) 5000 0 t 0) 4600 0 (8 * x + y) = 2 then false else true))) 5300 0 t 0) 5400 0 t 0) 5700 0 t)) 5900 0 t 0) 6000 0 t 0) 6300 0 t 0 = W28
  have a28 : agr [4700, 4800, 4900, 5000, 5200, 5300, 5400, 5800, 5900, 6000, 6300] W W28 := by
    rw [← hW28]
    exact (((((((((((agr_sv _ _ _ _ _).app (agr_sv _ _ _ _ _)).app (agr_sv _ _ _ _ _)).app (agr_sv _ _ _ _ _)).app (agr_sv _ _ _ _ _)).app (agr_sv _ _ _ _ _)).app (agr_sv _ _ _ _ _)).app (agr_sv _ _ _ _ _)).app (agr_sv _ _ _ _ _)).app (agr_sv _ _ _ _ _)).app (agr_sv _ _ _ _ _)).sub (by decide)
  have o28 : ∀ c u, u ≠ t → W28 c 0 u = W c 0 u := fun c u hu => by
    have n : ∀ (X : HV) (l : Nat) (x : Int32), (sv X l 0 t x) c 0 u = X c 0 u := fun X l x => sv_ne (fun q => hu q.2.2)
    rw [← hW28, n, n, n, n, n, n, n, n, n, n, n]
  have q0 : W28 4700 0 t = 0 := by rw [← hW28]; simp [sv]
  have q1 : W28 4800 0 t = -1 := by rw [← hW28]; simp [sv]
  have q2 : W28 4900 0 t = nI x := by rw [← hW28]; simp [sv]
  have q3 : W28 5000 0 t = 0 := by rw [← hW28]; simp [sv]
  have q4 : i2b (W28 5200 0 t) = decide (¬ W 4600 0 (8 * x + y) = 2) := by
    rw [← hW28, sv_col (by decide), sv_col (by decide), sv_col (by decide), sv_col (by decide), sv_col (by decide), sv_col (by decide), sv_at, i2b_b2i, sv_col (by decide), sv_col (by decide), sv_col (by decide), sv_col (by decide), v14]
  have q5 : W28 5300 0 t = 0 := by rw [← hW28]; simp [sv]
  have q6 : W28 5400 0 t = 0 := by rw [← hW28]; simp [sv]
  have q7 : W28 5800 0 t = W 5700 0 t := by rw [← hW28]; simp [sv]
  have q8 : W28 5900 0 t = 0 := by rw [← hW28]; simp [sv]
  have q9 : W28 6000 0 t = 0 := by rw [← hW28]; simp [sv]
  have q10 : W28 6300 0 t = 0 := by rw [← hW28]; simp [sv]
  clear hW28
  unfold f_X12_code f_X12_stack f_X12_globals
  simp only [chk_t ix, cl_nI (show x < 2147483648 by omega)]
  rw [make_M (show 17 * t + 16 < 600 by omega), bnd_some, bnd_some, a28 4000 0 x (by decide), a28 4200 0 x (by decide), a28 4500 0 (8 * x + y) (by decide)]
  have u1 : UM W28 (up (cM W28) (17 * t + 16) (W 4000 0 x + 4 * W 4500 0 (8 * x + y), W 4000 0 x, W 4200 0 x, 77, 0, true)) (kM W28 (17 * t + 16) (W 4000 0 x + 4 * W 4500 0 (8 * x + y), W 4000 0 x, W 4200 0 x, 77, 0, true)) := kM_U _ _ _
  generalize kM W28 (17 * t + 16) (W 4000 0 x + 4 * W 4500 0 (8 * x + y), W 4000 0 x, W 4200 0 x, 77, 0, true) = W33 at *
  rw [make_M (show 17 * t + 1 < 600 by omega), bnd_some, chk_t it]
  have u2 : UM W28 (up (up (cM W28) (17 * t + 16) (W 4000 0 x + 4 * W 4500 0 (8 * x + y), W 4000 0 x, W 4200 0 x, 77, 0, true)) (17 * t + 1) rtc) (kM W33 (17 * t + 1) (0, 0, 0, 0, 5, true)) := mcy u1
  generalize kM W33 (17 * t + 1) (0, 0, 0, 0, 5, true) = W35 at *
  rw [cl_nI (show t < 2147483648 by omega), make_M (show 17 * t + 2 < 600 by omega), bnd_some, bnd_some, u2.2 5700 0 t (by decide), u2.2 5600 0 t (by decide), a28 5700 0 t (by decide), a28 5600 0 t (by decide)]
  have u3 := mcy (i := 17 * t + 2) (y := (W 5700 0 t, W 5600 0 t, W 5700 0 t, 155, 0, true)) u2
  generalize kM W35 (17 * t + 2) (W 5700 0 t, W 5600 0 t, W 5700 0 t, 155, 0, true) = W38 at *
  rw [make_M (show 17 * t + 3 < 600 by omega), bnd_some, bnd_some, u3.2 4200 0 x (by decide), u3.2 4300 0 x (by decide), a28 4200 0 x (by decide), a28 4300 0 x (by decide)]
  have u4 := mcy (i := 17 * t + 3) (y := (W 4200 0 x, W 4200 0 x, W 4300 0 x, 91, 0, true)) u3
  refine ⟨_, rfl, ?_, (a28.app u4.2).sub (by decide), fun c hc u hu => ?_, ?_, ?_, ?_, ?_, ?_, ?_, ?_, ?_, ?_, ?_, ?_⟩
  · rw [u4.1, cM_fr a28 (by decide)]
  · rw [u4.2 c 0 u (by simp only [List.mem_cons, List.not_mem_nil, or_false] at hc ⊢; omega)]; exact o28 c u hu
  · rw [u4.2 4700 0 t (by decide)]; exact q0
  · rw [u4.2 4800 0 t (by decide)]; exact q1
  · rw [u4.2 4900 0 t (by decide)]; exact q2
  · rw [u4.2 5000 0 t (by decide)]; exact q3
  · rw [u4.2 5200 0 t (by decide)]; exact q4
  · rw [u4.2 5300 0 t (by decide)]; exact q5
  · rw [u4.2 5400 0 t (by decide)]; exact q6
  · rw [u4.2 5800 0 t (by decide)]; exact q7
  · rw [u4.2 5900 0 t (by decide)]; exact q8
  · rw [u4.2 6000 0 t (by decide)]; exact q9
  · rw [u4.2 6300 0 t (by decide)]; exact q10
