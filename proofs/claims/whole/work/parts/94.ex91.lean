/-! what is asked, and all shapes -/
theorem b582 {W W1 : HV} {y : Cp} {x : Int32} {t d : Nat} (h : UM W (up (cM W) 582 y) W1) (h80 : W 1080 0 0 = nI t) (ht : t < 6) (hx : W 1081 0 0 = x) (ed : fd x = nI d) (hd : d < 16) : SH W t d y ((fun V2 => lt (f_X12_d 0 V2) fun v5 => bnd (f_X12_comes 0 582 v5 V2) fun p6 => some p6) W1) := sh_end h h80 ht hx ed hd
theorem asks_M {W W1 : HV} {t d xa : Nat} {c : Cp} {x : Int32} (h : UM W (up (cM W) 582 c) W1) (h80 : W 1080 0 0 = nI t) (ht : t < 6) (hx : W 1081 0 0 = x) (ed : fd x = nI d) (hd : d < 16) (ha : xa < 582) (hc : cM W xa = c) : SH W t d (isp c (fb x) (i2b (W 5200 0 t))) (f_X12_asks 0 (nI xa) W1) := by
  have hi : inb (nI xa) 600 := inb_nI (by omega) (by decide)
  have hc' : cM W1 xa = c := (g_ne h (by omega)).trans hc
  have e80 := (UM_80 h).trans h80
  have e81 := (UM_81 h).trans hx
  have e52 : W1 5200 0 t = W 5200 0 t := h.2 5200 0 t (by decide)
  unfold f_X12_asks isp
  rw [lt_def, jn_def, b_M, e81]
  by_cases h0 : fb x = 0
  · rw [if_pos h0, if_pos h0, lt_def, chk_t hi, cl_nI (by omega), cM_3 hc']; exact sh_wr h h80 ht hx ed hd
  rw [if_neg h0, if_neg h0]
  by_cases h1 : fb x = 1
  · rw [if_pos h1, if_pos h1, lt_def, chk_t hi, cl_nI (by omega), cM_4 hc']; exact sh_wr h h80 ht hx ed hd
  rw [if_neg h1, if_neg h1]
  by_cases h2 : fb x = 2
  · rw [if_pos h2, if_pos h2, lt_def, chk_t hi, cl_nI (by omega), cM_1 hc']; exact sh_wr h h80 ht hx ed hd
  rw [if_neg h2, if_neg h2]
  by_cases h3 : fb x = 3
  · rw [if_pos h3, if_pos h3, lt_def, chk_t hi, chk_t hi, cl_nI (by omega), cM_1 hc', cM_2 hc']; exact sh_wr h h80 ht hx ed hd
  rw [if_neg h3, if_neg h3]
  by_cases h4 : fb x = 4
  · rw [if_pos h4, if_pos h4, lt_def, chk_t hi, cl_nI (by omega), lt_def, cM_5 hc', ite_tf]; exact sh_wr h h80 ht hx ed hd
  rw [if_neg h4, if_neg h4]
  by_cases h5 : fb x = 5
  · rw [if_pos h5, if_pos h5, lt_def, chk_t hi, cl_nI (by omega), cM_2 hc']; exact sh_wr h h80 ht hx ed hd
  rw [if_neg h5, if_neg h5]
  by_cases h6 : fb x = 6
  · rw [if_pos h6, if_pos h6, lt_def, chk_t hi, cl_nI (by omega), cM_0 hc']; exact sh_wr h h80 ht hx ed hd
  rw [if_neg h6, if_neg h6]
  by_cases h7 : fb x = 7
  · rw [if_pos h7, if_pos h7, lt_def, e80, chk_t (inb_nI ht (by decide)), cl_nI (by omega), lt_def, e52, ite_tf]; exact sh_wr h h80 ht hx ed hd
  rw [if_neg h7, if_neg h7]
  by_cases h8 : fb x = 8
  · rw [if_pos h8, if_pos h8]; exact sh_end h h80 ht hx ed hd
  rw [if_neg h8, if_neg h8]
  by_cases h9 : fb x = 9
  · rw [if_pos h9, if_pos h9, chk_t i582, lt_def, c582]; exact sh_end (n5 h false) h80 ht hx ed hd
  rw [if_neg h9, if_neg h9, chk_t hi, jn_def, jn_def, cl_nI (by omega), cM_5 hc']
  have no : ¬ (c.2.2.2.2.2 = true ∧ c.2.2.2.2.1 = 0 ∧ c.2.2.2.1 &&& 4 = 4) → SH W t d (ent c (fb x - 9)) (chk (inb (582 : Int32) 600) <| lt (sv W1 2900 0 (582 : Int32).toNatClampNeg (b2i false)) fun V57 =>
    if false = true then (lt (f_X12_b 0 V57) fun v59 => chk (inb (582 : Int32) 600) <| lt (sv V57 2800 0 (582 : Int32).toNatClampNeg (v59 - 9)) fun V61 => (fun V2 => lt (f_X12_d 0 V2) fun v5 => bnd (f_X12_comes 0 582 v5 V2) fun p6 => some p6) V61) else ((fun V2 => lt (f_X12_d 0 V2) fun v5 => bnd (f_X12_comes 0 582 v5 V2) fun p6 => some p6) V57)) := by
    intro q
    rw [chk_t i582, lt_def, c582, if_neg (show ¬ false = true by decide)]
    have e2 : ent c (fb x - 9) = utg c := if_neg q
    rw [e2]
    exact b582 (n5 h false) h80 ht hx ed hd
  by_cases q1 : c.2.2.2.2.2 = true
  · rw [if_pos q1, chk_t hi, cM_4 hc']
    by_cases q2 : c.2.2.2.2.1 = 0
    · rw [if_pos q2, chk_t hi, cM_3 hc']
      have b4 : (c.2.2.2.1 &&& 4 = 4) ↔ ¬ (c.2.2.2.1 &&& 4 = 0) := bit_iff (k := 2) (by decide) (by decide)
      by_cases q3 : c.2.2.2.1 &&& 4 = 0
      · rw [if_pos q3]
        exact no (fun q => b4.mp q.2.2 q3)
      · rw [if_neg q3]
        dsimp only
        rw [chk_t i582, lt_def, c582, if_pos rfl, lt_def, b_M, chk_t i582, lt_def, sv_col (show ¬ 1081 = 2900 by decide), e81]
        have e5 : ent c (fb x - 9) = (c.1, c.2.1, c.2.2.1, c.2.2.2.1, fb x - 9, true) := by
          unfold ent
          rw [if_pos ⟨q1, q2, b4.mpr q3⟩, q1]
        rw [e5]
        exact b582 (n4 (n5 h true) (fb x - 9)) h80 ht hx ed hd
    · rw [if_neg q2]
      exact no (fun q => q2 q.2.1)
  · rw [if_neg q1]
    exact no (fun q => q1 q.1)
noncomputable def sht (v2 v4 x1 : Int32) (p5 : HV) (v7 : Bool) : Option (HV) :=
  lt (f_X12_f 0 p5) fun v10 =>
  if v10 = 1 then (bnd (f_X12_asks 0 v2 p5) fun p71 =>
  some p71) else (lt (f_X12_f 0 p5) fun v12 =>
  jn (fun V13 =>
  lt (f_X12_d 0 V13) fun v16 =>
  bnd (f_X12_comes 0 582 v16 V13) fun p17 =>
  some p17) fun k14 =>
  if v12 = 2 then (chk (inb (582 : Int32) 600) <|
  chk (inb (582 : Int32) 600) <|
  lt (sv p5 2400 0 (582 : Int32).toNatClampNeg ((p5 2400 0 ((582 : Int32)).toNatClampNeg) + x1)) fun V68 =>
  chk (inb (582 : Int32) 600) <|
  lt (sv V68 2900 0 (582 : Int32).toNatClampNeg (b2i v7)) fun V70 =>
  k14 V70) else (lt (f_X12_f 0 p5) fun v19 =>
  if v19 = 3 then (lt (f_X12_plain ((((p5 1081 0 0)).toUInt32 >>> (Int32.toUInt32 (20 : Int32) &&& Int32.toUInt32 31)).toInt32)) fun v64 =>
  bnd (f_X12_bounds 0 v2 v64 v7 p5) fun p65 =>
  k14 p65) else (lt (f_X12_g 0 p5) fun v21 =>
  if v21 = 0 then (chk (inb (582 : Int32) 600) <|
  chk (inb v4 600) <|
  chk (inb (582 : Int32) 600) <|
  lt (sv p5 2400 0 (582 : Int32).toNatClampNeg ((p5 2400 0 ((582 : Int32)).toNatClampNeg) + (p5 2400 0 (v4).toNatClampNeg))) fun V61 =>
  chk (inb (582 : Int32) 600) <|
  lt (sv V61 2900 0 (582 : Int32).toNatClampNeg (b2i v7)) fun V63 =>
  k14 V63) else (lt (f_X12_g 0 p5) fun v23 =>
  if v23 = 1 then (chk (inb v4 600) <|
  chk (inb (582 : Int32) 600) <|
  lt (sv p5 2400 0 (582 : Int32).toNatClampNeg (p5 2400 0 (v4).toNatClampNeg)) fun V55 =>
  chk (inb (582 : Int32) 600) <|
  lt (sv V55 2900 0 (582 : Int32).toNatClampNeg (b2i v7)) fun V57 =>
  k14 V57) else (lt (f_X12_g 0 p5) fun v25 =>
  if v25 = 2 then (chk (inb v4 600) <|
  lt (f_X12_plain (p5 2400 0 (v4).toNatClampNeg)) fun v51 =>
  bnd (f_X12_bounds 0 v2 v51 v7 p5) fun p52 =>
  k14 p52) else (lt (f_X12_g 0 p5) fun v27 =>
  if v27 = 3 then (chk (inb v2 600) <|
  chk (inb v4 600) <|
  chk (inb (582 : Int32) 600) <|
  lt (sv p5 2700 0 (582 : Int32).toNatClampNeg (((p5 2700 0 (v2).toNatClampNeg) &&& (p5 2400 0 (v4).toNatClampNeg)) &&& 255)) fun V47 =>
  chk (inb (582 : Int32) 600) <|
  lt (sv V47 2900 0 (582 : Int32).toNatClampNeg (b2i v7)) fun V49 =>
  k14 V49) else (lt (f_X12_g 0 p5) fun v29 =>
  if 6 ≤ v29 then (lt (f_X12_g 0 p5) fun v31 =>
  jn (fun v32 =>
  lt (if v32 = true then (true) else (false) : Bool) fun v35 =>
  bnd (f_X12_number 0 582 (b2i v35) p5) fun p37 =>
  k14 p37) fun k33 =>
  if v31 = 6 then (bnd (f_X12_isWithin 0 v4 v2 p5) fun p42 =>
  k33 p42) else (bnd (f_X12_isLike 0 v2 v4 p5) fun p41 =>
  k33 p41)) else (bnd (f_X12_seals 0 v2 v4 v7 p5) fun p43 =>
  k14 p43))))))))
theorem shapes_h {W : HV} {t a b : Nat} {x i : Int32} (h80 : W 1080 0 0 = nI t) (ht : t < 6) (hx : W 1081 0 0 = x) (ea : fa x = nI a) (ha : a < 16) (eb : fb x &&& 15 = nI b) : f_X12_shapes 0 i W = sht (nI (17 * t + a)) (nI (17 * t + b)) i (kM W 582 (cM W (17 * t + a))) ((cM W (17 * t + a)).2.2.2.2.2 && decide ((cM W (17 * t + a)).2.2.2.2.1 = 0)) := by
  have hi : inb (nI (17 * t + a)) 600 := inb_nI (by omega) (by decide)
  have hc : cM (kM W 582 (cM W (17 * t + a))) (17 * t + a) = cM W (17 * t + a) := g_ne (kM_U W 582 _) (by omega)
  have hcp := copy_M (i := 17 * t + a) (j := 582) (by omega) (by decide) W
  rw [show nI 582 = (582 : Int32) from rfl] at hcp
  unfold f_X12_shapes sht
  rw [lt_def, lt_def, lt_def, lt_def, a_M, b_M, hx, ea, eb, h80, reg_M', reg_M', hcp, bnd_some, chk_t hi, jn_def, jn_def, cl_nI (by omega), cM_5 hc]
  by_cases h1 : (cM W (17 * t + a)).2.2.2.2.2 = true
  · rw [if_pos h1, chk_t hi, cM_4 hc]
    by_cases h2 : (cM W (17 * t + a)).2.2.2.2.1 = 0
    · rw [if_pos h2, h1, decide_eq_true h2]
      rfl
    · rw [if_neg h2, decide_eq_false h2, Bool.and_false]
  · rw [if_neg h1, bF h1]
    rfl
/-- what a shape makes -/
def shp (c s : Cp) (x : Int32) (on : Bool) : Cp := if ff x = 0 then drv c s (fg x) else if ff x = 1 then isp c (fb x) on else if ff x = 2 then mvT c (c.1 + (x >>> ((20 : Int32) &&& 31))) else nrw c ((((x).toUInt32 >>> (Int32.toUInt32 (20 : Int32) &&& Int32.toUInt32 31)).toInt32).toInt64)
theorem pl_w20 (x : Int32) : pl ((((x).toUInt32 >>> (Int32.toUInt32 (20 : Int32) &&& Int32.toUInt32 31)).toInt32)) = ((((x).toUInt32 >>> (Int32.toUInt32 (20 : Int32) &&& Int32.toUInt32 31)).toInt32).toInt64) := by
  have h : ∃ n, n < 4096 ∧ ((x).toUInt32 >>> (Int32.toUInt32 (20 : Int32) &&& Int32.toUInt32 31)).toInt32 = nI n := by
    refine ⟨x.toBitVec.toNat / 1048576, ?_, ?_⟩
    · have := x.toBitVec.isLt
      omega
    · apply Int32.toBitVec_inj.mp
      show x.toBitVec >>> (20 : Nat) = _
      apply BitVec.eq_of_toNat_eq
      rw [BitVec.toNat_ushiftRight, Nat.shiftRight_eq_div_pow]
      have := x.toBitVec.isLt
      show _ = (BitVec.ofNat 32 (x.toBitVec.toNat / 1048576)).toNat
      rw [BitVec.toNat_ofNat]
      omega
  obtain ⟨n, hn, e⟩ := h
  rw [e]
  apply Int64.toInt_inj.mp
  rw [pl_toInt, uN_nI (by omega), nI64_toInt (by omega)]
theorem w20_n (x : Int32) : ∃ n : Nat, n < 4294967296 ∧ ((((x).toUInt32 >>> (Int32.toUInt32 (20 : Int32) &&& Int32.toUInt32 31)).toInt32).toInt64).toInt = (n : Int) := by
  rw [← pl_w20, pl_toInt]
  exact ⟨_, uN_lt _, rfl⟩
theorem sht_M {W W1 : HV} {t d a b : Nat} {c s : Cp} {x : Int32} (h : UM W (up (cM W) 582 c) W1) (h80 : W 1080 0 0 = nI t) (ht : t < 6) (hx : W 1081 0 0 = x) (ed : fd x = nI d) (hd : d < 16) (ha : a < 16) (hb : b < 16) (hc : cM W (17 * t + a) = c) (hs : cM W (17 * t + b) = s) (hp : c.2.2.2.1 &&& 255 = c.2.2.2.1) (hf : ff x ≤ 3) (hg : ff x = 0 → ¬ 8 ≤ fg x) : SH W t d (shp c s x (i2b (W 5200 0 t))) (sht (nI (17 * t + a)) (nI (17 * t + b)) (x >>> ((20 : Int32) &&& 31)) W1 (c.2.2.2.2.2 && decide (c.2.2.2.2.1 = 0))) := by
  have e81 := (UM_81 h).trans hx
  have hia : inb (nI (17 * t + a)) 600 := inb_nI (by omega) (by decide)
  have hib : inb (nI (17 * t + b)) 600 := inb_nI (by omega) (by decide)
  have hc' : cM W1 (17 * t + a) = c := (g_ne h (by omega)).trans hc
  have hs' : cM W1 (17 * t + b) = s := (g_ne h (by omega)).trans hs
  have h5 : cM W1 582 = c := g_at h
  unfold sht shp
  rw [lt_def, lt_def, f_M, e81]
  by_cases f1 : ff x = 1
  · rw [if_pos f1, if_neg (show ¬ ff x = 0 by rw [f1]; decide), if_pos f1]
    obtain ⟨W', g, q1, q2, q3⟩ := asks_M h h80 ht hx ed hd (by omega) hc
    rw [q1, bnd_some]
    exact ⟨W', g, rfl, q2, q3⟩
  rw [if_neg f1, if_neg f1, jn_def]
  by_cases f2 : ff x = 2
  · rw [if_pos f2, if_neg (show ¬ ff x = 0 by rw [f2]; decide), if_pos f2, chk_t i582, chk_t i582, lt_def, chk_t i582, lt_def, c582, cM_0 h5]
    exact sh_end (n5 (n0 h _) _) h80 ht hx ed hd
  rw [if_neg f2, if_neg f2, lt_def]
  by_cases f3 : ff x = 3
  · rw [if_pos f3, if_neg (show ¬ ff x = 0 by rw [f3]; decide), lt_def, plain_pl, pl_w20]
    obtain ⟨W', q1, q2⟩ := bounds_M (n := ((((x).toUInt32 >>> (Int32.toUInt32 (20 : Int32) &&& Int32.toUInt32 31)).toInt32).toInt64)) (is := c.2.2.2.2.2 && decide (c.2.2.2.2.1 = 0)) h (show 17 * t + a < 582 by omega) hc
    rw [q1, bnd_some]
    rw [Bool.and_assoc] at q2
    exact sh_end q2 h80 ht hx ed hd
  have f0 : ff x = 0 := by
    obtain ⟨n, hn, e⟩ := ff_n x
    rw [e] at f1 f2 f3 hf ⊢
    have : n ≤ 3 := (nI_leI (by omega) (by decide)).mp hf
    have : n = 0 := by
      rcases (show n = 0 ∨ n = 1 ∨ n = 2 ∨ n = 3 by omega) with q | q | q | q
      · exact q
      · exact absurd (by rw [q]; rfl) f1
      · exact absurd (by rw [q]; rfl) f2
      · exact absurd (by rw [q]; rfl) f3
    rw [this]; rfl
  have hg8 := hg f0
  rw [if_neg f3, if_pos f0, lt_def, g_M, e81]
  unfold drv
  by_cases g0 : fg x = 0
  · rw [if_pos g0, if_pos g0, chk_t i582, chk_t hib, chk_t i582, lt_def, chk_t i582, lt_def, c582, cl_nI (by omega), cM_0 h5, cM_0 hs']
    exact sh_end (n5 (n0 h _) _) h80 ht hx ed hd
  rw [if_neg g0, if_neg g0, lt_def]
  by_cases g1 : fg x = 1
  · rw [if_pos g1, if_pos g1, chk_t hib, chk_t i582, lt_def, chk_t i582, lt_def, c582, cl_nI (by omega), cM_0 hs']
    exact sh_end (n5 (n0 h _) _) h80 ht hx ed hd
  rw [if_neg g1, if_neg g1, lt_def]
  by_cases g2 : fg x = 2
  · rw [if_pos g2, if_pos g2, chk_t hib, lt_def, cl_nI (by omega), cM_0 hs', plain_pl]
    obtain ⟨W', q1, q2⟩ := bounds_M (n := pl s.1) (is := c.2.2.2.2.2 && decide (c.2.2.2.2.1 = 0)) h (show 17 * t + a < 582 by omega) hc
    rw [q1, bnd_some]
    rw [Bool.and_assoc] at q2
    exact sh_end q2 h80 ht hx ed hd
  rw [if_neg g2, if_neg g2, lt_def]
  by_cases g3 : fg x = 3
  · have e : (c.2.2.2.1 &&& s.1) &&& 255 = c.2.2.2.1 &&& s.1 := by
      rw [Int32.and_assoc, Int32.and_comm s.1 255, ← Int32.and_assoc, hp]
    rw [if_pos g3, if_pos g3, chk_t hia, chk_t hib, chk_t i582, lt_def, chk_t i582, lt_def, c582, cl_nI (by omega), cl_nI (by omega), cM_3 hc', cM_0 hs', e]
    exact sh_end (n5 (n3 h _) _) h80 ht hx ed hd
  rw [if_neg g3, if_neg g3, lt_def]
  by_cases g6 : (6 : Int32) ≤ fg x
  · have g45 : ¬ fg x = 4 ∧ ¬ fg x = 5 := ⟨fun q => absurd g6 (by rw [q]; decide), fun q => absurd g6 (by rw [q]; decide)⟩
    rw [if_pos g6, if_neg g45.1, if_neg g45.2, lt_def, jn_def]
    by_cases g66 : fg x = 6
    · rw [if_pos g66, if_pos g66, wit_M (by omega) (by omega) hs' hc', bnd_some]
      dsimp only
      rw [lt_def, ite_tf, show (582 : Int32) = nI 582 from rfl, number_M (by decide), bnd_some]
      have u := kM_U W1 582 (nm (b2i (wit s c)))
      rw [h.1, up_up] at u
      exact sh_end (h.trans u) h80 ht hx ed hd
    · rw [if_neg g66, if_neg g66, like_M (by omega) (by omega) hc' hs', bnd_some]
      dsimp only
      rw [lt_def, ite_tf, show (582 : Int32) = nI 582 from rfl, number_M (by decide), bnd_some]
      have u := kM_U W1 582 (nm (b2i (decide (s = c))))
      rw [h.1, up_up] at u
      exact sh_end (h.trans u) h80 ht hx ed hd
  · rw [if_neg g6, seals_h (by omega) hs']
    by_cases g4 : fg x = 4
    · obtain ⟨W', q1, q2⟩ := sea_M (xa := 17 * t + a) h e81 g4 (show 17 * t + b < 582 by omega) hs
      rw [if_pos g4, q1, bnd_some]
      exact sh_end q2 h80 ht hx ed hd
    · obtain ⟨W', q1, q2⟩ := uns_M (is := c.2.2.2.2.2 && decide (c.2.2.2.2.1 = 0)) h e81 g4 (show 17 * t + a < 582 by omega) hc (show 17 * t + b < 582 by omega) hs
      have g5 : fg x = 5 := by
        obtain ⟨n, hn, e⟩ := fg_n x
        rw [e] at g0 g1 g2 g3 g4 g6 ⊢
        have : ¬ 6 ≤ n := fun q => g6 ((nI_leI (a := 6) (by decide) (by omega)).mpr q)
        rcases (show n = 0 ∨ n = 1 ∨ n = 2 ∨ n = 3 ∨ n = 4 ∨ n = 5 by omega) with q | q | q | q | q | q
        · exact absurd (by rw [q]; rfl) g0
        · exact absurd (by rw [q]; rfl) g1
        · exact absurd (by rw [q]; rfl) g2
        · exact absurd (by rw [q]; rfl) g3
        · exact absurd (by rw [q]; rfl) g4
        · rw [q]; rfl
      rw [if_neg g4, if_pos g5, q1, bnd_some]
      exact sh_end q2 h80 ht hx ed hd
/-! the class's -/
theorem cap_end {V V2 V3 : HV} {c y : Cp} {i : Nat} (u1 : UC V (up (cC V) 582 c) V2) (u2 : UC V2 (up (cC V2) 582 y) V3) : UC V (up (up (cC V) 582 y) i y) (kC V3 i (cC V3 582)) := by
  have e : cC V3 582 = y := by rw [u2.1, up_at]
  have u3 := kC_U V3 i y
  rw [u2.1, u1.1, up_up] at u3
  rw [e]
  exact u1.trans (u2.trans u3)
theorem cap_C {kb t d a b : Nat} {x : Int32} {V : HV} (ht : t < 6) (ed : fd x = nI d) (hd : d < 16) (ea : fa x = nI a) (ha : a < 16) (eb : fb x = nI b) (hb : ff x = 0 → b < 16) : UC V (up (up (cC V) 582 (shp (cC V (17 * t + a)) (cC V (17 * t + b)) x (i2b (V 710 t 0)))) (17 * t + d) (shp (cC V (17 * t + a)) (cC V (17 * t + b)) x (i2b (V 710 t 0)))) (f_X2_capability kb 0 t x V) := by
  have u1 := kC_U V 582 (cC V (17 * t + a))
  have g1 : cC (kC V 582 (cC V (17 * t + a))) 582 = cC V (17 * t + a) := by rw [u1.1, up_at]
  unfold f_X2_capability shp
  rw [lt_def, lt_def, lt_def, jn_def, a_C, f_C, ea, reg_C' ha, copy_C]
  by_cases f0 : ff x = 0
  · rw [if_pos f0, if_pos f0, lt_def, lt_def, lt_def, b_C, g_C, eb, reg_C' (hb f0)]
    dsimp only
    rw [lt_def, lt_def, d_C, ed, reg_C' hd, copy_C]
    have u2 := dr_C kb 582 (17 * t + b) (fg x) (kC V 582 (cC V (17 * t + a))) (by have := hb f0; omega)
    have g2 : cC (kC V 582 (cC V (17 * t + a))) (17 * t + b) = cC V (17 * t + b) := by rw [u1.1, up_ne (by have := hb f0; omega)]
    have u3 := cap_end (i := 17 * t + d) u1 u2
    rw [g1, g2] at u3
    exact u3
  rw [if_neg f0, if_neg f0]
  by_cases f1 : ff x = 1
  · rw [if_pos f1, if_pos f1, lt_def, lt_def, b_C]
    dsimp only
    rw [lt_def, lt_def, d_C, ed, reg_C' hd, copy_C]
    have e71 : (kC V 582 (cC V (17 * t + a))) 710 t 0 = V 710 t 0 := u1.2 710 t 0 (by decide)
    have u2 := is_C kb 582 (fb x) (i2b (V 710 t 0)) (kC V 582 (cC V (17 * t + a)))
    rw [e71]
    have u3 := cap_end (i := 17 * t + d) u1 u2
    rw [g1] at u3
    exact u3
  rw [if_neg f1, if_neg f1]
  by_cases f2 : ff x = 2
  · rw [if_pos f2, if_pos f2, lt_def, lt_def]
    dsimp only
    rw [lt_def, lt_def, d_C, ed, reg_C' hd, copy_C]
    have e0 : (kC V 582 (cC V (17 * t + a))) 0 (17 * t + a) 0 = (cC V (17 * t + a)).1 := congrArg (fun c : Cp => c.1) (show cC (kC V 582 (cC V (17 * t + a))) (17 * t + a) = cC V (17 * t + a) by rw [u1.1, up_ne (by omega)])
    have u2 := mv_C kb 582 ((cC V (17 * t + a)).1 + f_X2_immediate x) (kC V 582 (cC V (17 * t + a)))
    rw [e0]
    have u3 := cap_end (i := 17 * t + d) u1 u2
    rw [g1] at u3
    exact u3
  · rw [if_neg f2, if_neg f2, lt_def]
    dsimp only
    rw [lt_def, lt_def, d_C, ed, reg_C' hd, copy_C]
    have u2 := nr_C kb 582 ((((x).toUInt32 >>> (Int32.toUInt32 (20 : Int32) &&& Int32.toUInt32 31)).toInt32).toInt64) (kC V 582 (cC V (17 * t + a)))
    have u3 := cap_end (i := 17 * t + d) u1 u2
    rw [g1] at u3
    exact u3
/-! shapes of good ones are good -/
theorem sub_and {p q m : Int32} (h : sub p m) : sub (p &&& q) m := by
  unfold sub at h ⊢
  rw [Int32.and_assoc, Int32.and_comm q, ← Int32.and_assoc, h, Int32.zero_and]
theorem rgn_le {Y : HV} {l : List Ob} {b t b' t' : Nat} {p p' : Int32} (h : rgn Y l b t p) (hb : b ≤ b') (ht : t' ≤ t) (hp : ∀ m, sub p m → sub p' m) : rgn Y l b' t' p' := by
  rcases h with ⟨h1, h2, h3⟩ | ⟨h1, h2, h3⟩ | ⟨c, h0, h1, h2, h3⟩ | ⟨c, h0, h1, h2, h3⟩ | ⟨c, h0, h1, h2, h3⟩ | ⟨o, ho, h1, h2, h3⟩
  · exact Or.inl ⟨by omega, by omega, hp _ h3⟩
  · exact Or.inr (Or.inl ⟨by omega, by omega, hp _ h3⟩)
  · exact Or.inr (Or.inr (Or.inl ⟨c, h0, by omega, by omega, hp _ h3⟩))
  · exact Or.inr (Or.inr (Or.inr (Or.inl ⟨c, h0, by omega, by omega, hp _ h3⟩)))
  · exact Or.inr (Or.inr (Or.inr (Or.inr (Or.inl ⟨c, h0, by omega, by omega, hp _ h3⟩))))
  · exact Or.inr (Or.inr (Or.inr (Or.inr (Or.inr ⟨o, ho, by omega, by omega, hp _ h3⟩))))
theorem and255_and {p m : Int32} (h : p &&& 255 = p) : (p &&& m) &&& 255 = p &&& m := by rw [Int32.and_assoc, Int32.and_comm m 255, ← Int32.and_assoc, h]
theorem gd_mvT {Y : HV} {l : List Ob} {c : Cp} {a : Int32} (h : gd Y l c) : gd Y l (mvT c a) := by
  refine ⟨h.1, h.2.1, fun q => ?_⟩
  have q' : (c.2.2.2.2.2 && decide (c.2.2.2.2.1 = 0)) = true := q
  rw [Bool.and_eq_true, decide_eq_true_eq] at q'
  exact ⟨fun q4 => absurd (q'.2.symm.trans q4) (by decide), (h.2.2 q'.1).2⟩
theorem gd_nrw {Y : HV} {l : List Ob} {c : Cp} {z : Int64} {n : Nat} (hz : z.toInt = (n : Int)) (hn : n < 4294967296) (h : gd Y l c) : gd Y l (nrw c z) := by
  refine ⟨h.1, h.2.1, fun q => ?_⟩
  have q' : (c.2.2.2.2.2 && (decide (c.2.2.2.2.1 = 0) && (decide (¬ pl c.1 < pl c.2.1) && decide (¬ pl c.2.2.1 < pl c.1 + z)))) = true := q
  simp only [Bool.and_eq_true, decide_eq_true_eq] at q'
  obtain ⟨q1, q2, q3, q4⟩ := q'
  refine ⟨fun q5 => absurd (q2.symm.trans q5) (by decide), fun q5 => ?_⟩
  have q5' : uN c.1 < uN (pl c.1 + z).toInt32 := q5
  rw [pl_lt] at q3
  rw [pl_add_gt hz hn] at q4
  have ht := uN_lt c.2.2.1
  have e := uN_add (x := c.1) hz hn (by omega)
  rw [e] at q5'
  have r := (h.2.2 q1).2 (by omega)
  show rgn Y l (uN c.1) (uN (pl c.1 + z).toInt32) c.2.2.2.1
  rw [e]
  exact rgn_le r (by omega) (by omega) (fun _ q => q)
theorem gd_lim {Y : HV} {l : List Ob} {c : Cp} {m : Int32} (h : gd Y l c) : gd Y l (lim c m) := by
  refine ⟨and255_and h.1, h.2.1, fun q => ?_⟩
  have q' : (c.2.2.2.2.2 && decide (c.2.2.2.2.1 = 0)) = true := q
  rw [Bool.and_eq_true, decide_eq_true_eq] at q'
  exact ⟨fun q4 => absurd (q'.2.symm.trans q4) (by decide), fun q5 => rgn_le ((h.2.2 q'.1).2 q5) (Nat.le_refl _) (Nat.le_refl _) (fun _ => sub_and)⟩
theorem gd_utg {Y : HV} {l : List Ob} {c : Cp} (h : gd Y l c) : gd Y l (utg c) := ⟨h.1, h.2.1, fun q => absurd q (by show ¬ false = true; decide)⟩
theorem r255 {a : Int32} (h1 : ¬ a < 8) (h2 : ¬ 255 < a) : a &&& 255 = a ∧ ¬ a = 4 := by
  have h0 : ¬ a < 0 := fun q => h1 (Int32.lt_trans q (by decide))
  obtain ⟨j, hj, rfl⟩ := nI_of h0
  rw [show (8 : Int32) = nI 8 from rfl, nI_ltI hj (by decide)] at h1
  rw [show (255 : Int32) = nI 255 from rfl, nI_ltI (by decide) hj] at h2
  have key : ∀ j, j < 256 → nI j &&& 255 = nI j := by decide +kernel
  exact ⟨key j (by omega), fun q => absurd (nI_inj (b := 4) (by omega) (by decide) q) (by omega)⟩
theorem gd_sea {Y : HV} {l : List Ob} {c s : Cp} (h : gd Y l c) : gd Y l (sea c s) := by
  unfold sea
  by_cases q : c.2.2.2.2.2 = true ∧ c.2.2.2.2.1 = 0 ∧ csl s = true
  · rw [if_pos q]
    have r := csl_no q.2.2
    have r2 := r255 r.2.2.2.2.2.2.2.1 r.2.2.2.2.2.2.2.2
    exact ⟨h.1, r2.1, fun q1 => ⟨fun q4 => absurd q4 r2.2, (h.2.2 q1).2⟩⟩
  · rw [if_neg q]
    exact gd_utg h
theorem gd_uns {Y : HV} {l : List Ob} {c s : Cp} (h : gd Y l c) : gd Y l (uns c s) := by
  unfold uns
  by_cases q : c.2.2.2.2.2 = true ∧ c.2.2.2.2.1 = s.1 ∧ csl s = true
  · rw [if_pos q]
    by_cases q2 : s.2.2.2.1 &&& 64 = 64
    · rw [if_pos q2]
      exact ⟨h.1, by show (0 : Int32) &&& 255 = 0; decide, fun q1 => ⟨fun q4 => absurd q4 (by show ¬ (0 : Int32) = 4; decide), (h.2.2 q1).2⟩⟩
    · rw [if_neg q2]
      exact ⟨and255_and h.1, by show (0 : Int32) &&& 255 = 0; decide, fun q1 => ⟨fun q4 => absurd q4 (by show ¬ (0 : Int32) = 4; decide), fun q5 => rgn_le ((h.2.2 q1).2 q5) (Nat.le_refl _) (Nat.le_refl _) (fun _ => sub_and)⟩⟩
  · rw [if_neg q]
    exact gd_utg h
theorem gd_ent {Y : HV} {l : List Ob} {c : Cp} {k : Int32} (hk : k = 1 ∨ k = 2 ∨ k = 3) (h : gd Y l c) : gd Y l (ent c k) := by
  unfold ent
  by_cases q : c.2.2.2.2.2 = true ∧ c.2.2.2.2.1 = 0 ∧ c.2.2.2.1 &&& 4 = 4
  · rw [if_pos q]
    refine ⟨h.1, ?_, fun q1 => ⟨fun q4 => ?_, (h.2.2 q1).2⟩⟩
    · rcases hk with rfl | rfl | rfl
      · show (1 : Int32) &&& 255 = 1; decide
      · show (2 : Int32) &&& 255 = 2; decide
      · show (3 : Int32) &&& 255 = 3; decide
    · rcases hk with rfl | rfl | rfl
      · exact absurd q4 (by show ¬ (1 : Int32) = 4; decide)
      · exact absurd q4 (by show ¬ (2 : Int32) = 4; decide)
      · exact absurd q4 (by show ¬ (3 : Int32) = 4; decide)
  · rw [if_neg q]
    exact gd_utg h
theorem gd_drv {Y : HV} {l : List Ob} {c s : Cp} {g : Int32} (h : gd Y l c) : gd Y l (drv c s g) := by
  unfold drv
  split
  · exact gd_mvT h
  split
  · exact gd_mvT h
  split
  · exact gd_nrw (pl_toInt s.1) (uN_lt s.1) h
  split
  · exact gd_lim h
  split
  · exact gd_sea h
  split
  · exact gd_uns h
  split
  · exact gd_num _ _ _
  · exact gd_num _ _ _
theorem gd_isp {Y : HV} {l : List Ob} {c : Cp} {k : Nat} {on : Bool} (hk : k < 13) (h : gd Y l c) : gd Y l (isp c (nI k) on) := by
  unfold isp
  split
  · exact gd_num _ _ _
  split
  · exact gd_num _ _ _
  split
  · exact gd_num _ _ _
  split
  · exact gd_num _ _ _
  split
  · exact gd_num _ _ _
  split
  · exact gd_num _ _ _
  split
  · exact gd_num _ _ _
  split
  · exact gd_num _ _ _
  split
  · exact h
  split
  · exact gd_utg h
  · apply gd_ent _ h
    rename_i q0 q1 q2 q3 q4 q5 q6 q7 q8 q9
    rcases (show k = 0 ∨ k = 1 ∨ k = 2 ∨ k = 3 ∨ k = 4 ∨ k = 5 ∨ k = 6 ∨ k = 7 ∨ k = 8 ∨ k = 9 ∨ k = 10 ∨ k = 11 ∨ k = 12 by omega) with q | q | q | q | q | q | q | q | q | q | q | q | q <;> subst q
    · exact absurd rfl q0
    · exact absurd rfl q1
    · exact absurd rfl q2
    · exact absurd rfl q3
    · exact absurd rfl q4
    · exact absurd rfl q5
    · exact absurd rfl q6
    · exact absurd rfl q7
    · exact absurd rfl q8
    · exact absurd rfl q9
    · exact Or.inl (by decide)
    · exact Or.inr (Or.inl (by decide))
    · exact Or.inr (Or.inr (by decide))
theorem gd_shp {Y : HV} {l : List Ob} {c s : Cp} {x : Int32} {b : Nat} {on : Bool} (eb : fb x = nI b) (hb : ff x = 1 → b < 13) (h : gd Y l c) : gd Y l (shp c s x on) := by
  unfold shp
  by_cases f0 : ff x = 0
  · rw [if_pos f0]; exact gd_drv h
  rw [if_neg f0]
  by_cases f1 : ff x = 1
  · rw [if_pos f1, eb]; exact gd_isp (hb f1) h
  rw [if_neg f1]
  by_cases f2 : ff x = 2
  · rw [if_pos f2]; exact gd_mvT h
  · rw [if_neg f2]
    obtain ⟨n, hn, e⟩ := w20_n x
    exact gd_nrw e hn h
theorem ex_91 {kb T Tw t : Nat} {Y : HV} {l : List Ob} {V W : HV} {x : Int32} (h : OK 1000 kb T Tw t Y l V W) (hx : W 1081 0 0 = x) (hr : f_X12_isRight 0 W = true) (ho : x &&& 127 = 91) (hpt : (cM W (17 * t + 16)).2.2.2.2.1 = 0) : ∃ c V' W', f_X2_execute kb 0 t x V = some (c, V') ∧ dtl (nI (17 * t + 16)) W = some (c, W') ∧ RES kb T Tw t Y l V c V' W' := by
  have h6 := OK_t6 h
  obtain ⟨d, hd32, ed⟩ := fd_n x
  have hd := fl16 hd32 ed (rt_d hx hr (by simp [ho]))
  obtain ⟨a, ha32, ea⟩ := fa_n x
  have ha := fl16 ha32 ea (rt_a hx hr (by simp [ho]))
  obtain ⟨b, hb32, eb⟩ := fb_n x
  obtain ⟨r1, r2, r3⟩ := rt_91 hx hr ho
  have hb0 : ff x = 0 → b < 16 := fun q => fl16 hb32 eb (r2 q).1
  have hb1 : ff x = 1 → b < 13 := fun q => Nat.not_le.mp fun q2 => r3 q (by rw [eb]; exact nI_le (a := 13) q2 (by omega))
  have eb15 : fb x &&& 15 = nI (b % 16) := by
    rw [eb]
    have key : ∀ b, b < 32 → nI b &&& 15 = nI (b % 16) := by decide
    exact key b hb32
  have sh : shp (cM W (17 * t + a)) (cM W (17 * t + b % 16)) x (i2b (W 5200 0 t)) = shp (cC V (17 * t + a)) (cC V (17 * t + b)) x (i2b (V 710 t 0)) := by
    rw [OK_on h, OK_cap h (k := a) (by omega) (by omega)]
    unfold shp
    by_cases f0 : ff x = 0
    · rw [if_pos f0, if_pos f0, show b % 16 = b from Nat.mod_eq_of_lt (hb0 f0), OK_cap h (k := b) (by have := hb0 f0; omega) (by omega)]
    · rw [if_neg f0, if_neg f0]
  have uC := cap_C (kb := kb) (V := V) h6 ed hd ea ha eb hb0
  have uM := sht_M (kM_U W 582 (cM W (17 * t + a))) h.2.2.2.2.1 h6 hx ed hd ha (show b % 16 < 16 by omega) rfl rfl (h.2.2.1 a (by omega)).1 r1 (fun q => (r2 q).2)
  rw [← shapes_h h.2.2.2.2.1 h6 hx ea ha eb15] at uM
  obtain ⟨W1, g, m1, m2, m3⟩ := uM
  rw [← sh] at uC
  have hy : gd Y (lv l) (shp (cM W (17 * t + a)) (cM W (17 * t + b % 16)) x (i2b (W 5200 0 t))) := gd_shp eb hb1 (h.2.2.1 a (by omega))
  generalize shp (cM W (17 * t + a)) (cM W (17 * t + b % 16)) x (i2b (W 5200 0 t)) = y at uC m3 hy
  unfold f_X2_execute dtl
  simp only [lt_def, jn_def, hx, ho, m1, bnd_some]
  rw [goesOn_M (t := t) ((UM_80 m2).trans h.2.2.2.2.1) h6, bnd_some]
  refine ⟨0, _, _, rfl, rfl, fun _ => OK_fin h hd hy hpt uC (fun i hi => ?_) m2 m3, fun q => absurd rfl q⟩
  unfold up
  by_cases hid : i = 17 * t + d
  · rw [if_pos hid, if_pos hid]
  · rw [if_neg hid, if_neg hid, if_neg (by omega)]
