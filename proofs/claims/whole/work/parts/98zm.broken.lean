/-! broken(what): nothing is -/
def LtC (W : HV) (i : Nat) (b t : Nat) (p : Int32) : Prop := W 2500 0 i = nI b ∧ W 2600 0 i = nI t ∧ W 2700 0 i = p
/-- a test of the kind (base at least A, top at most B, perms among m) -/
def tst (W : HV) (i : Nat) (A B m : Int32) : Bool := !decide (W 2500 0 i < A) && !decide (B < W 2600 0 i) && decide (W 2700 0 i &&& m = 0)
theorem tst_yes {W : HV} {i b t A B : Nat} {p m : Int32} (h : LtC W i b t p) (h1 : A ≤ b) (h2 : t ≤ B) (h3 : p &&& m = 0) (hb : b < 2147483648) (hB : B < 2147483648) : tst W i (nI A) (nI B) m = true := by
  obtain ⟨e1, e2, e3⟩ := h
  unfold tst
  rw [e1, e2, e3, decide_eq_false (nI_nlt h1 hb), decide_eq_false (nI_nlt h2 hB), decide_eq_true h3]
  rfl
theorem mo_O {i : Nat} {W : HV} {K : Bool → Option Bool} (hi : i < 600) : ∀ (l : List Ob) (k f : Nat) (v : Bool), (∀ j o, l[j]? = some o → W 7600 0 (k + j) = nI (16 * o.1) ∧ W 7700 0 (k + j) = nI (16 * o.2.1)) → W 1055 0 0 = nI (k + l.length) → k + l.length ≤ 2048 → l.length < f → f_X12_isMore_L359 0 (nI i) W (W 2700 0 i) K f v (nI k) = K (v || l.any fun o => tst W i (nI (16 * o.1)) (nI (16 * (o.1 + o.2.1))) (((27 : Int32) ||| 64) ^^^ (-1)))
  | _, _, 0, _, _, _, _, hf => absurd hf (by omega)
  | [], k, f + 1, v, ha, hn, hk, hf => by
    unfold f_X12_isMore_L359
    rw [hn, if_pos (show nI (k + ([] : List Ob).length) ≤ nI k from nI_le (by simp) (by simp at hk; omega)), List.any_nil, Bool.or_false]
  | o :: l, k, f + 1, v, ha, hn, hk, hf => by
    have hk' : k + l.length + 1 ≤ 2048 := by simp only [List.length_cons] at hk; omega
    have hf' : l.length < f := by simp only [List.length_cons] at hf; omega
    have ik : inb (nI k) 2049 := inb_nI (by omega) (by decide)
    have ii : inb (nI i) 600 := inb_nI hi (by decide)
    obtain ⟨a1, a2⟩ := ha 0 o rfl
    rw [Nat.add_zero] at a1 a2
    have ih : ∀ v, f_X12_isMore_L359 0 (nI i) W (W 2700 0 i) K f v (nI (k + 1)) = K (v || l.any fun o => tst W i (nI (16 * o.1)) (nI (16 * (o.1 + o.2.1))) (((27 : Int32) ||| 64) ^^^ (-1))) := fun v => mo_O hi l (k + 1) f v (fun j o' hj => by
        have := ha (j + 1) o' hj
        rw [show k + (j + 1) = k + 1 + j by omega] at this
        exact this) (by rw [hn]; congr 1; simp only [List.length_cons]; omega) (by omega) hf'
    unfold f_X12_isMore_L359
    rw [hn, if_neg (fun q => by have := (nI_leI (by simp only [List.length_cons]; omega) (by omega)).mp q; simp only [List.length_cons] at this; omega), jn_def, jn_def, List.any_cons, cl_nI (show k < 2147483648 by omega), cl_nI (show i < 2147483648 by omega), a1, a2, nI_add, show 16 * o.1 + 16 * o.2.1 = 16 * (o.1 + o.2.1) by omega, ← Bool.or_assoc]
    dsimp only
    by_cases hv : v = true
    · rw [if_pos hv, lt_def, nI_1, ih, hv, Bool.true_or, Bool.true_or, Bool.true_or]
    · rw [if_neg hv, chk_t ii, chk_t ik, jn_def, bF hv, Bool.false_or]
      have e0 : tst W i (nI (16 * o.1)) (nI (16 * (o.1 + o.2.1))) (((27 : Int32) ||| 64) ^^^ (-1)) = (!decide (W 2500 0 i < nI (16 * o.1)) && !decide (nI (16 * (o.1 + o.2.1)) < W 2600 0 i) && decide (W 2700 0 i &&& (((27 : Int32) ||| 64) ^^^ (-1)) = 0)) := rfl
      generalize tst W i (nI (16 * o.1)) (nI (16 * (o.1 + o.2.1))) (((27 : Int32) ||| 64) ^^^ (-1)) = T0 at e0 ⊢
      by_cases q1 : W 2500 0 i < nI (16 * o.1)
      · rw [decide_eq_true q1] at e0
        rw [if_pos q1, lt_def, nI_1, ih, e0]; rfl
      · rw [decide_eq_false q1] at e0
        rw [if_neg q1, chk_t ii, chk_t ik, chk_t ik]
        by_cases q2 : nI (16 * (o.1 + o.2.1)) < W 2600 0 i
        · rw [decide_eq_true q2] at e0
          rw [if_pos q2, lt_def, nI_1, ih, e0]; rfl
        · rw [decide_eq_false q2] at e0
          rw [if_neg q2]
          by_cases q3 : W 2700 0 i &&& (((27 : Int32) ||| 64) ^^^ (-1)) = 0
          · rw [decide_eq_true q3] at e0
            rw [if_pos q3, lt_def, nI_1, ih, e0]; rfl
          · rw [decide_eq_false q3] at e0
            rw [if_neg q3, lt_def, nI_1, ih, e0]; rfl
theorem mo_T {i n : Nat} {W : HV} {K : Bool → Option Bool} (hi : i < 600) (hn : W 1019 0 0 = nI n) (h6 : n ≤ 6) : ∀ (r k f : Nat) (v : Bool), k + r = n → r < f → ∃ b : Bool, f_X12_isMore_L284 0 (nI i) W (W 2700 0 i) K f v (nI k) = K b ∧ (v = true → b = true) ∧ (∀ t, k ≤ t → t < n → tst W i (W 5600 0 t) (W 5700 0 t) (((27 : Int32) ||| 128) ^^^ (-1)) = true → b = true)
  | _, _, 0, _, _, hf => absurd hf (by omega)
  | 0, k, f + 1, v, hk, _ => by
    refine ⟨v, ?_, fun q => q, fun t h1 h2 => by omega⟩
    unfold f_X12_isMore_L284
    rw [hn, if_pos (nI_le (by omega) (by omega))]
  | r + 1, k, f + 1, v, hk, hf => by
    have ik : inb (nI k) 6 := inb_nI (by omega) (by decide)
    have ii : inb (nI i) 600 := inb_nI hi (by decide)
    have step : f_X12_isMore_L284 0 (nI i) W (W 2700 0 i) K (f + 1) v (nI k) = f_X12_isMore_L284 0 (nI i) W (W 2700 0 i) K f (v || tst W i (W 5600 0 k) (W 5700 0 k) (((27 : Int32) ||| 128) ^^^ (-1))) (nI (k + 1)) := by
      conv => lhs; unfold f_X12_isMore_L284
      rw [hn, if_neg (fun q => by have := (nI_leI (by omega) (by omega)).mp q; omega), jn_def, jn_def, cl_nI (show k < 2147483648 by omega), cl_nI (show i < 2147483648 by omega)]
      dsimp only
      by_cases hv : v = true
      · rw [if_pos hv, lt_def, nI_1, hv, Bool.true_or]
      · rw [if_neg hv, chk_t ii, chk_t ik, jn_def, bF hv, Bool.false_or]
        unfold tst
        by_cases q1 : W 2500 0 i < W 5600 0 k
        · rw [if_pos q1, lt_def, nI_1, decide_eq_true q1]; rfl
        · rw [if_neg q1, chk_t ii, chk_t ik, decide_eq_false q1]
          by_cases q2 : W 5700 0 k < W 2600 0 i
          · rw [if_pos q2, lt_def, nI_1, decide_eq_true q2]; rfl
          · rw [if_neg q2, decide_eq_false q2]
            by_cases q3 : W 2700 0 i &&& (((27 : Int32) ||| 128) ^^^ (-1)) = 0
            · rw [if_pos q3, lt_def, nI_1, decide_eq_true q3]; rfl
            · rw [if_neg q3, lt_def, nI_1, decide_eq_false q3]; rfl
    obtain ⟨b, e1, e2, e3⟩ := mo_T (K := K) hi hn h6 r (k + 1) f (v || tst W i (W 5600 0 k) (W 5700 0 k) (((27 : Int32) ||| 128) ^^^ (-1))) (by omega) (by omega)
    refine ⟨b, step.trans e1, fun q => e2 (by rw [q, Bool.true_or]), fun t h1 h2 h3 => ?_⟩
    by_cases e : t = k
    · rw [e] at h3
      exact e2 (by rw [h3, Bool.or_true])
    · exact e3 t (by omega) h2 h3
theorem mo_C {i n : Nat} {W : HV} {K : Bool → Option Bool} (hi : i < 600) (hn : W 1018 0 0 = nI n) (h8 : n ≤ 8) : ∀ (r k f : Nat) (v : Bool), k + r = n → r < f → ∃ b : Bool, f_X12_isMore_L159 0 (nI i) W (W 2700 0 i) K f v (nI k) = K b ∧ (v = true → b = true) ∧ (∀ t, k ≤ t → t < n → (tst W i (W 4000 0 t) (W 4200 0 t) (-78) = true ∨ tst W i (W 4200 0 t) (W 4300 0 t) (((27 : Int32) ||| 64) ^^^ (-1)) = true) → b = true)
  | _, _, 0, _, _, hf => absurd hf (by omega)
  | 0, k, f + 1, v, hk, _ => by
    refine ⟨v, ?_, fun q => q, fun t h1 h2 => by omega⟩
    unfold f_X12_isMore_L159
    rw [hn, if_pos (nI_le (by omega) (by omega))]
  | r + 1, k, f + 1, v, hk, hf => by
    have ik : inb (nI k) 8 := inb_nI (by omega) (by decide)
    have ii : inb (nI i) 600 := inb_nI hi (by decide)
    have step2 : ∀ u : Bool, (jn (fun v83 =>
        lt (nI k + 1) fun v86 =>
        f_X12_isMore_L159 0 (nI i) W (W 2700 0 i) K f v83 v86) fun k84 =>
        jn (k84 true) fun k87 =>
        if u = true then (k87) else (chk (inb (nI i) 600) <|
        chk (inb (nI k) 8) <|
        jn (k84 false) fun k92 =>
        if (W 2500 0 i) < (W 4200 0 k) then (k92) else (chk (inb (nI i) 600) <|
        chk (inb (nI k) 8) <|
        if (W 4300 0 k) < (W 2600 0 i) then (k92) else (if (W 2700 0 i &&& (((27 : Int32) ||| 64) ^^^ (-1))) = 0 then (k87) else (k92))))) = f_X12_isMore_L159 0 (nI i) W (W 2700 0 i) K f (u || tst W i (W 4200 0 k) (W 4300 0 k) (((27 : Int32) ||| 64) ^^^ (-1))) (nI (k + 1)) := by
      intro u
      rw [jn_def, jn_def]
      dsimp only
      by_cases hv : u = true
      · rw [if_pos hv, lt_def, nI_1, hv, Bool.true_or]
      · rw [if_neg hv, chk_t ii, chk_t ik, jn_def, bF hv, Bool.false_or]
        unfold tst
        by_cases q1 : W 2500 0 i < W 4200 0 k
        · rw [if_pos q1, lt_def, nI_1, decide_eq_true q1]; rfl
        · rw [if_neg q1, chk_t ii, chk_t ik, decide_eq_false q1]
          by_cases q2 : W 4300 0 k < W 2600 0 i
          · rw [if_pos q2, lt_def, nI_1, decide_eq_true q2]; rfl
          · rw [if_neg q2, decide_eq_false q2]
            by_cases q3 : W 2700 0 i &&& (((27 : Int32) ||| 64) ^^^ (-1)) = 0
            · rw [if_pos q3, lt_def, nI_1, decide_eq_true q3]; rfl
            · rw [if_neg q3, lt_def, nI_1, decide_eq_false q3]; rfl
    have step : f_X12_isMore_L159 0 (nI i) W (W 2700 0 i) K (f + 1) v (nI k) = f_X12_isMore_L159 0 (nI i) W (W 2700 0 i) K f ((v || tst W i (W 4000 0 k) (W 4200 0 k) (-78)) || tst W i (W 4200 0 k) (W 4300 0 k) (((27 : Int32) ||| 64) ^^^ (-1))) (nI (k + 1)) := by
      rw [← step2]
      conv => lhs; unfold f_X12_isMore_L159
      rw [hn, if_neg (fun q => by have := (nI_leI (by omega) (by omega)).mp q; omega), jn_def (fun v80 => _), jn_def, cl_nI (show k < 2147483648 by omega), cl_nI (show i < 2147483648 by omega)]
      dsimp only
      by_cases hv : v = true
      · rw [if_pos hv, hv, Bool.true_or]
      · rw [if_neg hv, chk_t ii, chk_t ik, jn_def, bF hv, Bool.false_or]
        unfold tst
        by_cases q1 : W 2500 0 i < W 4000 0 k
        · rw [if_pos q1, decide_eq_true q1]; rfl
        · rw [if_neg q1, chk_t ii, chk_t ik, decide_eq_false q1]
          by_cases q2 : W 4200 0 k < W 2600 0 i
          · rw [if_pos q2, decide_eq_true q2]; rfl
          · rw [if_neg q2, decide_eq_false q2]
            by_cases q3 : W 2700 0 i &&& (-78) = 0
            · rw [if_pos q3, decide_eq_true q3]; rfl
            · rw [if_neg q3, decide_eq_false q3]; rfl
    obtain ⟨b, e1, e2, e3⟩ := mo_C (K := K) hi hn h8 r (k + 1) f ((v || tst W i (W 4000 0 k) (W 4200 0 k) (-78)) || tst W i (W 4200 0 k) (W 4300 0 k) (((27 : Int32) ||| 64) ^^^ (-1))) (by omega) (by omega)
    refine ⟨b, step.trans e1, fun q => e2 (by rw [q, Bool.true_or, Bool.true_or]), fun t h1 h2 h3 => ?_⟩
    by_cases e : t = k
    · rw [e] at h3
      rcases h3 with h3 | h3
      · exact e2 (by rw [h3, Bool.or_true, Bool.true_or])
      · exact e2 (by rw [h3, Bool.or_true])
    · exact e3 t (by omega) h2 h3
/-- what the two lookers need of the state -/
def BL (kb : Nat) (Y : HV) (l : List Ob) (W : HV) : Prop := Lay kb Y ∧ LY Y W ∧ HpM l W ∧ srt (64 * kb) (hp Y) l
theorem rgn_31 {kb b t : Nat} {Y W : HV} {l : List Ob} {p : Int32} (h : BL kb Y l W) (hr : rgn Y l b t p) (hbt : b < t) : t ≤ 268435472 := by
  obtain ⟨hL, hY, hM, hs⟩ := h
  have hkb := hL.2.1
  have hhp := hL.2.2.2.2.2.2.2.2.1
  rcases hr with r | r | ⟨c, hc, r1, r2, r3⟩ | ⟨c, hc, r1, r2, r3⟩ | ⟨c, hc, r1, r2, r3⟩ | ⟨o, ho, r1, r2, r3⟩
  · exact r.2.1
  · have := r.2.1; omega
  · have := (hL.2.2.2.2.2.2.2.2.2.1 c hc); omega
  · have := (hL.2.2.2.2.2.2.2.2.2.1 c hc); omega
  · have := (hL.2.2.2.2.2.2.2.2.2.2 c hc); omega
  · have := srt_mem hs ho; omega
theorem isMore_M {kb i : Nat} {Y W : HV} {l : List Ob} (h : BL kb Y l W) (hi : i < 600) (hg : gd Y l (cM W i)) : f_X12_isMore 0 (nI i) W = some false := by
  have ii : inb (nI i) 600 := inb_nI hi (by decide)
  obtain ⟨hL, hY, hM, hs⟩ := id h
  have hkb := hL.2.1
  have hhp := hL.2.2.2.2.2.2.2.2.1
  have hlen := srt_len l _ hs
  have h18 : W 1018 0 0 = nI (ncp Y) := (hY 1018 (by decide) 0 0).trans hL.2.2.2.2.2.1
  have h19 : W 1019 0 0 = nI (nth Y) := (hY 1019 (by decide) 0 0).trans hL.2.2.2.1
  have main : ∀ v2 : Bool, (chk (inb (nI i) 600) <|
    if (i2b (W 2900 0 (nI i).toNatClampNeg)) = true then (if v2 = true then (chk (inb (nI i) 600) <|
    lt (f_X12_plain (W 2500 0 (nI i).toNatClampNeg)) fun v9 =>
    chk (inb (nI i) 600) <|
    lt (f_X12_plain (W 2600 0 (nI i).toNatClampNeg)) fun v11 =>
    if (lg_cmp v9 v11) < 0 then (chk (inb (nI i) 600) <|
    lt (W 2700 0 (nI i).toNatClampNeg) fun v14 =>
    chk (inb (nI i) 600) <|
    jn (fun v16 =>
    jn (fun v21 =>
    jn (fun v24 =>
    jn (fun v27 =>
    lt (if v27 = true then (false) else (true) : Bool) fun v28 =>
    some v28) fun k25 =>
    f_X12_isMore_L359 0 (nI i) W v14 k25 FU v24 0) fun k22 =>
    f_X12_isMore_L284 0 (nI i) W v14 k22 FU v21 0) fun k19 =>
    f_X12_isMore_L159 0 (nI i) W v14 k19 FU v16 0) fun k17 =>
    jn (k17 true) fun k111 =>
    jn (chk (inb (nI i) 600) <|
    jn (k17 false) fun k116 =>
    if (W 2500 0 (nI i).toNatClampNeg) < 8 then (k116) else (chk (inb (nI i) 600) <|
    if 264 < (W 2600 0 (nI i).toNatClampNeg) then (k116) else (if (v14 &&& (-97)) = 0 then (k111) else (k116)))) fun k113 =>
    if (W 2500 0 (nI i).toNatClampNeg) < 268435456 then (k113) else (chk (inb (nI i) 600) <|
    lt (f_X12_plain (W 2600 0 (nI i).toNatClampNeg)) fun v124 =>
    if 0 < (lg_cmp v124 (268435472 : Int64)) then (k113) else (if (v14 &&& (-68)) = 0 then (k111) else (k113)))) else (some false)) else (some false)) else (some false)) = some false := by
    intro v2
    rw [chk_t ii, cl_nI (by omega)]
    by_cases ht : i2b (W 2900 0 i) = true
    · rw [if_pos ht]
      by_cases hv : v2 = true
      · rw [if_pos hv, chk_t ii, lt_def, chk_t ii, lt_def, plain_pl, plain_pl]
        by_cases hl : lg_cmp (pl (W 2500 0 i)) (pl (W 2600 0 i)) < 0
        · rw [if_pos hl, chk_t ii, lt_def, chk_t ii]
          have hlt : uN (W 2500 0 i) < uN (W 2600 0 i) := pl_lt.mp ((lg_cmp_lt _ _).mp hl)
          have hr : rgn Y l (uN (W 2500 0 i)) (uN (W 2600 0 i)) (W 2700 0 i) := (hg.2.2 ht).2 hlt
          have h31 := rgn_31 h hr hlt
          generalize hb : uN (W 2500 0 i) = b at *
          generalize htp : uN (W 2600 0 i) = t at *
          have eb : W 2500 0 i = nI b := by rw [← hb]; exact nI_uN (by omega)
          have et : W 2600 0 i = nI t := by rw [← htp]; exact nI_uN (by omega)
          have hC : LtC W i b t (W 2700 0 i) := ⟨eb, et, rfl⟩
          generalize hk17 : (fun v16 : Bool => jn (fun v21 =>
            jn (fun v24 =>
            jn (fun v27 =>
            lt (if v27 = true then (false) else (true) : Bool) fun v28 =>
            some v28) fun k25 =>
            f_X12_isMore_L359 0 (nI i) W (W 2700 0 i) k25 FU v24 0) fun k22 =>
            f_X12_isMore_L284 0 (nI i) W (W 2700 0 i) k22 FU v21 0) fun k19 =>
            f_X12_isMore_L159 0 (nI i) W (W 2700 0 i) k19 FU v16 0) = k17
          have key : ∀ v16 : Bool, (v16 = true ∨ (∃ c, c < ncp Y ∧ (tst W i (W 4000 0 c) (W 4200 0 c) (-78) = true ∨ tst W i (W 4200 0 c) (W 4300 0 c) (((27 : Int32) ||| 64) ^^^ (-1)) = true)) ∨ (∃ c, c < nth Y ∧ tst W i (W 5600 0 c) (W 5700 0 c) (((27 : Int32) ||| 128) ^^^ (-1)) = true) ∨ (∃ o, o ∈ l ∧ tst W i (nI (16 * o.1)) (nI (16 * (o.1 + o.2.1))) (((27 : Int32) ||| 64) ^^^ (-1)) = true)) → k17 v16 = some false := by
            intro v16 hor
            rw [← hk17]
            dsimp only
            rw [jn_def]
            obtain ⟨b1, x1, x2, x3⟩ := mo_C (K := fun v21 => jn (fun v24 =>
              jn (fun v27 =>
              lt (if v27 = true then (false) else (true) : Bool) fun v28 =>
              some v28) fun k25 =>
              f_X12_isMore_L359 0 (nI i) W (W 2700 0 i) k25 FU v24 0) fun k22 =>
              f_X12_isMore_L284 0 (nI i) W (W 2700 0 i) k22 FU v21 0) hi h18 hL.2.2.2.2.2.2.1 (ncp Y) 0 FU v16 (by omega) (FU_gt (by have := hL.2.2.2.2.2.2.1; omega))
            refine x1.trans ?_
            rw [jn_def]
            obtain ⟨b2, y1, y2, y3⟩ := mo_T (K := fun v24 => jn (fun v27 =>
              lt (if v27 = true then (false) else (true) : Bool) fun v28 =>
              some v28) fun k25 =>
              f_X12_isMore_L359 0 (nI i) W (W 2700 0 i) k25 FU v24 0) hi h19 hL.2.2.2.2.1 (nth Y) 0 FU b1 (by omega) (FU_gt (by have := hL.2.2.2.2.1; omega))
            refine y1.trans ?_
            rw [jn_def]
            have z1 := mo_O (K := fun v27 => lt (if v27 = true then (false) else (true) : Bool) fun v28 => some v28) hi l 0 FU b2 (fun j o hj => by rw [Nat.zero_add]; exact ⟨(hM.2 j o hj).1, (hM.2 j o hj).2.1⟩) (by rw [Nat.zero_add]; exact hM.1) (by omega) (FU_gt (by omega))
            refine z1.trans ?_
            have ht3 : (b2 || l.any fun o => tst W i (nI (16 * o.1)) (nI (16 * (o.1 + o.2.1))) (((27 : Int32) ||| 64) ^^^ (-1))) = true := by
              rcases hor with q | ⟨c, hc, q⟩ | ⟨c, hc, q⟩ | ⟨o, ho, q⟩
              · rw [y2 (x2 q), Bool.true_or]
              · rw [y2 (x3 c (Nat.zero_le _) hc q), Bool.true_or]
              · rw [y3 c (Nat.zero_le _) hc q, Bool.true_or]
              · rw [show (l.any fun o => tst W i (nI (16 * o.1)) (nI (16 * (o.1 + o.2.1))) (((27 : Int32) ||| 64) ^^^ (-1))) = true from List.any_eq_true.mpr ⟨o, ho, q⟩, Bool.or_true]
            rw [ht3, lt_def]
            rfl
          rw [jn_def, jn_def, jn_def, jn_def, key true (Or.inl rfl)]
          have g1 : ∀ c, c < ncp Y → W 4000 0 c = nI (16 * gN Y 4000 c) ∧ W 4200 0 c = nI (16 * gN Y 4200 c) ∧ W 4300 0 c = nI (16 * gN Y 4300 c) ∧ gN Y 4200 c ≤ 2048 ∧ gN Y 4300 c ≤ 2048 := fun c hc => by
            have := hL.2.2.2.2.2.2.2.2.2.1 c hc
            exact ⟨(hY 4000 (by decide) 0 c).trans this.1, (hY 4200 (by decide) 0 c).trans this.2.1, (hY 4300 (by decide) 0 c).trans this.2.2.1, by omega, by omega⟩
          have g2 : ∀ c, c < nth Y → W 5600 0 c = nI (16 * gN Y 5600 c) ∧ W 5700 0 c = nI (16 * gN Y 5700 c) ∧ gN Y 5700 c ≤ 2048 := fun c hc => by
            have := hL.2.2.2.2.2.2.2.2.2.2 c hc
            exact ⟨(hY 5600 (by decide) 0 c).trans this.1, (hY 5700 (by decide) 0 c).trans this.2.1, by omega⟩
          rw [eb, et]
          have fin : (∃ c, c < ncp Y ∧ (tst W i (W 4000 0 c) (W 4200 0 c) (-78) = true ∨ tst W i (W 4200 0 c) (W 4300 0 c) (((27 : Int32) ||| 64) ^^^ (-1)) = true)) ∨ (∃ c, c < nth Y ∧ tst W i (W 5600 0 c) (W 5700 0 c) (((27 : Int32) ||| 128) ^^^ (-1)) = true) ∨ (∃ o, o ∈ l ∧ tst W i (nI (16 * o.1)) (nI (16 * (o.1 + o.2.1))) (((27 : Int32) ||| 64) ^^^ (-1)) = true) ∨ (8 ≤ b ∧ t ≤ 264 ∧ sub (W 2700 0 i) 96) ∨ (268435456 ≤ b ∧ t ≤ 268435472 ∧ sub (W 2700 0 i) 67) := by
            rcases hr with r | r | ⟨c, hc, r1, r2, r3⟩ | ⟨c, hc, r1, r2, r3⟩ | ⟨c, hc, r1, r2, r3⟩ | ⟨o, ho, r1, r2, r3⟩
            · exact Or.inr (Or.inr (Or.inr (Or.inr r)))
            · exact Or.inr (Or.inr (Or.inr (Or.inl r)))
            · obtain ⟨z1, z2, z3, z4, z5⟩ := g1 c hc
              exact Or.inl ⟨c, hc, Or.inl (by rw [z1, z2]; exact tst_yes hC r1 r2 r3 (by omega) (by omega))⟩
            · obtain ⟨z1, z2, z3, z4, z5⟩ := g1 c hc
              exact Or.inl ⟨c, hc, Or.inr (by rw [z2, z3]; exact tst_yes hC r1 r2 r3 (by omega) (by omega))⟩
            · obtain ⟨z1, z2, z3⟩ := g2 c hc
              exact Or.inr (Or.inl ⟨c, hc, by rw [z1, z2]; exact tst_yes hC r1 r2 r3 (by omega) (by omega)⟩)
            · have := srt_mem hs ho
              exact Or.inr (Or.inr (Or.inl ⟨o, ho, tst_yes hC r1 r2 r3 (by omega) (by omega)⟩))
          have hseal : (chk (inb (nI i) 600) <| jn (k17 false) fun k116 => if nI b < 8 then (k116) else (chk (inb (nI i) 600) <| if 264 < nI t then (k116) else (if ((W 2700 0 i) &&& (-97)) = 0 then (some false) else (k116)))) = some false ∨ (268435456 ≤ b ∧ t ≤ 268435472 ∧ sub (W 2700 0 i) 67) := by
            rw [chk_t ii, jn_def]
            rcases fin with q | q | q | q | q
            · left
              rw [key false (Or.inr (Or.inl q)), chk_t ii]
              split <;> (try rfl); split <;> (try rfl); split <;> rfl
            · left
              rw [key false (Or.inr (Or.inr (Or.inl q))), chk_t ii]
              split <;> (try rfl); split <;> (try rfl); split <;> rfl
            · left
              rw [key false (Or.inr (Or.inr (Or.inr q))), chk_t ii]
              split <;> (try rfl); split <;> (try rfl); split <;> rfl
            · left
              rw [if_neg (show ¬ nI b < 8 from nI_nlt (b := 8) q.1 (by omega)), chk_t ii, if_neg (show ¬ 264 < nI t from nI_nlt (a := 264) q.2.1 (by decide)), if_pos (show W 2700 0 i &&& (-97) = 0 from q.2.2)]
            · exact Or.inr q
          rcases hseal with q | q
          · rw [jn_def] at q
            rw [q, chk_t ii, lt_def]
            split <;> (try rfl); split <;> (try rfl); split <;> rfl
          · rw [if_neg (show ¬ nI b < 268435456 from nI_nlt (b := 268435456) q.1 (by omega)), chk_t ii, lt_def, if_neg, if_pos (show W 2700 0 i &&& (-68) = 0 from q.2.2)]
            rw [lg_cmp_gt, show (268435472 : Int64) = pl 268435472 by decide, pl_lt, uN_nI (by omega), show uN 268435472 = 268435472 by decide]
            omega
        · rw [if_neg hl]
      · rw [if_neg hv]
    · rw [if_neg ht]
  unfold f_X12_isMore
  rw [chk_t ii, jn_def, jn_def]
  by_cases q1 : W 2800 0 (nI i).toNatClampNeg = 0
  · rw [if_pos q1]; exact main true
  · rw [if_neg q1, chk_t ii]
    by_cases q2 : W 2800 0 (nI i).toNatClampNeg < 4
    · rw [if_pos q2]; exact main true
    · rw [if_neg q2, chk_t ii]
      by_cases q3 : W 2800 0 (nI i).toNatClampNeg ≤ 7
      · rw [if_pos q3]; exact main false
      · rw [if_neg q3]; exact main true
