/-! the stack as given -/
theorem hold_n {kb i b g : Nat} {V : HV} (hb : b < 2147483648) (hg : g < 2147483648) (h1 : V 1 i 0 = nI b) (h2 : V 2 i 0 = nI g) (x : Int32) : f_X0_holds kb i x 0 V = (decide (¬ x < nI b) && decide (¬ nI g < x)) := by
  unfold f_X0_holds
  rw [lt_def, lt_def, h1, h2]
  show (if lg_cmp (pl x) (pl (nI b)) < 0 then false else if 0 < lg_cmp (pl x + (0 : Int32).toInt64) (pl (nI g)) then false else true) = _
  have e1 : (lg_cmp (pl x) (pl (nI b)) < 0) ↔ uN x < b := by rw [lg_cmp_lt, pl_lt, uN_nI (by omega)]
  have e2 : (0 < lg_cmp (pl x + (0 : Int32).toInt64) (pl (nI g))) ↔ g < uN x := by
    rw [lg_cmp_gt, pl_add_gt (n := 0) (by decide) (by decide), uN_nI (by omega)]
    omega
  by_cases hn : x < 0
  · have := neg_uN.mp hn
    rw [if_neg (fun q => by have := e1.mp q; omega), if_pos (e2.mpr (by omega)), dNf (show x < nI b from Int32.lt_of_lt_of_le hn (nI_pos' hb))]
    rfl
  · obtain ⟨k, hk, rfl⟩ := nI_of hn
    rw [uN_nI (by omega)] at e1 e2
    by_cases q1 : k < b
    · rw [if_pos (e1.mpr q1), dNf (nI_lt q1 hb)]
      rfl
    · rw [if_neg (mt e1.mp q1), dNt (fun z => q1 ((nI_ltI hk hb).mp z))]
      by_cases q2 : g < k
      · rw [if_pos (e2.mpr q2), dNf (nI_lt q2 hk)]
        rfl
      · rw [if_neg (mt e2.mp q2), dNt (fun z => q2 ((nI_ltI hg hk).mp z))]
        rfl
/-- the stack's capability c, its first byte b and the given end g -/
def stk (c : Cp) (b g : Int32) : Prop := c.2.2.2.2.2 = true ∧ c.2.2.2.2.1 = 0 ∧ (¬ c.2.2.2.1 &&& 2 = 0) ∧ c.2.1 = b ∧ c.2.2.1 = g ∧ (¬ c.1 < b) ∧ (¬ g < c.1) ∧ c.1 - c.1 / 16 * 16 = 0
theorem stk_C {kb t b g : Nat} {c : Cp} {V : HV} (hb : b < 2147483648) (hg : g < 2147483648) (hc : cC V (17 * t + 2) = c) (h1 : V 707 t 0 = nI b) (h2 : V 708 t 0 = nI g) : (f_X9_stackIsAsGiven kb t V = true ↔ stk c (nI b) (nI g)) := by
  have e5 : i2b (V 5 (17 * t + 2) 0) = c.2.2.2.2.2 := congrArg (fun c : Cp => c.2.2.2.2.2) hc
  have e4 : V 4 (17 * t + 2) 0 = c.2.2.2.2.1 := congrArg (fun c : Cp => c.2.2.2.2.1) hc
  have e3 : V 3 (17 * t + 2) 0 = c.2.2.2.1 := congrArg (fun c : Cp => c.2.2.2.1) hc
  have e2 : V 2 (17 * t + 2) 0 = c.2.2.1 := congrArg (fun c : Cp => c.2.2.1) hc
  have e1 : V 1 (17 * t + 2) 0 = c.2.1 := congrArg (fun c : Cp => c.2.1) hc
  have e0 : V 0 (17 * t + 2) 0 = c.1 := congrArg (fun c : Cp => c.1) hc
  have b2 : (c.2.2.2.1 &&& 2 = 2) ↔ ¬ (c.2.2.2.1 &&& 2 = 0) := bit_iff (k := 1) (by decide) (by decide)
  unfold f_X9_stackIsAsGiven f_X0_isPlainWith stk
  rw [lt_def, lt_def, lt_def, show (2 : Int32) = nI 2 from rfl, reg_C' (by decide), show nI 2 = (2 : Int32) from rfl, e5, e4, e3, e2, e1, e0, h1, h2]
  by_cases q1 : c.2.2.2.2.2 = true
  · rw [if_pos q1]
    by_cases q2 : c.2.2.2.2.1 = 0
    · rw [if_pos q2]
      by_cases q3 : c.2.2.2.1 &&& 2 = 2
      · rw [if_pos q3, if_pos rfl]
        by_cases q4 : c.2.1 = nI b
        · rw [if_pos q4]
          by_cases q5 : c.2.2.1 = nI g
          · rw [if_pos q5, hold_n hb hg (e1.trans q4) (e2.trans q5)]
            by_cases q6 : c.1 < nI b
            · rw [dNf q6, Bool.false_and, if_neg (show ¬ false = true by decide)]
              exact ⟨fun q => absurd q (by decide), fun q => absurd q6 q.2.2.2.2.2.1⟩
            · rw [dNt q6]
              by_cases q7 : nI g < c.1
              · rw [dNf q7, Bool.and_false, if_neg (show ¬ false = true by decide)]
                exact ⟨fun q => absurd q (by decide), fun q => absurd q7 q.2.2.2.2.2.2.1⟩
              · rw [dNt q7, if_pos (show (true && true) = true from rfl)]
                by_cases q8 : c.1 - c.1 / 16 * 16 = 0
                · rw [if_pos q8]
                  exact ⟨fun _ => ⟨q1, q2, b2.mp q3, q4, q5, q6, q7, q8⟩, fun _ => rfl⟩
                · rw [if_neg q8]
                  exact ⟨fun q => absurd q (by decide), fun q => absurd q.2.2.2.2.2.2.2 q8⟩
          · rw [if_neg q5]
            exact ⟨fun q => absurd q (by decide), fun q => absurd q.2.2.2.2.1 q5⟩
        · rw [if_neg q4]
          exact ⟨fun q => absurd q (by decide), fun q => absurd q.2.2.2.1 q4⟩
      · rw [if_neg q3, if_neg (show ¬ false = true by decide)]
        exact ⟨fun q => absurd q (by decide), fun q => absurd (b2.mpr q.2.2.1) q3⟩
    · rw [if_neg q2, if_neg (show ¬ false = true by decide)]
      exact ⟨fun q => absurd q (by decide), fun q => absurd q.2.1 q2⟩
  · rw [if_neg q1, if_neg (show ¬ false = true by decide)]
    exact ⟨fun q => absurd q (by decide), fun q => absurd q.1 q1⟩
theorem stk_M {t : Nat} {b g : Int32} {c : Cp} {W : HV} (h80 : W 1080 0 0 = nI t) (ht : t < 6) (hc : cM W (17 * t + 2) = c) (h1 : W 5600 0 t = b) (h2 : W 5800 0 t = g) : ∃ s : Bool, f_X12_isStack 0 W = some s ∧ (s = true ↔ stk c b g) := by
  have hi : inb (nI (17 * t + 2)) 600 := inb_nI (by omega) (by decide)
  have h6 : inb (nI t) 6 := inb_nI ht (by decide)
  unfold f_X12_isStack stk
  rw [lt_def, h80, show (2 : Int32) = nI 2 from rfl, reg_M', show nI 2 = (2 : Int32) from rfl, chk_t hi, cl_nI (by omega), cl_nI (by omega), cM_5 hc, cM_4 hc, cM_3 hc, cM_2 hc, cM_1 hc, cM_0 hc, h1, h2]
  by_cases q1 : c.2.2.2.2.2 = true
  · rw [if_pos q1, chk_t hi]
    by_cases q2 : c.2.2.2.2.1 = 0
    · rw [if_pos q2, chk_t hi]
      by_cases q3 : c.2.2.2.1 &&& 2 = 0
      · rw [if_pos q3]
        exact ⟨false, rfl, fun q => absurd q (by decide), fun q => absurd q3 q.2.2.1⟩
      · rw [if_neg q3, chk_t hi, chk_t h6]
        by_cases q4 : c.2.1 = b
        · rw [if_pos q4, chk_t hi, chk_t h6]
          by_cases q5 : c.2.2.1 = g
          · rw [if_pos q5, chk_t hi, chk_t h6]
            by_cases q6 : c.1 < b
            · rw [if_pos q6]
              exact ⟨false, rfl, fun q => absurd q (by decide), fun q => absurd q6 q.2.2.2.2.2.1⟩
            · rw [if_neg q6, chk_t hi, chk_t h6]
              by_cases q7 : g < c.1
              · rw [if_pos q7]
                exact ⟨false, rfl, fun q => absurd q (by decide), fun q => absurd q7 q.2.2.2.2.2.2.1⟩
              · rw [if_neg q7, chk_t hi]
                by_cases q8 : c.1 - c.1 / 16 * 16 = 0
                · rw [if_pos q8]
                  exact ⟨true, rfl, fun _ => ⟨q1, q2, q3, q4, q5, q6, q7, q8⟩, fun _ => rfl⟩
                · rw [if_neg q8]
                  exact ⟨false, rfl, fun q => absurd q (by decide), fun q => absurd q.2.2.2.2.2.2.2 q8⟩
          · rw [if_neg q5]
            exact ⟨false, rfl, fun q => absurd q (by decide), fun q => absurd q.2.2.2.2.1 q5⟩
        · rw [if_neg q4]
          exact ⟨false, rfl, fun q => absurd q (by decide), fun q => absurd q.2.2.2.1 q4⟩
    · rw [if_neg q2]
      exact ⟨false, rfl, fun q => absurd q (by decide), fun q => absurd q.2.1 q2⟩
  · rw [if_neg q1]
    exact ⟨false, rfl, fun q => absurd q (by decide), fun q => absurd q.1 q1⟩
theorem stk_n {c : Cp} {b g : Nat} (hb : b < 134217728) (hg : g < 134217728) (h : stk c (nI (16 * b)) (nI (16 * g))) : ∃ m, c.1 = nI (16 * m) ∧ b ≤ m ∧ m ≤ g ∧ c.2.2.1 = nI (16 * g) := by
  obtain ⟨q1, q2, q3, q4, q5, q6, q7, q8⟩ := h
  have hn : ¬ c.1 < 0 := fun q => q6 (Int32.lt_of_lt_of_le q (nI_pos' (by omega)))
  obtain ⟨k, hk, e⟩ := nI_of hn
  rw [e] at q6 q7 q8
  have r : nI k - nI k / 16 * 16 = nI (k % 16) := pk_rem (d := 16) hk (by decide) (by decide)
  rw [r] at q8
  have k0 : k % 16 = 0 := nI_inj (b := 0) (by omega) (by decide) q8
  rw [nI_ltI hk (by omega)] at q6
  rw [nI_ltI (by omega) hk] at q7
  refine ⟨k / 16, ?_, by omega, by omega, q5⟩
  rw [e]
  congr 1
  omega
/-! keeping a frame -/
def kp (t d : Nat) (f : Nat → Cp) : Nat → Cp := up (up (up (up (up f (102 + 80 * t + 5 * d) (f (17 * t + 16))) (102 + 80 * t + 5 * d + 1) (f (17 * t + 2))) (102 + 80 * t + 5 * d + 2) (f (17 * t + 3))) (102 + 80 * t + 5 * d + 3) (f (17 * t + 8))) (102 + 80 * t + 5 * d + 4) (f (17 * t + 9))
theorem kp_ne {t d i : Nat} {f : Nat → Cp} (h : ¬ (102 + 80 * t + 5 * d ≤ i ∧ i < 102 + 80 * t + 5 * d + 5)) : kp t d f i = f i := by
  unfold kp
  rw [up_ne (by omega), up_ne (by omega), up_ne (by omega), up_ne (by omega), up_ne (by omega)]
theorem kp_at {t d k : Nat} {f : Nat → Cp} (hk : k < 5) : ∃ r, r < 17 ∧ 0 < r ∧ ∀ f, kp t d f (102 + 80 * t + 5 * d + k) = f (17 * t + r) := by
  unfold kp
  rcases (show k = 0 ∨ k = 1 ∨ k = 2 ∨ k = 3 ∨ k = 4 by omega) with rfl | rfl | rfl | rfl | rfl
  · exact ⟨16, by decide, by decide, fun f => by rw [up_ne (by omega), up_ne (by omega), up_ne (by omega), up_ne (by omega)]; exact up_at _ _ _⟩
  · exact ⟨2, by decide, by decide, fun f => by rw [up_ne (by omega), up_ne (by omega), up_ne (by omega), up_at]⟩
  · exact ⟨3, by decide, by decide, fun f => by rw [up_ne (by omega), up_ne (by omega), up_at]⟩
  · exact ⟨8, by decide, by decide, fun f => by rw [up_ne (by omega), up_at]⟩
  · exact ⟨9, by decide, by decide, fun f => by rw [up_at]⟩
theorem kp_1 {t d : Nat} {f : Nat → Cp} : kp t d f (102 + 80 * t + 5 * d + 1) = f (17 * t + 2) := by
  unfold kp
  rw [up_ne (by omega), up_ne (by omega), up_ne (by omega), up_at]
theorem ucp {V V4 : HV} {f : Nat → Cp} {i j : Nat} {y : Cp} (h : UC V f V4) (hj : f j = y) : UC V (up f i y) (kC V4 i (cC V4 j)) := by
  have e : cC V4 j = y := by rw [h.1]; exact hj
  have u := kC_U V4 i y
  rw [h.1] at u
  rw [e]
  exact h.trans u
theorem ucy {V V4 : HV} {f : Nat → Cp} {i : Nat} {y : Cp} (h : UC V f V4) : UC V (up f i y) (kC V4 i y) := by
  have u := kC_U V4 i y
  rw [h.1] at u
  exact h.trans u
theorem mcp {W W4 : HV} {f : Nat → Cp} {i j : Nat} {y : Cp} (h : UM W f W4) (hj : f j = y) : UM W (up f i y) (kM W4 i (cM W4 j)) := by
  have e : cM W4 j = y := by rw [h.1]; exact hj
  have u := kM_U W4 i y
  rw [h.1] at u
  rw [e]
  exact h.trans u
theorem mcy {W W4 : HV} {f : Nat → Cp} {i : Nat} {y : Cp} (h : UM W f W4) : UM W (up f i y) (kM W4 i y) := by
  have u := kM_U W4 i y
  rw [h.1] at u
  exact h.trans u
theorem okc_F {W : HV} {u f k : Nat} (hu : u < 6) (hf : f < 16) (hk : k < 5) : okc W (102 + 80 * u + 5 * f + k) ↔ (u < nth W ∧ f < xN W 5000 u) := by
  unfold okc xN
  rw [show (102 + 80 * u + 5 * f + k - 102) / 80 = u by omega, show (102 + 80 * u + 5 * f + k - 102) % 80 / 5 = f by omega]
  constructor
  · rintro (q | q)
    · omega
    · exact ⟨q.2.2.1, q.2.2.2⟩
  · rintro ⟨q1, q2⟩
    exact Or.inr ⟨by omega, by omega, q1, q2⟩
theorem fr_ex {i : Nat} (h1 : 102 ≤ i) (h2 : i < 582) : ∃ u f k, u < 6 ∧ f < 16 ∧ k < 5 ∧ i = 102 + 80 * u + 5 * f + k := ⟨(i - 102) / 80, (i - 102) % 80 / 5, (i - 102) % 5, by omega, by omega, by omega, by omega⟩
theorem okc_R {W W' : HV} {i : Nat} (hn : nth W' = nth W) (hi : i < 102) : okc W' i ↔ okc W i := by
  unfold okc
  rw [hn]
  constructor
  · rintro (q | q)
    · exact Or.inl q
    · omega
  · rintro (q | q)
    · exact Or.inl q
    · omega
theorem OK_keep {kb T Tw t dd : Nat} {Y : HV} {l : List Ob} {V V' W W' : HV} (h : OK (17 * t) kb T Tw t Y l V W) (hdd : W 5000 0 t = nI dd) (hdm : dd < xN Y 5100 t) (hV : agr [0, 1, 2, 3, 4, 5, 205, 206, 704] V V') (hW : agr [2400, 2500, 2600, 2700, 2800, 2900, 5000, 6400, 6500, 6600] W W') (hc : cC V' = kp t dd (cC V)) (hm : cM W' = kp t dd (cM W))
  (e704 : ∀ u, V' 704 u 0 = if u = t then nI (dd + 1) else V 704 u 0) (e5000 : ∀ u, W' 5000 0 u = if u = t then nI (dd + 1) else W 5000 0 u)
  (e206 : ∀ o, V' 206 o 0 = if o = 16 * t + dd then V 709 t 0 else V 206 o 0) (e205 : ∀ o, V' 205 o 0 = if o = 16 * t + dd then b2i (i2b (V 710 t 0)) else V 205 o 0)
  (e6400 : ∀ o, W' 6400 0 o = if o = 16 * t + dd then W 4900 0 t else W 6400 0 o) (e6500 : ∀ o, W' 6500 0 o = if o = 16 * t + dd then b2i (i2b (W 5200 0 t)) else W 6500 0 o) (e6600 : ∀ o, W' 6600 0 o = if o = 16 * t + dd then W 5800 0 t else W 6600 0 o)
  (hst : ∃ q e, (cM W (17 * t + 2)).1 = nI (16 * q) ∧ (cM W (17 * t + 2)).2.2.1 = W 5800 0 t ∧ W 5800 0 t = nI (16 * e) ∧ gN Y 5600 t ≤ q ∧ q ≤ e ∧ e ≤ gN Y 5700 t) : OK (17 * t) kb T Tw t Y l V' W' := by
  have h6 := OK_t6 h
  obtain ⟨h1, h2, h3, h4, h5, hn⟩ := id h
  have hL := h1.1
  have hdm16 : xN Y 5100 t ≤ 16 := (hL.2.2.2.2.2.2.2.2.2.2 t hn).2.2.2.2.2
  have hnth : nth W' = nth W := nth_fr hW (by decide)
  have hx5 : ∀ u, xN W' 5000 u = if u = t then dd + 1 else xN W 5000 u := by
    intro u
    unfold xN
    rw [e5000 u]
    by_cases e : u = t
    · rw [if_pos e, if_pos e, cl_nI (by omega)]
    · rw [if_neg e, if_neg e]
  have hxt : xN W 5000 t = dd := by unfold xN; rw [hdd, cl_nI (by omega)]
  have hregs : ∀ k, k < 17 → cM W' (17 * t + k) = cM W (17 * t + k) := fun k hk => by rw [hm, kp_ne (by omega)]
  have r1 := OK_Rt1 h
  refine ⟨ST_gen h1 (hV.sub (by decide)) (hW.sub (by decide)) (Rs_fr hV hW (by decide) (by decide) h1.2.2.1) ?_ ?_ ?_ ?_, Tm_fr hV hW (by decide) (by decide) h2, fun k hk => by rw [hregs k hk]; exact h3 k hk, Jm_fr hW (by decide) h4, (hW 1080 0 0 (by decide)).trans h5, hn⟩
  · intro i hi
    rw [hc, hm]
    by_cases hin : 102 + 80 * t + 5 * dd ≤ i ∧ i < 102 + 80 * t + 5 * dd + 5
    · obtain ⟨k, hk, rfl⟩ : ∃ k, k < 5 ∧ i = 102 + 80 * t + 5 * dd + k := ⟨i - (102 + 80 * t + 5 * dd), by omega, by omega⟩
      obtain ⟨r, hr, hr0, e⟩ := kp_at (t := t) (d := dd) (f := cC V) hk
      rw [e, e]
      refine ⟨fun _ _ => OK_cap h hr (by omega), OK_gd h hr, fun q => absurd ?_ q, fun q => by omega⟩
      rw [okc_F h6 (by omega) hk]
      exact ⟨by rw [hnth, nth_LY h1.2.1]; exact hn, by rw [hx5, if_pos rfl]; omega⟩
    · rw [kp_ne hin, kp_ne hin]
      obtain ⟨c1, c2, c3, c4⟩ := h1.2.2.2.2.2.2.2.2.2.1 i hi
      have hok : okc W' i ↔ okc W i := by
        by_cases h102 : i < 102
        · exact okc_R hnth h102
        · obtain ⟨u, f, k, hu, hf, hk, rfl⟩ := fr_ex (by omega) hi
          rw [okc_F hu hf hk, okc_F hu hf hk, hnth, hx5]
          by_cases e : u = t
          · rw [if_pos e]
            rw [e] at hin ⊢
            rw [hxt]
            constructor
            · rintro ⟨q1, q2⟩
              exact ⟨q1, by omega⟩
            · rintro ⟨q1, q2⟩
              exact ⟨q1, by omega⟩
          · rw [if_neg e]
      exact ⟨fun q => c1 (hok.mp q), c2, fun q => c3 (mt hok.mpr q), c4⟩
  · intro u f hu hf
    have hu6 : u < 6 := Nat.lt_of_lt_of_le hu hL.2.2.2.2.1
    rw [hx5 u] at hf
    by_cases e : u = t ∧ f = dd
    · obtain ⟨rfl, rfl⟩ := e
      rw [e206, e205, e6400, e6500, e6600, if_pos rfl, if_pos rfl, if_pos rfl, if_pos rfl, if_pos rfl, i2b_b2i, i2b_b2i]
      have ek := kp_1 (t := u) (d := f) (f := cM W)
      rw [← hm] at ek
      obtain ⟨q, e, s1, s2, s3, s4, s5, s6⟩ := hst
      refine ⟨r1.2.2.2.2.2.1, r1.2.2.2.2.2.2.1, (cM_2 ek).trans s2, q, e, (cM_0 ek).trans s1, s3, s4, s5, s6⟩
    · have hf' : f < xN W 5000 u := by
        by_cases e2 : u = t
        · rw [if_pos e2] at hf
          rw [e2, hxt]
          omega
        · rw [if_neg e2] at hf
          exact hf
      have hf16 : f < 16 := Nat.lt_of_lt_of_le hf' (Nat.le_trans (OK_Thr h u hu).2.1 (hL.2.2.2.2.2.2.2.2.2.2 u hu).2.2.2.2.2)
      have hne : ¬ 16 * u + f = 16 * t + dd := by omega
      have ek : cM W' (102 + 80 * u + 5 * f + 1) = cM W (102 + 80 * u + 5 * f + 1) := by rw [hm, kp_ne (by omega)]
      rw [e206, e205, e6400, e6500, e6600, if_neg hne, if_neg hne, if_neg hne, if_neg hne, if_neg hne, show W' 2600 0 (102 + 80 * u + 5 * f + 1) = W 2600 0 (102 + 80 * u + 5 * f + 1) from cM_2 ek, show W' 2400 0 (102 + 80 * u + 5 * f + 1) = W 2400 0 (102 + 80 * u + 5 * f + 1) from cM_0 ek]
      exact h1.2.2.2.2.2.2.2.2.2.2.2.1 u f hu hf'
  · intro u hu
    have a := OK_Thr h u hu
    unfold isG at a ⊢
    rw [gN_fr hW (by decide), hW 5800 0 u (by decide), hW 4700 0 u (by decide), hW 4800 0 u (by decide), hW 6300 0 u (by decide)]
    obtain ⟨a1, a2, a3⟩ := a
    refine ⟨?_, ?_, a3⟩
    · rw [e5000, hx5]
      by_cases e : u = t
      · rw [if_pos e, if_pos e]
      · rw [if_neg e, if_neg e]; exact a1
    · rw [hx5]
      by_cases e : u = t
      · rw [if_pos e, e]; omega
      · rw [if_neg e]; exact a2
  · refine Rt_one (t := t) h1.2.2.2.2.2.2.2.2.2.2.2.2.2 hnth (fun c hc u hu => ?_) (fun c hc u hu => ?_) (fun u => hV 700 u 0 (by decide)) (fun c hc o j => hV c o j (by revert c; decide)) (fun c hc o j => hW c o j (by revert c; decide)) ?_
    · by_cases e : c = 704
      · rw [e, e704, if_neg hu]
      · exact hV c u 0 (by revert c; decide)
    · by_cases e : c = 5000
      · rw [e, e5000, if_neg hu]
      · exact hW c 0 u (by revert c; decide)
    · unfold Rt1 at r1 ⊢
      rw [e704, e5000, if_pos rfl, if_pos rfl, hV 705 t 0 (by decide), hV 706 t 0 (by decide), hV 707 t 0 (by decide), hV 708 t 0 (by decide), hV 709 t 0 (by decide), hV 710 t 0 (by decide), hV 711 t 0 (by decide), hV 712 t 0 (by decide), hV 713 t 0 (by decide), hV 715 t 0 (by decide), hV 716 t 0 (by decide), hV 717 t 0 (by decide), hW 4700 0 t (by decide), hW 4800 0 t (by decide), hW 4900 0 t (by decide), hW 5100 0 t (by decide), hW 5200 0 t (by decide), hW 5300 0 t (by decide), hW 5400 0 t (by decide), hW 5500 0 t (by decide), hW 5600 0 t (by decide), hW 5800 0 t (by decide), hW 6100 0 t (by decide), hW 6300 0 t (by decide)]
      exact ⟨rfl, r1.2⟩
