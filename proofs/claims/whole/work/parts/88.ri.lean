/-! legal words -/
theorem rt_d {x : Int32} {W : HV} (hW : W 1081 0 0 = x) (h : f_X12_isRight 0 W = true) (ho : x &&& 127 = 3 ∨ x &&& 127 = 19 ∨ x &&& 127 = 23 ∨ x &&& 127 = 51 ∨ x &&& 127 = 55 ∨ x &&& 127 = 91 ∨ x &&& 127 = 103 ∨ x &&& 127 = 111) : ¬ 16 ≤ fd x := by
  intro q
  unfold f_X12_isRight at h
  simp only [lt_def, d_M, f_M, a_M, b_M, g_M, hW, q, if_true] at h
  rcases ho with ho | ho | ho | ho | ho | ho | ho | ho <;> simp [ho] at h
theorem rt_a {x : Int32} {W : HV} (hW : W 1081 0 0 = x) (h : f_X12_isRight 0 W = true) (ho : x &&& 127 = 3 ∨ x &&& 127 = 19 ∨ x &&& 127 = 35 ∨ x &&& 127 = 51 ∨ x &&& 127 = 91 ∨ x &&& 127 = 99 ∨ x &&& 127 = 103) : ¬ 16 ≤ fa x := by
  intro q
  unfold f_X12_isRight at h
  simp only [lt_def, d_M, f_M, a_M, b_M, g_M, hW, q, if_true] at h
  rcases ho with ho | ho | ho | ho | ho | ho | ho <;> simp [ho] at h
theorem rt_b {x : Int32} {W : HV} (hW : W 1081 0 0 = x) (h : f_X12_isRight 0 W = true) (ho : x &&& 127 = 35 ∨ x &&& 127 = 51 ∨ x &&& 127 = 99) : ¬ 16 ≤ fb x := by
  intro q
  unfold f_X12_isRight at h
  simp only [lt_def, d_M, f_M, a_M, b_M, g_M, hW, q, if_true] at h
  rcases ho with ho | ho | ho <;> simp [ho] at h
theorem rt_f3 {x : Int32} {W : HV} (hW : W 1081 0 0 = x) (h : f_X12_isRight 0 W = true) (ho : x &&& 127 = 3) : ¬ 6 ≤ ff x := by
  intro q
  unfold f_X12_isRight at h
  simp only [lt_def, d_M, f_M, a_M, b_M, g_M, hW, q, if_true] at h
  simp [ho] at h
theorem rt_f35 {x : Int32} {W : HV} (hW : W 1081 0 0 = x) (h : f_X12_isRight 0 W = true) (ho : x &&& 127 = 35) : ¬ 4 ≤ ff x := by
  intro q
  unfold f_X12_isRight at h
  simp only [lt_def, d_M, f_M, a_M, b_M, g_M, hW, q, if_true] at h
  simp [ho] at h
theorem rt_91 {x : Int32} {W : HV} (hW : W 1081 0 0 = x) (h : f_X12_isRight 0 W = true) (ho : x &&& 127 = 91) : ff x ≤ 3 ∧ (ff x = 0 → ¬ 16 ≤ fb x ∧ ¬ 8 ≤ fg x) ∧ (ff x = 1 → ¬ 13 ≤ fb x) := by
  unfold f_X12_isRight at h
  simp only [lt_def, d_M, f_M, a_M, b_M, g_M, hW] at h
  simp only [ho] at h
  by_cases c1 : 16 ≤ fd x <;> by_cases c2 : 16 ≤ fa x <;> simp [c1, c2] at h
  refine ⟨h.1, fun q => ?_, fun q => ?_⟩
  · rw [if_pos q] at h
    exact ⟨Int32.not_le.mpr h.2.1, Int32.not_le.mpr h.2.2⟩
  · have h2 := h.2
    rw [if_neg (show ¬ ff x = 0 by rw [q]; decide)] at h2
    rcases h2 with h2 | h2
    · rw [q] at h2
      exact absurd h2 (by decide)
    · exact Int32.not_le.mpr h2.2
theorem rt_op {x : Int32} {W : HV} (hW : W 1081 0 0 = x) (h : f_X12_isRight 0 W = true) : x &&& 127 = 3 ∨ x &&& 127 = 19 ∨ x &&& 127 = 23 ∨ x &&& 127 = 35 ∨ x &&& 127 = 51 ∨ x &&& 127 = 55 ∨ x &&& 127 = 91 ∨ x &&& 127 = 99 ∨ x &&& 127 = 103 ∨ x &&& 127 = 111 := by
  unfold f_X12_isRight at h
  simp only [lt_def, hW] at h
  by_cases h1 : x &&& 127 = 3
  · exact Or.inl h1
  by_cases h2 : x &&& 127 = 19
  · exact Or.inr (Or.inl h2)
  by_cases h3 : x &&& 127 = 23
  · exact Or.inr (Or.inr (Or.inl h3))
  by_cases h4 : x &&& 127 = 35
  · exact Or.inr (Or.inr (Or.inr (Or.inl h4)))
  by_cases h5 : x &&& 127 = 51
  · exact Or.inr (Or.inr (Or.inr (Or.inr (Or.inl h5))))
  by_cases h6 : x &&& 127 = 55
  · exact Or.inr (Or.inr (Or.inr (Or.inr (Or.inr (Or.inl h6)))))
  by_cases h7 : x &&& 127 = 91
  · exact Or.inr (Or.inr (Or.inr (Or.inr (Or.inr (Or.inr (Or.inl h7))))))
  by_cases h8 : x &&& 127 = 99
  · exact Or.inr (Or.inr (Or.inr (Or.inr (Or.inr (Or.inr (Or.inr (Or.inl h8)))))))
  by_cases h9 : x &&& 127 = 103
  · exact Or.inr (Or.inr (Or.inr (Or.inr (Or.inr (Or.inr (Or.inr (Or.inr (Or.inl h9))))))))
  by_cases h10 : x &&& 127 = 111
  · exact Or.inr (Or.inr (Or.inr (Or.inr (Or.inr (Or.inr (Or.inr (Or.inr (Or.inr h10))))))))
  simp [h1, h2, h3, h4, h5, h6, h7, h8, h9, h10] at h
theorem nI_n0 {d : Nat} (hd : d < 16) (h : ¬ d = 0) : ¬ nI d = 0 := fun q => h (nI_inj (b := 0) (by omega) (by decide) q)
theorem fl16 {y : Int32} {n : Nat} (hn : n < 32) (e : y = nI n) (h : ¬ 16 ≤ y) : n < 16 := Nat.not_le.mp fun q => h (by rw [e]; exact nI_le (a := 16) q (by omega))
/-! registers -/
theorem reg_C' {t d : Nat} (hd : d < 16) : f_X9_reg t (nI d) = 17 * t + d := by
  unfold f_X9_reg
  have key : ∀ d, d < 16 → (nI d &&& 15).toNatClampNeg = d := by decide
  rw [key d hd]
theorem reg_M' (t d : Nat) : f_X12_reg (nI t) (nI d) = nI (17 * t + d) := by
  unfold f_X12_reg
  rw [show (17 : Int32) = nI 17 from rfl, pk_mul, nI_add]
theorem pcc_M {t : Nat} {W : HV} (h : W 1080 0 0 = nI t) : f_X12_pcc 0 W = nI (17 * t + 16) := by
  unfold f_X12_pcc
  rw [lt_def, h]
  exact reg_M' t 16
theorem value_M {t d : Nat} {W : HV} (h : W 1080 0 0 = nI t) (ht : t < 6) (hd : d < 17) : f_X12_value 0 (nI d) W = some (cM W (17 * t + d)).1 := by
  unfold f_X12_value
  rw [lt_def, h, reg_M', chk_t (inb_nI (by omega) (by decide)), cl_nI (by omega)]
  rfl
theorem writes_M {t d : Nat} {x : Int32} {W : HV} (h : W 1080 0 0 = nI t) (ht : t < 6) (hd : d < 16) : f_X12_writes 0 (nI d) x W = some (if d = 0 then W else kM W (17 * t + d) (nm x)) := by
  unfold f_X12_writes
  by_cases h0 : d = 0
  · rw [if_pos h0, h0, if_pos (by decide)]
  · rw [if_neg h0, if_neg (nI_n0 hd h0), lt_def, h, reg_M', number_M (by omega), bnd_some]
theorem comes_M {t d i : Nat} {W : HV} (h : W 1080 0 0 = nI t) (ht : t < 6) (hd : d < 16) (hi : i < 600) : f_X12_comes 0 (nI i) (nI d) W = some (if d = 0 then W else kM W (17 * t + d) (cM W i)) := by
  unfold f_X12_comes
  by_cases h0 : d = 0
  · rw [if_pos h0, h0, if_pos (by decide)]
  · rw [if_neg h0, if_neg (nI_n0 hd h0), lt_def, h, reg_M', copy_M hi (by omega), bnd_some]
theorem goesOn_M {t : Nat} {W : HV} (h : W 1080 0 0 = nI t) (ht : t < 6) : f_X12_goesOn 0 W = some (sv W 2400 0 (17 * t + 16) ((W 2400 0 (17 * t + 16)) + 4)) := by
  unfold f_X12_goesOn
  rw [lt_def, pcc_M h, chk_t (inb_nI (by omega) (by decide)), chk_t (inb_nI (by omega) (by decide)), cl_nI (by omega), lt_def]
theorem rgn_mono {Y : HV} {l l' : List Ob} {b t : Nat} {p : Int32} (hl : ∀ o, o ∈ l → o ∈ l') (h : rgn Y l b t p) : rgn Y l' b t p := by
  rcases h with h | h | h | h | h | ⟨o, ho, h⟩
  · exact Or.inl h
  · exact Or.inr (Or.inl h)
  · exact Or.inr (Or.inr (Or.inl h))
  · exact Or.inr (Or.inr (Or.inr (Or.inl h)))
  · exact Or.inr (Or.inr (Or.inr (Or.inr (Or.inl h))))
  · exact Or.inr (Or.inr (Or.inr (Or.inr (Or.inr ⟨o, hl o ho, h⟩))))
theorem gd_mono {Y : HV} {l l' : List Ob} {c : Cp} (hl : ∀ o, o ∈ l → o ∈ l') (h : gd Y l c) : gd Y l' c := ⟨h.1, h.2.1, fun q => ⟨(h.2.2 q).1, fun q2 => rgn_mono hl ((h.2.2 q).2 q2)⟩⟩
theorem gd_lv {Y : HV} {l : List Ob} {c : Cp} (h : gd Y (lv l) c) : gd Y l c := gd_mono (fun o ho => (List.mem_filter.mp ho).1) h
theorem gd_sw {Y : HV} {l : List Ob} {c : Cp} (h : gd Y (lv l) c) : gd Y (sw l) c := gd_mono (fun o ho => by
  unfold lv at ho
  unfold sw
  rw [List.mem_filter] at ho ⊢
  refine ⟨ho.1, ?_⟩
  have := ho.2
  simp at this ⊢
  omega) h
/-! the state, with the thread that runs -/
def OK (x kb T Tw t : Nat) (Y : HV) (l : List Ob) (V W : HV) : Prop := ST x kb Y l V W ∧ Tm T Tw V W ∧ Jr Y l W t ∧ Jm Y l W ∧ W 1080 0 0 = nI t ∧ t < nth Y
theorem OK_t6 {x kb T Tw t : Nat} {Y : HV} {l : List Ob} {V W : HV} (h : OK x kb T Tw t Y l V W) : t < 6 := Nat.lt_of_lt_of_le h.2.2.2.2.2 h.1.1.2.2.2.2.1
theorem OK_cap {x kb T Tw t k : Nat} {Y : HV} {l : List Ob} {V W : HV} (h : OK x kb T Tw t Y l V W) (hk : k < 17) (hx : 17 * t + k ≠ x) : cC V (17 * t + k) = cM W (17 * t + k) := by
  have h6 := OK_t6 h
  have hn := nth_LY h.1.2.1
  exact (h.1.2.2.2.2.2.2.2.2.2.1 (17 * t + k) (by omega)).1 (okc_reg' (by rw [hn]; exact h.2.2.2.2.2) (by rw [hn]; exact h.1.1.2.2.2.2.1) hk) hx
theorem OK_gd {x kb T Tw t k : Nat} {Y : HV} {l : List Ob} {V W : HV} (h : OK x kb T Tw t Y l V W) (hk : k < 17) : gd Y l (cM W (17 * t + k)) := by
  have h6 := OK_t6 h
  exact (h.1.2.2.2.2.2.2.2.2.2.1 (17 * t + k) (by omega)).2.1
theorem OK_0 {x kb T Tw t : Nat} {Y : HV} {l : List Ob} {V W : HV} (h : OK x kb T Tw t Y l V W) : cM W (17 * t) = nm 0 := by
  have h6 := OK_t6 h
  exact (h.1.2.2.2.2.2.2.2.2.2.1 (17 * t) (by omega)).2.2.2 (by omega) (by omega)
/-- the registers of the thread change, and what is scratch -/
theorem OK_reg {x x' kb T Tw t : Nat} {Y : HV} {l : List Ob} {V V' W W' : HV} {f g : Nat → Cp} (h : OK x kb T Tw t Y l V W) (hV : UC V f V') (hW : UM W g W') (ho : ∀ i, i < 582 → ¬ (17 * t ≤ i ∧ i < 17 * t + 17) → f i = cC V i ∧ g i = cM W i) (hr : ∀ k, k < 17 → (17 * t + k ≠ x' → f (17 * t + k) = g (17 * t + k)) ∧ gd Y (lv l) (g (17 * t + k))) (h0 : g (17 * t) = nm 0) (hx : x = x' ∨ (17 * t ≤ x ∧ x < 17 * t + 17) ∨ 582 ≤ x) : OK x' kb T Tw t Y l V' W' := by
  obtain ⟨h1, h2, h3, h4, h5, h6⟩ := h
  refine ⟨ST_reg h1 h6 hV hW ho (fun k hk => ⟨(hr k hk).1, gd_lv (hr k hk).2⟩) h0 hx, Tm_fr hV.2 hW.2 (by decide) (by decide) h2, fun k hk => ?_, Jm_fr hW.2 (by decide) h4, (hW.2 1080 0 0 (by decide)).trans h5, h6⟩
  rw [hW.1]
  exact (hr k hk).2
/-- one register, and the PCC's cursor -/
theorem OK_rp {kb T Tw t d : Nat} {Y : HV} {l : List Ob} {V V' W W' : HV} {f g : Nat → Cp} {y : Cp} {z : Int32} (h : OK 1000 kb T Tw t Y l V W) (hd : d < 16) (hy : gd Y (lv l) y) (hpt : (cM W (17 * t + 16)).2.2.2.2.1 = 0) (hV : UC V f V') (hf : ∀ i, i < 582 → f i = up (up (cC V) (17 * t + d) y) (17 * t + 16) (z, (cM W (17 * t + 16)).2) i) (hW : UM W g W') (hg : ∀ i, i < 582 → g i = up (if d = 0 then cM W else up (cM W) (17 * t + d) y) (17 * t + 16) (z, (cM W (17 * t + 16)).2) i) : OK (17 * t) kb T Tw t Y l V' W' := by
  have h6 := OK_t6 h
  have hpg : gd Y (lv l) (z, (cM W (17 * t + 16)).2) := by
    have := h.2.2.1 16 (by decide)
    refine ⟨this.1, this.2.1, fun q => ⟨fun q4 => ?_, (this.2.2 q).2⟩⟩
    exact absurd (hpt.symm.trans q4) (by decide)
  have hFp : f (17 * t + 16) = (z, (cM W (17 * t + 16)).2) := by rw [hf _ (by omega), up_at]
  have hFd : f (17 * t + d) = y := by rw [hf _ (by omega), up_ne (by omega), up_at]
  have hF : ∀ i, i < 582 → i ≠ 17 * t + 16 → i ≠ 17 * t + d → f i = cC V i := fun i hi h1 h2 => by rw [hf i hi, up_ne h1, up_ne h2]
  have hGp : g (17 * t + 16) = (z, (cM W (17 * t + 16)).2) := by rw [hg _ (by omega), up_at]
  have hGd : ¬ d = 0 → g (17 * t + d) = y := fun h0 => by rw [hg _ (by omega), up_ne (by omega), if_neg h0, up_at]
  have hG : ∀ i, i < 582 → i ≠ 17 * t + 16 → (i ≠ 17 * t + d ∨ d = 0) → g i = cM W i := fun i hi h1 h2 => by
    rw [hg i hi, up_ne h1]
    by_cases h0 : d = 0
    · rw [if_pos h0]
    · rw [if_neg h0, up_ne (by omega)]
  refine OK_reg h hV hW (fun i hi hn => ⟨hF i hi (by omega) (by omega), hG i hi (by omega) (by omega)⟩) (fun k hk => ?_) (by rw [hG _ (by omega) (by omega) (by omega)]; exact OK_0 h) (Or.inr (Or.inr (by decide)))
  by_cases e1 : k = 16
  · subst e1
    rw [hFp, hGp]
    exact ⟨fun _ => rfl, hpg⟩
  · by_cases e2 : k = d
    · subst e2
      by_cases hd0 : k = 0
      · subst hd0
        rw [hG _ (by omega) (by omega) (Or.inr rfl)]
        exact ⟨fun q => absurd rfl q, h.2.2.1 0 (by decide)⟩
      · rw [hFd, hGd hd0]
        exact ⟨fun _ => rfl, hy⟩
    · rw [hF _ (by omega) (by omega) (by omega), hG _ (by omega) (by omega) (by omega)]
      exact ⟨fun _ => OK_cap h hk (by omega), h.2.2.1 k hk⟩
