theorem look_place {kb : Nat} {V W : HV} (h : Rl V W) : f_X11_place kb 0 V = f_X12_place 0 W := h.1
theorem look_count {kb : Nat} {V W : HV} (hs : Rs V W) (hl : Rl V W) (hi : Ri V W) (x : Int32) : f_X11_count kb 0 x V = f_X12_count 0 x W := by
  obtain ⟨s1, s2, s3, s4, s5, s6, s7, s8, s9⟩ := hs
  obtain ⟨-, L, -, l1, l2, -⟩ := hl
  obtain ⟨⟨L1, F1, -, -, i1, i2, -⟩, L2, F2, G2, -, -, -, i3, i4, -⟩ := hi
  unfold f_X11_count f_X10_part f_X12_count
  simp only [lt_def, ite_tf]
  rw [s3, s4, s5, s6, s7, s8, s9, l1, l2, i1, i2, i3, i4]
  by_cases h6 : x = 6
  · subst h6; simp
  · simp [h6]
theorem taskAt_some {kb : Nat} {V W : HV} (hs : Rs V W) (hn : In kb W) {t : Nat} (ht : t < nth W) : f_X10_taskAt kb 0 (nI t) V = some (some t) := by
  obtain ⟨-, s2, -⟩ := hs
  obtain ⟨-, -, -, n1, n2, -⟩ := hn
  unfold f_X10_taskAt
  rw [s2, n1, if_neg (nI_pos (by omega)), if_neg (nI_ge ht (by omega)), if_neg (show ¬ (6 : Int32) ≤ nI t from nI_ge (b := 6) (by omega) (by decide)), chk_t (inb_nI (by omega) (by decide)), cl_nI (by omega)]
theorem taskAt_none {kb : Nat} {V W : HV} (hs : Rs V W) (hn : In kb W) {x : Int32} (h : ¬ ∃ t, t < nth W ∧ x = nI t) : f_X10_taskAt kb 0 x V = some none := by
  obtain ⟨-, s2, -⟩ := hs
  obtain ⟨-, -, -, n1, n2, -⟩ := hn
  unfold f_X10_taskAt
  rw [s2, n1]
  by_cases h0 : x < 0
  · rw [if_pos h0]
  · rw [if_neg h0]
    by_cases h1 : nI (nth W) ≤ x
    · rw [if_pos h1]
    · exact absurd (nI_le_of h0 h1 (by omega)) h
/-- an index of a thread: one of them, or none -/
theorem th_cases (W : HV) (x : Int32) : (∃ t, t < nth W ∧ x = nI t) ∨ ¬ ∃ t, t < nth W ∧ x = nI t := Classical.em _
theorem look_thread {kb : Nat} {V W : HV} (hs : Rs V W) (ht : Rt V W) (hn : In kb W) (x y : Int32) : ∃ r, f_X11_thread kb 0 x y V = some r ∧ f_X12_thread 0 x y W = some r := by
  obtain ⟨-, -, -, n1, n2, -⟩ := id hn
  rcases th_cases W x with ⟨t, h, rfl⟩ | h
  · obtain ⟨r1, r2, r3, r4, r5, r6, r7, r8, r9, r10, r11, -⟩ := ht.2.1 t h
    refine ⟨f_X9_part kb t y V, ?_, ?_⟩
    · unfold f_X11_thread
      rw [taskAt_some hs hn h, bnd_some, onn_some, chk_t (by omega)]
      rfl
    · unfold f_X12_thread f_X9_part
      rw [n1, if_neg (nI_pos (by omega)), if_pos ((nI_ltI (by omega) (by omega)).mpr h)]
      simp only [chk_t (inb_nI (show t < 6 by omega) (by decide)), lt_def, cl_nI (show t < 2147483648 by omega), ite_tf, jn_def]
      have hst : (if V 711 t 0 = 4 then (1 : Int32) else V 711 t 0) = W 4700 0 t := by
        rcases r11 with ⟨a1, a2, -⟩ | ⟨a1, -, a3⟩
        · rw [a1, a2, if_pos rfl]
        · rw [a1]
          rcases a3 with a3 | a3 | a3 | a3 <;> rw [a3] <;> decide
      rw [hst, r1, r4, r6, r7, r8, r9, r10]
      simp only [apply_ite some]
  · refine ⟨-1, ?_, ?_⟩
    · unfold f_X11_thread
      rw [taskAt_none hs hn h, bnd_some, onn_none]
    · unfold f_X12_thread
      rw [n1]
      by_cases h0 : x < 0
      · rw [if_pos h0]
      · rw [if_neg h0]
        by_cases h1 : x < nI (nth W)
        · exact absurd (nI_lt_of h0 h1 (by omega)) h
        · rw [if_neg h1]
theorem cpAt_some {kb : Nat} {V W : HV} (hs : Rs V W) (hn : In kb W) {t : Nat} (ht : t < ncp W) : f_X10_compartmentAt kb 0 (nI t) V = some (some t) := by
  obtain ⟨s1, -⟩ := hs
  obtain ⟨-, -, -, -, -, n1, n2, -⟩ := hn
  unfold f_X10_compartmentAt
  rw [s1, n1, if_neg (nI_pos (by omega)), if_neg (nI_ge ht (by omega)), if_neg (show ¬ (8 : Int32) ≤ nI t from nI_ge (b := 8) (by omega) (by decide)), chk_t (inb_nI (by omega) (by decide)), cl_nI (by omega)]
theorem cpAt_none {kb : Nat} {V W : HV} (hs : Rs V W) (hn : In kb W) {x : Int32} (h : ¬ ∃ t, t < ncp W ∧ x = nI t) : f_X10_compartmentAt kb 0 x V = some none := by
  obtain ⟨s1, -⟩ := hs
  obtain ⟨-, -, -, -, -, n1, n2, -⟩ := hn
  unfold f_X10_compartmentAt
  rw [s1, n1]
  by_cases h0 : x < 0
  · rw [if_pos h0]
  · rw [if_neg h0]
    by_cases h1 : nI (ncp W) ≤ x
    · rw [if_pos h1]
    · exact absurd (nI_le_of h0 h1 (by omega)) h
theorem look_compartment {kb : Nat} {V W : HV} (hs : Rs V W) (hc : Rc V W) (hn : In kb W) (x y : Int32) : ∃ r, f_X11_compartment kb 0 x y V = some r ∧ f_X12_compartment 0 x y W = some r := by
  obtain ⟨-, -, -, -, -, n1, n2, -⟩ := id hn
  rcases Classical.em (∃ t, t < ncp W ∧ x = nI t) with ⟨t, h, rfl⟩ | h
  · obtain ⟨r1, r2, r3, r4, -⟩ := hc t h
    refine ⟨f_X1_part kb t y V, ?_, ?_⟩
    · unfold f_X11_compartment
      rw [cpAt_some hs hn h, bnd_some, onn_some, chk_t (by omega)]
      rfl
    · unfold f_X12_compartment f_X1_part
      rw [n1, if_neg (nI_pos (by omega)), if_pos ((nI_ltI (by omega) (by omega)).mpr h)]
      simp only [chk_t (inb_nI (show t < 8 by omega) (by decide)), cl_nI (show t < 2147483648 by omega)]
      rw [r1, r2, r3, r4]
      simp only [apply_ite some]
  · refine ⟨-1, ?_, ?_⟩
    · unfold f_X11_compartment
      rw [cpAt_none hs hn h, bnd_some, onn_none]
    · unfold f_X12_compartment
      rw [n1]
      by_cases h0 : x < 0
      · rw [if_pos h0]
      · rw [if_neg h0]
        by_cases h1 : x < nI (ncp W)
        · exact absurd (nI_lt_of h0 h1 (by omega)) h
        · rw [if_neg h1]
theorem sz16 {kb : Nat} (h : kb ≤ 32) : nI (1024 * kb) / 16 = nI (64 * kb) := by
  rw [show (16 : Int32) = nI 16 from rfl, pk_div (by omega) (by decide) (by decide)]
  congr 1
  omega
theorem look_tag {kb : Nat} {V W : HV} (hs : Rs V W) (hm : Rm kb V W) (hn : In kb W) (x : Int32) : ∃ r, f_X11_tag kb 0 x V = some r ∧ f_X12_tag 0 x W = some r := by
  obtain ⟨-, -, s3, -⟩ := hs
  obtain ⟨k1, k2, k3, -⟩ := hn
  unfold f_X11_tag f_X12_tag
  rw [s3, k3, sz16 k2, ofNat_nI]
  by_cases hb : i2b (W 1017 0 0) = true
  · simp only [if_pos hb]
    by_cases h0 : x < 0
    · simp only [if_pos h0]
      exact ⟨_, rfl, rfl⟩
    · simp only [if_neg h0]
      by_cases h1 : x < nI (64 * kb)
      · simp only [if_pos h1]
        obtain ⟨g, hg, rfl⟩ := nI_lt_of h0 h1 (by omega)
        simp only [chk_t (inb_nI hg (by omega)), chk_t (inb_nI (show g < 2048 by omega) (by decide)), lt_def, ite_tf, cl_nI (show g < 2147483648 by omega), hm.2 g hg]
        exact ⟨_, rfl, rfl⟩
      · simp only [if_neg h1]
        exact ⟨_, rfl, rfl⟩
  · simp only [if_neg hb]
    exact ⟨_, rfl, rfl⟩
