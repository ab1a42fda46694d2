/-! filters -/
theorem bit_and {p m : Int32} {k : Nat} (hk : m.toBitVec = BitVec.twoPow 32 k) : p &&& m = 0 ∨ p &&& m = m := by
  by_cases h : p.toBitVec.getLsbD k = true
  · refine Or.inr (Int32.toBitVec_inj.mp ?_)
    rw [Int32.toBitVec_and, hk, BitVec.and_twoPow, if_pos h]
  · refine Or.inl (Int32.toBitVec_inj.mp ?_)
    rw [Int32.toBitVec_and, hk, BitVec.and_twoPow, if_neg h]
    rfl
theorem bit_iff {p m : Int32} {k : Nat} (hk : m.toBitVec = BitVec.twoPow 32 k) (h0 : ¬ m = 0) : (p &&& m = m) ↔ ¬ (p &&& m = 0) := by
  constructor
  · intro h q
    exact h0 (h.symm.trans q)
  · intro h
    exact (bit_and hk).resolve_left h
theorem b32 (p : Int32) : (p &&& 32 = 32) ↔ ¬ (p &&& 32 = 0) := bit_iff (k := 5) (by decide) (by decide)
def gnb (kb : Nat) (l : List Ob) (c : Cp) : Bool := decide (c.2.2.2.1 &&& 32 = 0) && decide (uN c.2.1 < 1024 * kb) && rvk l (uN c.2.1 / 16)
theorem gnb_iff {kb : Nat} {l : List Ob} {c : Cp} : gnb kb l c = true ↔ gone kb l c := by
  unfold gnb gone
  simp [and_assoc]
def fil (kb : Nat) (l : List Ob) (c : Cp) : Cp := (c.1, c.2.1, c.2.2.1, c.2.2.2.1, c.2.2.2.2.1, c.2.2.2.2.2 && !gnb kb l c)
theorem fil_un {kb : Nat} {l : List Ob} {c : Cp} (h : c.2.2.2.2.2 = false) : fil kb l c = c := by
  obtain ⟨a, b, t, p, y, g⟩ := c
  simp only at h
  subst h
  rfl
theorem fil_ok {kb : Nat} {l : List Ob} {c : Cp} (h : c.2.2.2.2.2 = true → ¬ gone kb l c) : fil kb l c = c := by
  cases ht : c.2.2.2.2.2 with
  | false => exact fil_un ht
  | true =>
    have h1 := h ht
    rw [← gnb_iff, Bool.not_eq_true] at h1
    obtain ⟨a, b, t, p, y, g⟩ := c
    unfold fil
    rw [h1]
    simp
theorem fil_gone {kb : Nat} {l : List Ob} {c : Cp} (h : (fil kb l c).2.2.2.2.2 = true) : ¬ gone kb l (fil kb l c) := by
  have h1 : (c.2.2.2.2.2 && !gnb kb l c) = true := h
  intro q
  have q' : gone kb l c := q
  rw [← gnb_iff] at q'
  rw [q'] at h1
  simp at h1
theorem gd_fil {kb : Nat} {Y : HV} {l : List Ob} {c : Cp} (h : gd Y l c) : gd Y l (fil kb l c) := by
  obtain ⟨a, b, t, p, y, g⟩ := c
  refine gd_tag h ?_
  intro q
  simp only [Bool.and_eq_true] at q
  exact q.1
/-- the marks are as the heap's objects say -/
def Mk (kb : Nat) (l : List Ob) (V : HV) : Prop := ∀ g, g < 64 * kb → ∃ t, V 2400 0 g = mk t (rvk l g)
def Rv (kb : Nat) (l : List Ob) (W : HV) : Prop := 1 ≤ kb ∧ kb ≤ 32 ∧ W 1000 0 0 = nI (1024 * kb) ∧ ∀ g, g < 64 * kb → i2b (W 2300 0 g) = rvk l g
theorem ST_Mk {x kb : Nat} {Y : HV} {l : List Ob} {V W : HV} (h : ST x kb Y l V W) : Mk kb l V := by
  intro g hg
  refine ⟨i2b (W 2200 0 g), ?_⟩
  rw [Rm_mk h.2.2.2.2.2.1 hg, h.2.2.2.2.2.2.2.2.1.2.2.2.2 g hg]
theorem ST_Rv {x kb : Nat} {Y : HV} {l : List Ob} {V W : HV} (h : ST x kb Y l V W) : Rv kb l W := ⟨h.1.1, h.1.2.1, by rw [h.2.1 1000 (by decide)]; exact h.1.2.2.1, h.2.2.2.2.2.2.2.2.1.2.2.2.2⟩
theorem Mk_fr {kb : Nat} {l : List Ob} {V V' : HV} {cs : List Nat} (h : Mk kb l V) (hV : agr cs V V') (hc : 2400 ∉ cs) : Mk kb l V' := by
  intro g hg
  rw [hV 2400 0 g hc]
  exact h g hg
theorem Rv_fr {kb : Nat} {l : List Ob} {W W' : HV} {cs : List Nat} (h : Rv kb l W) (hW : agr cs W W') (hc : 2300 ∉ cs) (hc2 : 1000 ∉ cs) : Rv kb l W' := by
  refine ⟨h.1, h.2.1, by rw [hW 1000 0 0 hc2]; exact h.2.2.1, fun g hg => ?_⟩
  rw [hW 2300 0 g hc]
  exact h.2.2.2 g hg
theorem marked_C {kb : Nat} {l : List Ob} {V : HV} {x : Int32} (hkb : kb ≤ 32) (h : Mk kb l V) : f_X8_isMarked kb 0 x 2 V = some (decide (uN x < 1024 * kb) && rvk l (uN x / 16)) := by
  by_cases hx : uN x < 1024 * kb
  · obtain ⟨t, ht⟩ := h (uN x / 16) (by omega)
    have e := marked2_C hkb hx ht
    rw [← nI_uN (x := x) (by omega)] at e
    rw [e]
    simp [hx]
  · simp only [hx, decide_false, Bool.false_and]
    unfold f_X8_isMarked
    simp only [lt_def]
    by_cases h0 : x < 0
    · rw [if_pos h0]
    · rw [if_neg h0]
      have h1 : ¬ 2147483648 ≤ uN x := fun q => h0 (neg_uN.mpr q)
      rw [nI_uN (x := x) (by omega), dv16 (by omega), ofNat_nI, if_pos (nI_le (by omega) (by omega))]
theorem filter_C {kb i : Nat} {l : List Ob} {V : HV} (hkb : kb ≤ 32) (h : Mk kb l V) : ∃ V', f_X8_filter kb 0 i V = some V' ∧ UC V (up (cC V) i (fil kb l (cC V i))) V' := by
  have same : ∀ c : Cp, c = cC V i → UC V (up (cC V) i c) V := by
    rintro c rfl
    refine ⟨?_, (agr_rfl V).sub (by decide)⟩
    funext j
    by_cases hj : j = i <;> simp [up, hj]
  unfold f_X8_filter f_X0_has
  simp only [lt_def]
  by_cases ht : i2b (V 5 i 0) = true
  · rw [if_pos ht]
    by_cases hp : V 3 i 0 &&& 32 = 32
    · rw [if_pos hp, if_pos rfl]
      refine ⟨V, rfl, same _ (fil_ok fun _ q => ?_)⟩
      exact absurd q.1 ((b32 _).mp hp)
    · rw [if_neg hp, if_neg (by decide), marked_C hkb h, bnd_some]
      have hp0 : V 3 i 0 &&& 32 = 0 := Decidable.byContradiction fun q => hp ((b32 _).mpr q)
      by_cases hg : (decide (uN (V 1 i 0) < 1024 * kb) && rvk l (uN (V 1 i 0) / 16)) = true
      · rw [if_pos hg]
        refine ⟨_, rfl, ?_⟩
        have e := s5_U V i false
        have e2 : fil kb l (cC V i) = ((cC V i).1, (cC V i).2.1, (cC V i).2.2.1, (cC V i).2.2.2.1, (cC V i).2.2.2.2.1, false) := by
          unfold fil gnb
          have e3 : decide ((cC V i).2.2.2.1 &&& 32 = 0) = true := decide_eq_true hp0
          have e4 : (decide (uN (cC V i).2.1 < 1024 * kb) && rvk l (uN (cC V i).2.1 / 16)) = true := hg
          rw [e3, Bool.true_and, e4]
          simp
        rw [e2]
        exact e
      · rw [if_neg hg]
        refine ⟨V, rfl, same _ (fil_ok fun _ q => hg ?_)⟩
        rw [Bool.and_eq_true]
        exact ⟨decide_eq_true q.2.1, q.2.2⟩
  · rw [if_neg ht]
    exact ⟨V, rfl, same _ (fil_un (eq_false_of_ne_true ht))⟩
theorem isGone_M {kb i : Nat} {l : List Ob} {W : HV} (h : Rv kb l W) (hi : i < 600) : f_X12_isGone 0 (nI i) W = some (gnb kb l (cM W i)) := by
  obtain ⟨k1, k2, k3, k4⟩ := h
  unfold f_X12_isGone gnb
  simp only [chk_t (inb_nI hi (by decide)), cl_nI (show i < 2147483648 by omega), k3]
  show _ = some (decide (W 2700 0 i &&& 32 = 0) && decide (uN (W 2500 0 i) < 1024 * kb) && rvk l (uN (W 2500 0 i) / 16))
  by_cases hp : W 2700 0 i &&& 32 = 0
  · rw [if_pos hp]
    by_cases h0 : W 2500 0 i < 0
    · rw [if_pos h0]
      have := neg_uN.mp h0
      simp [show ¬ uN (W 2500 0 i) < 1024 * kb by omega]
    · rw [if_neg h0]
      have h1 : uN (W 2500 0 i) < 2147483648 := Nat.not_le.mp fun q => h0 (neg_uN.mpr q)
      generalize hb : W 2500 0 i = b at h1 ⊢
      have e := nI_uN h1
      generalize uN b = n at e h1 ⊢
      subst e
      by_cases hs : n < 1024 * kb
      · rw [if_neg (nI_ge hs (by omega)), dv16 h1, chk_t (inb_nI (by omega) (by decide)), cl_nI (by omega), k4 _ (by omega)]
        cases hr : rvk l (n / 16) <;> simp [hp, hs]
      · rw [if_pos (nI_le (by omega) (by omega))]
        simp [hs]
  · rw [if_neg hp]
    simp [hp]
theorem filter_M {kb i : Nat} {l : List Ob} {W : HV} (h : Rv kb l W) (hi : i < 600) : ∃ W', f_X12_filter 0 (nI i) W = some W' ∧ UM W (up (cM W) i (fil kb l (cM W i))) W' := by
  unfold f_X12_filter
  simp only [chk_t (inb_nI hi (by decide)), cl_nI (show i < 2147483648 by omega), jn_def, lt_def, isGone_M h hi, bnd_some]
  have e := m5_U W i ((cM W i).2.2.2.2.2 && !gnb kb l (cM W i))
  by_cases ht : i2b (W 2900 0 i) = true
  · have ht' : (cM W i).2.2.2.2.2 = true := ht
    rw [if_pos ht]
    cases hg : gnb kb l (cM W i) with
    | true =>
      refine ⟨_, rfl, ?_⟩
      unfold fil
      rw [ht', hg] at e ⊢
      exact e
    | false =>
      refine ⟨_, rfl, ?_⟩
      unfold fil
      rw [ht', hg] at e ⊢
      exact e
  · have ht' : (cM W i).2.2.2.2.2 = false := eq_false_of_ne_true ht
    rw [if_neg ht]
    refine ⟨_, rfl, ?_⟩
    unfold fil
    rw [ht'] at e ⊢
    exact e
