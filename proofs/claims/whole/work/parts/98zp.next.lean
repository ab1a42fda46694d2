/-! reading the image, one number -/
theorem or_b {x y : Nat} (hx : x < 256) (hy : y < 256) : nI x ||| (nI y <<< ((8 : Int32) &&& 31)) = nI (x + 256 * y) := by
  apply Int32.toBitVec_inj.mp
  apply BitVec.eq_of_toNat_eq
  have e : (nI y <<< ((8 : Int32) &&& 31)).toBitVec = (nI y).toBitVec <<< 8 := rfl
  rw [Int32.toBitVec_or, BitVec.toNat_or, e, BitVec.toNat_shiftLeft]
  have e1 : (nI x).toBitVec.toNat = x := uN_nI (by omega)
  have e2 : (nI y).toBitVec.toNat = y := uN_nI (by omega)
  have e3 : (nI (x + 256 * y)).toBitVec.toNat = x + 256 * y := uN_nI (by omega)
  rw [e1, e2, e3, Nat.mod_eq_of_lt (by rw [Nat.shiftLeft_eq]; omega), Nat.or_comm, ← Nat.shiftLeft_add_eq_or_of_lt (show x < 2 ^ 8 by omega), Nat.shiftLeft_eq]
  omega
def PR (n : Nat) (B : Nat → Nat) (V W : HV) : Prop := n ≤ 5000 ∧ V 403 0 0 = nI n ∧ W 1013 0 0 = nI n ∧ (∀ j, j < n → V 3100 0 j &&& 255 = nI (B j) ∧ W 3200 0 j &&& 255 = nI (B j) ∧ B j < 256) ∧ V 404 0 0 = W 1015 0 0 ∧ V 405 0 0 = W 1016 0 0 ∧ (V 404 0 0 = 0 → ∃ a, a ≤ n ∧ V 402 0 0 = nI a ∧ W 1014 0 0 = nI a)
theorem PR_fr {n : Nat} {B : Nat → Nat} {cs ds : List Nat} {V V' W W' : HV} (h : PR n B V W) (hV : agr cs V V') (hW : agr ds W W') (h1 : ∀ c ∈ [402, 403, 404, 405, 3100], c ∉ cs) (h2 : ∀ c ∈ [1013, 1014, 1015, 1016, 3200], c ∉ ds) : PR n B V' W' := by
  obtain ⟨a1, a2, a3, a4, a5, a6, a7⟩ := h
  unfold PR
  rw [hV 403 0 0 (h1 _ (by decide)), hV 404 0 0 (h1 _ (by decide)), hV 405 0 0 (h1 _ (by decide)), hV 402 0 0 (h1 _ (by decide)), hW 1013 0 0 (h2 _ (by decide)), hW 1014 0 0 (h2 _ (by decide)), hW 1015 0 0 (h2 _ (by decide)), hW 1016 0 0 (h2 _ (by decide))]
  refine ⟨a1, a2, a3, fun j hj => ?_, a5, a6, a7⟩
  rw [hV 3100 0 j (h1 _ (by decide)), hW 3200 0 j (h2 _ (by decide))]
  exact a4 j hj
def bv (B : Nat → Nat) (m a : Nat) : Nat := if m = 2 then B a + 256 * B (a + 1) else B a
theorem byte_C {kb n j : Nat} {B : Nat → Nat} {V W : HV} (h : PR n B V W) (hj : j < n) : f_X5_byteAt kb 0 (nI j) V = some (nI (B j)) := by
  have hn := h.1
  unfold f_X5_byteAt
  rw [if_neg (nI_pos (by omega)), if_neg (show ¬ (5000 : Int32) ≤ nI j from fun q => by have := (nI_leI (a := 5000) (by decide) (by omega)).mp q; omega), chk_t (inb_nI (by omega) (by decide)), cl_nI (by omega), (h.2.2.2.1 j hj).1]
theorem fail_C (kb : Nat) (x y : Int32) (V : HV) : f_X5_fail kb 0 x y V = if V 404 0 0 = 0 then sv (sv V 404 0 0 x) 405 0 0 y else V := rfl
theorem fails_M (x y : Int32) (W : HV) : f_X12_fails 0 x y W = if W 1015 0 0 = 0 then sv (sv W 1015 0 0 x) 1016 0 0 y else W := rfl
/-- both fail, at the same place -/
theorem fl_all {kb n : Nat} {B : Nat → Nat} {V W : HV} {x y : Int32} (h : PR n B V W) (hx : ¬ x = 0) : PR n B (f_X5_fail kb 0 x y V) (f_X12_fails 0 x y W) ∧ agr [404, 405] V (f_X5_fail kb 0 x y V) ∧ agr [1015, 1016] W (f_X12_fails 0 x y W) ∧ (¬ V 404 0 0 = 0 → f_X5_fail kb 0 x y V = V ∧ f_X12_fails 0 x y W = W) ∧ ¬ (f_X5_fail kb 0 x y V) 404 0 0 = 0 := by
  rw [fail_C, fails_M]
  by_cases q : V 404 0 0 = 0
  · have q' : W 1015 0 0 = 0 := h.2.2.2.2.1.symm.trans q
    rw [if_pos q, if_pos q']
    have aV : agr [404, 405] V (sv (sv V 404 0 0 x) 405 0 0 y) := (agr_sv _ _ _ _ _).app (agr_sv _ _ _ _ _)
    have aW : agr [1015, 1016] W (sv (sv W 1015 0 0 x) 1016 0 0 y) := (agr_sv _ _ _ _ _).app (agr_sv _ _ _ _ _)
    have v4 : (sv (sv V 404 0 0 x) 405 0 0 y) 404 0 0 = x := by rw [sv_col (by decide), sv_at]
    have w5 : (sv (sv W 1015 0 0 x) 1016 0 0 y) 1015 0 0 = x := by rw [sv_col (by decide), sv_at]
    refine ⟨?_, aV, aW, fun z => absurd q z, by rw [v4]; exact hx⟩
    obtain ⟨a1, a2, a3, a4, a5, a6, a7⟩ := h
    unfold PR
    rw [v4, w5, aV 403 0 0 (by decide), aW 1013 0 0 (by decide), sv_at, sv_at]
    refine ⟨a1, a2, a3, fun j hj => ?_, rfl, rfl, fun z => absurd z hx⟩
    rw [aV 3100 0 j (by decide), aW 3200 0 j (by decide)]
    exact a4 j hj
  · have q' : ¬ W 1015 0 0 = 0 := fun z => q (h.2.2.2.2.1.trans z)
    rw [if_neg q, if_neg q']
    exact ⟨h, (agr_rfl V).sub (by decide), (agr_rfl W).sub (by decide), fun _ => ⟨rfl, rfl⟩, q⟩
theorem num_all {kb n m lo hi : Nat} {B : Nat → Nat} {V W : HV} (h : PR n B V W) (hm : m = 1 ∨ m = 2) (hlh : lo ≤ hi) (hhi : hi < 65536) : ∃ v V' W', f_X5_number kb 0 (nI m) (nI lo) (nI hi) V = some (nI v, V') ∧ f_X12_next 0 (nI m) (nI lo) (nI hi) W = some (nI v, W') ∧ PR n B V' W' ∧ lo ≤ v ∧ v ≤ hi ∧ agr [402, 404, 405] V V' ∧ agr [1014, 1015, 1016] W W' ∧ (¬ V 404 0 0 = 0 → V' = V) ∧ (V' 404 0 0 = 0 → V 404 0 0 = 0 ∧ ∃ a, V 402 0 0 = nI a ∧ a + m ≤ n ∧ V' 402 0 0 = nI (a + m) ∧ W 1014 0 0 = nI a ∧ W' 1014 0 0 = nI (a + m) ∧ v = bv B m a) := by
  obtain ⟨a1, a2, a3, a4, a5, a6, a7⟩ := id h
  by_cases q : V 404 0 0 = 0
  · have q' : W 1015 0 0 = 0 := a5.symm.trans q
    obtain ⟨a, ha, e1, e2⟩ := a7 q
    by_cases hend : a + m ≤ n
    · have hB : ∀ j, a ≤ j → j < a + m → B j < 256 := fun j _ hj => (a4 j (by omega)).2.2
      have hv0 : bv B m a < 65536 := by
        unfold bv
        rcases hm with e | e
        · rw [if_neg (by omega)]; have := hB a (Nat.le_refl _) (by omega); omega
        · rw [if_pos e]; have := hB a (Nat.le_refl _) (by omega); have := hB (a + 1) (by omega) (by omega); omega
      have hC : f_X5_number kb 0 (nI m) (nI lo) (nI hi) V = (jn (lt (f_X5_fail kb 0 2 (nI a) V) fun V8 => some (nI lo, V8)) fun k6 =>
          if nI (bv B m a) < nI lo then (k6) else (if nI (bv B m a) ≤ nI hi then (lt (sv V 402 0 0 (nI (a + m))) fun V11 =>
          some (nI (bv B m a), V11)) else (k6))) := by
        unfold f_X5_number
        rw [if_pos q, e1, a2, nI_add, if_pos (nI_le hend (by omega)), jn_def]
        rcases hm with e | e
        · have eb : bv B m a = B a := by unfold bv; rw [if_neg (by omega)]
          rw [eb, if_neg (show ¬ nI m = 2 by rw [e]; decide), byte_C h (show a < n by omega), bnd_some]
        · have eb : bv B m a = B a + 256 * B (a + 1) := by unfold bv; rw [if_pos e]
          rw [eb, if_pos (show nI m = 2 by rw [e]; rfl), nI_1, byte_C h (show a < n by omega), bnd_some, byte_C h (show a + 1 < n by omega), bnd_some, show (256 : Int32) = nI 256 from rfl, pk_mul, nI_add]
      have hM : f_X12_next 0 (nI m) (nI lo) (nI hi) W = (lt (sv W 1014 0 0 (nI (a + m))) fun V9 =>
          jn (fun V10 =>
          lt (if nI (bv B m a) < nI lo then (nI lo) else (if nI (bv B m a) ≤ nI hi then (nI (bv B m a)) else (nI lo)) : Int32) fun v13 =>
          some (v13, V10)) fun k11 =>
          jn (lt (f_X12_fails 0 2 (nI a) V9) fun V20 =>
          k11 V20) fun k18 =>
          if nI (bv B m a) < nI lo then (k18) else (if nI (bv B m a) ≤ nI hi then (k11 V9) else (k18))) := by
        unfold f_X12_next
        rw [if_pos q', lt_def, e2, a3, nI_add, if_pos (nI_le hend (by omega)), chk_t (inb_nI (by omega) (by decide)), lt_def, cl_nI (by omega), (a4 a (by omega)).2.1, jn_def]
        rcases hm with e | e
        · have eb : bv B m a = B a := by unfold bv; rw [if_neg (by omega)]
          rw [eb, if_neg (show ¬ nI m = 2 by rw [e]; decide)]
        · have eb : bv B m a = B a + 256 * B (a + 1) := by unfold bv; rw [if_pos e]
          have hb1 := hB a (Nat.le_refl _) (by omega)
          have hb2 := hB (a + 1) (by omega) (by omega)
          rw [eb, if_pos (show nI m = 2 by rw [e]; rfl), nI_1, chk_t (inb_nI (by omega) (by decide)), lt_def, cl_nI (by omega), (a4 (a + 1) (by omega)).2.1, or_b hb1 hb2]
      rw [hC, hM]
      show ∃ v V' W', (jn (lt (f_X5_fail kb 0 2 (nI a) V) fun V8 => some (nI lo, V8)) fun k6 =>
          if nI (bv B m a) < nI lo then (k6) else (if nI (bv B m a) ≤ nI hi then (lt (sv V 402 0 0 (nI (a + m))) fun V11 =>
          some (nI (bv B m a), V11)) else (k6))) = some (nI v, V') ∧ (lt (sv W 1014 0 0 (nI (a + m))) fun V9 =>
          jn (fun V10 =>
          lt (if nI (bv B m a) < nI lo then (nI lo) else (if nI (bv B m a) ≤ nI hi then (nI (bv B m a)) else (nI lo)) : Int32) fun v13 =>
          some (v13, V10)) fun k11 =>
          jn (lt (f_X12_fails 0 2 (nI a) V9) fun V20 =>
          k11 V20) fun k18 =>
          if nI (bv B m a) < nI lo then (k18) else (if nI (bv B m a) ≤ nI hi then (k11 V9) else (k18))) = some (nI v, W') ∧ PR n B V' W' ∧ lo ≤ v ∧ v ≤ hi ∧ agr [402, 404, 405] V V' ∧ agr [1014, 1015, 1016] W W' ∧ (¬ V 404 0 0 = 0 → V' = V) ∧ (V' 404 0 0 = 0 → V 404 0 0 = 0 ∧ ∃ a', V 402 0 0 = nI a' ∧ a' + m ≤ n ∧ V' 402 0 0 = nI (a' + m) ∧ W 1014 0 0 = nI a' ∧ W' 1014 0 0 = nI (a' + m) ∧ v = bv B m a')
      simp only [jn_def, lt_def]
      have aW9 : agr [1014] W (sv W 1014 0 0 (nI (a + m))) := agr_sv _ _ _ _ _
      have bad : ∃ v V' W', (lt (f_X5_fail kb 0 2 (nI a) V) fun V8 => some (nI lo, V8)) = some (nI v, V') ∧ (lt (f_X12_fails 0 2 (nI a) (sv W 1014 0 0 (nI (a + m)))) fun V20 => lt (nI lo) fun v13 => some (v13, V20)) = some (nI v, W') ∧ PR n B V' W' ∧ lo ≤ v ∧ v ≤ hi ∧ agr [402, 404, 405] V V' ∧ agr [1014, 1015, 1016] W W' ∧ (¬ V 404 0 0 = 0 → V' = V) ∧ (V' 404 0 0 = 0 → V 404 0 0 = 0 ∧ ∃ a', V 402 0 0 = nI a' ∧ a' + m ≤ n ∧ V' 402 0 0 = nI (a' + m) ∧ W 1014 0 0 = nI a' ∧ W' 1014 0 0 = nI (a' + m) ∧ v = bv B m a') := by
        obtain ⟨f1, f2, f3, f4, f5⟩ := fl_all (kb := kb) (x := 2) (y := nI a) h (by decide)
        have e9 : f_X12_fails 0 2 (nI a) (sv W 1014 0 0 (nI (a + m))) = sv (f_X12_fails 0 2 (nI a) W) 1014 0 0 (nI (a + m)) := by
          rw [fails_M, fails_M, sv_col (by decide), if_pos q', if_pos q', sv_cm (V := W) (c := 1014) (c' := 1015) (by decide), sv_cm (V := sv W 1015 0 0 2) (c := 1014) (c' := 1016) (by decide)]
        refine ⟨lo, _, _, rfl, rfl, ?_, Nat.le_refl _, hlh, f2.sub (by decide), ?_, fun z => absurd q z, fun z => absurd z f5⟩
        · rw [e9]
          obtain ⟨g1, g2, g3, g4, g5, g6, g7⟩ := f1
          unfold PR
          have a0 : agr [1014] (f_X12_fails 0 2 (nI a) W) (sv (f_X12_fails 0 2 (nI a) W) 1014 0 0 (nI (a + m))) := agr_sv _ _ _ _ _
          rw [a0 1013 0 0 (by decide), a0 1015 0 0 (by decide), a0 1016 0 0 (by decide)]
          exact ⟨g1, g2, g3, fun j hj => by rw [a0 3200 0 j (by decide)]; exact g4 j hj, g5, g6, fun z => absurd z f5⟩
        · rw [e9]; exact (f3.app (agr_sv _ _ _ _ _)).sub (by decide)
      by_cases r1 : bv B m a < lo
      · rw [if_pos (nI_lt r1 (by omega)), if_pos (nI_lt r1 (by omega)), if_pos (nI_lt r1 (by omega))]
        exact bad
      · rw [if_neg (nI_nlt (by omega) (by omega)), if_neg (nI_nlt (by omega) (by omega)), if_neg (nI_nlt (by omega) (by omega))]
        by_cases r2 : bv B m a ≤ hi
        · rw [if_pos (nI_le r2 (by omega)), if_pos (nI_le r2 (by omega)), if_pos (nI_le r2 (by omega))]
          refine ⟨bv B m a, _, _, rfl, rfl, ?_, by omega, r2, (agr_sv _ _ _ _ _).sub (by decide), aW9.sub (by decide), fun z => absurd q z, fun _ => ⟨q, a, e1, hend, sv_at _ _ _ _ _, e2, sv_at _ _ _ _ _, rfl⟩⟩
          have aV9 : agr [402] V (sv V 402 0 0 (nI (a + m))) := agr_sv _ _ _ _ _
          unfold PR
          rw [aV9 403 0 0 (by decide), aV9 404 0 0 (by decide), aV9 405 0 0 (by decide), aW9 1013 0 0 (by decide), aW9 1015 0 0 (by decide), aW9 1016 0 0 (by decide), sv_at, sv_at]
          exact ⟨a1, a2, a3, fun j hj => by rw [aV9 3100 0 j (by decide), aW9 3200 0 j (by decide)]; exact a4 j hj, a5, a6, fun _ => ⟨a + m, hend, rfl, rfl⟩⟩
        · rw [if_neg (fun z => r2 ((nI_leI (by omega) (by omega)).mp z)), if_neg (fun z => r2 ((nI_leI (by omega) (by omega)).mp z)), if_neg (fun z => r2 ((nI_leI (by omega) (by omega)).mp z))]
          exact bad
    · obtain ⟨f1, f2, f3, f4, f5⟩ := fl_all (kb := kb) (x := 1) (y := nI n) h (by decide)
      refine ⟨lo, f_X5_fail kb 0 1 (nI n) V, f_X12_fails 0 1 (nI n) W, ?_, ?_, f1, Nat.le_refl _, hlh, f2.sub (by decide), f3.sub (by decide), fun z => absurd q z, fun z => absurd z f5⟩
      · unfold f_X5_number
        rw [if_pos q, e1, a2, nI_add, if_neg (fun z => hend ((nI_leI (by omega) (by omega)).mp z)), lt_def]
      · unfold f_X12_next
        rw [if_pos q', lt_def, e2, a3, nI_add, if_neg (fun z => hend ((nI_leI (by omega) (by omega)).mp z)), lt_def]
  · have q' : ¬ W 1015 0 0 = 0 := fun z => q (a5.trans z)
    refine ⟨lo, V, W, ?_, ?_, h, Nat.le_refl _, hlh, (agr_rfl V).sub (by decide), (agr_rfl W).sub (by decide), fun _ => rfl, fun z => absurd z q⟩
    · unfold f_X5_number; rw [if_neg q]
    · unfold f_X12_next; rw [if_neg q']
