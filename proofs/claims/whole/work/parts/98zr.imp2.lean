/-! an import's text -/
theorem m28 : ∀ y, y < 256 → 28 ≤ y → ¬ nI y &&& (-28) = 0 := by decide +kernel
theorem gp_all {kb n i : Nat} {B : Nat → Nat} {V W : HV} (h : PR n B V W) (hi : i < 128) : ∃ y V' W1 W', f_X5_readGlobalsPerms kb 0 V = some V' ∧ f_X12_next 0 1 0 255 W = some (nI y, W1) ∧ (∀ k59 : HV → Option HV, (chk (inb (nI i) 128) <|
    jn (lt (f_X12_fails 0 2 (W 1014 0 0) (sv W1 9300 0 i (nI y))) fun V66 =>
    k59 V66) fun k64 =>
    if ((sv W1 9300 0 i (nI y)) 9300 0 i) = 0 then (k64) else (chk (inb (nI i) 128) <|
    if (((sv W1 9300 0 i (nI y)) 9300 0 i) &&& (-28)) = 0 then (k59 (sv W1 9300 0 i (nI y))) else (k64))) = k59 W') ∧ PR n B V' W' ∧ agr [402, 404, 405] V V' ∧ agP (pI i) W W' ∧ (∀ c, c ≠ 9300 → c ≠ 1014 → c ≠ 1015 → c ≠ 1016 → ∀ o j, W' c o j = W c o j) ∧ fst V V' ∧ (V' 404 0 0 = 0 → V 404 0 0 = 0 ∧ ∃ a, V 402 0 0 = nI a ∧ a + 1 ≤ n ∧ V' 402 0 0 = nI (a + 1) ∧ W' 9300 0 i = nI (B a) ∧ 1 ≤ B a ∧ B a ≤ 27 ∧ nI (B a) &&& (-28) = 0) := by
  have ii : inb (nI i) 128 := inb_nI hi (by decide)
  obtain ⟨y, V1, W1, a1, a2, a3, a4, a5, a6, a7, a8, a9⟩ := num_all (kb := kb) (m := 1) (lo := 0) (hi := 255) h (Or.inl rfl) (by omega) (by omega)
  have aW : agr [9300] W1 (sv W1 9300 0 i (nI y)) := agr_sv _ _ _ _ _
  have fW : agP (pI i) W (sv W1 9300 0 i (nI y)) := (nIi a7).trans (agP_sv W1 (nI y) (by unfold pI; omega))
  have fc : ∀ c, c ≠ 9300 → c ≠ 1014 → c ≠ 1015 → c ≠ 1016 → ∀ o j, (sv W1 9300 0 i (nI y)) c o j = W c o j := fun c h1 h2 h3 h4 o j => by
    rw [sv_col h1, a7 c o j (by simp; omega)]
  have w93 : (sv W1 9300 0 i (nI y)) 9300 0 i = nI y := sv_at _ _ _ _ _
  have p1 : PR n B V1 (sv W1 9300 0 i (nI y)) := PR_fr a3 (agr_rfl V1) aW (by decide) (by decide)
  by_cases q1 : V1 404 0 0 = 0
  · -- a byte was there
    obtain ⟨q, a, e1, e2, e3, e4, e5, e6⟩ := a9 q1
    have ey : y = B a := by rw [e6]; rfl
    have q' : W 1015 0 0 = 0 := h.2.2.2.2.1.symm.trans q
    have hn := h.1
    -- the class's number
    have hV1 : V1 = sv V 402 0 0 (nI (a + 1)) := by
      have := a1
      unfold f_X5_number at this
      rw [if_pos q, e1, h.2.1, nI_add, if_pos (nI_le e2 (by omega)), jn_def, if_neg (show ¬ nI 1 = 2 by decide), byte_C h (show a < n by omega), bnd_some] at this
      dsimp only at this
      rw [jn_def, ← ey, if_neg (nI_nlt (by omega) (by omega)), if_pos (nI_le a5 (by omega)), lt_def] at this
      exact (congrArg Prod.snd (Option.some.inj this)).symm
    have hcl : f_X5_number kb 0 1 1 27 V = if 1 ≤ y ∧ y ≤ 27 then some (nI y, V1) else some (1, f_X5_fail kb 0 2 (nI a) V) := by
      unfold f_X5_number
      rw [if_pos q, e1, h.2.1, nI_1, if_pos (nI_le e2 (by omega)), jn_def, if_neg (show ¬ (1 : Int32) = 2 by decide), byte_C h (show a < n by omega), bnd_some]
      dsimp only
      rw [jn_def, ← ey, hV1]
      by_cases r1 : y < 1
      · rw [if_pos (show nI y < 1 from nI_lt (b := 1) r1 (by decide)), if_neg (by omega), lt_def]
      · rw [if_neg (show ¬ nI y < 1 from nI_nlt (b := 1) (by omega) (by omega))]
        by_cases r2 : y ≤ 27
        · rw [if_pos (show nI y ≤ 27 from nI_le (b := 27) r2 (by decide)), if_pos (by omega), lt_def]
        · rw [if_neg (show ¬ nI y ≤ 27 from fun z => r2 ((nI_leI (b := 27) (by omega) (by decide)).mp z)), if_neg (by omega), lt_def]
    have bad : ∀ V2 : HV, PR n B V2 (f_X12_fails 0 2 (nI a) (sv W1 9300 0 i (nI y))) → agr [402, 404, 405] V V2 → ¬ V2 404 0 0 = 0 → f_X5_readGlobalsPerms kb 0 V = some V2 → (nI y = 0 ∨ ¬ nI y &&& (-28) = 0) → ∃ y V' W1 W', f_X5_readGlobalsPerms kb 0 V = some V' ∧ f_X12_next 0 1 0 255 W = some (nI y, W1) ∧ (∀ k59 : HV → Option HV, (chk (inb (nI i) 128) <|
        jn (lt (f_X12_fails 0 2 (W 1014 0 0) (sv W1 9300 0 i (nI y))) fun V66 =>
        k59 V66) fun k64 =>
        if ((sv W1 9300 0 i (nI y)) 9300 0 i) = 0 then (k64) else (chk (inb (nI i) 128) <|
        if (((sv W1 9300 0 i (nI y)) 9300 0 i) &&& (-28)) = 0 then (k59 (sv W1 9300 0 i (nI y))) else (k64))) = k59 W') ∧ PR n B V' W' ∧ agr [402, 404, 405] V V' ∧ agP (pI i) W W' ∧ (∀ c, c ≠ 9300 → c ≠ 1014 → c ≠ 1015 → c ≠ 1016 → ∀ o j, W' c o j = W c o j) ∧ fst V V' ∧ (V' 404 0 0 = 0 → V 404 0 0 = 0 ∧ ∃ a, V 402 0 0 = nI a ∧ a + 1 ≤ n ∧ V' 402 0 0 = nI (a + 1) ∧ W' 9300 0 i = nI (B a) ∧ 1 ≤ B a ∧ B a ≤ 27 ∧ nI (B a) &&& (-28) = 0) := by
      intro V2 g1 g2 g3 g4 g5
      obtain ⟨-, -, f3, -, -⟩ := fl_all (kb := kb) (x := 2) (y := nI a) p1 (by decide)
      refine ⟨y, V2, W1, _, g4, a2, fun K => ?_, g1, g2, fW.trans (agP_agr f3 (fun c hc o j => by simp only [List.mem_cons, List.not_mem_nil, or_false] at hc; unfold pI; omega)), fun c h1 h2 h3 h4 o j => ?_, fun z => absurd q z, fun z => absurd z g3⟩
      · rw [chk_t ii, jn_def, w93, e4]
        by_cases y0 : nI y = 0
        · rw [if_pos y0, lt_def]
        · rw [if_neg y0, chk_t ii, if_neg (fun z => by rcases g5 with g5 | g5; exact y0 g5; exact g5 z), lt_def]
      · rw [f3 c o j (by simp; omega)]; exact fc c h1 h2 h3 h4 o j
    by_cases r : 1 ≤ y ∧ y ≤ 27
    · rw [if_pos r] at hcl
      by_cases r2 : nI y &&& (-28) = 0
      · refine ⟨y, V1, W1, sv W1 9300 0 i (nI y), ?_, a2, fun K => ?_, p1, a6, fW, fc, fun z => absurd q z, fun _ => ⟨q, a, e1, e2, e3, by rw [w93, ey], by omega, by omega, by rw [← ey]; exact r2⟩⟩
        · unfold f_X5_readGlobalsPerms
          rw [hcl, bnd_some, lt_def, if_pos (show nI y &&& ((27 : Int32) ^^^ (-1)) = 0 from r2)]
        · rw [chk_t ii, jn_def, w93, if_neg (show ¬ nI y = 0 from fun z => by have := nI_inj (b := 0) (by omega) (by decide) z; omega), chk_t ii, if_pos r2]
      · have hf := fl_all (kb := kb) (x := 2) (y := nI a) p1 (by decide)
        refine bad (f_X5_fail kb 0 2 (nI a) V1) hf.1 ((a6.app hf.2.1).sub (by decide)) hf.2.2.2.2 ?_ (Or.inr r2)
        unfold f_X5_readGlobalsPerms
        rw [hcl, bnd_some, lt_def, if_neg (show ¬ nI y &&& ((27 : Int32) ^^^ (-1)) = 0 from r2), lt_def]
        dsimp only
        rw [e3, show nI (a + 1) - 1 = nI a from nI_pred a]
    · rw [if_neg r] at hcl
      have hf := fl_all (kb := kb) (x := 2) (y := nI a) h (by decide)
      have hf1 := fl_all (kb := kb) (x := 2) (y := nI a) p1 (by decide)
      refine bad (f_X5_fail kb 0 2 (nI a) V) ?_ (hf.2.1.sub (by decide)) hf.2.2.2.2 ?_ ?_
      · obtain ⟨g1, g2, g3, g4, g5, g6, g7⟩ := hf1.1
        have eV : ∀ c o j, c ≠ 402 → (f_X5_fail kb 0 2 (nI a) V1) c o j = (f_X5_fail kb 0 2 (nI a) V) c o j := by
          intro c o j hc
          rw [fail_C, fail_C, hV1, sv_col (by decide), if_pos q, if_pos q]
          unfold sv
          simp only [hc, false_and, if_false]
        unfold PR
        rw [← eV 403 0 0 (by decide), ← eV 404 0 0 (by decide), ← eV 405 0 0 (by decide)]
        exact ⟨g1, g2, g3, fun j hj => by rw [← eV 3100 0 j (by decide)]; exact g4 j hj, g5, g6, fun z => absurd z (hf1.2.2.2.2)⟩
      · unfold f_X5_readGlobalsPerms
        rw [hcl, bnd_some, lt_def, if_pos (show (1 : Int32) &&& ((27 : Int32) ^^^ (-1)) = 0 by decide)]
      · by_cases y0 : y = 0
        · exact Or.inl (by rw [y0]; rfl)
        · exact Or.inr (m28 y (by omega) (by omega))
  · -- no byte, or a fault before: the class's number fails in the same way
    have hcl : ∃ x, f_X5_number kb 0 1 1 27 V = some (x, V1) ∧ x = 1 := by
      by_cases q : V 404 0 0 = 0
      · obtain ⟨b1, b2, b3, b4, b5, b6, b7⟩ := id h
        obtain ⟨a, ha, e1, e2⟩ := b7 q
        by_cases hend : a + 1 ≤ n
        · exfalso
          have := a1
          unfold f_X5_number at this
          have hb := (b4 a (by omega)).2.2
          rw [if_pos q, e1, b2, nI_add, if_pos (nI_le hend (by omega)), jn_def, if_neg (show ¬ nI 1 = 2 by decide), byte_C h (show a < n by omega), bnd_some] at this
          dsimp only at this
          rw [jn_def, if_neg (nI_nlt (by omega) (by omega)), if_pos (nI_le (by omega) (by omega)), lt_def] at this
          have e : V1 = sv V 402 0 0 (nI (a + 1)) := (congrArg Prod.snd (Option.some.inj this)).symm
          apply q1
          rw [e]
          rw [sv_col (by decide)]; exact q
        · have := a1
          unfold f_X5_number at this ⊢
          rw [if_pos q, e1, b2, nI_add, if_neg (fun z => hend ((nI_leI (by omega) (by omega)).mp z)), lt_def] at this
          rw [if_pos q, e1, b2, nI_1, if_neg (fun z => hend ((nI_leI (by omega) (by omega)).mp z)), lt_def]
          have e : f_X5_fail kb 0 1 (nI n) V = V1 := congrArg Prod.snd (Option.some.inj this)
          rw [e]
          exact ⟨1, rfl, rfl⟩
      · rw [a8 q]
        unfold f_X5_number
        rw [if_neg q]
        exact ⟨1, rfl, rfl⟩
    obtain ⟨x, hcl, rfl⟩ := hcl
    have q1' : ¬ (sv W1 9300 0 i (nI y)) 1015 0 0 = 0 := fun z => q1 (p1.2.2.2.2.1.trans z)
    have ef : f_X12_fails 0 2 (W 1014 0 0) (sv W1 9300 0 i (nI y)) = sv W1 9300 0 i (nI y) := by rw [fails_M, if_neg q1']
    refine ⟨y, V1, W1, sv W1 9300 0 i (nI y), ?_, a2, fun K => ?_, p1, a6, fW, fc, fst_eq a8, fun z => absurd z q1⟩
    · unfold f_X5_readGlobalsPerms
      rw [hcl, bnd_some, lt_def, if_pos (show (1 : Int32) &&& ((27 : Int32) ^^^ (-1)) = 0 by decide)]
    · rw [chk_t ii, jn_def, ef, lt_def, w93, chk_t ii]
      split
      · rfl
      · split <;> rfl
