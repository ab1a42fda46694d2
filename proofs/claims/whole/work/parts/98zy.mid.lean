/-! from the text to the layout -/
noncomputable def ldt (kb : Nat) (p7 : HV) : Option (Int32 × HV) := jn (fun V8 =>
  jn (fun V11 =>
  jn (fun V14 =>
  jn (fun V17 =>
  some ((V17 404 0 0), V17)) fun k18 =>
  if (V14 404 0 0) = 0 then (bnd (f_X5_build kb 0 0 V14) fun p21 =>
  k18 p21) else (k18 V14)) fun k15 =>
  if (V11 404 0 0) = 0 then (bnd (f_X5_arrange kb 0 0 V11) fun p23 =>
  k15 p23) else (k15 V11)) fun k12 =>
  if (V8 404 0 0) = 0 then (if (V8 402 0 0) = (V8 403 0 0) then (k12 V8) else (lt (f_X5_fail kb 0 4 (V8 402 0 0) V8) fun V26 =>
  k12 V26)) else (k12 V8)) fun k9 =>
  if (p7 404 0 0) = 0 then (bnd (f_X5_checkTargets kb 0 0 p7) fun p28 =>
  k9 p28) else (k9 p7)
noncomputable def bdt (kb : Nat) (V14 : HV) : Option (Int32 × HV) := if (V14 404 0 0) = 0 then (bnd (f_X5_build kb 0 0 V14) fun p21 => some ((p21 404 0 0), p21)) else (some ((V14 404 0 0), V14))
theorem cg_fr {ds : List Nat} {W W' : HV} (hW : agr ds W W') (h : ∀ l ∈ [8800, 8900, 9000], l ∉ ds) : ∀ c, cg W' c = cg W c
  | 0 => rfl
  | c + 1 => by
    have ih := cg_fr hW h c
    show cg W' c + cwN W' c + xN W' 9000 c + xN W' 8900 c = cg W c + cwN W c + xN W 9000 c + xN W 8900 c
    unfold cwN
    rw [ih, xN_fr hW (h 8800 (by decide)), xN_fr hW (h 9000 (by decide)), xN_fr hW (h 8900 (by decide))]
theorem sg_fr {C : Nat} {ds : List Nat} {W W' : HV} (hW : agr ds W W') (h : ∀ l ∈ [8800, 8900, 9000, 9900], l ∉ ds) : ∀ t, sg W' C t = sg W C t
  | 0 => cg_fr hW (fun l hl => h l (by simp only [List.mem_cons, List.not_mem_nil, or_false] at hl ⊢; omega)) C
  | t + 1 => by
    have ih := sg_fr (C := C) hW h t
    show sg W' C t + xN W' 9900 t = sg W C t + xN W 9900 t
    rw [ih, xN_fr hW (h 9900 (by decide))]
/-- the layout, where a fault was found before: it stays -/
theorem layf_M {n C T tt : Nat} {B : Nat → Nat} {V W : HV} (h : IM n C T tt B V W) (hq : ¬ W 1015 0 0 = 0) : ∃ W', (bnd (f_X12_layout 0 W) fun p22 => if (p22 1054 0 0) ≤ ((p22 1000 0 0) - 16) then (some p22) else (lt (f_X12_fails 0 5 (p22 1013 0 0) p22) fun V24 => some V24)) = some W' ∧ agr loM W W' := by
  obtain ⟨W', a1, a2, -⟩ := lay_M h
  refine ⟨W', ?_, a2⟩
  rw [a1, bnd_some, fails_M, if_neg (show ¬ W' 1015 0 0 = 0 by rw [a2 1015 0 0 (by decide)]; exact hq), lt_def]
  split <;> rfl
def miC : List Nat := [108, 109, 110, 111, 404, 405, 409, 707, 708]
def miM : List Nat := [1015, 1016, 1054, 4000, 4100, 4200, 4300, 5600, 5700]
/-- read, checked, laid out, without a fault -/
def LO (kb n C T tt : Nat) (B : Nat → Nat) (V W : HV) : Prop := PR n B V W ∧ IM n C T tt B V W ∧ (∀ c, c < C → ∀ im, im ≤ 16 → W 9000 0 c = nI im → ∀ j, j < im → GK W C (16 * c + j)) ∧ (∀ t, t < T → GT W C t) ∧ V 409 0 0 = nI (16 * sg W C T) ∧ W 1054 0 0 = nI (16 * sg W C T) ∧ (∀ c, c < C → LcC W V c ∧ LcM W W c) ∧ (∀ t, t < T → LtV W V C t ∧ LtM W W C t) ∧ 16 * sg W C T + 16 ≤ 1024 * kb
theorem mid_all {kb n : Nat} {B : Nat → Nat} {V W : HV} (h1 : 1 ≤ kb) (hkb : kb ≤ 32) (h10 : W 1000 0 0 = nI (1024 * kb)) (h : PR n B V W) (hI : V 404 0 0 = 0 → ∃ C T tt, IM n C T tt B V W ∧ V 402 0 0 = nI (tt + 5 * T) ∧ W 1014 0 0 = nI (tt + 5 * T)) : ∃ V' W', ldt kb V = bdt kb V' ∧ rdt W = some W' ∧ V' 404 0 0 = W' 1015 0 0 ∧ V' 405 0 0 = W' 1016 0 0 ∧ agr miC V V' ∧ agr miM W W' ∧ (V' 404 0 0 = 0 → ∃ C T tt, LO kb n C T tt B V' W') := by
  have hn := h.1
  by_cases q : V 404 0 0 = 0
  · obtain ⟨C, T, tt, hIM, hV2, hW4⟩ := hI q
    have q' : W 1015 0 0 = 0 := h.2.2.2.2.1.symm.trans q
    have htt := hIM.2.2.2.2.2.2.2.2.2.2.2
    obtain ⟨V1, W1, a1, a2, a3, a4⟩ := tg_all (kb := kb) h hIM
    have aV := a3.2.1
    have aW := a3.2.2.1
    have hP1 := a3.1
    have hI1 : IM n C T tt B V1 W1 := IM_ag hIM aV aW (by decide) (by decide)
    have v2 : V1 402 0 0 = nI (tt + 5 * T) := (aV 402 0 0 (by decide)).trans hV2
    have w4 : W1 1014 0 0 = nI (tt + 5 * T) := (aW 1014 0 0 (by decide)).trans hW4
    have hld : ldt kb V = (jn (fun V11 =>
        jn (fun V14 => bdt kb V14) fun k15 =>
        if (V11 404 0 0) = 0 then (bnd (f_X5_arrange kb 0 0 V11) fun p23 =>
        k15 p23) else (k15 V11)) fun k12 =>
        if (V1 404 0 0) = 0 then (if (V1 402 0 0) = (V1 403 0 0) then (k12 V1) else (lt (f_X5_fail kb 0 4 (V1 402 0 0) V1) fun V26 =>
        k12 V26)) else (k12 V1)) := by
      unfold ldt
      rw [jn_def (fun V8 => _), if_pos q, a1, bnd_some]
      rfl
    have hrd : rdt W = (jn (fun V19 =>
        bnd (f_X12_layout 0 V19) fun p22 =>
        if (p22 1054 0 0) ≤ ((p22 1000 0 0) - 16) then (some p22) else (lt (f_X12_fails 0 5 (p22 1013 0 0) p22) fun V24 =>
        some V24)) fun k20 =>
        if (W1 1013 0 0) ≤ (W1 1014 0 0) then (k20 W1) else (lt (f_X12_fails 0 4 (W1 1014 0 0) W1) fun V26 =>
        k20 V26)) := by
      unfold rdt
      rw [if_pos q', jn_def (fun V15 => _)]
      exact a2 _
    rw [hld, hrd, jn_def, jn_def, v2, w4, hP1.2.1, hP1.2.2.1]
    by_cases q1 : V1 404 0 0 = 0
    · rw [if_pos q1]
      obtain ⟨-, g1, g2⟩ := a4 q1
      by_cases hend : tt + 5 * T = n
      · rw [if_pos (by rw [hend]), if_pos (nI_le (by omega) (by omega))]
        dsimp only
        rw [jn_def, if_pos q1]
        obtain ⟨V2, b1, b2, b3, b4, b5⟩ := lay_C (kb := kb) h1 hkb hP1 hI1
        obtain ⟨W2, c1, c2, c3, c4, c5⟩ := lay_M hI1
        have hsg := sg_le hI1 T (Nat.le_refl _)
        have hP2 : PR n B V2 W2 := PR_fr hP1 b2 c2 (by decide) (by decide)
        have w10 : W2 1000 0 0 = nI (1024 * kb) := (c2 1000 0 0 (by decide)).trans ((aW 1000 0 0 (by decide)).trans h10)
        have w13 : W2 1013 0 0 = nI n := hP2.2.2.1
        have esub : nI (1024 * kb) - 16 = nI (1024 * kb - 16) := nI_sub (b := 16) (by omega)
        rw [b1, bnd_some, c1, bnd_some, c3, w10, esub, w13]
        by_cases z : 16 * sg W1 C T + 16 ≤ 1024 * kb
        · rw [if_pos z, if_pos (nI_le (by omega) (by omega))]
          have ec : ∀ c, cg W2 c = cg W1 c := cg_fr c2 (by decide)
          have es : ∀ t, sg W2 C t = sg W1 C t := sg_fr c2 (by decide)
          have ew : ∀ c, cwN W2 c = cwN W1 c := fun c => by unfold cwN; rw [xN_fr c2 (by decide)]
          refine ⟨V2, W2, rfl, rfl, hP2.2.2.2.2.1, hP2.2.2.2.2.2.1, (aV.app b2).sub (by decide), (aW.app c2).sub (by decide), fun _ => ⟨C, T, tt, hP2, IM_ag hI1 b2 c2 (by decide) (by decide), fun c hc im him em j hj => ?_, fun t ht => ?_, ?_, ?_, fun c hc => ⟨?_, ?_⟩, fun t ht => ⟨?_, ?_⟩, by rw [es]; exact z⟩⟩
          · exact GK_ag (GK_ag (g1 c hc im him (by rw [← aW 9000 0 c (by decide), ← c2 9000 0 c (by decide)]; exact em) j hj) aW (by decide)) c2 (by decide)
          · exact GT_ag (GT_ag (g2 t ht) aW (by decide)) c2 (by decide)
          · rw [es]; exact b3
          · rw [es]; exact c3
          · have := b4 c hc
            unfold LcC at this ⊢
            rw [ec, ec, ew, xN_fr c2 (by decide)]
            exact this
          · have := c4 c hc
            unfold LcM at this ⊢
            rw [ec, ec, ew, xN_fr c2 (by decide)]
            exact this
          · have := b5 t ht
            unfold LtV at this ⊢
            rw [es, es]
            exact this
          · have := c5 t ht
            unfold LtM at this ⊢
            rw [es, es]
            exact this
        · rw [if_neg z, if_neg (fun y => by have := (nI_leI (by omega) (by omega)).mp y; omega), lt_def]
          obtain ⟨f1, f2, f3, f4, f5⟩ := fl_all (kb := kb) (x := 5) (y := nI n) hP2 (by decide)
          exact ⟨_, _, rfl, rfl, f1.2.2.2.2.1, f1.2.2.2.2.2.1, ((aV.app b2).app f2).sub (by decide), ((aW.app c2).app f3).sub (by decide), fun y => absurd y f5⟩
      · rw [if_neg (fun y => hend (nI_inj (by omega) (by omega) y)), if_neg (fun y => by have := (nI_leI (by omega) (by omega)).mp y; omega), lt_def, lt_def]
        obtain ⟨f1, f2, f3, f4, f5⟩ := fl_all (kb := kb) (x := 4) (y := nI (tt + 5 * T)) hP1 (by decide)
        have hI2 : IM n C T tt B (f_X5_fail kb 0 4 (nI (tt + 5 * T)) V1) (f_X12_fails 0 4 (nI (tt + 5 * T)) W1) := IM_ag hI1 f2 f3 (by decide) (by decide)
        obtain ⟨W2, c1, c2⟩ := layf_M hI2 (fun y => f5 (f1.2.2.2.2.1.trans y))
        refine ⟨_, W2, ?_, c1, ?_, ?_, (aV.app f2).sub (by decide), ((aW.app f3).app c2).sub (by decide), fun y => absurd y f5⟩
        · dsimp only
          rw [jn_def, if_neg f5]
        · rw [c2 1015 0 0 (by decide)]; exact f1.2.2.2.2.1
        · rw [c2 1016 0 0 (by decide)]; exact f1.2.2.2.2.2.1
    · have q1' : ¬ W1 1015 0 0 = 0 := fun y => q1 (hP1.2.2.2.2.1.trans y)
      rw [if_neg q1]
      obtain ⟨W2, c1, c2⟩ := layf_M hI1 q1'
      refine ⟨V1, W2, ?_, ?_, ?_, ?_, aV.sub (by decide), (aW.app c2).sub (by decide), fun y => absurd y q1⟩
      · dsimp only
        rw [jn_def, if_neg q1]
      · rw [fails_M 4, if_neg q1', lt_def]
        split <;> exact c1
      · rw [c2 1015 0 0 (by decide)]; exact hP1.2.2.2.2.1
      · rw [c2 1016 0 0 (by decide)]; exact hP1.2.2.2.2.2.1
  · have q' : ¬ W 1015 0 0 = 0 := fun y => q (h.2.2.2.2.1.trans y)
    refine ⟨V, W, ?_, ?_, h.2.2.2.2.1, h.2.2.2.2.2.1, (agr_rfl V).sub (by decide), (agr_rfl W).sub (by decide), fun y => absurd y q⟩
    · unfold ldt bdt
      simp only [jn_def, if_neg q]
    · unfold rdt
      rw [if_neg q']
