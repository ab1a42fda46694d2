/-! a compartment's text -/
theorem im_L {kb n c im : Nat} {B : Nat → Nat} (hc : c < 8) (him : im ≤ 16) : ∀ (r k f f' : Nat) (V W : HV), k + r = im → r < f → r < f' → PR n B V W → V 105 c 0 = nI im → W 9000 0 c = nI im → ∃ V' W', (∀ K : HV → Option HV, f_X5_readCompartment_L112 0 c kb K f (nI k) V = K V') ∧ (∀ K : HV → Option HV, f_X12_readCompartment_L120 0 (nI c) K f' (nI k) W = K W') ∧ PR n B V' W' ∧ agr [402, 404, 405] V V' ∧ agP (pJ c) W W' ∧ fst V V' ∧ (∀ j p, j < k → II B W (16 * c + j) p → II B W' (16 * c + j) p) ∧ (V' 404 0 0 = 0 → V 404 0 0 = 0 ∧ ∃ a, V 402 0 0 = nI a ∧ a + 3 * r ≤ n ∧ V' 402 0 0 = nI (a + 3 * r) ∧ ∀ j, j < r → II B W' (16 * c + (k + j)) (a + 3 * j))
  | _, _, 0, _, _, _, _, hf, _, _, _, _ => absurd hf (by omega)
  | _, _, _, 0, _, _, _, _, hf, _, _, _ => absurd hf (by omega)
  | 0, k, f + 1, f' + 1, V, W, hk, _, _, h, h5, h9 => by
    refine ⟨V, W, fun K => ?_, fun K => ?_, h, (agr_rfl V).sub (by decide), agP_rfl _ W, fun _ => ⟨rfl, rfl⟩, fun _ _ _ z => z, fun q => ⟨q, ?_⟩⟩
    · unfold f_X5_readCompartment_L112
      rw [h5, if_pos (nI_le (by omega) (by omega))]
    · unfold f_X12_readCompartment_L120
      rw [chk_t (inb_nI hc (by decide)), cl_nI (by omega), h9, if_pos (nI_le (by omega) (by omega))]
    · obtain ⟨a, b1, b2, b3⟩ := h.2.2.2.2.2.2 q
      exact ⟨a, b2, by omega, b2, fun j hj => by omega⟩
  | r + 1, k, f + 1, f' + 1, V, W, hk, hf, hf', h, h5, h9 => by
    obtain ⟨V1, W1, a1, a2, a3, a4, a5, a6, a7⟩ := im_1 (kb := kb) (k := k) h hc (by omega) him h9
    have b5 : V1 105 c 0 = nI im := (a4 105 c 0 (by decide)).trans h5
    have b9 : W1 9000 0 c = nI im := (a5 9000 0 c (by unfold pI; omega)).trans h9
    obtain ⟨V', W', x1, x2, x3, x4, x5, x6, x7, x8⟩ := im_L (kb := kb) (n := n) (B := B) hc him r (k + 1) f f' V1 W1 (by omega) (by omega) (by omega) a3 b5 b9
    refine ⟨V', W', fun K => ?_, fun K => ?_, x3, a4.trans x4, (a5.mono (fun c' o j z => by unfold pI at z; unfold pJ; omega)).trans x5, a6.trans x6, fun j p hj z => x7 j p (by omega) ?_, fun q => ?_⟩
    · unfold f_X5_readCompartment_L112
      rw [h5, if_neg (fun q => by have := (nI_leI (by omega) (by omega)).mp q; omega), a1, bnd_some, lt_def, nI_1]
      exact x1 K
    · rw [a2]; exact x2 K
    · unfold II at z ⊢
      rw [a5 9400 0 (16 * c + j) (by unfold pI; omega), a5 9100 0 (16 * c + j) (by unfold pI; omega), a5 9200 0 (16 * c + j) (by unfold pI; omega), a5 9300 0 (16 * c + j) (by unfold pI; omega)]
      exact z
    · obtain ⟨q1, a, y1, y2, y3, y4⟩ := x8 q
      obtain ⟨q0, a0, z1, z2, z3, z4⟩ := a7 q1
      have hn := h.1
      have ea : a = a0 + 3 := nI_inj (by omega) (by omega) (y1.symm.trans z3)
      refine ⟨q0, a0, z1, by omega, by rw [y3]; congr 1; omega, fun j hj => ?_⟩
      cases j with
      | zero => exact x7 k a0 (by omega) z4
      | succ j =>
        have := y4 j (by omega)
        rw [show k + 1 + j = k + (j + 1) by omega, ea, show a0 + 3 + 3 * j = a0 + 3 * (j + 1) by omega] at this
        exact this
/-- what is known of a compartment whose text was read without a fault -/
def CI (n : Nat) (B : Nat → Nat) (V W : HV) (c : Nat) : Prop := ∃ w gl e im it ct : Nat, 1 ≤ w ∧ w ≤ 200 ∧ gl ≤ 32 ∧ e ≤ 8 ∧ im ≤ 16 ∧ it + 3 * im ≤ n ∧ ct + 4 * w ≤ n ∧ V 102 c 0 = nI w ∧ W 8800 0 c = nI w ∧ V 103 c 0 = nI gl ∧ W 8900 0 c = nI gl ∧ V 104 c 0 = nI e ∧ W 4400 0 c = nI e ∧ V 105 c 0 = nI im ∧ W 9000 0 c = nI im ∧ V 106 c 0 = nI it ∧ V 107 c 0 = nI ct ∧ W 9500 0 c = nI ct ∧ (∀ j, j < e → ∃ x y, x < w ∧ 1 ≤ y ∧ y ≤ 3 ∧ V 2700 c j = nI x ∧ W 4500 0 (8 * c + j) = nI x ∧ V 2800 c j = nI y ∧ W 4600 0 (8 * c + j) = nI y) ∧ (∀ j, j < im → II B W (16 * c + j) (it + 3 * j))
theorem CI_fr {n c : Nat} {B : Nat → Nat} {P Q : Nat → Nat → Nat → Prop} {V V' W W' : HV} (h : CI n B V W c) (hc : c < 8) (hV : agP P V V') (hW : agP Q W W') (h1 : ∀ l j, (l = 102 ∨ l = 103 ∨ l = 104 ∨ l = 105 ∨ l = 106 ∨ l = 107 ∨ l = 2700 ∨ l = 2800) → ¬ P l c j) (h2 : ∀ l, (l = 8800 ∨ l = 8900 ∨ l = 4400 ∨ l = 9000 ∨ l = 9500) → ¬ Q l 0 c) (h3 : ∀ l j, j < 8 → (l = 4500 ∨ l = 4600) → ¬ Q l 0 (8 * c + j)) (h4 : ∀ l j, j < 16 → (l = 9100 ∨ l = 9200 ∨ l = 9300 ∨ l = 9400) → ¬ Q l 0 (16 * c + j)) : CI n B V' W' c := by
  obtain ⟨w, gl, e, im, it, ct, a1, a2, a3, a4, a5, a6, a7, b1, b2, b3, b4, b5, b6, b7, b8, b9, b10, b11, d1, d2⟩ := h
  refine ⟨w, gl, e, im, it, ct, a1, a2, a3, a4, a5, a6, a7, ?_, ?_, ?_, ?_, ?_, ?_, ?_, ?_, ?_, ?_, ?_, fun j hj => ?_, fun j hj => ?_⟩
  · rw [hV _ _ _ (h1 102 0 (by omega))]; exact b1
  · rw [hW _ _ _ (h2 8800 (by omega))]; exact b2
  · rw [hV _ _ _ (h1 103 0 (by omega))]; exact b3
  · rw [hW _ _ _ (h2 8900 (by omega))]; exact b4
  · rw [hV _ _ _ (h1 104 0 (by omega))]; exact b5
  · rw [hW _ _ _ (h2 4400 (by omega))]; exact b6
  · rw [hV _ _ _ (h1 105 0 (by omega))]; exact b7
  · rw [hW _ _ _ (h2 9000 (by omega))]; exact b8
  · rw [hV _ _ _ (h1 106 0 (by omega))]; exact b9
  · rw [hV _ _ _ (h1 107 0 (by omega))]; exact b10
  · rw [hW _ _ _ (h2 9500 (by omega))]; exact b11
  · obtain ⟨x, y, y1, y2, y3, y4, y5, y6, y7⟩ := d1 j hj
    refine ⟨x, y, y1, y2, y3, ?_, ?_, ?_, ?_⟩
    · rw [hV _ _ _ (h1 2700 j (by omega))]; exact y4
    · rw [hW _ _ _ (h3 4500 j (by omega) (by omega))]; exact y5
    · rw [hV _ _ _ (h1 2800 j (by omega))]; exact y6
    · rw [hW _ _ _ (h3 4600 j (by omega) (by omega))]; exact y7
  · have := d2 j hj
    unfold II at this ⊢
    rw [hW _ _ _ (h4 9400 j (by omega) (by omega)), hW _ _ _ (h4 9100 j (by omega) (by omega)), hW _ _ _ (h4 9200 j (by omega) (by omega)), hW _ _ _ (h4 9300 j (by omega) (by omega))]
    exact this
theorem nC {k : Nat} {V V' : HV} (h : agr [402, 404, 405] V V') : agP (pC k) V V' := an_C h (fun _ _ => Or.inl rfl) (fun _ _ => Or.inr (Or.inl rfl)) (fun _ _ => Or.inr (Or.inr (Or.inl rfl)))
theorem nM {k : Nat} {V V' : HV} (h : agr [1014, 1015, 1016] V V') : agP (pM k) V V' := an_M h (fun _ _ => Or.inl rfl) (fun _ _ => Or.inr (Or.inl rfl)) (fun _ _ => Or.inr (Or.inr (Or.inl rfl)))
theorem rc_all {kb n c : Nat} {B : Nat → Nat} {V W : HV} (h : PR n B V W) (hc : c < 8) : ∃ V' W', f_X5_readCompartment kb 0 c V = some V' ∧ f_X12_readCompartment 0 (nI c) W = some W' ∧ PR n B V' W' ∧ agP (pC c) V V' ∧ agP (pM c) W W' ∧ fst V V' ∧ (V' 404 0 0 = 0 → V 404 0 0 = 0 ∧ CI n B V' W' c) := by
  have ic : inb (nI c) 8 := inb_nI hc (by decide)
  have hn := h.1
  obtain ⟨w, V1, W1, a1, a2, a3, a4, a5, a6, a7, a8, a9⟩ := num_all (kb := kb) (m := 2) (lo := 1) (hi := 200) h (Or.inr rfl) (by omega) (by omega)
  have p1 : PR n B (sv V1 102 c 0 (nI w)) (sv W1 8800 0 c (nI w)) := PR_fr a3 (agr_sv _ _ _ _ _) (agr_sv _ _ _ _ _) (by decide) (by decide)
  have fV1 : agP (pC c) V (sv V1 102 c 0 (nI w)) := (nC a6).trans (agP_sv V1 _ (by unfold pC; omega))
  have fW1 : agP (pM c) W (sv W1 8800 0 c (nI w)) := (nM a7).trans (agP_sv W1 _ (by unfold pM; omega))
  have t1 : fst V (sv V1 102 c 0 (nI w)) := fst_sv (fst_eq a8) (by decide) (by decide)
  have v1 : (sv V1 102 c 0 (nI w)) 102 c 0 = nI w := sv_at _ _ _ _ _
  have w1 : (sv W1 8800 0 c (nI w)) 8800 0 c = nI w := sv_at _ _ _ _ _
  have z1 : (sv V1 102 c 0 (nI w)) 404 0 0 = 0 → V 404 0 0 = 0 := fun q => (a9 (by rw [sv_col (by decide)] at q; exact q)).1
  obtain ⟨gl, V2, W2, b1, b2, b3, b4, b5, b6, b7, b8, b9⟩ := num_all (kb := kb) (m := 1) (lo := 0) (hi := 32) p1 (Or.inl rfl) (by omega) (by omega)
  generalize hX1 : sv V1 102 c 0 (nI w) = X1 at *
  generalize hY1 : sv W1 8800 0 c (nI w) = Y1 at *
  have p2 : PR n B (sv V2 103 c 0 (nI gl)) (sv W2 8900 0 c (nI gl)) := PR_fr b3 (agr_sv _ _ _ _ _) (agr_sv _ _ _ _ _) (by decide) (by decide)
  have fV2 : agP (pC c) X1 (sv V2 103 c 0 (nI gl)) := (nC b6).trans (agP_sv V2 _ (by unfold pC; omega))
  have fW2 : agP (pM c) Y1 (sv W2 8900 0 c (nI gl)) := (nM b7).trans (agP_sv W2 _ (by unfold pM; omega))
  have t2 : fst X1 (sv V2 103 c 0 (nI gl)) := fst_sv (fst_eq b8) (by decide) (by decide)
  have v2 : (sv V2 103 c 0 (nI gl)) 102 c 0 = nI w := by rw [sv_col (by decide), b6 102 c 0 (by decide)]; exact v1
  have v2' : (sv V2 103 c 0 (nI gl)) 103 c 0 = nI gl := sv_at _ _ _ _ _
  have w2 : (sv W2 8900 0 c (nI gl)) 8800 0 c = nI w := by rw [sv_col (by decide), b7 8800 0 c (by decide)]; exact w1
  have w2' : (sv W2 8900 0 c (nI gl)) 8900 0 c = nI gl := sv_at _ _ _ _ _
  have z2 : (sv V2 103 c 0 (nI gl)) 404 0 0 = 0 → X1 404 0 0 = 0 := fun q => (b9 (by rw [sv_col (by decide)] at q; exact q)).1
  obtain ⟨e, V3, W3, c1, c2, c3, c4, c5, c6, c7, c8, c9⟩ := num_all (kb := kb) (m := 1) (lo := 0) (hi := 8) p2 (Or.inl rfl) (by omega) (by omega)
  generalize hX2 : sv V2 103 c 0 (nI gl) = X2 at *
  generalize hY2 : sv W2 8900 0 c (nI gl) = Y2 at *
  have p3 : PR n B (sv V3 104 c 0 (nI e)) (sv W3 4400 0 c (nI e)) := PR_fr c3 (agr_sv _ _ _ _ _) (agr_sv _ _ _ _ _) (by decide) (by decide)
  have fV3 : agP (pC c) X2 (sv V3 104 c 0 (nI e)) := (nC c6).trans (agP_sv V3 _ (by unfold pC; omega))
  have fW3 : agP (pM c) Y2 (sv W3 4400 0 c (nI e)) := (nM c7).trans (agP_sv W3 _ (by unfold pM; omega))
  have t3 : fst X2 (sv V3 104 c 0 (nI e)) := fst_sv (fst_eq c8) (by decide) (by decide)
  have v3 : (sv V3 104 c 0 (nI e)) 102 c 0 = nI w := by rw [sv_col (by decide), c6 102 c 0 (by decide)]; exact v2
  have v3' : (sv V3 104 c 0 (nI e)) 103 c 0 = nI gl := by rw [sv_col (by decide), c6 103 c 0 (by decide)]; exact v2'
  have v3'' : (sv V3 104 c 0 (nI e)) 104 c 0 = nI e := sv_at _ _ _ _ _
  have w3 : (sv W3 4400 0 c (nI e)) 8800 0 c = nI w := by rw [sv_col (by decide), c7 8800 0 c (by decide)]; exact w2
  have w3' : (sv W3 4400 0 c (nI e)) 8900 0 c = nI gl := by rw [sv_col (by decide), c7 8900 0 c (by decide)]; exact w2'
  have w3'' : (sv W3 4400 0 c (nI e)) 4400 0 c = nI e := sv_at _ _ _ _ _
  have z3 : (sv V3 104 c 0 (nI e)) 404 0 0 = 0 → X2 404 0 0 = 0 := fun q => (c9 (by rw [sv_col (by decide)] at q; exact q)).1
  obtain ⟨im, V4, W4, d1, d2, d3, d4, d5, d6, d7, d8, d9⟩ := num_all (kb := kb) (m := 1) (lo := 0) (hi := 16) p3 (Or.inl rfl) (by omega) (by omega)
  generalize hX3 : sv V3 104 c 0 (nI e) = X3 at *
  generalize hY3 : sv W3 4400 0 c (nI e) = Y3 at *
  have p4 : PR n B (sv V4 105 c 0 (nI im)) (sv W4 9000 0 c (nI im)) := PR_fr d3 (agr_sv _ _ _ _ _) (agr_sv _ _ _ _ _) (by decide) (by decide)
  have fV4 : agP (pC c) X3 (sv V4 105 c 0 (nI im)) := (nC d6).trans (agP_sv V4 _ (by unfold pC; omega))
  have fW4 : agP (pM c) Y3 (sv W4 9000 0 c (nI im)) := (nM d7).trans (agP_sv W4 _ (by unfold pM; omega))
  have t4 : fst X3 (sv V4 105 c 0 (nI im)) := fst_sv (fst_eq d8) (by decide) (by decide)
  have v4 : (sv V4 105 c 0 (nI im)) 102 c 0 = nI w := by rw [sv_col (by decide), d6 102 c 0 (by decide)]; exact v3
  have v4' : (sv V4 105 c 0 (nI im)) 103 c 0 = nI gl := by rw [sv_col (by decide), d6 103 c 0 (by decide)]; exact v3'
  have v4'' : (sv V4 105 c 0 (nI im)) 104 c 0 = nI e := by rw [sv_col (by decide), d6 104 c 0 (by decide)]; exact v3''
  have u4 : (sv V4 105 c 0 (nI im)) 105 c 0 = nI im := sv_at _ _ _ _ _
  have w4 : (sv W4 9000 0 c (nI im)) 8800 0 c = nI w := by rw [sv_col (by decide), d7 8800 0 c (by decide)]; exact w3
  have w4' : (sv W4 9000 0 c (nI im)) 8900 0 c = nI gl := by rw [sv_col (by decide), d7 8900 0 c (by decide)]; exact w3'
  have w4'' : (sv W4 9000 0 c (nI im)) 4400 0 c = nI e := by rw [sv_col (by decide), d7 4400 0 c (by decide)]; exact w3''
  have y4 : (sv W4 9000 0 c (nI im)) 9000 0 c = nI im := sv_at _ _ _ _ _
  have z4 : (sv V4 105 c 0 (nI im)) 404 0 0 = 0 → X3 404 0 0 = 0 := fun q => (d9 (by rw [sv_col (by decide)] at q; exact q)).1
  -- exports
  obtain ⟨V5, W5, e1, e2, e3, e4, e5, e6, e7, e8⟩ := ex_L (kb := kb) (n := n) (B := B) hc c5 a4 a5 e 0 FU FU (sv V4 105 c 0 (nI im)) (sv W4 9000 0 c (nI im)) (by omega) (FU_gt (by omega)) (FU_gt (by omega)) p4 v4'' w4'' v4 w4
  generalize hX4 : sv V4 105 c 0 (nI im) = X4 at *
  generalize hY4 : sv W4 9000 0 c (nI im) = Y4 at *
  have z5 : V5 404 0 0 = 0 → X4 404 0 0 = 0 := fun q => Classical.byContradiction fun y => y ((e6 y).1.symm.trans q)
  have aX6 : agr [106] V5 (sv V5 106 c 0 (V5 402 0 0)) := agr_sv _ _ _ _ _
  have p6 : PR n B (sv V5 106 c 0 (V5 402 0 0)) W5 := PR_fr e3 aX6 (agr_rfl W5) (by decide) (by decide)
  have v6 : ∀ l, l ≠ 106 → (sv V5 106 c 0 (V5 402 0 0)) l c 0 = V5 l c 0 := fun l hl => sv_col hl
  have u6 : (sv V5 106 c 0 (V5 402 0 0)) 106 c 0 = V5 402 0 0 := sv_at _ _ _ _ _
  -- imports
  obtain ⟨V7, W7, g1, g2, g3, g4, g5, g6, -, g8⟩ := im_L (kb := kb) (n := n) (B := B) hc d5 im 0 FU FU (sv V5 106 c 0 (V5 402 0 0)) W5 (by omega) (FU_gt (by omega)) (FU_gt (by omega)) p6 (by rw [v6 105 (by decide), e4 105 c 0 (by unfold pE; omega)]; exact u4) ((e5 9000 0 c (by unfold pX; omega)).trans y4)
  have aX8 : agr [107] V7 (sv V7 107 c 0 (V7 402 0 0)) := agr_sv _ _ _ _ _
  have aY8 : agr [9500] W7 (sv W7 9500 0 c (W7 1014 0 0)) := agr_sv _ _ _ _ _
  have p8 : PR n B (sv V7 107 c 0 (V7 402 0 0)) (sv W7 9500 0 c (W7 1014 0 0)) := PR_fr g3 aX8 aY8 (by decide) (by decide)
  have fV8 : agP (pC c) V (sv V7 107 c 0 (V7 402 0 0)) := ((((((((fV1.trans fV2).trans fV3).trans fV4).trans (e4.mono (fun c' o j z => by unfold pE at z; unfold pC; omega))).trans (agP_sv V5 _ (by unfold pC; omega))).trans (nC g4)).trans (agP_sv V7 _ (by unfold pC; omega))))
  have fW8 : agP (pM c) W (sv W7 9500 0 c (W7 1014 0 0)) := (((((fW1.trans fW2).trans fW3).trans fW4).trans (e5.mono (fun c' o j z => by unfold pX at z; unfold pM; omega))).trans (g5.mono (fun c' o j z => by unfold pJ at z; unfold pM; omega))).trans (agP_sv W7 _ (by unfold pM; omega))
  have t8 : fst V (sv V7 107 c 0 (V7 402 0 0)) := fst_sv ((((((t1.trans t2).trans t3).trans t4).trans e6).trans (fst_sv (fun _ => ⟨rfl, rfl⟩) (by decide) (by decide))).trans g6) (by decide) (by decide)
  have s8 : (sv V7 107 c 0 (V7 402 0 0)) 102 c 0 = nI w := by rw [sv_col (by decide), g4 102 c 0 (by decide), v6 102 (by decide), e4 102 c 0 (by unfold pE; omega)]; exact v4
  have r8 : (sv W7 9500 0 c (W7 1014 0 0)) 8800 0 c = nI w := by rw [sv_col (by decide), g5 8800 0 c (by unfold pJ; omega), e5 8800 0 c (by unfold pX; omega)]; exact w4
  -- what is known, without a fault
  have known : (sv V7 107 c 0 (V7 402 0 0)) 404 0 0 = 0 → V 404 0 0 = 0 ∧ ∃ it ct, it + 3 * im ≤ n ∧ ct ≤ n ∧ (sv V7 107 c 0 (V7 402 0 0)) 402 0 0 = nI ct ∧ (sv W7 9500 0 c (W7 1014 0 0)) 1014 0 0 = nI ct ∧ (∀ V' W', agr [402, 404, 405] (sv V7 107 c 0 (V7 402 0 0)) V' → agr [1014, 1015, 1016] (sv W7 9500 0 c (W7 1014 0 0)) W' → ct + 4 * w ≤ n → CI n B V' W' c) := by
    intro q
    have q7 : V7 404 0 0 = 0 := by rw [sv_col (by decide)] at q; exact q
    obtain ⟨q6, it, y1, y2, y3, y5⟩ := g8 q7
    have q5 : V5 404 0 0 = 0 := by rw [sv_col (by decide)] at q6; exact q6
    obtain ⟨ct, k1, k2, k3⟩ := g3.2.2.2.2.2.2 q7
    have y1' : V5 402 0 0 = nI it := by rw [sv_col (by decide)] at y1; exact y1
    refine ⟨z1 (z2 (z3 (z4 (z5 q5)))), it, ct, y2, k1, by rw [sv_col (by decide)]; exact k2, by rw [sv_col (by decide)]; exact k3, fun V' W' aV aW hct => ⟨w, gl, e, im, it, ct, a4, a5, b5, c5, d5, y2, hct, ?_, ?_, ?_, ?_, ?_, ?_, ?_, ?_, ?_, ?_, ?_, fun j hj => ?_, fun j hj => ?_⟩⟩
    · rw [aV 102 c 0 (by decide)]; exact s8
    · rw [aW 8800 0 c (by decide)]; exact r8
    · rw [aV 103 c 0 (by decide), sv_col (by decide), g4 103 c 0 (by decide), v6 103 (by decide), e4 103 c 0 (by unfold pE; omega)]; exact v4'
    · rw [aW 8900 0 c (by decide), sv_col (by decide), g5 8900 0 c (by unfold pJ; omega), e5 8900 0 c (by unfold pX; omega)]; exact w4'
    · rw [aV 104 c 0 (by decide), sv_col (by decide), g4 104 c 0 (by decide), v6 104 (by decide), e4 104 c 0 (by unfold pE; omega)]; exact v4''
    · rw [aW 4400 0 c (by decide), sv_col (by decide), g5 4400 0 c (by unfold pJ; omega), e5 4400 0 c (by unfold pX; omega)]; exact w4''
    · rw [aV 105 c 0 (by decide), sv_col (by decide), g4 105 c 0 (by decide), v6 105 (by decide), e4 105 c 0 (by unfold pE; omega)]; exact u4
    · rw [aW 9000 0 c (by decide), sv_col (by decide), g5 9000 0 c (by unfold pJ; omega), e5 9000 0 c (by unfold pX; omega)]; exact y4
    · rw [aV 106 c 0 (by decide), sv_col (by decide), g4 106 c 0 (by decide), u6]; exact y1'
    · rw [aV 107 c 0 (by decide), sv_at]; exact k2
    · rw [aW 9500 0 c (by decide), sv_at]; exact k3
    · obtain ⟨x, y, m1, m2, m3, m4, m5, m6, m7⟩ := e8 j (Nat.zero_le _) hj
      refine ⟨x, y, m1, m2, m3, ?_, ?_, ?_, ?_⟩
      · rw [aV 2700 c j (by decide), sv_col (by decide), g4 2700 c j (by decide), sv_col (by decide)]; exact m4
      · rw [aW 4500 0 _ (by decide), sv_col (by decide), g5 4500 0 _ (by unfold pJ; omega)]; exact m5
      · rw [aV 2800 c j (by decide), sv_col (by decide), g4 2800 c j (by decide), sv_col (by decide)]; exact m6
      · rw [aW 4600 0 _ (by decide), sv_col (by decide), g5 4600 0 _ (by unfold pJ; omega)]; exact m7
    · have := y5 j hj
      rw [Nat.zero_add] at this
      unfold II at this ⊢
      rw [aW 9400 0 _ (by decide), aW 9100 0 _ (by decide), aW 9200 0 _ (by decide), aW 9300 0 _ (by decide), sv_col (by decide), sv_col (by decide), sv_col (by decide), sv_col (by decide)]
      exact this
  -- the two programs up to the code
  have hC : f_X5_readCompartment kb 0 c V = some (f_X5_skip kb 0 ((sv V7 107 c 0 (V7 402 0 0)) 102 c 0 * 4) (sv V7 107 c 0 (V7 402 0 0))) := by
    unfold f_X5_readCompartment
    rw [show f_X5_number kb 0 2 1 200 V = _ from a1, bnd_some]
    dsimp only
    rw [lt_def, hX1, show f_X5_number kb 0 1 0 32 X1 = _ from b1, bnd_some]
    dsimp only
    rw [lt_def, hX2, show f_X5_number kb 0 1 0 8 X2 = _ from c1, bnd_some]
    dsimp only
    rw [lt_def, hX3, show f_X5_number kb 0 1 0 16 X3 = _ from d1, bnd_some]
    dsimp only
    rw [lt_def, hX4, jn_def]
    refine (e1 _).trans ?_
    rw [lt_def, jn_def]
    refine (g1 _).trans ?_
    rw [lt_def, lt_def]
  have hM : f_X12_readCompartment 0 (nI c) W = (jn (fun V21 =>
      chk (inb (nI c) 8) <|
      lt (sv V21 1014 0 0 ((V21 1014 0 0) + (4 * (V21 8800 0 c)))) fun V25 =>
      some V25) fun k22 =>
      if ((sv W7 9500 0 c (W7 1014 0 0)) 1015 0 0) = 0 then (chk (inb (nI c) 8) <|
      if (((sv W7 9500 0 c (W7 1014 0 0)) 1014 0 0) + (4 * ((sv W7 9500 0 c (W7 1014 0 0)) 8800 0 c))) ≤ ((sv W7 9500 0 c (W7 1014 0 0)) 1013 0 0) then (k22 (sv W7 9500 0 c (W7 1014 0 0))) else (lt (f_X12_fails 0 1 ((sv W7 9500 0 c (W7 1014 0 0)) 1013 0 0) (sv W7 9500 0 c (W7 1014 0 0))) fun V29 =>
      k22 V29)) else (k22 (sv W7 9500 0 c (W7 1014 0 0)))) := by
    unfold f_X12_readCompartment
    rw [cl_nI (show c < 2147483648 by omega), show f_X12_next 0 2 1 200 W = _ from a2, bnd_some]
    dsimp only
    rw [chk_t ic, lt_def, hY1, show f_X12_next 0 1 0 32 Y1 = _ from b2, bnd_some]
    dsimp only
    rw [chk_t ic, lt_def, hY2, show f_X12_next 0 1 0 8 Y2 = _ from c2, bnd_some]
    dsimp only
    rw [chk_t ic, lt_def, hY3, show f_X12_next 0 1 0 16 Y3 = _ from d2, bnd_some]
    dsimp only
    rw [chk_t ic, lt_def, hY4, jn_def]
    refine (e2 _).trans ?_
    rw [jn_def]
    refine (g2 _).trans ?_
    rw [chk_t ic, lt_def]
  generalize hX8 : sv V7 107 c 0 (V7 402 0 0) = X8 at *
  generalize hY8 : sv W7 9500 0 c (W7 1014 0 0) = Y8 at *
  rw [hC, hM, jn_def, s8, r8]
  have e4w : nI w * 4 = nI (4 * w) := by rw [show (4 : Int32) = nI 4 from rfl, pk_mul, Nat.mul_comm]
  have e4w' : 4 * nI w = nI (4 * w) := by rw [show (4 : Int32) = nI 4 from rfl, pk_mul]
  unfold f_X5_skip
  rw [e4w, e4w', p8.2.1, p8.2.2.1]
  have fin : ∀ Y9 : HV, Y9 8800 0 c = nI w → (chk (inb (nI c) 8) <| lt (sv Y9 1014 0 0 ((Y9 1014 0 0) + (4 * (Y9 8800 0 c)))) fun V25 => some V25) = some (sv Y9 1014 0 0 (Y9 1014 0 0 + nI (4 * w))) := fun Y9 hy => by
    rw [chk_t ic, lt_def, hy, e4w']
  have fal : ∀ (X Y : HV), PR n B X Y → agP (pC c) V X → agP (pM c) W Y → fst V X → ¬ X 404 0 0 = 0 → ∀ (x y : Int32), PR n B X (sv Y 1014 0 0 y) ∧ agP (pM c) W (sv Y 1014 0 0 y) ∧ PR n B (sv X 402 0 0 x) (sv Y 1014 0 0 y) ∧ agP (pC c) V (sv X 402 0 0 x) ∧ fst V (sv X 402 0 0 x) ∧ ¬ (sv X 402 0 0 x) 404 0 0 = 0 := by
    intro X Y k1 k2 k3 k4 k5 x y
    obtain ⟨m1, m2, m3, m4, m5, m6, m7⟩ := k1
    have aY : agr [1014] Y (sv Y 1014 0 0 y) := agr_sv _ _ _ _ _
    have aX : agr [402] X (sv X 402 0 0 x) := agr_sv _ _ _ _ _
    refine ⟨?_, k3.trans (agP_sv Y y (by unfold pM; omega)), ?_, k2.trans (agP_sv X x (by unfold pC; omega)), fst_sv k4 (by decide) (by decide), by rw [sv_col (by decide)]; exact k5⟩
    · unfold PR
      rw [aY 1013 0 0 (by decide), aY 1015 0 0 (by decide), aY 1016 0 0 (by decide)]
      exact ⟨m1, m2, m3, fun j hj => by rw [aY 3200 0 j (by decide)]; exact m4 j hj, m5, m6, fun z => absurd z k5⟩
    · unfold PR
      rw [aY 1013 0 0 (by decide), aY 1015 0 0 (by decide), aY 1016 0 0 (by decide), aX 403 0 0 (by decide), aX 404 0 0 (by decide), aX 405 0 0 (by decide)]
      exact ⟨m1, m2, m3, fun j hj => by rw [aY 3200 0 j (by decide), aX 3100 0 j (by decide)]; exact m4 j hj, m5, m6, fun z => absurd z k5⟩
  by_cases q : X8 404 0 0 = 0
  · have q' : Y8 1015 0 0 = 0 := p8.2.2.2.2.1.symm.trans q
    obtain ⟨q0, it, ct, l1, l2, l3, l4, l5⟩ := known q
    rw [if_pos q', chk_t ic, l3, l4, nI_add]
    by_cases hct : ct + 4 * w ≤ n
    · rw [if_pos (nI_le hct (by omega)), if_pos (nI_le hct (by omega)), lt_def]
      dsimp only
      rw [fin Y8 r8, l4, nI_add]
      have aY : agr [1014] Y8 (sv Y8 1014 0 0 (nI (ct + 4 * w))) := agr_sv _ _ _ _ _
      have aX : agr [402] X8 (sv X8 402 0 0 (nI (ct + 4 * w))) := agr_sv _ _ _ _ _
      refine ⟨_, _, rfl, rfl, ?_, fV8.trans (agP_sv X8 _ (by unfold pC; omega)), fW8.trans (agP_sv Y8 _ (by unfold pM; omega)), fst_sv t8 (by decide) (by decide), fun _ => ⟨q0, l5 _ _ (aX.sub (by decide)) (aY.sub (by decide)) hct⟩⟩
      obtain ⟨m1, m2, m3, m4, m5, m6, m7⟩ := p8
      unfold PR
      rw [aY 1013 0 0 (by decide), aY 1015 0 0 (by decide), aY 1016 0 0 (by decide), aX 403 0 0 (by decide), aX 404 0 0 (by decide), aX 405 0 0 (by decide), sv_at, sv_at]
      exact ⟨m1, m2, m3, fun j hj => by rw [aY 3200 0 j (by decide), aX 3100 0 j (by decide)]; exact m4 j hj, m5, m6, fun _ => ⟨_, hct, rfl, rfl⟩⟩
    · rw [if_neg (fun z => hct ((nI_leI (by omega) (by omega)).mp z)), if_neg (fun z => hct ((nI_leI (by omega) (by omega)).mp z)), lt_def, lt_def]
      obtain ⟨f1, f2, f3, f4, f5⟩ := fl_all (kb := kb) (x := 1) (y := nI n) p8 (by decide)
      have fX : agP (pC c) V (f_X5_fail kb 0 1 (nI n) X8) := fV8.trans (agP_agr f2 (fun c' hc' o j => by simp only [List.mem_cons, List.not_mem_nil, or_false] at hc'; unfold pC; omega))
      have fY : agP (pM c) W (f_X12_fails 0 1 (nI n) Y8) := fW8.trans (agP_agr f3 (fun c' hc' o j => by simp only [List.mem_cons, List.not_mem_nil, or_false] at hc'; unfold pM; omega))
      have ft : fst V (f_X5_fail kb 0 1 (nI n) X8) := fun z => absurd q0 z
      obtain ⟨o1, o2, -, -, -, -⟩ := fal _ _ f1 fX fY ft f5 0 ((f_X12_fails 0 1 (nI n) Y8) 1014 0 0 + nI (4 * w))
      refine ⟨_, _, rfl, fin _ ((f3 8800 0 c (by decide)).trans r8), o1, fX, o2, ft, fun z => absurd z f5⟩
  · have q' : ¬ Y8 1015 0 0 = 0 := fun z => q (p8.2.2.2.2.1.trans z)
    obtain ⟨o1, o2, o3, o4, o5, o6⟩ := fal X8 Y8 p8 fV8 fW8 t8 q (X8 402 0 0 + nI (4 * w)) (Y8 1014 0 0 + nI (4 * w))
    rw [if_neg q']
    dsimp only
    rw [fin Y8 r8]
    by_cases z : X8 402 0 0 + nI (4 * w) ≤ nI n
    · rw [if_pos z, lt_def]
      exact ⟨_, _, rfl, rfl, o3, o4, o2, o5, fun y => absurd y o6⟩
    · rw [if_neg z, lt_def, fail_C, if_neg q]
      exact ⟨_, _, rfl, rfl, o1, fV8, o2, t8, fun y => absurd y q⟩
