def IV (k x y : Nat) : Prop := k = 0 ∨ (k = 1 ∧ x ≤ 8 ∧ y = 0) ∨ (k = 2 ∧ 1 ≤ x ∧ x ≤ 3 ∧ y = 0) ∨ (k = 3 ∧ x ≤ 239 ∧ 1 ≤ y ∧ y ≤ 16) ∨ (k = 4 ∧ 1 ≤ y ∧ y ≤ 27 ∧ nI y &&& (-28) = 0)
def II (B : Nat → Nat) (W : HV) (i p : Nat) : Prop := W 9400 0 i = nI p ∧ W 9100 0 i = nI (B p) ∧ W 9200 0 i = nI (B (p + 1)) ∧ W 9300 0 i = nI (B (p + 2)) ∧ IV (B p) (B (p + 1)) (B (p + 2))
/-- one import -/
theorem im_1 {kb n c k im : Nat} {B : Nat → Nat} {V W : HV} (h : PR n B V W) (hc : c < 8) (hk : k < im) (him : im ≤ 16) (h9 : W 9000 0 c = nI im) : ∃ V' W', f_X5_readImport kb 0 V = some V' ∧ (∀ (f : Nat) (K : HV → Option HV), f_X12_readCompartment_L120 0 (nI c) K (f + 1) (nI k) W = f_X12_readCompartment_L120 0 (nI c) K f (nI (k + 1)) W') ∧ PR n B V' W' ∧ agr [402, 404, 405] V V' ∧ agP (pI (16 * c + k)) W W' ∧ fst V V' ∧ (V' 404 0 0 = 0 → V 404 0 0 = 0 ∧ ∃ a, V 402 0 0 = nI a ∧ a + 3 ≤ n ∧ V' 402 0 0 = nI (a + 3) ∧ II B W' (16 * c + k) a) := by
  have ic : inb (nI c) 8 := inb_nI hc (by decide)
  have e16 : (16 : Int32) * nI c + nI k = nI (16 * c + k) := by rw [show (16 : Int32) = nI 16 from rfl, pk_mul, nI_add]
  have nle : ¬ nI im ≤ nI k := fun q => by have := (nI_leI (by omega) (by omega)).mp q; omega
  generalize hi : 16 * c + k = i at *
  have hi128 : i < 128 := by omega
  have ii : inb (nI i) 128 := inb_nI hi128 (by decide)
  have aW0 : agr [9400] W (sv W 9400 0 i (W 1014 0 0)) := agr_sv _ _ _ _ _
  have p0 : PR n B V (sv W 9400 0 i (W 1014 0 0)) := PR_fr h (agr_rfl V) aW0 (by decide) (by decide)
  have f0 : agP (pI i) W (sv W 9400 0 i (W 1014 0 0)) := agP_sv W _ (by unfold pI; omega)
  have w94 : (sv W 9400 0 i (W 1014 0 0)) 9400 0 i = W 1014 0 0 := sv_at _ _ _ _ _
  have w14 : (sv W 9400 0 i (W 1014 0 0)) 1014 0 0 = W 1014 0 0 := aW0 1014 0 0 (by decide)
  have hstep : ∀ (f : Nat) (K : HV → Option HV) , f_X12_readCompartment_L120 0 (nI c) K (f + 1) (nI k) W = (bnd (f_X12_next 0 1 0 4 (sv W 9400 0 i (W 1014 0 0))) fun p39 =>
    lt p39.1 fun v40 =>
    chk (inb (nI i) 128) <|
    lt (sv p39.2 9100 0 i v40) fun V42 =>
    lt (if v40 = 2 then (true) else (false) : Bool) fun v43 =>
    lt (if v40 = 1 then (8) else (if v40 = 2 then (3) else (if v40 = 3 then (239) else (255))) : Int32) fun v45 =>
    bnd (f_X12_next 0 1 (b2i v43) v45 V42) fun p47 =>
    chk (inb (nI i) 128) <|
    lt (sv p47.2 9200 0 i p47.1) fun V49 =>
    lt (V49 1014 0 0) fun v50 =>
    lt (if v40 = 3 then (true) else (false) : Bool) fun v51 =>
    lt (if v40 = 1 then (0) else (if v40 = 2 then (0) else (if v40 = 3 then (16) else (255))) : Int32) fun v53 =>
    bnd (f_X12_next 0 1 (b2i v51) v53 V49) fun p55 =>
    chk (inb (nI i) 128) <|
    lt (sv p55.2 9300 0 i p55.1) fun V57 =>
    jn (fun V58 =>
    lt (nI k + 1) fun v61 =>
    f_X12_readCompartment_L120 0 (nI c) K f v61 V58) fun k59 =>
    if v40 = 4 then (chk (inb (nI i) 128) <|
    jn (lt (f_X12_fails 0 2 v50 V57) fun V66 =>
    k59 V66) fun k64 =>
    if (V57 9300 0 i) = 0 then (k64) else (chk (inb (nI i) 128) <|
    if ((V57 9300 0 i) &&& (-28)) = 0 then (k59 V57) else (k64))) else (k59 V57)) := by
    intro f K
    conv => lhs; unfold f_X12_readCompartment_L120
    rw [chk_t ic, cl_nI (show c < 2147483648 by omega), h9, if_neg nle, lt_def, e16, chk_t ii, cl_nI (show i < 2147483648 by omega), lt_def]
  generalize sv W 9400 0 i (W 1014 0 0) = W0 at *
  obtain ⟨v, V1, W1, a1, a2, a3, a4, a5, a6, a7, a8, a9⟩ := num_all (kb := kb) (m := 1) (lo := 0) (hi := 4) p0 (Or.inl rfl) (by omega) (by omega)
  have aW2 : agr [9100] W1 (sv W1 9100 0 i (nI v)) := agr_sv _ _ _ _ _
  have p2 : PR n B V1 (sv W1 9100 0 i (nI v)) := PR_fr a3 (agr_rfl V1) aW2 (by decide) (by decide)
  have f2 : agP (pI i) W0 (sv W1 9100 0 i (nI v)) := (nIi a7).trans (agP_sv W1 _ (by unfold pI; omega))
  have u94 : (sv W1 9100 0 i (nI v)) 9400 0 i = W 1014 0 0 := by rw [sv_col (by decide), a7 9400 0 i (by decide)]; exact w94
  have u91 : (sv W1 9100 0 i (nI v)) 9100 0 i = nI v := sv_at _ _ _ _ _
  -- two numbers more, of given bounds
  have two : ∀ (lo1 hi1 lo2 hi2 : Nat), lo1 ≤ hi1 → hi1 < 65536 → lo2 ≤ hi2 → hi2 < 65536 → (∀ x y, lo1 ≤ x → x ≤ hi1 → lo2 ≤ y → y ≤ hi2 → IV v x y) → ∃ x y V3 V5 W3 W5, f_X5_number kb 0 1 (nI lo1) (nI hi1) V1 = some (nI x, V3) ∧ f_X12_next 0 1 (nI lo1) (nI hi1) (sv W1 9100 0 i (nI v)) = some (nI x, W3) ∧ f_X5_number kb 0 1 (nI lo2) (nI hi2) V3 = some (nI y, V5) ∧ f_X12_next 0 1 (nI lo2) (nI hi2) (sv W3 9200 0 i (nI x)) = some (nI y, W5) ∧ PR n B V5 (sv W5 9300 0 i (nI y)) ∧ agr [402, 404, 405] V V5 ∧ agP (pI i) W (sv W5 9300 0 i (nI y)) ∧ fst V V5 ∧ (V5 404 0 0 = 0 → V 404 0 0 = 0 ∧ ∃ a, V 402 0 0 = nI a ∧ a + 3 ≤ n ∧ V5 402 0 0 = nI (a + 3) ∧ II B (sv W5 9300 0 i (nI y)) i a) := by
    intro lo1 hi1 lo2 hi2 g1 g2 g3 g4 gv
    obtain ⟨x, V3, W3, b1, b2, b3, b4, b5, b6, b7, b8, b9⟩ := num_all (kb := kb) (m := 1) (lo := lo1) (hi := hi1) p2 (Or.inl rfl) g1 g2
    have aW4 : agr [9200] W3 (sv W3 9200 0 i (nI x)) := agr_sv _ _ _ _ _
    have p4 : PR n B V3 (sv W3 9200 0 i (nI x)) := PR_fr b3 (agr_rfl V3) aW4 (by decide) (by decide)
    have f4 : agP (pI i) (sv W1 9100 0 i (nI v)) (sv W3 9200 0 i (nI x)) := (nIi b7).trans (agP_sv W3 _ (by unfold pI; omega))
    obtain ⟨y, V5, W5, c1, c2, c3, c4, c5, c6, c7, c8, c9⟩ := num_all (kb := kb) (m := 1) (lo := lo2) (hi := hi2) p4 (Or.inl rfl) g3 g4
    have aW6 : agr [9300] W5 (sv W5 9300 0 i (nI y)) := agr_sv _ _ _ _ _
    have p6 : PR n B V5 (sv W5 9300 0 i (nI y)) := PR_fr c3 (agr_rfl V5) aW6 (by decide) (by decide)
    have f6 : agP (pI i) (sv W3 9200 0 i (nI x)) (sv W5 9300 0 i (nI y)) := (nIi c7).trans (agP_sv W5 _ (by unfold pI; omega))
    refine ⟨x, y, V3, V5, W3, W5, b1, b2, c1, c2, p6, ((a6.trans b6).trans c6), ((f0.trans f2).trans f4).trans f6, ((fst_eq a8).trans (fst_eq b8)).trans (fst_eq c8), fun q => ?_⟩
    obtain ⟨q3, d1, d2, d3, d4, d5, d6, d7⟩ := c9 q
    obtain ⟨q2, k1, k2, k3, k4, k5, k6, k7⟩ := b9 q3
    obtain ⟨q1, l1, l2, l3, l4, l5, l6, l7⟩ := a9 q2
    have hn := h.1
    have ek : k1 = l1 + 1 := nI_inj (by omega) (by omega) (k2.symm.trans l4)
    have ed : d1 = l1 + 2 := by
      have := nI_inj (by omega) (by omega) (d2.symm.trans k4)
      omega
    have ev : v = B l1 := by rw [l7]; rfl
    have ex : x = B (l1 + 1) := by rw [k7, ek]; rfl
    have ey : y = B (l1 + 2) := by rw [d7, ed]; rfl
    refine ⟨q1, l1, l2, by omega, by rw [d4, ed], ?_, ?_, ?_, ?_, ?_⟩
    · rw [aW6 9400 0 i (by decide), c7 9400 0 i (by decide), aW4 9400 0 i (by decide), b7 9400 0 i (by decide), u94]
      rw [← w14]; exact l5
    · rw [aW6 9100 0 i (by decide), c7 9100 0 i (by decide), aW4 9100 0 i (by decide), b7 9100 0 i (by decide), u91, ev]
    · rw [aW6 9200 0 i (by decide), c7 9200 0 i (by decide), sv_at, ex]
    · rw [sv_at, ey]
    · rw [← ev, ← ex, ← ey]; exact gv x y b4 b5 c4 c5
  have hv : v = 0 ∨ v = 1 ∨ v = 2 ∨ v = 3 ∨ v = 4 := by omega
  rcases hv with hv | hv | hv | hv | hv
  · obtain ⟨x, y, V3, V5, W3, W5, t1, t2, t3, t4, t5, t6, t7, t8, t9⟩ := two 0 255 0 255 (by omega) (by omega) (by omega) (by omega) (fun x y y1 y2 y3 y4 => by unfold IV; rw [hv]; omega)
    refine ⟨V5, sv W5 9300 0 i (nI y), ?_, fun f K => ?_, t5, t6, t7, t8, t9⟩
    · unfold f_X5_readImport
      rw [show f_X5_number kb 0 1 0 4 V = _ from a1, bnd_some]
      dsimp only
      rw [hv, if_pos (show nI 0 = 0 from rfl), show f_X5_number kb 0 1 0 255 V1 = _ from t1, bnd_some]
      dsimp only
      rw [show f_X5_number kb 0 1 0 255 V3 = _ from t3, bnd_some]
    · rw [hstep, show f_X12_next 0 1 0 4 W0 = _ from a2, bnd_some]
      simp only [lt_def]
      rw [hv] at t2 ⊢
      rw [chk_t ii]
      rw [show (if nI 0 = 2 then true else false : Bool) = false by decide, show (if nI 0 = 1 then (8 : Int32) else if nI 0 = 2 then 3 else if nI 0 = 3 then 239 else 255) = 255 by decide, show (if nI 0 = 3 then true else false : Bool) = false by decide, show (if nI 0 = 1 then (0 : Int32) else if nI 0 = 2 then 0 else if nI 0 = 3 then 16 else 255) = 255 by decide]
      rw [show f_X12_next 0 1 (b2i false) 255 (sv W1 9100 0 i (nI 0)) = _ from t2, bnd_some]
      dsimp only
      rw [chk_t ii, show f_X12_next 0 1 (b2i false) 255 (sv W3 9200 0 i (nI x)) = _ from t4, bnd_some]
      dsimp only
      rw [chk_t ii, jn_def, if_neg (show ¬ nI 0 = 4 by decide), nI_1]
  · obtain ⟨x, y, V3, V5, W3, W5, t1, t2, t3, t4, t5, t6, t7, t8, t9⟩ := two 0 8 0 0 (by omega) (by omega) (by omega) (by omega) (fun x y y1 y2 y3 y4 => by unfold IV; rw [hv]; omega)
    refine ⟨V5, sv W5 9300 0 i (nI y), ?_, fun f K => ?_, t5, t6, t7, t8, t9⟩
    · unfold f_X5_readImport
      rw [show f_X5_number kb 0 1 0 4 V = _ from a1, bnd_some]
      dsimp only
      rw [hv, if_neg (show ¬ nI 1 = 0 by decide), if_pos (show nI 1 = 1 from rfl), show f_X5_number kb 0 1 0 8 V1 = _ from t1, bnd_some]
      dsimp only
      rw [show f_X5_number kb 0 1 0 0 V3 = _ from t3, bnd_some]
    · rw [hstep, show f_X12_next 0 1 0 4 W0 = _ from a2, bnd_some]
      simp only [lt_def]
      rw [hv] at t2 ⊢
      rw [chk_t ii]
      rw [show (if nI 1 = 2 then true else false : Bool) = false by decide, show (if nI 1 = 1 then (8 : Int32) else if nI 1 = 2 then 3 else if nI 1 = 3 then 239 else 255) = 8 by decide, show (if nI 1 = 3 then true else false : Bool) = false by decide, show (if nI 1 = 1 then (0 : Int32) else if nI 1 = 2 then 0 else if nI 1 = 3 then 16 else 255) = 0 by decide]
      rw [show f_X12_next 0 1 (b2i false) 8 (sv W1 9100 0 i (nI 1)) = _ from t2, bnd_some]
      dsimp only
      rw [chk_t ii, show f_X12_next 0 1 (b2i false) 0 (sv W3 9200 0 i (nI x)) = _ from t4, bnd_some]
      dsimp only
      rw [chk_t ii, jn_def, if_neg (show ¬ nI 1 = 4 by decide), nI_1]
  · obtain ⟨x, y, V3, V5, W3, W5, t1, t2, t3, t4, t5, t6, t7, t8, t9⟩ := two 1 3 0 0 (by omega) (by omega) (by omega) (by omega) (fun x y y1 y2 y3 y4 => by unfold IV; rw [hv]; omega)
    refine ⟨V5, sv W5 9300 0 i (nI y), ?_, fun f K => ?_, t5, t6, t7, t8, t9⟩
    · unfold f_X5_readImport
      rw [show f_X5_number kb 0 1 0 4 V = _ from a1, bnd_some]
      dsimp only
      rw [hv, if_neg (show ¬ nI 2 = 0 by decide), if_neg (show ¬ nI 2 = 1 by decide), if_pos (show nI 2 = 2 from rfl), show f_X5_number kb 0 1 1 3 V1 = _ from t1, bnd_some]
      dsimp only
      rw [show f_X5_number kb 0 1 0 0 V3 = _ from t3, bnd_some]
    · rw [hstep, show f_X12_next 0 1 0 4 W0 = _ from a2, bnd_some]
      simp only [lt_def]
      rw [hv] at t2 ⊢
      rw [chk_t ii]
      rw [show (if nI 2 = 2 then true else false : Bool) = true by decide, show (if nI 2 = 1 then (8 : Int32) else if nI 2 = 2 then 3 else if nI 2 = 3 then 239 else 255) = 3 by decide, show (if nI 2 = 3 then true else false : Bool) = false by decide, show (if nI 2 = 1 then (0 : Int32) else if nI 2 = 2 then 0 else if nI 2 = 3 then 16 else 255) = 0 by decide]
      rw [show f_X12_next 0 1 (b2i true) 3 (sv W1 9100 0 i (nI 2)) = _ from t2, bnd_some]
      dsimp only
      rw [chk_t ii, show f_X12_next 0 1 (b2i false) 0 (sv W3 9200 0 i (nI x)) = _ from t4, bnd_some]
      dsimp only
      rw [chk_t ii, jn_def, if_neg (show ¬ nI 2 = 4 by decide), nI_1]
  · obtain ⟨x, y, V3, V5, W3, W5, t1, t2, t3, t4, t5, t6, t7, t8, t9⟩ := two 0 239 1 16 (by omega) (by omega) (by omega) (by omega) (fun x y y1 y2 y3 y4 => by unfold IV; rw [hv]; omega)
    refine ⟨V5, sv W5 9300 0 i (nI y), ?_, fun f K => ?_, t5, t6, t7, t8, t9⟩
    · unfold f_X5_readImport
      rw [show f_X5_number kb 0 1 0 4 V = _ from a1, bnd_some]
      dsimp only
      rw [hv, if_neg (show ¬ nI 3 = 0 by decide), if_neg (show ¬ nI 3 = 1 by decide), if_neg (show ¬ nI 3 = 2 by decide), if_pos (show nI 3 = 3 from rfl), show f_X5_number kb 0 1 0 239 V1 = _ from t1, bnd_some]
      dsimp only
      rw [show f_X5_number kb 0 1 1 16 V3 = _ from t3, bnd_some]
    · rw [hstep, show f_X12_next 0 1 0 4 W0 = _ from a2, bnd_some]
      simp only [lt_def]
      rw [hv] at t2 ⊢
      rw [chk_t ii]
      rw [show (if nI 3 = 2 then true else false : Bool) = false by decide, show (if nI 3 = 1 then (8 : Int32) else if nI 3 = 2 then 3 else if nI 3 = 3 then 239 else 255) = 239 by decide, show (if nI 3 = 3 then true else false : Bool) = true by decide, show (if nI 3 = 1 then (0 : Int32) else if nI 3 = 2 then 0 else if nI 3 = 3 then 16 else 255) = 16 by decide]
      rw [show f_X12_next 0 1 (b2i false) 239 (sv W1 9100 0 i (nI 3)) = _ from t2, bnd_some]
      dsimp only
      rw [chk_t ii, show f_X12_next 0 1 (b2i true) 16 (sv W3 9200 0 i (nI x)) = _ from t4, bnd_some]
      dsimp only
      rw [chk_t ii, jn_def, if_neg (show ¬ nI 3 = 4 by decide), nI_1]
  · obtain ⟨x, V3, W3, b1, b2, b3, b4, b5, b6, b7, b8, b9⟩ := num_all (kb := kb) (m := 1) (lo := 0) (hi := 255) p2 (Or.inl rfl) (by omega) (by omega)
    have aW4 : agr [9200] W3 (sv W3 9200 0 i (nI x)) := agr_sv _ _ _ _ _
    have p4 : PR n B V3 (sv W3 9200 0 i (nI x)) := PR_fr b3 (agr_rfl V3) aW4 (by decide) (by decide)
    have f4 : agP (pI i) (sv W1 9100 0 i (nI v)) (sv W3 9200 0 i (nI x)) := (nIi b7).trans (agP_sv W3 _ (by unfold pI; omega))
    obtain ⟨y, V5, W5, W6, c1, c2, c3, c4, c5, c6, c7, c8, c9⟩ := gp_all (kb := kb) (i := i) p4 hi128
    refine ⟨V5, W6, ?_, fun f K => ?_, c4, ((a6.trans b6).trans c5), ((f0.trans f2).trans f4).trans c6, ((fst_eq a8).trans (fst_eq b8)).trans c8, fun q => ?_⟩
    · unfold f_X5_readImport
      rw [show f_X5_number kb 0 1 0 4 V = _ from a1, bnd_some]
      dsimp only
      rw [hv, if_neg (show ¬ nI 4 = 0 by decide), if_neg (show ¬ nI 4 = 1 by decide), if_neg (show ¬ nI 4 = 2 by decide), if_neg (show ¬ nI 4 = 3 by decide), show f_X5_number kb 0 1 0 255 V1 = _ from b1, bnd_some]
      dsimp only
      rw [c1, bnd_some]
    · rw [hstep, show f_X12_next 0 1 0 4 W0 = _ from a2, bnd_some]
      simp only [lt_def]
      rw [hv] at b2 ⊢
      rw [chk_t ii]
      rw [show (if nI 4 = 2 then true else false : Bool) = false by decide, show (if nI 4 = 1 then (8 : Int32) else if nI 4 = 2 then 3 else if nI 4 = 3 then 239 else 255) = 255 by decide, show (if nI 4 = 3 then true else false : Bool) = false by decide, show (if nI 4 = 1 then (0 : Int32) else if nI 4 = 2 then 0 else if nI 4 = 3 then 16 else 255) = 255 by decide]
      rw [show f_X12_next 0 1 (b2i false) 255 (sv W1 9100 0 i (nI 4)) = _ from b2, bnd_some]
      dsimp only
      rw [chk_t ii, show f_X12_next 0 1 (b2i false) 255 (sv W3 9200 0 i (nI x)) = _ from c2, bnd_some]
      dsimp only
      rw [chk_t ii, jn_def, if_pos (show nI 4 = 4 from rfl)]
      refine (c3 _).trans ?_
      rw [nI_1]
    · obtain ⟨q3, d1, d2, d3, d4, d7, d8, d9, d10⟩ := c9 q
      obtain ⟨q2, k1, k2, k3, k4, k5, k6, k7⟩ := b9 q3
      obtain ⟨q1, l1, l2, l3, l4, l5, l6, l7⟩ := a9 q2
      have hn := h.1
      have ek : k1 = l1 + 1 := nI_inj (by omega) (by omega) (k2.symm.trans l4)
      have ed : d1 = l1 + 2 := by
        have := nI_inj (by omega) (by omega) (d2.symm.trans k4)
        omega
      have ev : v = B l1 := by rw [l7]; rfl
      have ex : x = B (l1 + 1) := by rw [k7, ek]; rfl
      rw [ed] at d7 d8 d9 d10
      refine ⟨q1, l1, l2, by omega, by rw [d4, ed], ?_, ?_, ?_, d7, ?_⟩
      · rw [c7 9400 (by decide) (by decide) (by decide) (by decide), aW4 9400 0 i (by decide), b7 9400 0 i (by decide), u94]
        rw [← w14]; exact l5
      · rw [c7 9100 (by decide) (by decide) (by decide) (by decide), aW4 9100 0 i (by decide), b7 9100 0 i (by decide), u91, ev]
      · rw [c7 9200 (by decide) (by decide) (by decide) (by decide), sv_at, ex]
      · rw [← ev, hv]; exact Or.inr (Or.inr (Or.inr (Or.inr ⟨rfl, d8, d9, d10⟩)))
