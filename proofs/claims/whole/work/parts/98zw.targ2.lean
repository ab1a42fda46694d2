theorem GK_ag {C i : Nat} {ds : List Nat} {W W' : HV} (h : GK W C i) (hW : agr ds W W') (h2 : ∀ l ∈ [4400, 9100, 9200, 9300], l ∉ ds) : GK W' C i := by
  unfold GK at h ⊢
  rw [hW 9100 0 i (h2 _ (by decide)), hW 9200 0 i (h2 _ (by decide)), hW 9300 0 i (h2 _ (by decide))]
  refine ⟨fun q => ?_, h.2⟩
  obtain ⟨x, y, e, a1, a2, a3, a4, a5⟩ := h.1 q
  exact ⟨x, y, e, a1, a2, a3, by rw [hW 4400 0 x (h2 _ (by decide))]; exact a4, a5⟩
theorem GT_ag {C t : Nat} {ds : List Nat} {W W' : HV} (h : GT W C t) (hW : agr ds W W') (h2 : ∀ l ∈ [4400, 9700, 9800], l ∉ ds) : GT W' C t := by
  obtain ⟨x, y, e, a1, a2, a3, a4, a5⟩ := h
  exact ⟨x, y, e, by rw [hW 9700 0 t (h2 _ (by decide))]; exact a1, by rw [hW 9800 0 t (h2 _ (by decide))]; exact a2, a3, by rw [hW 4400 0 x (h2 _ (by decide))]; exact a4, a5⟩
theorem II_ag {i p : Nat} {B : Nat → Nat} {ds : List Nat} {W W' : HV} (h : II B W i p) (hW : agr ds W W') (h2 : ∀ l ∈ [9100, 9200, 9300, 9400], l ∉ ds) : II B W' i p := by
  unfold II at h ⊢
  rw [hW 9400 0 i (h2 _ (by decide)), hW 9100 0 i (h2 _ (by decide)), hW 9200 0 i (h2 _ (by decide)), hW 9300 0 i (h2 _ (by decide))]
  exact h
/-- one import's target -/
theorem ti_1 {kb n C c k im it : Nat} {B : Nat → Nat} {V W : HV} (hC : C ≤ 8) (hc : c < C) (him : im ≤ 16) (hit : it + 3 * im ≤ n) (hk : k < im) (h : PR n B V W) (hci : ∀ c, c < C → CI n B V W c) (h6 : V 406 0 0 = nI C) (h8 : W 1018 0 0 = nI C) (h5 : V 105 c 0 = nI im) (h9 : W 9000 0 c = nI im) (h10 : V 106 c 0 = nI it) (hii : II B W (16 * c + k) (it + 3 * k)) : ∃ V' W', (∀ (f : Nat) (K : HV → Option HV), f_X5_checkTargets_L26 0 0 kb (nI c) K (f + 1) (nI k) V = f_X5_checkTargets_L26 0 0 kb (nI c) K f (nI (k + 1)) V') ∧ (∀ (f : Nat) (K : HV → Option HV), f_X12_readAll_L185 0 (nI c) K (f + 1) (nI (16 * c + k)) W = f_X12_readAll_L185 0 (nI c) K f (nI (16 * c + k + 1)) W') ∧ FS n B V W V' W' ∧ (V' 404 0 0 = 0 → V 404 0 0 = 0 ∧ GK W C (16 * c + k)) := by
  have hn := h.1
  have ic : inb (nI c) 8 := inb_nI (by omega) (by decide)
  obtain ⟨u94, u91, u92, u93, uiv⟩ := hii
  have hp : it + 3 * k + 2 < n := by omega
  have e16 : (16 : Int32) * nI c = nI (16 * c) := by rw [show (16 : Int32) = nI 16 from rfl, pk_mul]
  have e3 : nI k * 3 = nI (3 * k) := by rw [show (3 : Int32) = nI 3 from rfl, pk_mul, Nat.mul_comm]
  have nle : ¬ nI (16 * c + im) ≤ nI (16 * c + k) := fun q => by have := (nI_leI (by omega) (by omega)).mp q; omega
  generalize hp0 : it + 3 * k = p at *
  generalize hi0 : 16 * c + k = i at *
  have ii : inb (nI i) 128 := inb_nI (by omega) (by decide)
  have b0 := (h.2.2.2.1 p (by omega)).2.2
  have b1 := (h.2.2.2.1 (p + 1) (by omega)).2.2
  have b2 := (h.2.2.2.1 (p + 2) (by omega)).2.2
  -- the class's beginning
  have hC1 : ∀ (f : Nat) (K : HV → Option HV) (V' : HV), (∀ k33 : HV → Option HV, (if nI (B p) = 0 then (bnd (f_X5_checkExport kb 0 0 (nI (p + 1)) V) fun p39 => k33 p39) else (if nI (B p) = 4 then (bnd (f_X5_checkCompartment kb 0 (nI (p + 1)) V) fun p38 => k33 p38) else (k33 V))) = k33 V') → f_X5_checkTargets_L26 0 0 kb (nI c) K (f + 1) (nI k) V = f_X5_checkTargets_L26 0 0 kb (nI c) K f (nI (k + 1)) V' := by
    intro f K V' hk33
    conv => lhs; unfold f_X5_checkTargets_L26
    rw [cl_nI (show c < 2147483648 by omega), h5, if_neg (fun q => by have := (nI_leI (by omega) (by omega)).mp q; omega), lt_def, h10, e3, nI_add, hp0, byte_C h (by omega), bnd_some, jn_def, nI_1]
    refine (hk33 _).trans ?_
    rw [lt_def, nI_1]
  have hM1 : ∀ (f : Nat) (K : HV → Option HV) (W' : HV), (∀ k80 : HV → Option HV, (if (if nI (B p) = 0 then true else false : Bool) = true then (chk (inb (nI i) 128) <| if nI C ≤ nI (B (p + 1)) then (lt (f_X12_fails 0 3 (nI p + 1) W) fun V93 => k80 V93) else (chk (inb (nI (B (p + 1))) 8) <| if nI (B (p + 2)) < (W 4400 0 (nI (B (p + 1))).toNatClampNeg) then (k80 W) else (lt (f_X12_fails 0 3 (nI p + 2) W) fun V90 => k80 V90))) else (if nI (B p) = 4 then (if nI C ≤ nI (B (p + 1)) then (lt (f_X12_fails 0 3 (nI p + 1) W) fun V93 => k80 V93) else (k80 W)) else (k80 W))) = k80 W') → f_X12_readAll_L185 0 (nI c) K (f + 1) (nI i) W = f_X12_readAll_L185 0 (nI c) K f (nI (i + 1)) W' := by
    intro f K W' hk80
    conv => lhs; unfold f_X12_readAll_L185
    rw [chk_t ic, cl_nI (show c < 2147483648 by omega), h9, e16, nI_add, if_neg nle, chk_t ii, cl_nI (show i < 2147483648 by omega), u91, u92, u94, h8]
    simp only [jn_def, lt_def]
    have key := hk80 (fun V79 => f_X12_readAll_L185 0 (nI c) K f (nI i + 1) V79)
    simp only [lt_def] at key
    rw [nI_1] at key ⊢
    rw [← key]
    by_cases q0 : nI (B p) = 0
    · rw [if_pos q0]
      simp only [if_true]
      rw [chk_t ii, chk_t ii]
      by_cases q1 : nI C ≤ nI (B (p + 1))
      · rw [if_pos q1, if_pos q1]
        simp only [Bool.false_eq_true, if_false]
      · rw [if_neg q1, if_neg q1]
        rw [chk_t ii, chk_t ii, u92, u93, u94, chk_t ii]
    · rw [if_neg q0]
      simp only [Bool.false_eq_true, if_false]
      rw [chk_t ii]
      by_cases q4 : nI (B p) = 4
      · rw [if_pos q4, if_pos q4, chk_t ii]
        by_cases q1 : nI C ≤ nI (B (p + 1))
        · rw [if_pos q1, if_pos q1, chk_t ii]
        · rw [if_neg q1, if_neg q1]
          simp only [if_true]
      · rw [if_neg q4, if_neg q4]
        simp only [if_true]
  by_cases k0 : B p = 0
  · -- an export
    have q0 : nI (B p) = 0 := by rw [k0]; rfl
    obtain ⟨V', W', c1, c2, c3, c4, c5⟩ := ce_all (kb := kb) (p := p + 1) h hC hci h6 (by omega)
    refine ⟨V', W', fun f K => hC1 f K V' (fun k33 => ?_), fun f K => hM1 f K W' (fun k80 => ?_), c2, fun q => ?_⟩
    · rw [if_pos q0, c1, bnd_some]
    · rw [if_pos q0, if_pos rfl, chk_t ii]
      by_cases z : B (p + 1) < C
      · obtain ⟨e, d1, d2, d3⟩ := c4 z
        rw [if_neg (fun y => by have := (nI_leI (by omega) (by omega)).mp y; omega), chk_t (inb_nI (by omega) (by decide)), cl_nI (by omega), d1]
        by_cases y : B (p + 2) < e
        · rw [if_pos (nI_lt y (by omega)), d3, if_pos y]
        · rw [if_neg (nI_nlt (by omega) (by omega)), d3, if_neg y, lt_def, show nI p + 2 = nI (p + 1 + 1) from nI_add p 2]
      · rw [if_pos (nI_le (by omega) (by omega)), c3 z, lt_def, nI_1]
    · obtain ⟨q1, q2, e, q3, q4, q5⟩ := c5 q
      refine ⟨q1, fun _ => ⟨B (p + 1), B (p + 2), e, u92, u93, q2, q3, q4, q5⟩, fun z => ?_⟩
      exact ⟨B (p + 1), u92, q2⟩
  · have n0 : ¬ nI (B p) = 0 := fun z => k0 (nI_inj (b := 0) (by omega) (by decide) z)
    by_cases k4 : B p = 4
    · have q4 : nI (B p) = 4 := by rw [k4]; rfl
      by_cases z : B (p + 1) < C
      · refine ⟨V, W, fun f K => hC1 f K V (fun k33 => ?_), fun f K => hM1 f K W (fun k80 => ?_), FS_rfl h, fun q => ⟨q, fun y => absurd (u91.symm.trans y) n0, fun _ => ⟨B (p + 1), u92, z⟩⟩⟩
        · rw [if_neg n0, if_pos q4]
          unfold f_X5_checkCompartment
          rw [byte_C h (by omega), bnd_some, h6, if_pos (nI_lt z (by omega)), bnd_some]
        · rw [if_neg n0, if_neg (show ¬ false = true by decide), if_pos q4, if_neg (fun y => by have := (nI_leI (by omega) (by omega)).mp y; omega)]
      · obtain ⟨f1, f2⟩ := FS_fail (kb := kb) (x := 3) (y := nI (p + 1)) h (by decide)
        refine ⟨_, _, fun f K => hC1 f K _ (fun k33 => ?_), fun f K => hM1 f K _ (fun k80 => ?_), f1, fun q => absurd q f2⟩
        · rw [if_neg n0, if_pos q4]
          unfold f_X5_checkCompartment
          rw [byte_C h (by omega), bnd_some, h6, if_neg (nI_nlt (by omega) (by omega)), lt_def, bnd_some]
        · rw [if_neg n0, if_neg (show ¬ false = true by decide), if_pos q4, if_pos (nI_le (by omega) (by omega)), lt_def, nI_1]
    · have n4 : ¬ nI (B p) = 4 := fun z => k4 (nI_inj (b := 4) (by omega) (by decide) z)
      refine ⟨V, W, fun f K => hC1 f K V (fun k33 => ?_), fun f K => hM1 f K W (fun k80 => ?_), FS_rfl h, fun q => ⟨q, fun y => absurd (u91.symm.trans y) n0, fun y => absurd (u91.symm.trans y) n4⟩⟩
      · rw [if_neg n0, if_neg n4]
      · rw [if_neg n0, if_neg (show ¬ false = true by decide), if_neg n4]
theorem ti_L {kb n C c im it : Nat} {B : Nat → Nat} (hC : C ≤ 8) (hc : c < C) (him : im ≤ 16) (hit : it + 3 * im ≤ n) : ∀ (r k f f' : Nat) (V W : HV), k + r = im → r < f → r < f' → PR n B V W → (∀ c, c < C → CI n B V W c) → V 406 0 0 = nI C → W 1018 0 0 = nI C → V 105 c 0 = nI im → W 9000 0 c = nI im → V 106 c 0 = nI it → (∀ j, j < im → II B W (16 * c + j) (it + 3 * j)) → ∃ V' W', (∀ K : HV → Option HV, f_X5_checkTargets_L26 0 0 kb (nI c) K f (nI k) V = K V') ∧ (∀ K : HV → Option HV, f_X12_readAll_L185 0 (nI c) K f' (nI (16 * c + k)) W = K W') ∧ FS n B V W V' W' ∧ (V' 404 0 0 = 0 → V 404 0 0 = 0 ∧ ∀ j, k ≤ j → j < im → GK W C (16 * c + j))
  | _, _, 0, _, _, _, _, hf, _, _, _, _, _, _, _, _, _ => absurd hf (by omega)
  | _, _, _, 0, _, _, _, _, hf, _, _, _, _, _, _, _, _ => absurd hf (by omega)
  | 0, k, f + 1, f' + 1, V, W, hk, _, _, h, hci, h6, h8, h5, h9, h10, hii => by
    refine ⟨V, W, fun K => ?_, fun K => ?_, FS_rfl h, fun q => ⟨q, fun j h1 h2 => by omega⟩⟩
    · unfold f_X5_checkTargets_L26
      rw [cl_nI (by omega), h5, if_pos (nI_le (by omega) (by omega))]
    · unfold f_X12_readAll_L185
      rw [chk_t (inb_nI (by omega) (by decide)), cl_nI (by omega), h9, show (16 : Int32) = nI 16 from rfl, pk_mul, nI_add, if_pos (nI_le (by omega) (by omega))]
  | r + 1, k, f + 1, f' + 1, V, W, hk, hf, hf', h, hci, h6, h8, h5, h9, h10, hii => by
    obtain ⟨V1, W1, a1, a2, a3, a4⟩ := ti_1 (kb := kb) (k := k) hC hc him hit (by omega) h hci h6 h8 h5 h9 h10 (hii k (by omega))
    have aV := a3.2.1
    have aW := a3.2.2.1
    obtain ⟨V', W', x1, x2, x3, x4⟩ := ti_L (kb := kb) (n := n) (B := B) hC hc him hit r (k + 1) f f' V1 W1 (by omega) (by omega) (by omega) a3.1 (fun c' hc' => CI_ag (hci c' hc') (by omega) aV aW (by decide) (by decide)) ((aV 406 0 0 (by decide)).trans h6) ((aW 1018 0 0 (by decide)).trans h8) ((aV 105 c 0 (by decide)).trans h5) ((aW 9000 0 c (by decide)).trans h9) ((aV 106 c 0 (by decide)).trans h10) (fun j hj => II_ag (hii j hj) aW (by decide))
    refine ⟨V', W', fun K => ?_, fun K => ?_, a3.trans x3, fun q => ?_⟩
    · rw [a1]; exact x1 K
    · rw [a2]; exact x2 K
    · obtain ⟨y1, y2⟩ := x4 q
      obtain ⟨z1, z2⟩ := a4 y1
      refine ⟨z1, fun j h1 h2 => ?_⟩
      by_cases e : j = k
      · rw [e]; exact z2
      · have hb : agr [1015, 1016] W1 W := fun c o j z => (aW c o j z).symm
        exact GK_ag (y2 j (by omega) h2) hb (by decide)
theorem tc_L {kb n C T tt : Nat} {B : Nat → Nat} : ∀ (r k f f' : Nat) (V W : HV), k + r = C → r < f → r < f' → PR n B V W → IM n C T tt B V W → ∃ V' W', (∀ K : HV → Option HV, f_X5_checkTargets_L2 0 0 kb K f (nI k) V = K V') ∧ (∀ K : HV → Option HV, f_X12_readAll_L172 0 K f' (nI k) W = K W') ∧ FS n B V W V' W' ∧ (V' 404 0 0 = 0 → V 404 0 0 = 0 ∧ ∀ c, k ≤ c → c < C → ∀ im, im ≤ 16 → W 9000 0 c = nI im → ∀ j, j < im → GK W C (16 * c + j))
  | _, _, 0, _, _, _, _, hf, _, _, _ => absurd hf (by omega)
  | _, _, _, 0, _, _, _, _, hf, _, _ => absurd hf (by omega)
  | 0, k, f + 1, f' + 1, V, W, hk, _, _, h, hI => by
    have hC := hI.2.1
    refine ⟨V, W, fun K => ?_, fun K => ?_, FS_rfl h, fun q => ⟨q, fun c h1 h2 => by omega⟩⟩
    · unfold f_X5_checkTargets_L2
      rw [hI.2.2.2.2.1, if_pos (nI_le (by omega) (by omega))]
    · unfold f_X12_readAll_L172
      rw [hI.2.2.2.2.2.1, if_pos (nI_le (by omega) (by omega))]
  | r + 1, k, f + 1, f' + 1, V, W, hk, hf, hf', h, hI => by
    obtain ⟨i1, i2, i3, i4, i5, i6, i7, i8, i9, i10, i11, i12⟩ := id hI
    have ik : inb (nI k) 8 := inb_nI (by omega) (by decide)
    obtain ⟨w, gl, e, im, it, ct, c1, c2, c3, c4, c5, c6, c7, d1, d2, d3, d4, d5, d6, d7, d8, d9, d10, d11, d12, d13⟩ := i9 k (by omega)
    obtain ⟨V1, W1, a1, a2, a3, a4⟩ := ti_L (kb := kb) (n := n) (B := B) (c := k) i2 (by omega) c5 c6 im 0 FU FU V W (by omega) (FU_gt (by omega)) (FU_gt (by omega)) h i9 i5 i6 d7 d8 d9 d13
    have aV := a3.2.1
    have aW := a3.2.2.1
    obtain ⟨V', W', x1, x2, x3, x4⟩ := tc_L (kb := kb) (n := n) (B := B) r (k + 1) f f' V1 W1 (by omega) (by omega) (by omega) a3.1 (IM_ag hI aV aW (by decide) (by decide))
    refine ⟨V', W', fun K => ?_, fun K => ?_, a3.trans x3, fun q => ?_⟩
    · unfold f_X5_checkTargets_L2
      rw [i5, if_neg (fun q => by have := (nI_leI (by omega) (by omega)).mp q; omega), if_neg (show ¬ (8 : Int32) ≤ nI k from fun q => by have := (nI_leI (a := 8) (by decide) (by omega)).mp q; omega), chk_t ik, jn_def]
      refine (a1 _).trans ?_
      rw [lt_def, nI_1]
      exact x1 K
    · unfold f_X12_readAll_L172
      rw [i6, if_neg (fun q => by have := (nI_leI (by omega) (by omega)).mp q; omega), lt_def, jn_def, show (16 : Int32) = nI 16 from rfl, pk_mul]
      refine (a2 _).trans ?_
      rw [lt_def, nI_1]
      exact x2 K
    · obtain ⟨y1, y2⟩ := x4 q
      obtain ⟨z1, z2⟩ := a4 y1
      refine ⟨z1, fun c h1 h2 m hm em j hj => ?_⟩
      by_cases e : c = k
      · subst e
        have : m = im := nI_inj (by omega) (by omega) (em.symm.trans d8)
        exact z2 j (Nat.zero_le _) (by omega)
      · have hb : agr [1015, 1016] W1 W := fun c o j z => (aW c o j z).symm
        exact GK_ag (y2 c (by omega) h2 m hm ((aW 9000 0 c (by decide)).trans em) j hj) hb (by decide)
theorem tt_L {kb n C T tt : Nat} {B : Nat → Nat} : ∀ (r k f f' : Nat) (V W : HV), k + r = T → r < f → r < f' → PR n B V W → IM n C T tt B V W → ∃ V' W', (∀ K : HV → Option HV, f_X5_checkTargets_L99 0 0 kb K f (nI k) V = K V') ∧ (∀ K : HV → Option HV, f_X12_readAll_L323 0 K f' (nI k) W = K W') ∧ FS n B V W V' W' ∧ (V' 404 0 0 = 0 → V 404 0 0 = 0 ∧ ∀ t, k ≤ t → t < T → GT W C t)
  | _, _, 0, _, _, _, _, hf, _, _, _ => absurd hf (by omega)
  | _, _, _, 0, _, _, _, _, hf, _, _ => absurd hf (by omega)
  | 0, k, f + 1, f' + 1, V, W, hk, _, _, h, hI => by
    have hT := hI.2.2.2.1
    refine ⟨V, W, fun K => ?_, fun K => ?_, FS_rfl h, fun q => ⟨q, fun c h1 h2 => by omega⟩⟩
    · unfold f_X5_checkTargets_L99
      rw [hI.2.2.2.2.2.2.1, if_pos (nI_le (by omega) (by omega))]
    · unfold f_X12_readAll_L323
      rw [hI.2.2.2.2.2.2.2.1, if_pos (nI_le (by omega) (by omega))]
  | r + 1, k, f + 1, f' + 1, V, W, hk, hf, hf', h, hI => by
    obtain ⟨i1, i2, i3, i4, i5, i6, i7, i8, i9, i10, i11, i12⟩ := id hI
    have hn := h.1
    have ik : inb (nI k) 6 := inb_nI (by omega) (by decide)
    obtain ⟨t1, t2, t3, t4, t5, t6, t7, t8, t9, t10⟩ := i11 k (by omega)
    have e5 : nI k * 5 = nI (5 * k) := by rw [show (5 : Int32) = nI 5 from rfl, pk_mul, Nat.mul_comm]
    generalize hp0 : tt + 5 * k = p at *
    have b0 := (h.2.2.2.1 p (by omega)).2.2
    have b1 := (h.2.2.2.1 (p + 1) (by omega)).2.2
    obtain ⟨V1, W1, a1, a3, m3, m4, m5⟩ := ce_all (kb := kb) (p := p) h i2 i9 i5 (by omega)
    have aV := a3.2.1
    have aW := a3.2.2.1
    obtain ⟨V', W', x1, x2, x3, x4⟩ := tt_L (kb := kb) (n := n) (B := B) r (k + 1) f f' V1 W1 (by omega) (by omega) (by omega) a3.1 (IM_ag hI aV aW (by decide) (by decide))
    refine ⟨V', W', fun K => ?_, fun K => ?_, a3.trans x3, fun q => ?_⟩
    · unfold f_X5_checkTargets_L99
      rw [i7, if_neg (fun q => by have := (nI_leI (by omega) (by omega)).mp q; omega), i10, e5, nI_add, hp0, a1, bnd_some, lt_def, nI_1]
      exact x1 K
    · have key := x2 K
      rw [← nI_1] at key
      unfold f_X12_readAll_L323
      rw [i8, if_neg (fun q => by have := (nI_leI (by omega) (by omega)).mp q; omega), chk_t ik, cl_nI (by omega), i6, t2, t1]
      simp only [jn_def, lt_def]
      by_cases z : B p < C
      · obtain ⟨e, d1, d2, d3⟩ := m4 z
        rw [if_neg (show ¬ nI C ≤ nI (B p) from fun y => by have := (nI_leI (by omega) (by omega)).mp y; omega)]
        simp only [if_true]
        rw [chk_t ik, chk_t ik, t2, chk_t (inb_nI (by omega) (by decide)), cl_nI (by omega), t3, d1]
        by_cases y : B (p + 1) < e
        · rw [if_pos (nI_lt y (by omega)), ← key, d3, if_pos y]
        · rw [if_neg (nI_nlt (by omega) (by omega)), chk_t ik, t1, nI_1 p, ← key, d3, if_neg y]
      · rw [if_pos (show nI C ≤ nI (B p) from nI_le (by omega) (by omega))]
        simp only [Bool.false_eq_true, if_false]
        rw [chk_t ik, ← key, m3 z]
    · obtain ⟨y1, y2⟩ := x4 q
      obtain ⟨z1, z2, e, z3, z4, z5⟩ := m5 y1
      refine ⟨z1, fun t h1 h2 => ?_⟩
      by_cases e' : t = k
      · rw [e']
        exact ⟨B p, B (p + 1), e, t2, t3, z2, z3, z4, z5⟩
      · have hb : agr [1015, 1016] W1 W := fun c o j z => (aW c o j z).symm
        exact GT_ag (y2 t (by omega) h2) hb (by decide)
/-- all targets -/
theorem tg_all {kb n C T tt : Nat} {B : Nat → Nat} {V W : HV} (h : PR n B V W) (hI : IM n C T tt B V W) : ∃ V' W', f_X5_checkTargets kb 0 0 V = some V' ∧ (∀ K : HV → Option HV, f_X12_readAll_L172 0 (fun V15 => f_X12_readAll_L323 0 K FU 0 V15) FU 0 W = K W') ∧ FS n B V W V' W' ∧ (V' 404 0 0 = 0 → V 404 0 0 = 0 ∧ (∀ c, c < C → ∀ im, im ≤ 16 → W 9000 0 c = nI im → ∀ j, j < im → GK W C (16 * c + j)) ∧ ∀ t, t < T → GT W C t) := by
  have hC := hI.2.1
  have hT := hI.2.2.2.1
  obtain ⟨V1, W1, a1, a2, a3, a4⟩ := tc_L (kb := kb) C 0 FU FU V W (by omega) (FU_gt (by omega)) (FU_gt (by omega)) h hI
  obtain ⟨V2, W2, b1, b2, b3, b4⟩ := tt_L (kb := kb) T 0 FU FU V1 W1 (by omega) (FU_gt (by omega)) (FU_gt (by omega)) a3.1 (IM_ag hI a3.2.1 a3.2.2.1 (by decide) (by decide))
  refine ⟨V2, W2, ?_, fun K => ?_, a3.trans b3, fun q => ?_⟩
  · unfold f_X5_checkTargets
    rw [jn_def]
    refine (a1 _).trans ?_
    rw [jn_def]
    exact b1 _
  · refine (a2 _).trans ?_
    exact b2 K
  · obtain ⟨y1, y2⟩ := b4 q
    obtain ⟨z1, z2⟩ := a4 y1
    have hb : agr [1015, 1016] W1 W := fun c o j z => (a3.2.2.1 c o j z).symm
    exact ⟨z1, fun c hc => z2 c (Nat.zero_le _) hc, fun t ht => GT_ag (y2 t (Nat.zero_le _) ht) hb (by decide)⟩
