/-! four granules -/
theorem low_l (M : Nat → Int32) (a : Nat) (i : Nat) (hi : i < 8) : (mw M a).toBitVec.getLsbD i = (M a &&& 255).toBitVec.getLsbD i := by
  unfold mw ldv ldv ldv ldv ldv
  rw [or_l, shl8_l, decide_eq_false (show ¬ ¬ i < 8 from fun q => q hi), Bool.and_false, Bool.false_and, Bool.false_or, Nat.add_zero]
theorem low_32 (M : Nat → Int32) (a : Nat) : ldv M a 1 0 &&& 32 = (mw M a &&& 255) &&& 32 := by
  have e1 : ldv M a 1 0 = M a &&& 255 := by
    unfold ldv ldv
    rw [Nat.add_zero]
    apply Int32.toBitVec_inj.mp
    apply BitVec.eq_of_getLsbD_eq
    intro i hi
    rw [or_l, shl8_l]
    have z : ∀ j, (0 : Int32).toBitVec.getLsbD j = false := fun j => by
      rw [show (0 : Int32).toBitVec = 0#32 from rfl, BitVec.getLsbD_zero]
    rw [z, Bool.and_false, Bool.false_or]
  rw [e1]
  apply Int32.toBitVec_inj.mp
  apply BitVec.eq_of_getLsbD_eq
  intro i hi
  rw [Int32.toBitVec_and, Int32.toBitVec_and, Int32.toBitVec_and, BitVec.getLsbD_and, BitVec.getLsbD_and, BitVec.getLsbD_and]
  have k1 : ∀ i, i < 32 → (32 : Int32).toBitVec.getLsbD i = decide (i = 5) := by decide
  rw [k1 i hi]
  by_cases q : i = 5
  · have k2 : (255 : Int32).toBitVec.getLsbD 5 = true := by decide
    rw [q, Int32.toBitVec_and (mw M a) 255, BitVec.getLsbD_and, low_l M a 5 (by decide), Int32.toBitVec_and, BitVec.getLsbD_and, k2]
    simp
  · rw [decide_eq_false q, Bool.and_false, Bool.and_false]
/-- what is left of a granule's tag -/
def gt (kb : Nat) (l : List Ob) (W : HV) (q : Nat) : Bool := (fil kb l (mC (W 2100 0) (W 2200 0) q)).2.2.2.2.2
theorem fg_C {kb q : Nat} {l : List Ob} {V W : HV} (hkb : kb ≤ 32) (h1 : 1 ≤ kb) (hq : q < 64 * kb) (hm : Rm kb V W) (hk : Mk kb l V) : ∃ V', f_X8_filterGranule kb 0 (nI q) V = some V' ∧ agr [2400] V V' ∧ (∀ g, V' 2400 0 g = if g = q then mk (gt kb l W q) (i2b (W 2300 0 q)) else V 2400 0 g) := by
  have e0 : nI q * 16 = nI (16 * q) := by rw [show (16 : Int32) = nI 16 from rfl, pk_mul, Nat.mul_comm]
  have e12 : nI (16 * q) + 12 = nI (16 * q + 12) := nI_add _ 12
  have e4 : nI (16 * q) + 4 = nI (16 * q + 4) := nI_add _ 4
  have l4 := load_C (V := V) (a := 16 * q + 4) (k := 4) hkb h1 (by decide) (by omega)
  have l12 := load_C (V := V) (a := 16 * q + 12) (k := 1) hkb h1 (by decide) (by omega)
  rw [show nI 4 = (4 : Int32) from rfl] at l4
  rw [show nI 1 = (1 : Int32) from rfl] at l12
  have m4 := mw_eq (a := 16 * q + 4) hm (by omega)
  have m12 := mw_eq (a := 16 * q + 12) hm (by omega)
  have hmk : V 2400 0 (16 * q / 16) = mk (i2b (W 2200 0 q)) (i2b (W 2300 0 q)) := by rw [show 16 * q / 16 = q by omega]; exact Rm_mk hm hq
  have hmark := marked1_C (V := V) (a := 16 * q) hkb (by omega) hmk
  have hm1 := mark1_C (V := V) (a := 16 * q) (b := false) hkb (by omega) hmk
  rw [show 16 * q / 16 = q by omega] at hm1
  have keep : gt kb l W q = i2b (W 2200 0 q) → ∃ V', some V = some V' ∧ agr [2400] V V' ∧ (∀ g, V' 2400 0 g = if g = q then mk (gt kb l W q) (i2b (W 2300 0 q)) else V 2400 0 g) := by
    intro z
    refine ⟨V, rfl, (agr_rfl V).sub (by decide), fun g => ?_⟩
    by_cases e : g = q
    · rw [if_pos e, e, z]; exact Rm_mk hm hq
    · rw [if_neg e]
  unfold f_X8_filterGranule
  rw [lt_def, e0, hmark, bnd_some]
  by_cases ht : i2b (W 2200 0 q) = true
  · rw [if_pos ht, e12, l12, bnd_some, low_32, m12]
    have gte : gt kb l W q = !gnb kb l (mC (W 2100 0) (W 2200 0) q) := by
      unfold gt fil
      show (i2b (W 2200 0 q) && !gnb kb l (mC (W 2100 0) (W 2200 0) q)) = _
      rw [ht, Bool.true_and]
    by_cases h32 : (mw (W 2100 0) (16 * q + 12) &&& 255) &&& 32 = 0
    · rw [if_pos h32, e4, l4, bnd_some]
      have m4' : ldv (V 2300 0) (16 * q + 4) 4 0 = mw (W 2100 0) (16 * q + 4) := m4
      rw [m4', marked_C hkb hk, bnd_some]
      have gne : gnb kb l (mC (W 2100 0) (W 2200 0) q) = (decide (uN (mw (W 2100 0) (16 * q + 4)) < 1024 * kb) && rvk l (uN (mw (W 2100 0) (16 * q + 4)) / 16)) := by
        unfold gnb
        show (decide ((mw (W 2100 0) (16 * q + 12) &&& 255) &&& 32 = 0) && decide (uN (mw (W 2100 0) (16 * q + 4)) < 1024 * kb) && rvk l (uN (mw (W 2100 0) (16 * q + 4)) / 16)) = _
        rw [decide_eq_true h32, Bool.true_and]
      rw [← gne]
      by_cases hg : gnb kb l (mC (W 2100 0) (W 2200 0) q) = true
      · rw [if_pos hg, hm1, bnd_some]
        refine ⟨_, rfl, agr_sv _ _ _ _ _, fun g => ?_⟩
        by_cases e : g = q
        · rw [if_pos e, e, sv_at, gte, hg]; rfl
        · rw [if_neg e, sv_ne (fun z => e z.2.2)]
      · rw [if_neg hg]
        exact keep (by rw [gte, bF hg, ht]; rfl)
    · rw [if_neg h32]
      refine keep ?_
      have : gnb kb l (mC (W 2100 0) (W 2200 0) q) = false := by
        unfold gnb
        show (decide ((mw (W 2100 0) (16 * q + 12) &&& 255) &&& 32 = 0) && _ && _) = false
        rw [decide_eq_false h32]; rfl
      rw [gte, this, ht]; rfl
  · rw [if_neg ht]
    refine keep ?_
    unfold gt fil
    show (i2b (W 2200 0 q) && _) = _
    rw [bF ht]; rfl
theorem gr_M {kb q : Nat} {l : List Ob} {W : HV} {k : Int32} {f : Nat} (hr : Rv kb l W) (hq : q < 64 * kb) (h61 : W 1061 0 0 = nI q) (hk : ¬ 4 ≤ k) : ∃ W', (∀ K : HV → Option HV, f_X12_sweep_L115 0 K (f + 1) k W = f_X12_sweep_L115 0 K f (k + 1) W') ∧ agr [1061, 2200, 2400, 2500, 2600, 2700, 2800, 2900] W W' ∧ (∀ i, i < 582 → cM W' i = cM W i) ∧ W' 1061 0 0 = nI (q + 1) ∧ (∀ g, W' 2200 0 g = if g = q then b2i (gt kb l W q) else W 2200 0 g) := by
  have hkb := hr.2.1
  have h10 := hr.2.2.1
  have e16 : 16 * nI q = nI (16 * q) := by rw [show (16 : Int32) = nI 16 from rfl, pk_mul]
  have hg := gcap_M (W := W) (q := q) (i := 582) (by omega) (by decide)
  rw [show nI 582 = (582 : Int32) from rfl] at hg
  have u := kM_U W 582 (mC (W 2100 0) (W 2200 0) q)
  have s61 : (kM W 582 (mC (W 2100 0) (W 2200 0) q)) 1061 0 0 = nI q := (u.2 1061 0 0 (by decide)).trans h61
  have iq : inb (nI q) 2048 := inb_nI (by omega) (by decide)
  have fin : ∀ (K : HV → Option HV) (b : Bool), b = gt kb l W q → (chk (inb ((kM W 582 (mC (W 2100 0) (W 2200 0) q)) 1061 0 0) 2048) <|
    lt (sv (kM W 582 (mC (W 2100 0) (W 2200 0) q)) 2200 0 ((kM W 582 (mC (W 2100 0) (W 2200 0) q)) 1061 0 0).toNatClampNeg (b2i b)) fun V112 =>
    lt (sv V112 1061 0 0 ((V112 1061 0 0) + 1)) fun V113 =>
    lt (k + 1) fun v114 =>
    f_X12_sweep_L115 0 K f v114 V113) = f_X12_sweep_L115 0 K f (k + 1) (sv (sv (kM W 582 (mC (W 2100 0) (W 2200 0) q)) 2200 0 q (b2i (gt kb l W q))) 1061 0 0 (nI (q + 1))) := by
    intro K b hb
    rw [s61, chk_t iq, lt_def, cl_nI (by omega), lt_def, sv_col (show ¬ 1061 = 2200 by decide), s61, nI_1, lt_def, hb]
  refine ⟨sv (sv (kM W 582 (mC (W 2100 0) (W 2200 0) q)) 2200 0 q (b2i (gt kb l W q))) 1061 0 0 (nI (q + 1)), fun K => ?_, ((u.2.app (agr_sv _ _ _ _ _)).app (agr_sv _ _ _ _ _)).sub (by decide), fun i hi => ?_, sv_at _ _ _ _ _, fun g => ?_⟩
  rotate_left
  · rw [cM_fr ((agr_sv _ 2200 0 q _).app (agr_sv _ 1061 0 0 _)) (by decide), u.1, up_ne (by omega)]
  · rw [sv_col (by decide)]
    by_cases e : g = q
    · rw [if_pos e, e, sv_at]
    · rw [if_neg e, sv_ne (fun z => e z.2.2), u.2 2200 0 g (by decide)]
  conv => lhs; unfold f_X12_sweep_L115
  rw [if_neg hk, h10, h61, dv16 (by omega), show 1024 * kb / 16 = 64 * kb by omega, if_neg (fun z => by have := (nI_leI (by omega) (by omega)).mp z; omega), e16, hg, bnd_some, chk_t i582, jn_def, jn_def, c582, cM_5 (g_at u)]
  have gte : gt kb l W q = (i2b (W 2200 0 q) && !gnb kb l (mC (W 2100 0) (W 2200 0) q)) := rfl
  have e5 : (mC (W 2100 0) (W 2200 0) q).2.2.2.2.2 = i2b (W 2200 0 q) := rfl
  rw [e5]
  by_cases ht : i2b (W 2200 0 q) = true
  · have hgo := isGone_M (i := 582) (Rv_fr hr u.2 (by decide) (by decide)) (by decide)
    rw [g_at u, show nI 582 = (582 : Int32) from rfl] at hgo
    rw [if_pos ht, hgo, bnd_some]
    by_cases hgn : gnb kb l (mC (W 2100 0) (W 2200 0) q) = true
    · rw [if_pos hgn]; exact fin K false (by rw [gte, hgn, ht]; rfl)
    · rw [if_neg hgn]; exact fin K true (by rw [gte, bF hgn, ht]; rfl)
  · rw [if_neg ht]; exact fin K false (by rw [gte, bF ht]; rfl)
