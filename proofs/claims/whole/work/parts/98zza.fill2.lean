theorem mki_C {kb n C T tt p : Nat} {B : Nat → Nat} {V W : HV} (h : FC kb n C T tt B V W) (hp : p + 2 < n) (hiv : IV (B p) (B (p + 1)) (B (p + 2))) (h4 : B p = 4 → B (p + 1) < C) : f_X5_makeImport kb 0 0 (nI p) V = some (kC (kC V 582 (nm 0)) 582 (icp W (B p) (B (p + 1)) (B (p + 2)))) := by
  obtain ⟨k1, k2, k3, k4, k5, k6, k7, k8, k9⟩ := id h
  have hn := k3.1
  have hC := k4.2.1
  have b0 := (k3.2.2.2.1 p (by omega)).2.2
  have b1 := (k3.2.2.2.1 (p + 1) (by omega)).2.2
  have b2 := (k3.2.2.2.1 (p + 2) (by omega)).2.2
  have u := kC_U V 582 (nm 0)
  have k3' : PR n B (kC V 582 (nm 0)) W := PR_fr k3 u.2 (agr_rfl W) (by decide) (by decide)
  have v807 : (kC V 582 (nm 0)) 807 0 0 = nI C := (u.2 807 0 0 (by decide)).trans k9
  have v110 : ∀ c, (kC V 582 (nm 0)) 110 c 0 = V 110 c 0 := fun c => u.2 110 c 0 (by decide)
  have v111 : ∀ c, (kC V 582 (nm 0)) 111 c 0 = V 111 c 0 := fun c => u.2 111 c 0 (by decide)
  unfold f_X5_makeImport
  rw [nI_1, show nI p + 2 = nI (p + 2) from nI_add p 2, byte_C k3 (by omega), bnd_some, byte_C k3 (by omega), bnd_some, clear_C, lt_def]
  generalize kC V 582 (nm 0) = V3 at *
  rw [byte_C k3' (by omega), bnd_some]
  unfold icp
  rcases hiv with k0 | ⟨k0, a1, a2⟩ | ⟨k0, a1, a2, a3⟩ | ⟨k0, a1, a2, a3⟩ | ⟨k0, a1, a2, a3⟩
  · rw [if_pos (show nI (B p) = 0 by rw [k0]; rfl), if_pos k0, set_C, lt_def, show (16 : Int32) = nI 16 from rfl, pk_mul, nI_add]
  · rw [if_neg (show ¬ nI (B p) = 0 by rw [k0]; decide), if_pos (show nI (B p) = 1 by rw [k0]; rfl), if_neg (show ¬ B p = 0 by omega), if_pos k0, set_C, lt_def]
  · rw [if_neg (show ¬ nI (B p) = 0 by rw [k0]; decide), if_neg (show ¬ nI (B p) = 1 by rw [k0]; decide), if_pos (show nI (B p) = 2 by rw [k0]; rfl), if_neg (show ¬ B p = 0 by omega), if_neg (show ¬ B p = 1 by omega), if_pos k0, set_C, lt_def]
  · rw [if_neg (show ¬ nI (B p) = 0 by rw [k0]; decide), if_neg (show ¬ nI (B p) = 1 by rw [k0]; decide), if_neg (show ¬ nI (B p) = 2 by rw [k0]; decide), if_pos (show nI (B p) = 3 by rw [k0]; rfl), if_neg (show ¬ B p = 0 by omega), if_neg (show ¬ B p = 1 by omega), if_neg (show ¬ B p = 2 by omega), if_pos k0, lt_def, set_C, lt_def, show (8 : Int32) = nI 8 from rfl, nI_add, nI_add]
  · have hx := h4 k0
    rw [if_neg (show ¬ nI (B p) = 0 by rw [k0]; decide), if_neg (show ¬ nI (B p) = 1 by rw [k0]; decide), if_neg (show ¬ nI (B p) = 2 by rw [k0]; decide), if_neg (show ¬ nI (B p) = 3 by rw [k0]; decide), if_neg (show ¬ B p = 0 by omega), if_neg (show ¬ B p = 1 by omega), if_neg (show ¬ B p = 2 by omega), if_neg (show ¬ B p = 3 by omega)]
    have hat : f_X10_compartmentAt kb 0 (nI (B (p + 1))) V3 = some (some (B (p + 1))) := by
      unfold f_X10_compartmentAt
      rw [if_neg (nI_pos (by omega)), v807, if_neg (fun q => by have := (nI_leI (by omega) (by omega)).mp q; omega), if_neg (show ¬ (8 : Int32) ≤ nI (B (p + 1)) from fun q => by have := (nI_leI (a := 8) (by decide) (by omega)).mp q; omega), chk_t (inb_nI (by omega) (by decide)), cl_nI (by omega)]
    obtain ⟨⟨-, -, l3, l4⟩, -, -, m3, m4⟩ := k6 (B (p + 1)) hx
    rw [hat, bnd_some, onn_some, chk_t (by omega)]
    unfold f_X1_globalsTo
    rw [set_C, lt_def, lt_def, v110, v111, l3, l4, m3, m4]
/-- one import -/
theorem fi_1 {kb n C T tt c k im it : Nat} {B : Nat → Nat} {V W Y : HV} (h : FC kb n C T tt B V W) (hY : ∀ c, c ∈ [1018, 4200, 4300, 4400] → ∀ o j, W c o j = Y c o j) (hc : c < C) (him : im ≤ 16) (hk : k < im) (h9 : W 9000 0 c = nI im) (h5 : V 105 c 0 = nI im) (h6 : V 106 c 0 = nI it) (hit : it + 3 * im ≤ n) (hii : II B W (16 * c + k) (it + 3 * k)) (hm : MB kb Y V W (cg W c + cwN W c + k)) : ∃ V' W', (∀ (f : Nat) (K : HV → Option HV), f_X5_build_L98 0 0 kb (nI c) K (f + 1) (nI k) V = f_X5_build_L98 0 0 kb (nI c) K f (nI (k + 1)) V') ∧ (∀ (f : Nat) (K : HV → Option HV), f_X12_fill_L48 0 (nI c) K (f + 1) (nI k) W = f_X12_fill_L48 0 (nI c) K f (nI (k + 1)) W') ∧ agr [0, 1, 2, 3, 4, 5, 2300, 2400] V V' ∧ agr [2100, 2200, 2400, 2500, 2600, 2700, 2800, 2900] W W' ∧ (∀ i, i < 582 → cM W' i = cM W i) ∧ MB kb Y V' W' (cg W c + cwN W c + (k + 1)) := by
  obtain ⟨k1, k2, k3, k4, k5, k6, k7, k8, k9⟩ := id h
  have hn := k3.1
  have hC := k4.2.1
  have ic : inb (nI c) 8 := inb_nI (by omega) (by decide)
  have exm : xN W 9000 c = im := xN_eq h9 (by omega)
  obtain ⟨hi1, hi2⟩ := FC_hi h hc
  rw [exm] at hi2
  obtain ⟨u94, u91, u92, u93, uiv⟩ := hii
  have hgk := k5 c hc im him h9 k hk
  have hp : it + 3 * k + 2 < n := by omega
  have e16 : (16 : Int32) * nI c + nI k = nI (16 * c + k) := by rw [show (16 : Int32) = nI 16 from rfl, pk_mul, nI_add]
  have e3 : nI it + nI k * 3 = nI (it + 3 * k) := by rw [show (3 : Int32) = nI 3 from rfl, pk_mul, nI_add, Nat.mul_comm]
  have hi0 : 16 * c + k < 128 := by omega
  generalize it + 3 * k = p at *
  generalize 16 * c + k = i at *
  have ii : inb (nI i) 128 := inb_nI (by omega) (by decide)
  have b0 := (k3.2.2.2.1 p (by omega)).2.2
  have b1 := (k3.2.2.2.1 (p + 1) (by omega)).2.2
  have b2 := (k3.2.2.2.1 (p + 2) (by omega)).2.2
  have h0 : B p = 0 → B (p + 1) < C ∧ ∃ e, W 4400 0 (B (p + 1)) = nI e ∧ B (p + 2) < e ∧ e ≤ 8 := fun z => by
    obtain ⟨x, y, e, q1, q2, q3, q4, q5, q6⟩ := hgk.1 (by rw [u91, z])
    have ex : x = B (p + 1) := nI_inj (by omega) (by omega) (q1.symm.trans u92)
    by_cases hy31 : y < 2147483648
    · have ey : y = B (p + 2) := nI_inj hy31 (by omega) (q2.symm.trans u93)
      rw [ex] at q3 q4
      exact ⟨q3, e, q4, by omega, q6⟩
    · omega
  have h4 : B p = 4 → B (p + 1) < C := fun z => by
    obtain ⟨x, q1, q2⟩ := hgk.2 (by rw [u91, z])
    have ex : x = B (p + 1) := nI_inj (by omega) (by omega) (q1.symm.trans u92)
    omega
  obtain ⟨g1, g2⟩ := gd_icp h hY uiv h0 h4
  have hmk := mki_C h hp uiv h4
  have hk4 : B p ≤ 4 := by
    rcases uiv with z | z | z | z | z <;> omega
  -- the reference's capability
  have hM : ∀ (f : Nat) (K : HV → Option HV), f_X12_fill_L48 0 (nI c) K (f + 1) (nI k) W = (chk (inb (nI c) 8) <| bnd (f_X12_putCapability 0 (((kM W 582 (icp W (B p) (B (p + 1)) (B (p + 2)))) 4100 0 c) + (16 * nI k)) 582 true (kM W 582 (icp W (B p) (B (p + 1)) (B (p + 2))))) fun p22 => lt (nI k + 1) fun v23 => f_X12_fill_L48 0 (nI c) K f v23 p22) := by
    intro f K
    conv => lhs; unfold f_X12_fill_L48
    rw [chk_t ic, cl_nI (show c < 2147483648 by omega), h9, if_neg (fun q => by have := (nI_leI (by omega) (by omega)).mp q; omega), e16, chk_t ii, lt_def, chk_t ii, lt_def, chk_t ii, cl_nI (show i < 2147483648 by omega), u91, u92, u93, jn_def]
    unfold icp
    rcases (show B p = 0 ∨ B p = 1 ∨ B p = 2 ∨ B p = 3 ∨ B p = 4 by omega) with k0 | k0 | k0 | k0 | k0
    · have e0 : (16 : Int32) * nI (B (p + 1)) + nI (B (p + 2)) = nI (16 * B (p + 1) + B (p + 2)) := by rw [show (16 : Int32) = nI 16 from rfl, pk_mul, nI_add]
      rw [if_pos (show nI (B p) = 0 by rw [k0]; rfl), if_pos k0, show (582 : Int32) = nI 582 from rfl, make_M (by decide), bnd_some, e0]
    · rw [if_neg (show ¬ nI (B p) = 0 by rw [k0]; decide), if_pos (show nI (B p) = 1 by rw [k0]; rfl), if_neg (show ¬ B p = 0 by omega), if_pos k0, show (582 : Int32) = nI 582 from rfl, make_M (by decide), bnd_some]
    · rw [if_neg (show ¬ nI (B p) = 0 by rw [k0]; decide), if_neg (show ¬ nI (B p) = 1 by rw [k0]; decide), if_pos (show nI (B p) = 2 by rw [k0]; rfl), if_neg (show ¬ B p = 0 by omega), if_neg (show ¬ B p = 1 by omega), if_pos k0, show (582 : Int32) = nI 582 from rfl, make_M (by decide), bnd_some]
    · rw [if_neg (show ¬ nI (B p) = 0 by rw [k0]; decide), if_neg (show ¬ nI (B p) = 1 by rw [k0]; decide), if_neg (show ¬ nI (B p) = 2 by rw [k0]; decide), if_pos (show nI (B p) = 3 by rw [k0]; rfl), if_neg (show ¬ B p = 0 by omega), if_neg (show ¬ B p = 1 by omega), if_neg (show ¬ B p = 2 by omega), if_pos k0, show (582 : Int32) = nI 582 from rfl, make_M (by decide), bnd_some, show (8 : Int32) = nI 8 from rfl, nI_add, nI_add]
    · have hx := h4 k0
      have ix : inb (nI (B (p + 1))) 8 := inb_nI (by omega) (by decide)
      rw [if_neg (show ¬ nI (B p) = 0 by rw [k0]; decide), if_neg (show ¬ nI (B p) = 1 by rw [k0]; decide), if_neg (show ¬ nI (B p) = 2 by rw [k0]; decide), if_neg (show ¬ nI (B p) = 3 by rw [k0]; decide), if_neg (show ¬ B p = 0 by omega), if_neg (show ¬ B p = 1 by omega), if_neg (show ¬ B p = 2 by omega), if_neg (show ¬ B p = 3 by omega), chk_t ix, chk_t ix, chk_t ix, cl_nI (show B (p + 1) < 2147483648 by omega), show (582 : Int32) = nI 582 from rfl, make_M (by decide), bnd_some]
  generalize icp W (B p) (B (p + 1)) (B (p + 2)) = y at *
  have uV : UC V (up (cC V) 582 y) (kC (kC V 582 (nm 0)) 582 y) := by
    have h1 := (kC_U V 582 (nm 0))
    have h2 := kC_U (kC V 582 (nm 0)) 582 y
    rw [h1.1, up_up] at h2
    exact h1.trans h2
  have uW := kM_U W 582 y
  have aV := uV.2
  have aW := uW.2
  have c5 : cC (kC (kC V 582 (nm 0)) 582 y) 582 = y := by rw [uV.1, up_at]
  have m5 : cM (kM W 582 y) 582 = y := by rw [uW.1, up_at]
  have hcm : ∀ i, i < 582 → cM (kM W 582 y) i = cM W i := fun i hi => by rw [uW.1, up_ne (by omega)]
  have hm' : MB kb Y (kC (kC V 582 (nm 0)) 582 y) (kM W 582 y) (cg W c + cwN W c + k) := by
    obtain ⟨m1, m2, m3, m4⟩ := hm
    exact ⟨Rm_fr aV aW (by decide) (by decide) m1, Mgd_fr aW (by decide) m2, fun g hg => by rw [aW 2300 0 g (by decide)]; exact m3 g hg, fun g y1 y2 => by rw [aW 2200 0 g (by decide)]; exact m4 g y1 y2⟩
  generalize kC (kC V 582 (nm 0)) 582 y = V5 at *
  generalize kM W 582 y = W5 at *
  obtain ⟨V', W', x1, x2, x3, x4, x5⟩ := fi_w (q := cg W c + cwN W c + k) k1 k2 hm' (by omega) (Nat.le_refl _) g1 g2 c5 m5
  refine ⟨V', W', fun f K => ?_, fun f K => ?_, (aV.app x3).sub (by decide), (aW.app x4).sub (by decide), fun i hi => ?_, x5⟩
  · conv => lhs; unfold f_X5_build_L98
    have et : i2b (V5 5 582 0) = true := by
      have := congrArg (fun c : Cp => c.2.2.2.2.2) c5
      exact this.trans g2
    have e109 : V5 109 c 0 + nI k * 16 = nI (16 * (cg W c + cwN W c + k)) := by
      rw [aV 109 c 0 (by decide), (k6 c hc).1.2.1, show (16 : Int32) = nI 16 from rfl, pk_mul, nI_add]
      congr 1
      omega
    rw [cl_nI (show c < 2147483648 by omega), h5, if_neg (fun q => by have := (nI_leI (by omega) (by omega)).mp q; omega), h6, e3, hmk, bnd_some, et, e109, x1, bnd_some, lt_def, nI_1]
  · have e41 : W5 4100 0 c + 16 * nI k = nI (16 * (cg W c + cwN W c + k)) := by
      rw [aW 4100 0 c (by decide), (k6 c hc).2.2.1, show (16 : Int32) = nI 16 from rfl, pk_mul, nI_add]
      congr 1
      omega
    rw [hM f K, chk_t ic, e41, x2, bnd_some, lt_def, nI_1]
  · rw [cM_fr x4 (by decide)]; exact hcm i hi
theorem fi_L {kb n C T tt c im it : Nat} {B : Nat → Nat} {Y : HV} (hc : c < C) (him : im ≤ 16) (hit : it + 3 * im ≤ n) : ∀ (r k f f' : Nat) (V W : HV), k + r = im → r < f → r < f' → FC kb n C T tt B V W → (∀ c, c ∈ [1018, 4200, 4300, 4400] → ∀ o j, W c o j = Y c o j) → W 9000 0 c = nI im → V 105 c 0 = nI im → V 106 c 0 = nI it → (∀ j, j < im → II B W (16 * c + j) (it + 3 * j)) → MB kb Y V W (cg W c + cwN W c + k) → ∃ V' W', (∀ K : HV → Option HV, f_X5_build_L98 0 0 kb (nI c) K f (nI k) V = K V') ∧ (∀ K : HV → Option HV, f_X12_fill_L48 0 (nI c) K f' (nI k) W = K W') ∧ agr [0, 1, 2, 3, 4, 5, 2300, 2400] V V' ∧ agr [2100, 2200, 2400, 2500, 2600, 2700, 2800, 2900] W W' ∧ (∀ i, i < 582 → cM W' i = cM W i) ∧ MB kb Y V' W' (cg W c + cwN W c + im)
  | _, _, 0, _, _, _, _, hf, _, _, _, _, _, _, _, _ => absurd hf (by omega)
  | _, _, _, 0, _, _, _, _, hf, _, _, _, _, _, _, _ => absurd hf (by omega)
  | 0, k, f + 1, f' + 1, V, W, hk, _, _, h, hY, h9, h5, h6, hii, hm => by
    have hC := h.2.2.2.1.2.1
    refine ⟨V, W, fun K => ?_, fun K => ?_, (agr_rfl V).sub (by decide), (agr_rfl W).sub (by decide), fun _ _ => rfl, by rw [show im = k by omega]; exact hm⟩
    · unfold f_X5_build_L98
      rw [cl_nI (by omega), h5, if_pos (nI_le (by omega) (by omega))]
    · unfold f_X12_fill_L48
      rw [chk_t (inb_nI (by omega) (by decide)), cl_nI (by omega), h9, if_pos (nI_le (by omega) (by omega))]
  | r + 1, k, f + 1, f' + 1, V, W, hk, hf, hf', h, hY, h9, h5, h6, hii, hm => by
    obtain ⟨V1, W1, a1, a2, a3, a4, a5, a6⟩ := fi_1 h hY hc him (by omega) h9 h5 h6 hit (hii k (by omega)) hm
    have ec : cg W1 c = cg W c := cg_fr a4 (by decide) c
    have ew : cwN W1 c = cwN W c := by unfold cwN; rw [xN_fr a4 (by decide)]
    obtain ⟨V', W', x1, x2, x3, x4, x5, x6⟩ := fi_L (kb := kb) (it := it) (Y := Y) hc him hit r (k + 1) f f' V1 W1 (by omega) (by omega) (by omega) (FC_ag h a3 a4 (by decide) (by decide)) (fun l hl o j => (a4 l o j (by simp only [List.mem_cons, List.not_mem_nil, or_false] at hl ⊢; omega)).trans (hY l hl o j)) ((a4 9000 0 c (by decide)).trans h9) ((a3 105 c 0 (by decide)).trans h5) ((a3 106 c 0 (by decide)).trans h6) (fun j hj => II_ag (hii j hj) a4 (by decide)) (by rw [ec, ew]; exact a6)
    rw [ec, ew] at x6
    refine ⟨V', W', fun K => ?_, fun K => ?_, a3.trans x3, a4.trans x4, fun i hi => (x5 i hi).trans (a5 i hi), x6⟩
    · rw [a1]; exact x1 K
    · rw [a2]; exact x2 K
def flC : List Nat := [0, 1, 2, 3, 4, 5, 2300, 2400]
def flM : List Nat := [2100, 2200, 2400, 2500, 2600, 2700, 2800, 2900]
theorem fl_L {kb n C T tt : Nat} {B : Nat → Nat} {Y : HV} : ∀ (r k f f' : Nat) (V W : HV), k + r = C → r < f → r < f' → FC kb n C T tt B V W → (∀ c, c ∈ [1018, 4200, 4300, 4400] → ∀ o j, W c o j = Y c o j) → MB kb Y V W (cg W k) → ∃ V' W', (∀ K : HV → Option HV, f_X5_build_L28 0 0 kb K f (nI k) V = K V') ∧ (∀ K : HV → Option (Int32 × HV), f_X12_boot_L97 0 K f' (nI k) W = K W') ∧ agr flC V V' ∧ agr flM W W' ∧ (∀ i, i < 582 → cM W' i = cM W i) ∧ MB kb Y V' W' (cg W C)
  | _, _, 0, _, _, _, _, hf, _, _, _, _ => absurd hf (by omega)
  | _, _, _, 0, _, _, _, _, hf, _, _, _ => absurd hf (by omega)
  | 0, k, f + 1, f' + 1, V, W, hk, _, _, h, hY, hm => by
    have hC := h.2.2.2.1.2.1
    refine ⟨V, W, fun K => ?_, fun K => ?_, (agr_rfl V).sub (by decide), (agr_rfl W).sub (by decide), fun _ _ => rfl, by rw [show C = k by omega]; exact hm⟩
    · unfold f_X5_build_L28
      rw [h.2.2.2.1.2.2.2.2.1, if_pos (nI_le (by omega) (by omega))]
    · unfold f_X12_boot_L97
      rw [h.2.2.2.1.2.2.2.2.2.1, if_pos (nI_le (by omega) (by omega))]
  | r + 1, k, f + 1, f' + 1, V, W, hk, hf, hf', h, hY, hm => by
    have hI := h.2.2.2.1
    have hC := hI.2.1
    have ik : inb (nI k) 8 := inb_nI (by omega) (by decide)
    obtain ⟨w, gl, e, im, it, ct, c1, c2, c3, c4, c5, c6, c7, d1, d2, d3, d4, d5, d6, d7, d8, d9, d10, d11, d12, d13⟩ := hI.2.2.2.2.2.2.2.2.1 k (by omega)
    obtain ⟨V1, W1, a1, a2, a3, a4, a5⟩ := fc_L (kb := kb) (w := w) (ct := ct) (Y := Y) (c := k) (by omega) (4 * w) 0 FU FU V W (by omega) (FU_gt (by omega)) (FU_gt (by omega)) h d1 d2 c2 d10 d11 c7 hm
    have h1 : FC kb n C T tt B V1 W1 := FC_ag h a3 a4 (by decide) (by decide)
    have ec : ∀ c, cg W1 c = cg W c := cg_fr a4 (by decide)
    have exm : xN W1 9000 k = im := xN_eq ((a4 9000 0 k (by decide)).trans d8) (by omega)
    obtain ⟨hi1, hi2⟩ := FC_hi h1 (show k < C by omega)
    have m1 : MB kb Y V1 W1 (cg W1 k + cwN W1 k + 0) := ⟨a5.1, a5.2.1, a5.2.2.1, fun g y1 y2 => a5.2.2.2 g (by rw [← ec]; omega) y2⟩
    obtain ⟨V2, W2, b1, b2, b3, b4, b5, b6⟩ := fi_L (kb := kb) (it := it) (Y := Y) (c := k) (by omega) c5 c6 im 0 FU FU V1 W1 (by omega) (FU_gt (by omega)) (FU_gt (by omega)) h1 (fun l hl o j => (a4 l o j (by simp only [List.mem_cons, List.not_mem_nil, or_false] at hl ⊢; omega)).trans (hY l hl o j)) ((a4 9000 0 k (by decide)).trans d8) ((a3 105 k 0 (by decide)).trans d7) ((a3 106 k 0 (by decide)).trans d9) (fun j hj => II_ag (d13 j hj) a4 (by decide)) m1
    have aV : agr flC V V2 := (a3.app b3).sub (by decide)
    have aW : agr flM W W2 := (a4.app b4).sub (by decide)
    have ec2 : ∀ c, cg W2 c = cg W c := cg_fr aW (by decide)
    have m2 : MB kb Y V2 W2 (cg W2 (k + 1)) := ⟨b6.1, b6.2.1, b6.2.2.1, fun g y1 y2 => b6.2.2.2 g (by rw [ec2] at y1; rw [ec (k + 1)] at hi2; omega) y2⟩
    obtain ⟨V', W', x1, x2, x3, x4, x5, x6⟩ := fl_L (kb := kb) (n := n) (B := B) (Y := Y) r (k + 1) f f' V2 W2 (by omega) (by omega) (by omega) (FC_ag h aV aW (by decide) (by decide)) (fun l hl o j => (aW l o j (by unfold flM; simp only [List.mem_cons, List.not_mem_nil, or_false] at hl ⊢; omega)).trans (hY l hl o j)) m2
    rw [ec2] at x6
    refine ⟨V', W', fun K => ?_, fun K => ?_, aV.trans x3, aW.trans x4, fun i hi => (x5 i hi).trans ((b5 i hi).trans (by rw [cM_fr a4 (by decide)])), x6⟩
    · unfold f_X5_build_L28
      rw [hI.2.2.2.2.1, if_neg (fun q => by have := (nI_leI (by omega) (by omega)).mp q; omega), if_neg (show ¬ (8 : Int32) ≤ nI k from fun q => by have := (nI_leI (a := 8) (by decide) (by omega)).mp q; omega), chk_t ik, jn_def]
      refine (a1 _).trans ?_
      rw [jn_def]
      refine (b1 _).trans ?_
      rw [lt_def, nI_1]
      exact x1 K
    · have hfl : f_X12_fill 0 (nI k) W = some W2 := by
        unfold f_X12_fill
        rw [jn_def]
        refine (a2 _).trans ?_
        rw [jn_def]
        exact b2 _
      unfold f_X12_boot_L97
      rw [hI.2.2.2.2.2.1, if_neg (fun q => by have := (nI_leI (by omega) (by omega)).mp q; omega), hfl, bnd_some, lt_def, nI_1]
      exact x2 K
