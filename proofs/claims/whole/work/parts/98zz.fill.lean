/-! the compartments' memory -/
def MB (kb : Nat) (Y V W : HV) (g0 : Nat) : Prop := Rm kb V W ∧ Mgd kb Y [] W ∧ (∀ g, g < 64 * kb → i2b (W 2300 0 g) = false) ∧ (∀ g, g0 ≤ g → g < 64 * kb → i2b (W 2200 0 g) = false)
theorem byt0 (x : Int32) : byt x 0 = x.toInt8.toInt32 := (lft_byt x (k := 0) (by decide)).symm
theorem and8 (x : Int32) : (x &&& 255).toInt8 = x.toInt8 := by
  apply low8
  intro i hi
  rw [Int32.toBitVec_and, BitVec.getLsbD_and]
  have key : ∀ i, i < 8 → (255 : Int32).toBitVec.getLsbD i = true := by decide
  rw [key i hi, Bool.and_true]
/-- what a compartment's fill needs, and keeps -/
def FC (kb n C T tt : Nat) (B : Nat → Nat) (V W : HV) : Prop := 1 ≤ kb ∧ kb ≤ 32 ∧ PR n B V W ∧ IM n C T tt B V W ∧ (∀ c, c < C → ∀ im, im ≤ 16 → W 9000 0 c = nI im → ∀ j, j < im → GK W C (16 * c + j)) ∧ (∀ c, c < C → LcC W V c ∧ LcM W W c) ∧ (∀ t, t < T → LtV W V C t ∧ LtM W W C t) ∧ 16 * sg W C T + 16 ≤ 1024 * kb ∧ V 807 0 0 = nI C
theorem FC_ag {kb n C T tt : Nat} {B : Nat → Nat} {cs ds : List Nat} {V V' W W' : HV} (h : FC kb n C T tt B V W) (hV : agr cs V V') (hW : agr ds W W') (h1 : ∀ l ∈ [102, 103, 104, 105, 106, 107, 108, 109, 110, 111, 402, 403, 404, 405, 406, 407, 408, 707, 708, 807, 2700, 2800, 3100], l ∉ cs) (h2 : ∀ l ∈ [1013, 1014, 1015, 1016, 1018, 1019, 3200, 4000, 4100, 4200, 4300, 4400, 4500, 4600, 5100, 5500, 5600, 5700, 8800, 8900, 9000, 9100, 9200, 9300, 9400, 9500, 9600, 9700, 9800, 9900], l ∉ ds) : FC kb n C T tt B V' W' := by
  obtain ⟨a1, a2, a3, a4, a5, a6, a7, a8, a9⟩ := h
  have mm1 : ∀ (L : List Nat), (∀ l ∈ L, l ∈ [102, 103, 104, 105, 106, 107, 108, 109, 110, 111, 402, 403, 404, 405, 406, 407, 408, 707, 708, 807, 2700, 2800, 3100]) → ∀ l ∈ L, l ∉ cs := fun L hL l hl => h1 l (hL l hl)
  have mm2 : ∀ (L : List Nat), (∀ l ∈ L, l ∈ [1013, 1014, 1015, 1016, 1018, 1019, 3200, 4000, 4100, 4200, 4300, 4400, 4500, 4600, 5100, 5500, 5600, 5700, 8800, 8900, 9000, 9100, 9200, 9300, 9400, 9500, 9600, 9700, 9800, 9900]) → ∀ l ∈ L, l ∉ ds := fun L hL l hl => h2 l (hL l hl)
  have ec : ∀ c, cg W' c = cg W c := cg_fr hW (mm2 _ (by decide))
  have es : ∀ t, sg W' C t = sg W C t := sg_fr hW (mm2 _ (by decide))
  have ew : ∀ c, cwN W' c = cwN W c := fun c => by unfold cwN; rw [xN_fr hW (h2 _ (by decide))]
  refine ⟨a1, a2, PR_fr a3 hV hW (mm1 _ (by decide)) (mm2 _ (by decide)), IM_ag a4 hV hW (mm1 _ (by decide)) (mm2 _ (by decide)), fun c hc im him em j hj => GK_ag (a5 c hc im him (by rw [← hW 9000 0 c (h2 _ (by decide))]; exact em) j hj) hW (mm2 _ (by decide)), fun c hc => ⟨?_, ?_⟩, fun t ht => ⟨?_, ?_⟩, by rw [es]; exact a8, by rw [hV 807 0 0 (h1 _ (by decide))]; exact a9⟩
  · have := (a6 c hc).1
    unfold LcC at this ⊢
    rw [ec, ec, ew, xN_fr hW (h2 _ (by decide)), hV 108 c 0 (h1 _ (by decide)), hV 109 c 0 (h1 _ (by decide)), hV 110 c 0 (h1 _ (by decide)), hV 111 c 0 (h1 _ (by decide))]
    exact this
  · have := (a6 c hc).2
    unfold LcM at this ⊢
    rw [ec, ec, ew, xN_fr hW (h2 _ (by decide)), hW 4000 0 c (h2 _ (by decide)), hW 4100 0 c (h2 _ (by decide)), hW 4200 0 c (h2 _ (by decide)), hW 4300 0 c (h2 _ (by decide))]
    exact this
  · have := (a7 t ht).1
    unfold LtV at this ⊢
    rw [es, es, hV 707 t 0 (h1 _ (by decide)), hV 708 t 0 (h1 _ (by decide))]
    exact this
  · have := (a7 t ht).2
    unfold LtM at this ⊢
    rw [es, es, hW 5600 0 t (h2 _ (by decide)), hW 5700 0 t (h2 _ (by decide))]
    exact this
theorem FC_hi {kb n C T tt c : Nat} {B : Nat → Nat} {V W : HV} (h : FC kb n C T tt B V W) (hc : c < C) : cg W (c + 1) < 64 * kb ∧ cg W (c + 1) = cg W c + cwN W c + xN W 9000 c + xN W 8900 c := by
  have a := cg_mono (W := W) (a := c + 1) C (by omega)
  have b := sg_ge (W := W) (C := C) T
  have d := h.2.2.2.2.2.2.2.1
  exact ⟨by omega, rfl⟩
/-- one byte of code -/
theorem fc_1 {kb a : Nat} {x y : Int32} {Y V W : HV} {g0 : Nat} (h1 : 1 ≤ kb) (hkb : kb ≤ 32) (h : MB kb Y V W g0) (ha : a < 1024 * kb) (hg : g0 ≤ a / 16) (hxy : x.toInt8 = y.toInt8) : ∃ V', f_X8_write kb 0 (nI a) 1 x V = some V' ∧ agr [2300, 2400] V V' ∧ MB kb Y V' (sv W 2100 0 a (y.toInt8.toInt32)) g0 := by
  obtain ⟨m1, m2, m3, m4⟩ := h
  have hga : a / 16 < 64 * kb := by omega
  have hmk := Rm_mk m1 hga
  rw [m4 _ hg hga, m3 _ hga] at hmk
  obtain ⟨V', e1, e2, e3, e4⟩ := write_C (n := 1) (x := x) hkb h1 (by decide) (by decide) (by omega) hmk
  have aW : agr [2100] W (sv W 2100 0 a (y.toInt8.toInt32)) := agr_sv _ _ _ _ _
  have ew : (sv W 2100 0 a (y.toInt8.toInt32)) 2100 0 = wr (W 2100 0) a 1 x := by
    rw [sv_row]
    funext j
    unfold wr
    by_cases e : j = a
    · rw [if_pos e, if_pos (by omega), e, Nat.sub_self, byt0, hxy]
    · rw [if_neg e, if_neg (by omega)]
  refine ⟨V', e1, e4, ⟨fun j hj => ?_, fun g hg' => ?_⟩, ?_, fun g hg' => ?_, fun g hg1 hg2 => ?_⟩
  · rw [e2, ew]
    exact mag_wr m1.1 j hj
  · show V' 2400 0 g = mk (i2b ((sv W 2100 0 a (y.toInt8.toInt32)) 2200 0 g)) (i2b ((sv W 2100 0 a (y.toInt8.toInt32)) 2300 0 g))
    rw [e3, aW 2200 0 g (by decide), aW 2300 0 g (by decide)]
    by_cases e : g = a / 16
    · rw [e, um_at, m4 _ hg hga, m3 _ hga]
    · rw [um_ne e]; exact Rm_mk m1 hg'
  · refine Mgd_sub (fun q hq => ?_) m2
    have hne : q ≠ a / 16 := fun e => by
      rw [aW 2200 0 q (by decide), e, m4 _ hg hga] at hq
      exact absurd hq (by decide)
    rw [ew]
    exact mC_wr_ne hne (by omega) (by decide) (aW 2200 0 q (by decide))
  · rw [aW 2300 0 g (by decide)]; exact m3 g hg'
  · rw [aW 2200 0 g (by decide)]; exact m4 g hg1 hg2
theorem fc_L {kb n C T tt c w ct : Nat} {B : Nat → Nat} {Y : HV} (hc : c < C) : ∀ (r k f f' : Nat) (V W : HV), k + r = 4 * w → r < f → r < f' → FC kb n C T tt B V W → V 102 c 0 = nI w → W 8800 0 c = nI w → w ≤ 200 → V 107 c 0 = nI ct → W 9500 0 c = nI ct → ct + 4 * w ≤ n → MB kb Y V W (cg W c) → ∃ V' W', (∀ K : HV → Option HV, f_X5_build_L52 0 kb (nI c) K f (nI k) V = K V') ∧ (∀ K : HV → Option HV, f_X12_fill_L2 (nI c) K f' (nI k) W = K W') ∧ agr [2300, 2400] V V' ∧ agr [2100] W W' ∧ MB kb Y V' W' (cg W c)
  | _, _, 0, _, _, _, _, hf, _, _, _, _, _, _, _, _, _ => absurd hf (by omega)
  | _, _, _, 0, _, _, _, _, hf, _, _, _, _, _, _, _, _ => absurd hf (by omega)
  | 0, k, f + 1, f' + 1, V, W, hk, _, _, h, h2, g2, hw, h7, g7, hct, hm => by
    have hC := h.2.2.2.1.2.1
    refine ⟨V, W, fun K => ?_, fun K => ?_, (agr_rfl V).sub (by decide), (agr_rfl W).sub (by decide), hm⟩
    · unfold f_X5_build_L52
      rw [cl_nI (by omega), h2, show (4 : Int32) = nI 4 from rfl, pk_mul, if_pos (nI_le (by omega) (by omega))]
    · unfold f_X12_fill_L2
      rw [chk_t (inb_nI (by omega) (by decide)), cl_nI (by omega), g2, show (4 : Int32) = nI 4 from rfl, pk_mul, if_pos (nI_le (by omega) (by omega))]
  | r + 1, k, f + 1, f' + 1, V, W, hk, hf, hf', h, h2, g2, hw, h7, g7, hct, hm => by
    obtain ⟨k1, k2, k3, k4, k5, k6, k7, k8, k9⟩ := id h
    have hC := k4.2.1
    have hn := k3.1
    obtain ⟨hi1, hi2⟩ := FC_hi h hc
    have exw : xN W 8800 c = w := xN_eq g2 (by omega)
    have hcw : 4 * w ≤ 16 * cwN W c := by unfold cwN; rw [exw]; omega
    have ic : inb (nI c) 8 := inb_nI (by omega) (by decide)
    have hB := (k3.2.2.2.1 (ct + k) (by omega))
    have hxy : (nI (B (ct + k))).toInt8 = (W 3200 0 (ct + k)).toInt8 := by rw [← hB.2.1, and8]
    obtain ⟨V1, a1, a2, a3⟩ := fc_1 (a := 16 * cg W c + k) k1 k2 hm (by omega) (by omega) hxy
    have aW : agr [2100] W (sv W 2100 0 (16 * cg W c + k) ((W 3200 0 (ct + k)).toInt8.toInt32)) := agr_sv _ _ _ _ _
    have ec : cg (sv W 2100 0 (16 * cg W c + k) ((W 3200 0 (ct + k)).toInt8.toInt32)) c = cg W c := cg_fr aW (by decide) c
    obtain ⟨V', W', x1, x2, x3, x4, x5⟩ := fc_L (kb := kb) (w := w) (ct := ct) (Y := Y) hc r (k + 1) f f' V1 _ (by omega) (by omega) (by omega) (FC_ag h a2 aW (by decide) (by decide)) ((a2 102 c 0 (by decide)).trans h2) ((aW 8800 0 c (by decide)).trans g2) hw ((a2 107 c 0 (by decide)).trans h7) ((aW 9500 0 c (by decide)).trans g7) hct (by rw [ec]; exact a3)
    rw [ec] at x5
    refine ⟨V', W', fun K => ?_, fun K => ?_, a2.trans x3, aW.trans x4, x5⟩
    · unfold f_X5_build_L52
      rw [cl_nI (show c < 2147483648 by omega), h2, show (4 : Int32) = nI 4 from rfl, pk_mul, if_neg (fun q => by have := (nI_leI (by omega) (by omega)).mp q; omega), h7, nI_add, byte_C k3 (by omega), bnd_some, (k6 c hc).1.1, nI_add, a1, bnd_some, lt_def, nI_1]
      exact x1 K
    · unfold f_X12_fill_L2
      rw [chk_t ic, cl_nI (show c < 2147483648 by omega), g2, show (4 : Int32) = nI 4 from rfl, pk_mul, if_neg (fun q => by have := (nI_leI (by omega) (by omega)).mp q; omega), chk_t ic, chk_t ic, g7, (k6 c hc).2.1, nI_add, nI_add, chk_t (inb_nI (by omega) (by decide)), chk_t (inb_nI (by omega) (by decide)), lt_def, cl_nI (by omega), cl_nI (by omega), lt_def, nI_1]
      exact x2 K
/-! imports -/
/-- a capability is written at granule q -/
theorem fi_w {kb q g0 : Nat} {y : Cp} {Y V W : HV} (h1 : 1 ≤ kb) (hkb : kb ≤ 32) (h : MB kb Y V W g0) (hq : q < 64 * kb) (hg : g0 ≤ q) (hy : gd Y [] y) (ht : y.2.2.2.2.2 = true) (hc : cC V 582 = y) (hc' : cM W 582 = y) : ∃ V' W', f_X8_writeCap kb 0 (nI (16 * q)) 582 true V = some V' ∧ f_X12_putCapability 0 (nI (16 * q)) 582 true W = some W' ∧ agr [2300, 2400] V V' ∧ agr [2100, 2200] W W' ∧ MB kb Y V' W' (q + 1) := by
  obtain ⟨m1, m2, m3, m4⟩ := h
  obtain ⟨V', a1, a2, a3, a4⟩ := wcap_C (i := 582) (b := true) hkb h1 hq (Rm_mk m1 hq)
  obtain ⟨W', b1, b2, b3, b4⟩ := pcap_M (i := 582) (b := true) (W := W) (show q < 2048 by omega) (by decide)
  rw [hc] at a2
  rw [hc'] at b2
  have e1 : mC (W' 2100 0) (W' 2200 0) q = y := by
    rw [b2, b3, mC_wc hy.1 hy.2.1, um_at, i2b_b2i, ← ht]
  have e2 : ∀ q', q' ≠ q → mC (W' 2100 0) (W' 2200 0) q' = mC (W 2100 0) (W 2200 0) q' := fun q' hne => by
    rw [b2, b3]
    exact mC_wc_ne hne (um_ne hne)
  refine ⟨V', W', a1, b1, a4, b4, ⟨?_, fun g hg' => ?_⟩, fun q' hq' => ?_, fun g hg' => ?_, fun g hg1 hg2 => ?_⟩
  · rw [a2, b2]
    exact mag_wc m1.1
  · rw [a3, b3, b4 2300 0 g (by decide)]
    by_cases hga : g = q
    · subst hga
      rw [um_at, um_at, i2b_b2i]
      rfl
    · rw [um_ne hga, um_ne hga]
      exact m1.2 g hg'
  · by_cases hne : q' = q
    · rw [hne, e1]; exact hy
    · rw [e2 q' hne]; exact m2 q' hq'
  · rw [b4 2300 0 g (by decide)]; exact m3 g hg'
  · rw [b3, um_ne (by omega)]; exact m4 g (by omega) hg2
theorem pm_2 : ∀ x, x ≤ 3 → (nI x ||| 64) &&& 255 = nI x ||| 64 ∧ (nI x ||| 64) &&& ((67 : Int32) ^^^ (-1)) = 0 := by decide +kernel
theorem pm_4 : ∀ y, y < 28 → nI y &&& (-28) = 0 → (nI y ||| 64) &&& 255 = nI y ||| 64 ∧ (nI y ||| 64) &&& ((91 : Int32) ^^^ (-1)) = 0 := by decide +kernel
/-- an import's capability -/
def icp (W : HV) (k x y : Nat) : Cp := if k = 0 then (nI (16 * x + y), 0, 0, 64, 4, true) else if k = 1 then (nI x, 0, 0, 64, 6, true) else if k = 2 then (268435456, 268435456, 268435472, nI x ||| 64, 0, true) else if k = 3 then (nI (8 + x), nI (8 + x), nI (8 + x + y), 96, 0, true) else (W 4200 0 x, W 4200 0 x, W 4300 0 x, nI y ||| 64, 0, true)
theorem gd_icp {kb n C T tt k x y : Nat} {B : Nat → Nat} {V W Y : HV} (h : FC kb n C T tt B V W) (hY : ∀ c, c ∈ [1018, 4200, 4300, 4400] → ∀ o j, W c o j = Y c o j) (hiv : IV k x y) (h0 : k = 0 → x < C ∧ ∃ e, W 4400 0 x = nI e ∧ y < e ∧ e ≤ 8) (h4 : k = 4 → x < C) : gd Y [] (icp W k x y) ∧ (icp W k x y).2.2.2.2.2 = true := by
  have hC := h.2.2.2.1.2.1
  have hnc : ncp Y = C := by
    unfold ncp
    rw [← hY 1018 (by decide), h.2.2.2.1.2.2.2.2.2.1]
    exact cl_nI (by omega)
  unfold icp
  rcases hiv with k0 | ⟨k0, a1, a2⟩ | ⟨k0, a1, a2, a3⟩ | ⟨k0, a1, a2, a3⟩ | ⟨k0, a1, a2, a3⟩
  · obtain ⟨b1, e, b2, b3, b4⟩ := h0 k0
    rw [if_pos k0]
    refine ⟨⟨(show (64 : Int32) &&& 255 = 64 by decide), (show (4 : Int32) &&& 255 = 4 by decide), fun _ => ⟨fun _ => ⟨x, y, by rw [hnc]; exact b1, ?_, rfl⟩, fun z => absurd z (show ¬ uN 0 < uN 0 by decide)⟩⟩, rfl⟩
    have : xN Y 4400 x = e := by
      unfold xN
      rw [← hY 4400 (by decide), b2]
      exact cl_nI (by omega)
    omega
  · rw [if_neg (by omega), if_pos k0]
    exact ⟨⟨(show (64 : Int32) &&& 255 = 64 by decide), (show (6 : Int32) &&& 255 = 6 by decide), fun _ => ⟨fun z => absurd z (show ¬ (6 : Int32) = 4 by decide), fun z => absurd z (show ¬ uN 0 < uN 0 by decide)⟩⟩, rfl⟩
  · rw [if_neg (by omega), if_neg (by omega), if_pos k0]
    obtain ⟨p1, p2⟩ := pm_2 x a2
    refine ⟨⟨p1, (show (0 : Int32) &&& 255 = 0 by decide), fun _ => ⟨fun z => absurd z (show ¬ (0 : Int32) = 4 by decide), fun _ => Or.inl ⟨show 268435456 ≤ uN 268435456 by decide, show uN 268435472 ≤ 268435472 by decide, p2⟩⟩⟩, rfl⟩
  · rw [if_neg (by omega), if_neg (by omega), if_neg (by omega), if_pos k0]
    refine ⟨⟨(show (96 : Int32) &&& 255 = 96 by decide), (show (0 : Int32) &&& 255 = 0 by decide), fun _ => ⟨fun z => absurd z (show ¬ (0 : Int32) = 4 by decide), fun _ => Or.inr (Or.inl ⟨?_, ?_, show sub 96 96 by unfold sub; decide⟩)⟩⟩, rfl⟩
    · show 8 ≤ uN (nI (8 + x))
      rw [uN_nI (by omega)]; omega
    · show uN (nI (8 + x + y)) ≤ 264
      rw [uN_nI (by omega)]; omega
  · rw [if_neg (by omega), if_neg (by omega), if_neg (by omega), if_neg (by omega)]
    obtain ⟨p1, p2⟩ := pm_4 y (by omega) a3
    have hx := h4 k0
    obtain ⟨-, -, l3, l4⟩ := (h.2.2.2.2.2.1 x hx).2
    obtain ⟨hi1, hi2⟩ := FC_hi h hx
    have hkb := h.2.1
    have g1 : gN Y 4200 x = cg W x + cwN W x + xN W 9000 x := by
      unfold gN
      rw [← hY 4200 (by decide), l3, cl_nI (by omega)]; omega
    have g2 : gN Y 4300 x = cg W (x + 1) := by
      unfold gN
      rw [← hY 4300 (by decide), l4, cl_nI (by omega)]; omega
    refine ⟨⟨p1, by show (0 : Int32) &&& 255 = 0; decide, fun _ => ⟨fun z => absurd z (show ¬ (0 : Int32) = 4 by decide), fun _ => Or.inr (Or.inr (Or.inr (Or.inl ⟨x, by rw [hnc]; exact hx, ?_, ?_, p2⟩)))⟩⟩, rfl⟩
    · show 16 * gN Y 4200 x ≤ uN (W 4200 0 x)
      rw [l3, uN_nI (by omega), g1]
      exact Nat.le_refl _
    · show uN (W 4300 0 x) ≤ 16 * gN Y 4300 x
      rw [l4, uN_nI (by omega), g2]
      exact Nat.le_refl _
