theorem sub_96 {p : Int32} (h : sub p 96) : p &&& 3 = 0 := by
  unfold sub at h
  have h2 := congrArg (fun z => z &&& (3 : Int32)) h
  simp only [Int32.and_assoc, Int32.zero_and] at h2
  exact h2
/-! strays -/
theorem sy_L {i : Nat} {W : HV} {K : Bool → Option Bool} {b : Nat} (hi : i < 600) (hb : W 2500 0 i = nI b) (hb31 : b < 2147483648) : ∀ (l : List Ob) (k f : Nat) (v : Bool), (∀ j o, l[j]? = some o → W 7600 0 (k + j) = nI (16 * o.1) ∧ W 7700 0 (k + j) = nI (16 * o.2.1) ∧ o.1 + o.2.1 ≤ 2048) → W 1055 0 0 = nI (k + l.length) → k + l.length ≤ 2048 → l.length < f → f_X12_isStray_L74 0 (nI i) W K f v (nI k) = K (v || l.any fun o => decide (16 * o.1 ≤ b ∧ b < 16 * (o.1 + o.2.1)))
  | _, _, 0, _, _, _, _, hf => absurd hf (by omega)
  | [], k, f + 1, v, ha, hn, hk, hf => by
    unfold f_X12_isStray_L74
    rw [hn, if_pos (show nI (k + ([] : List Ob).length) ≤ nI k from nI_le (by simp) (by simp at hk; omega)), List.any_nil, Bool.or_false]
  | o :: l, k, f + 1, v, ha, hn, hk, hf => by
    have hk' : k + l.length + 1 ≤ 2048 := by simp only [List.length_cons] at hk; omega
    have hf' : l.length < f := by simp only [List.length_cons] at hf; omega
    have ik : inb (nI k) 2049 := inb_nI (by omega) (by decide)
    have ii : inb (nI i) 600 := inb_nI hi (by decide)
    obtain ⟨a1, a2, a3⟩ := ha 0 o rfl
    rw [Nat.add_zero] at a1 a2
    have ih : ∀ v, f_X12_isStray_L74 0 (nI i) W K f v (nI (k + 1)) = K (v || l.any fun o => decide (16 * o.1 ≤ b ∧ b < 16 * (o.1 + o.2.1))) := fun v => sy_L hi hb hb31 l (k + 1) f v (fun j o' hj => by
        have := ha (j + 1) o' hj
        rw [show k + (j + 1) = k + 1 + j by omega] at this
        exact this) (by rw [hn]; congr 1; simp only [List.length_cons]; omega) (by omega) hf'
    unfold f_X12_isStray_L74
    rw [hn, if_neg (fun q => by have := (nI_leI (by simp only [List.length_cons]; omega) (by omega)).mp q; simp only [List.length_cons] at this; omega), jn_def, jn_def, List.any_cons, cl_nI (show i < 2147483648 by omega), cl_nI (show k < 2147483648 by omega), a1, a2, nI_add, hb, show 16 * o.1 + 16 * o.2.1 = 16 * (o.1 + o.2.1) by omega, ← Bool.or_assoc]
    dsimp only
    by_cases hv : v = true
    · rw [if_pos hv, lt_def, nI_1, ih, hv, Bool.true_or, Bool.true_or, Bool.true_or]
    · rw [if_neg hv, chk_t ii, chk_t ik, jn_def, bF hv, Bool.false_or]
      by_cases q1 : b < 16 * o.1
      · rw [if_pos (nI_lt q1 (by omega)), lt_def, nI_1, ih, decide_eq_false (show ¬ (16 * o.1 ≤ b ∧ b < 16 * (o.1 + o.2.1)) by omega)]
      · rw [if_neg (nI_nlt (by omega) hb31), chk_t ii, chk_t ik, chk_t ik]
        by_cases q2 : 16 * (o.1 + o.2.1) ≤ b
        · rw [if_pos (nI_le q2 hb31), lt_def, nI_1, ih, decide_eq_false (show ¬ (16 * o.1 ≤ b ∧ b < 16 * (o.1 + o.2.1)) by omega)]
        · rw [if_neg (fun q => q2 ((nI_leI (by omega) hb31).mp q)), lt_def, nI_1, ih, decide_eq_true (show 16 * o.1 ≤ b ∧ b < 16 * (o.1 + o.2.1) by omega)]
theorem isStray_M {kb i : Nat} {Y W : HV} {l : List Ob} (h : BL kb Y l W) (hi : i < 600) (hg : gd Y l (cM W i)) : f_X12_isStray 0 (nI i) W = some false := by
  have ii : inb (nI i) 600 := inb_nI hi (by decide)
  obtain ⟨hL, hY, hM, hs⟩ := id h
  have hkb := hL.2.1
  have hhp := hL.2.2.2.2.2.2.2.2.1
  have hlen := srt_len l _ hs
  have h10 : W 1000 0 0 = nI (1024 * kb) := (hY 1000 (by decide) 0 0).trans hL.2.2.1
  have h54 : W 1054 0 0 = nI (16 * hp Y) := (hY 1054 (by decide) 0 0).trans hL.2.2.2.2.2.2.2.1
  unfold f_X12_isStray
  rw [chk_t ii, cl_nI (by omega)]
  by_cases ht : i2b (W 2900 0 i) = true
  · rw [if_pos ht, chk_t ii]
    by_cases hp3 : W 2700 0 i &&& 3 = 0
    · rw [if_pos hp3]
    · rw [if_neg hp3, chk_t ii, lt_def, chk_t ii, lt_def, plain_pl, plain_pl]
      by_cases hl : 0 ≤ lg_cmp (pl (W 2500 0 i)) (pl (W 2600 0 i))
      · rw [if_pos hl]
      · have hlt : uN (W 2500 0 i) < uN (W 2600 0 i) := by
          rw [lg_cmp_ge, pl_le] at hl
          omega
        have hr : rgn Y l (uN (W 2500 0 i)) (uN (W 2600 0 i)) (W 2700 0 i) := (hg.2.2 ht).2 hlt
        have h31 := rgn_31 h hr hlt
        rw [if_neg hl, chk_t ii]
        generalize hb : uN (W 2500 0 i) = b at *
        generalize htp : uN (W 2600 0 i) = t at *
        have eb : W 2500 0 i = nI b := by rw [← hb]; exact nI_uN (by omega)
        rw [eb, h54, h10]
        by_cases q1 : b < 16 * hp Y
        · rw [if_pos (nI_lt q1 (by omega))]
        · rw [if_neg (nI_nlt (by omega) (by omega)), chk_t ii]
          by_cases q2 : b < 1024 * kb
          · rw [if_pos (nI_lt q2 (by omega)), jn_def]
            have z1 := sy_L (K := fun v16 => lt (if v16 = true then (false) else (true) : Bool) fun v17 => some v17) (b := b) hi eb (by omega) l 0 FU false (fun j o hj => by
              have := srt_mem hs (List.mem_of_getElem? hj)
              rw [Nat.zero_add]; exact ⟨(hM.2 j o hj).1, (hM.2 j o hj).2.1, by omega⟩) (by rw [Nat.zero_add]; exact hM.1) (by omega) (FU_gt (by omega))
            refine z1.trans ?_
            have hin : (l.any fun o => decide (16 * o.1 ≤ b ∧ b < 16 * (o.1 + o.2.1))) = true := by
              rcases hr with r | r | ⟨c, hc, r1, r2, r3⟩ | ⟨c, hc, r1, r2, r3⟩ | ⟨c, hc, r1, r2, r3⟩ | ⟨o, ho, r1, r2, r3⟩
              · have := r.1; omega
              · exact absurd (sub_96 r.2.2) hp3
              · have := (hL.2.2.2.2.2.2.2.2.2.1 c hc); omega
              · have := (hL.2.2.2.2.2.2.2.2.2.1 c hc); omega
              · have := (hL.2.2.2.2.2.2.2.2.2.2 c hc); omega
              · exact List.any_eq_true.mpr ⟨o, ho, decide_eq_true ⟨r1, by omega⟩⟩
            rw [hin, lt_def]
            rfl
          · rw [if_neg (nI_nlt (by omega) (by omega))]
  · rw [if_neg ht]
theorem rvk_ex {l : List Ob} {g : Nat} (h : rvk l g = true) : ∃ o, o ∈ l ∧ o.2.2 ≠ 1 ∧ o.1 ≤ g ∧ g < o.1 + o.2.1 := by
  unfold rvk at h
  rw [List.any_eq_true] at h
  obtain ⟨o, ho, e⟩ := h
  exact ⟨o, ho, of_decide_eq_true e⟩
theorem srt_dj {hi : Nat} {o o' : Ob} {g : Nat} : ∀ {l : List Ob} {lo : Nat}, srt hi lo l → o ∈ l → o' ∈ l → o.1 ≤ g → g < o.1 + o.2.1 → o'.1 ≤ g → g < o'.1 + o'.2.1 → o = o'
  | [], _, _, h, _, _, _, _, _ => by simp at h
  | a :: l, lo, hs, h, h', g1, g2, g3, g4 => by
    rcases List.mem_cons.mp h with e | e
    · rcases List.mem_cons.mp h' with e' | e'
      · rw [e, e']
      · have := srt_ge hs.2.2.2 e'
        rw [e] at g2
        omega
    · rcases List.mem_cons.mp h' with e' | e'
      · have := srt_ge hs.2.2.2 e
        rw [e'] at g4
        omega
      · exact srt_dj hs.2.2.2 e e' g1 g2 g3 g4
/-- a live register's capability isn't gone -/
theorem live_ok {kb : Nat} {Y W : HV} {l : List Ob} {c : Cp} (h : BL kb Y l W) (hg : gd Y (lv l) c) (ht : c.2.2.2.2.2 = true) (hlt : uN c.2.1 < uN c.2.2.1) (hp3 : ¬ c.2.2.2.1 &&& 3 = 0) : ¬ gone kb l c := by
  obtain ⟨hL, hY, hM, hs⟩ := id h
  have hkb := hL.2.1
  rintro ⟨g1, g2, g3⟩
  obtain ⟨o', ho', y1, y2, y3⟩ := rvk_ex g3
  have hm := srt_mem hs ho'
  rcases (hg.2.2 ht).2 hlt with r | r | ⟨e, hc, r1, r2, r3⟩ | ⟨e, hc, r1, r2, r3⟩ | ⟨e, hc, r1, r2, r3⟩ | ⟨o, ho, r1, r2, r3⟩
  · have := r.1; omega
  · exact hp3 (sub_96 r.2.2)
  · have := (hL.2.2.2.2.2.2.2.2.2.1 e hc); omega
  · have := (hL.2.2.2.2.2.2.2.2.2.1 e hc); omega
  · have := (hL.2.2.2.2.2.2.2.2.2.2 e hc); omega
  · unfold lv at ho
    rw [List.mem_filter] at ho
    have e := srt_dj (g := uN c.2.1 / 16) hs ho.1 ho' (by omega) (by omega) y2 y3
    have := of_decide_eq_true ho.2
    rw [e] at this
    exact y1 this
/-! the loops -/
theorem bk_1 {kb u : Nat} {Y W : HV} {l : List Ob} {x1 : Int32} {K : Int32 → Option (Int32 × HV)} (h : BL kb Y l W) (hr : Rv kb l W) (hJ : ∀ t, t < 6 → W 1048 0 0 = nI t → Jr Y l W t) (hc : W 1048 0 0 = -1 ∨ (u < 6 ∧ W 1048 0 0 = nI u)) : ∀ (r k f : Nat), k + r = 17 → r < f → f_X12_broken_L132 0 x1 W K f 0 (nI k) = K 0
  | _, _, 0, _, hf => absurd hf (by omega)
  | 0, k, f + 1, hk, _ => by
    unfold f_X12_broken_L132
    rw [if_pos (show (16 : Int32) < nI k from nI_lt (a := 16) (by omega) (by omega))]
  | r + 1, k, f + 1, hk, hf => by
    unfold f_X12_broken_L132
    rw [if_neg (show ¬ (16 : Int32) < nI k from nI_nlt (a := 16) (by omega) (by decide))]
    by_cases e1 : x1 = 1
    · rw [if_pos e1]
      rcases hc with hc | ⟨hu, hc⟩
      · rw [if_pos hc]
      · have ih := bk_1 (x1 := x1) (K := K) h hr hJ (Or.inr ⟨hu, hc⟩) r (k + 1) f (by omega) (by omega)
        have ii : inb (nI (17 * u + k)) 600 := inb_nI (by omega) (by decide)
        rw [if_neg (show ¬ W 1048 0 0 = -1 by rw [hc]; exact m1_ne u (by omega)), hc, show f_X12_reg (nI u) (nI k) = nI (17 * u + k) from reg_M' u k, lt_def, chk_t ii, jn_def, jn_def, cl_nI (by omega)]
        dsimp only
        have no : (lt (0 + b2i false) fun v26 => lt (nI k + 1) fun v27 => f_X12_broken_L132 0 x1 W K f v26 v27) = K 0 := by
          rw [lt_def, lt_def, nI_1]
          exact ih
        by_cases ht : i2b (W 2900 0 (17 * u + k)) = true
        · rw [if_pos ht, lt_def, chk_t ii, lt_def, lt_def, chk_t ii, lt_def, plain_pl, plain_pl, cl_nI (by omega)]
          by_cases hl : 0 ≤ lg_cmp (pl (W 2500 0 (17 * u + k))) (pl (W 2600 0 (17 * u + k)))
          · rw [if_pos hl]; exact no
          · rw [if_neg hl, lt_def, chk_t ii, cl_nI (show 17 * u + k < 2147483648 by omega)]
            by_cases hp3 : W 2700 0 (17 * u + k) &&& 3 = 0
            · rw [if_pos hp3]; exact no
            · have hlt : uN (W 2500 0 (17 * u + k)) < uN (W 2600 0 (17 * u + k)) := by
                rw [lg_cmp_ge, pl_le] at hl
                omega
              have ng := live_ok h (hJ u hu hc k (by omega)) ht hlt hp3
              rw [if_neg hp3, lt_def, isGone_M hr (by omega), bnd_some, if_neg (fun z => ng (gnb_iff.mp z))]
              exact no
        · rw [if_neg ht]; exact no
    · rw [if_neg e1]
theorem bk_2 {kb : Nat} {Y W : HV} {l : List Ob} {x1 : Int32} {K : Int32 → Option (Int32 × HV)} (h : BL kb Y l W) (hg : ∀ i, i < 582 → gd Y l (cM W i)) : ∀ (r k f : Nat), k + r = 582 → r < f → f_X12_broken_L97 0 x1 W K f 0 (nI k) = K 0
  | _, _, 0, _, hf => absurd hf (by omega)
  | 0, k, f + 1, hk, _ => by
    unfold f_X12_broken_L97
    rw [if_pos (show (582 : Int32) ≤ nI k from nI_le (a := 582) (by omega) (by omega))]
  | r + 1, k, f + 1, hk, hf => by
    unfold f_X12_broken_L97
    rw [if_neg (show ¬ (582 : Int32) ≤ nI k from fun q => by have := (nI_leI (a := 582) (by decide) (by omega)).mp q; omega)]
    by_cases e1 : x1 = 0
    · rw [if_pos e1, isMore_M h (by omega) (hg k (by omega)), bnd_some, lt_def, lt_def, lt_def, nI_1]
      exact bk_2 h hg r (k + 1) f (by omega) (by omega)
    · rw [if_neg e1]
theorem BL_cap {kb i : Nat} {Y W : HV} {l : List Ob} {y : Cp} (h : BL kb Y l W) : BL kb Y l (kM W i y) := by
  have a := (kM_U W i y).2
  refine ⟨h.1, LY_fr a (by decide) h.2.1, ⟨?_, fun k o hk => ?_⟩, h.2.2.2⟩
  · rw [a 1055 0 0 (by decide)]; exact h.2.2.1.1
  · rw [a 7600 0 k (by decide), a 7700 0 k (by decide), a 7800 0 k (by decide), a 7900 0 k (by decide)]; exact h.2.2.1.2 k o hk
theorem bk_3 {kb : Nat} {Y : HV} {l : List Ob} {x1 : Int32} (hkb : kb ≤ 32) : ∀ (r k f : Nat) (W : HV), k + r = 64 * kb → r < f → BL kb Y l W → Mgd kb Y l W → ∃ W', (∀ K : Int32 → HV → Option (Int32 × HV), f_X12_broken_L22 0 x1 K f 0 (nI k) W = K 0 W') ∧ agr [2400, 2500, 2600, 2700, 2800, 2900] W W' ∧ (∀ i, i < 582 → cM W' i = cM W i)
  | _, _, 0, _, _, hf, _, _ => absurd hf (by omega)
  | 0, k, f + 1, W, hk, _, h, hg => by
    refine ⟨W, fun K => ?_, (agr_rfl W).sub (by decide), fun _ _ => rfl⟩
    have h10 : W 1000 0 0 = nI (1024 * kb) := (h.2.1 1000 (by decide) 0 0).trans h.1.2.2.1
    unfold f_X12_broken_L22
    rw [h10, sz16 hkb, if_pos (nI_le (by omega) (by omega))]
  | r + 1, k, f + 1, W, hk, hf, h, hg => by
    have h10 : W 1000 0 0 = nI (1024 * kb) := (h.2.1 1000 (by decide) 0 0).trans h.1.2.2.1
    have n1 : ¬ nI (64 * kb) ≤ nI k := fun q => by have := (nI_leI (by omega) (by omega)).mp q; omega
    by_cases e1 : x1 = 1
    · refine ⟨W, fun K => ?_, (agr_rfl W).sub (by decide), fun _ _ => rfl⟩
      unfold f_X12_broken_L22
      rw [h10, sz16 hkb, if_neg n1, if_pos e1]
    · have uW := kM_U W 585 (mC (W 2100 0) (W 2200 0) k)
      have gk : gd Y l (cM (kM W 585 (mC (W 2100 0) (W 2200 0) k)) 585) := by
        rw [uW.1, up_at]
        exact hg k (by omega)
      obtain ⟨W', x1', x2, x3⟩ := bk_3 (x1 := x1) hkb r (k + 1) f (kM W 585 (mC (W 2100 0) (W 2200 0) k)) (by omega) (by omega) (BL_cap h) (Mgd_fr uW.2 (by decide) hg)
      refine ⟨W', fun K => ?_, uW.2.trans x2, fun i hi => ?_⟩
      · unfold f_X12_broken_L22
        rw [h10, sz16 hkb, if_neg n1, if_neg e1, show (16 : Int32) = nI 16 from rfl, pk_mul, show (585 : Int32) = nI 585 from rfl, gcap_M (by omega) (by decide), bnd_some, jn_def]
        have nx : (lt (0 + b2i false) fun v68 => lt (nI k + 1) fun v69 => f_X12_broken_L22 0 x1 K f v68 v69 (kM W 585 (mC (W 2100 0) (W 2200 0) k))) = K 0 W' := by
          rw [lt_def, lt_def, nI_1]
          exact x1' K
        by_cases e0 : x1 = 0
        · rw [if_pos e0, isMore_M (BL_cap h) (by decide) gk, bnd_some, if_neg (show ¬ false = true by decide)]
          exact nx
        · rw [if_neg e0, isStray_M (BL_cap h) (by decide) gk, bnd_some, if_neg (show ¬ false = true by decide)]
          exact nx
      · rw [x3 i hi, uW.1, up_ne (by omega)]
theorem RQ_scr {kb T : Nat} {Y : HV} {l : List Ob} {V W W' : HV} (h : RQ kb T Y l V W) (hW : agr [2400, 2500, 2600, 2700, 2800, 2900] W W') (hc : ∀ i, i < 582 → cM W' i = cM W i) : RQ kb T Y l V W' := by
  obtain ⟨h1, h2, h3, h4, h5⟩ := h
  have h6 := h1.1.2.2.2.2.1
  refine ⟨ST_caps h1 ((agr_rfl V).sub (by decide)) hW (fun i hi => ?_) (fun t f ht hf => ?_), Tm_fr (agr_rfl V) hW (by decide) (by decide) h2, Jm_fr hW (by decide) h3, h4, fun t ht q k hk => ?_⟩
  · rw [hc i hi]; exact h1.2.2.2.2.2.2.2.2.2.1 i hi
  · have hf16 : f < 16 := Nat.lt_of_lt_of_le hf (Nat.le_trans (h1.2.2.2.2.2.2.2.2.2.2.2.2.1 t ht).2.1 (h1.1.2.2.2.2.2.2.2.2.2.2 t ht).2.2.2.2.2)
    rw [hc _ (by omega)]; exact ⟨rfl, rfl⟩
  · rw [hc _ (by omega)]
    exact h5 t ht ((hW 1048 0 0 (by decide)).symm.trans q) k hk
theorem broken_all : S_broken RZ := by
  intro cn kb V W hcn hz x1
  obtain ⟨Y, l, T, hT, hq⟩ := id hz
  refine ⟨0, ?_⟩
  unfold f_X11_broken f_X12_broken
  by_cases hb : i2b (W 1017 0 0) = true
  · rw [if_pos hb]
    by_cases h0 : x1 < 0
    · rw [if_pos h0]; exact ⟨W, rfl, rfl, RZ_up hz⟩
    · rw [if_neg h0]
      by_cases h2 : x1 ≤ 2
      · rw [if_pos h2, jn_def]
        have hkb := hq.1.1.2.1
        have hBL : BL kb Y l W := ⟨hq.1.1, hq.1.2.1, hq.1.2.2.2.2.2.2.2.2.1.2.2.1, hq.1.2.2.2.2.2.2.2.2.1.1⟩
        obtain ⟨W', e1, e2, e3⟩ := bk_3 (x1 := x1) hkb (64 * kb) 0 FU W (by omega) (FU_gt (by omega)) hBL hq.1.2.2.2.2.2.2.2.2.2.2.1
        have hq' := RQ_scr hq e2 e3
        have hBL' : BL kb Y l W' := ⟨hq'.1.1, hq'.1.2.1, hq'.1.2.2.2.2.2.2.2.2.1.2.2.1, hq'.1.2.2.2.2.2.2.2.2.1.1⟩
        refine ⟨W', rfl, ?_, Y, l, T, by omega, hq'⟩
        refine (e1 _).trans ?_
        rw [jn_def]
        refine (bk_2 hBL' (fun i hi => (hq'.1.2.2.2.2.2.2.2.2.2.1 i hi).2.1) 582 0 FU (by omega) (FU_gt (by omega))).trans ?_
        rw [jn_def]
        rcases hq'.2.1.2.2.1 with c | ⟨u, c1, ⟨c2, -⟩, -⟩
        · exact bk_1 (u := 0) hBL' (ST_Rv hq'.1) hq'.2.2.2.2 (Or.inl c) 17 0 FU (by omega) (FU_gt (by omega))
        · have hu : u < 6 := Nat.lt_of_lt_of_le c1 (by rw [nth_LY hq'.1.2.1]; exact hq'.1.1.2.2.2.2.1)
          exact bk_1 (u := u) hBL' (ST_Rv hq'.1) hq'.2.2.2.2 (Or.inr ⟨hu, c2⟩) 17 0 FU (by omega) (FU_gt (by omega))
      · rw [if_neg h2]; exact ⟨W, rfl, rfl, RZ_up hz⟩
  · rw [if_neg hb]; exact ⟨W, rfl, rfl, RZ_up hz⟩
