/-! waking -/
theorem QS_wake {kb T t b : Nat} {Y : HV} {l : List Ob} {V W : HV} (hT2 : T < 1073741824) (h : QS kb T T t Y l V W) (hb : b < nth Y) (hne : b ≠ t) (hw : W 4700 0 b = 2) : QS kb T T t Y l (kC (sv (sv V 711 b 0 0) 712 b 0 (-1)) (17 * b + 10) (nm 0)) (kM (sv (sv W 4700 0 b 0) 4800 0 b (-1)) (17 * b + 10) (nm 0)) := by
  have h6 := QS_t6 h
  have bV : agr [711, 712] V (sv (sv V 711 b 0 0) 712 b 0 (-1)) := (agr_sv _ _ _ _ _).app (agr_sv _ _ _ _ _)
  have aW : agr [4700, 4800] W (sv (sv W 4700 0 b 0) 4800 0 b (-1)) := (agr_sv _ _ _ _ _).app (agr_sv _ _ _ _ _)
  have v1 : (sv (sv V 711 b 0 0) 712 b 0 (-1)) 711 b 0 = 0 := by rw [sv_col (by decide), sv_at]
  have v2 : (sv (sv V 711 b 0 0) 712 b 0 (-1)) 712 b 0 = -1 := sv_at _ _ _ _ _
  have vo : ∀ c, ∀ u, u ≠ b → (sv (sv V 711 b 0 0) 712 b 0 (-1)) c u 0 = V c u 0 := fun c u hu => by rw [sv_ne (fun q => hu q.2.1), sv_ne (fun q => hu q.2.1)]
  have w1 : (sv (sv W 4700 0 b 0) 4800 0 b (-1)) 4700 0 b = 0 := by rw [sv_col (by decide), sv_at]
  have w2 : (sv (sv W 4700 0 b 0) 4800 0 b (-1)) 4800 0 b = -1 := sv_at _ _ _ _ _
  have wo : ∀ c, ∀ u, u ≠ b → (sv (sv W 4700 0 b 0) 4800 0 b (-1)) c 0 u = W c 0 u := fun c u hu => by rw [sv_ne (fun q => hu q.2.2), sv_ne (fun q => hu q.2.2)]
  generalize sv (sv V 711 b 0 0) 712 b 0 (-1) = V' at *
  generalize sv (sv W 4700 0 b 0) 4800 0 b (-1) = W' at *
  have hq : QS kb T T t Y l V' W' := by
    refine QS_col h bV aW (by decide) (by decide) (fun V0 hu h1 h2 h4 => ?_)
    have aV : agr [711, 712] V0 (mrg V0 V') := mrg_agr (f := cC V) ⟨rfl, hu⟩ bV
    have g0 : ∀ c u, ¬ c < 6 → u ≠ b → (mrg V0 V') c u 0 = V0 c u 0 := fun c u hc he => by rw [mrg_ge hc, vo c u he, hu c u 0 (cap_lt hc)]
    have r : Rt1 V0 W b := h1.2.2.2.2.2.2.2.2.2.2.2.2.2.2.1 b (by rw [nth_LY h1.2.1]; exact hb)
    have s2 : W 6300 0 b = 0 := by
      rcases r.2.2.2.2.2.2.2.2.2.2.1 with q | q
      · exact absurd (hw.symm.trans q.2.1) (by decide)
      · exact q.2.1
    refine ⟨ST_state (t := b) h1 (aV.sub (by decide)) (aW.sub (by decide)) (fun c hc u he => g0 c u (by revert c; decide) he) (fun c _ u he => wo c u he) ?_ ?_ (fun q => absurd (w1.symm.trans q) (by decide)), ?_, Jm_fr aW (by decide) h4⟩
    · have e1 : (mrg V0 V') 711 b 0 = 0 := (mrg_ge (by decide)).trans v1
      have e2 : (mrg V0 V') 712 b 0 = -1 := (mrg_ge (by decide)).trans v2
      unfold Rt1 at r ⊢
      rw [e1, e2, w1, w2, aV 704 b 0 (by decide), aV 705 b 0 (by decide), aV 706 b 0 (by decide), aV 707 b 0 (by decide), aV 708 b 0 (by decide), aV 709 b 0 (by decide), aV 710 b 0 (by decide), aV 713 b 0 (by decide), aV 715 b 0 (by decide), aV 716 b 0 (by decide), aV 717 b 0 (by decide), aW 4900 0 b (by decide), aW 5000 0 b (by decide), aW 5100 0 b (by decide), aW 5200 0 b (by decide), aW 5300 0 b (by decide), aW 5400 0 b (by decide), aW 5500 0 b (by decide), aW 5600 0 b (by decide), aW 5800 0 b (by decide), aW 6100 0 b (by decide), aW 6300 0 b (by decide)]
      obtain ⟨b1, b2, b3, b4, b5, b6, b7, b8, b9, b10, b11, b12⟩ := r
      exact ⟨b1, b2, b3, b4, b5, b6, b7, rfl, b9, b10, Or.inr ⟨rfl, s2, Or.inl rfl⟩, fun q => absurd q (by decide)⟩
    · rw [w1, w2]
      refine ⟨fun _ => rfl, fun q => absurd q (by decide), fun q => ?_⟩
      rcases q with q | q
      · exact absurd q (by decide)
      · exact absurd q.1 (by decide)
    · obtain ⟨o, ho, e53⟩ := h2.2.2.2.2
      refine Tm_state (t := b) (o := o) h2 (Nat.le_refl _) (by omega) (aV.sub (by decide)) (aW.sub (by decide)) (fun c hc u he => g0 c u (by revert c; decide) he) (fun c _ u he => wo c u he) (by omega) ?_ ?_ (fun q => absurd (w1.symm.trans q) (by decide))
      · rw [aW 1053 0 0 (by decide)]; exact e53
      · rw [aW 1053 0 0 (by decide)]; exact Int32.le_refl _
  obtain ⟨V0, f, h1, h2, h4, h5, hn, hV, ho, hk, hz⟩ := hq
  have hb6 : b < 6 := Nat.lt_of_lt_of_le hb h1.1.2.2.2.2.1
  have u0 := kC_U V0 (17 * b + 10) (nm 0)
  have m0 := kM_U W' (17 * b + 10) (nm 0)
  have hcap : ∀ k, k < 17 → cC V0 (17 * b + k) = cM W' (17 * b + k) := fun k hk17 => (h1.2.2.2.2.2.2.2.2.2.1 (17 * b + k) (by omega)).1 (okc_reg' (by rw [nth_LY h1.2.1]; exact hb) (by rw [nth_LY h1.2.1]; exact h1.1.2.2.2.2.1) hk17) (by omega)
  refine ⟨kC V0 (17 * b + 10) (nm 0), up f (17 * b + 10) (nm 0), ST_reg h1 hb u0 m0 (fun i hi hni => ⟨up_ne (by omega), up_ne (by omega)⟩) (fun k hk17 => ?_) ?_ (Or.inl rfl), Tm_fr u0.2 m0.2 (by decide) (by decide) h2, Jm_fr m0.2 (by decide) h4, (UM_80 m0).trans h5, hn, ⟨by rw [(kC_U V' (17 * b + 10) (nm 0)).1, hV.1], fun c o j hc => ?_⟩, fun i hi hni => ?_, fun k hkp => ?_, fun k hk17 hnk hk10 => ?_⟩
  · by_cases e : k = 10
    · rw [e, up_at, up_at]; exact ⟨fun _ => rfl, gd_num _ _ _⟩
    · rw [up_ne (by omega), up_ne (by omega)]
      exact ⟨fun _ => hcap k hk17, (h1.2.2.2.2.2.2.2.2.2.1 (17 * b + k) (by omega)).2.1⟩
  · rw [up_ne (by omega)]
    exact (h1.2.2.2.2.2.2.2.2.2.1 (17 * b) (by omega)).2.2.2 (by omega) (by omega)
  · rw [(kC_U V' (17 * b + 10) (nm 0)).2 c o j hc, u0.2 c o j hc]; exact hV.2 c o j hc
  · rw [u0.1]
    by_cases e : i = 17 * b + 10
    · rw [e, up_at, up_at]
    · rw [up_ne e, up_ne e]; exact ho i hi hni
  · unfold kpt at hkp
    rw [up_ne (by omega), m0.1, up_ne (by omega)]; exact hk k hkp
  · rw [m0.1, up_ne (by omega)]; exact hz k hk17 hnk hk10
/-! who is woken -/
def bst (r : Option Nat) : Int32 := match r with | none => -1 | some b => nI b
def Wt (Y W : HV) (a : Int32) (b : Nat) : Prop := b < nth Y ∧ W 4700 0 b = 2 ∧ W 6100 0 b = a
theorem nx_L {kb : Nat} {a : Int32} {Y : HV} {V W : HV} {K : Int32 → Option (Int32 × HV)} (hs : V 808 0 0 = nI (nth Y)) (hs' : W 1019 0 0 = nI (nth Y)) (h6 : nth Y ≤ 6) (hR : ∀ u, u < nth Y → (V 711 u 0 = 2 ↔ W 4700 0 u = 2) ∧ (W 4700 0 u = 2 → V 713 u 0 = W 6100 0 u) ∧ V 706 u 0 = W 5500 0 u) (hO : ∀ u v, u < nth Y → v < nth Y → W 4700 0 u = 2 → W 4700 0 v = 2 → (V 714 u 0 < V 714 v 0 ↔ W 6200 0 u < W 6200 0 v)) : ∀ (r k f f' : Nat) (s : Option Nat), k + r = nth Y → r < f → r < f' → (∀ b, s = some b → Wt Y W a b) → ∃ s', f_X7_nextToWake_L4 0 a kb V (fun r3 => some r3) f s (nI k) = some s' ∧ f_X12_wakes_L25 0 a W K f' (bst s) (nI k) = K (bst s') ∧ (∀ b, s' = some b → Wt Y W a b) ∧ (s' = none → s = none ∧ ∀ u, k ≤ u → u < nth Y → ¬ Wt Y W a u)
  | 0, _, 0, _, _, _, hf, _, _ => absurd hf (by omega)
  | _ + 1, _, 0, _, _, _, hf, _, _ => absurd hf (by omega)
  | 0, _, _, 0, _, _, _, hf, _ => absurd hf (by omega)
  | _ + 1, _, _, 0, _, _, _, hf, _ => absurd hf (by omega)
  | 0, k, f + 1, f' + 1, s, hk, _, _, hw => by
    unfold f_X7_nextToWake_L4 f_X12_wakes_L25
    rw [hs, hs', if_pos (nI_le (by omega) (by omega)), if_pos (nI_le (by omega) (by omega))]
    exact ⟨s, rfl, rfl, hw, fun q => ⟨q, fun u h1 h2 => by omega⟩⟩
  | r + 1, k, f + 1, f' + 1, s, hk, hf, hf', hw => by
    have kn : k < nth Y := by omega
    obtain ⟨r1, r2, r3⟩ := hR k kn
    have ik : inb (nI k) 6 := inb_nI (by omega) (by decide)
    unfold f_X7_nextToWake_L4 f_X12_wakes_L25
    rw [hs, hs', if_neg (fun q => by have := (nI_leI (by omega) (by omega)).mp q; omega), if_neg (fun q => by have := (nI_leI (by omega) (by omega)).mp q; omega), chk_t ik, chk_t ik, cl_nI (by omega), jn_def]
    have step : ∀ s2 : Option Nat, (∀ b, s2 = some b → Wt Y W a b) → (s2 = none → s = none ∧ ¬ Wt Y W a k) → ∃ s', f_X7_nextToWake_L4 0 a kb V (fun r3 => some r3) f s2 (nI k + 1) = some s' ∧ f_X12_wakes_L25 0 a W K f' (bst s2) (nI k + 1) = K (bst s') ∧ (∀ b, s' = some b → Wt Y W a b) ∧ (s' = none → s = none ∧ ∀ u, k ≤ u → u < nth Y → ¬ Wt Y W a u) := by
      intro s2 hw2 hn2
      obtain ⟨s', e1, e2, e3, e4⟩ := nx_L hs hs' h6 hR hO r (k + 1) f f' s2 (by omega) (by omega) (by omega) hw2
      rw [nI_1]
      refine ⟨s', e1, e2, e3, fun q => ?_⟩
      obtain ⟨q1, q2⟩ := e4 q
      obtain ⟨q3, q4⟩ := hn2 q1
      refine ⟨q3, fun u h1 h2 => ?_⟩
      by_cases e : u = k
      · rw [e]; exact q4
      · exact q2 u (by omega) h2
    by_cases hk2 : W 4700 0 k = 2
    · rw [if_pos (r1.mpr hk2), r2 hk2]
      by_cases ha : W 6100 0 k = a
      · have wk : Wt Y W a k := ⟨kn, hk2, ha⟩
        rw [if_pos ha, jn_def, jn_def, jn_def, if_pos hk2, chk_t ik, if_pos ha]
        dsimp only
        rw [jn_def, if_pos rfl, jn_def]
        cases s with
        | none =>
          rw [onn_none, if_pos (show bst none = -1 from rfl)]
          dsimp only
          rw [lt_def, lt_def]
          exact step (some k) (fun b q => by rw [← Option.some.inj q]; exact wk) (fun q => absurd q (by simp))
        | some b =>
          have wb := hw b rfl
          have b6 : b < 6 := Nat.lt_of_lt_of_le wb.1 h6
          have ib : inb (nI b) 6 := inb_nI b6 (by decide)
          have pr := (hR b wb.1).2.2
          rw [onn_some, chk_t b6, lt_def, show bst (some b) = nI b from rfl, if_neg (show ¬ nI b = -1 from m1_ne b (by omega)), chk_t ik, chk_t ib, cl_nI (by omega)]
          have keep : (∃ s', f_X7_nextToWake_L4 0 a kb V (fun r3 => some r3) f (some b) (nI k + 1) = some s' ∧ f_X12_wakes_L25 0 a W K f' (nI b) (nI k + 1) = K (bst s') ∧ (∀ b, s' = some b → Wt Y W a b) ∧ (s' = none → (some b : Option Nat) = none ∧ ∀ u, k ≤ u → u < nth Y → ¬ Wt Y W a u)) := by
            obtain ⟨s', e1, e2, e3, e4⟩ := nx_L (K := K) hs hs' h6 hR hO r (k + 1) f f' (some b) (by omega) (by omega) (by omega) hw
            rw [nI_1]
            exact ⟨s', e1, e2, e3, fun q => absurd (e4 q).1 (by simp)⟩
          have take : (∃ s', f_X7_nextToWake_L4 0 a kb V (fun r3 => some r3) f (some k) (nI k + 1) = some s' ∧ f_X12_wakes_L25 0 a W K f' (nI k) (nI k + 1) = K (bst s') ∧ (∀ b, s' = some b → Wt Y W a b) ∧ (s' = none → (some b : Option Nat) = none ∧ ∀ u, k ≤ u → u < nth Y → ¬ Wt Y W a u)) := by
            obtain ⟨s', e1, e2, e3, e4⟩ := nx_L (K := K) hs hs' h6 hR hO r (k + 1) f f' (some k) (by omega) (by omega) (by omega) (fun b q => by rw [← Option.some.inj q]; exact wk)
            rw [nI_1]
            exact ⟨s', e1, e2, e3, fun q => absurd (e4 q).1 (by simp)⟩
          unfold f_X9_isWokenBefore
          rw [lt_def, r3, pr]
          by_cases p1 : W 5500 0 b < W 5500 0 k
          · rw [if_pos p1, if_pos p1, if_pos rfl]
            dsimp only
            rw [lt_def, lt_def]
            exact take
          · rw [if_neg p1, if_neg p1, chk_t ik, chk_t ib]
            by_cases p2 : W 5500 0 k = W 5500 0 b
            · rw [if_pos p2, if_pos p2, chk_t ik, chk_t ib]
              by_cases p3 : W 6200 0 b ≤ W 6200 0 k
              · rw [if_pos p3, if_pos (show V 714 b 0 ≤ V 714 k 0 from Int32.not_lt.mp fun q => Int32.not_lt.mpr p3 ((hO k b kn wb.1 hk2 wb.2.1).mp q)), if_neg (show ¬ false = true by decide)]
                dsimp only
                rw [lt_def, lt_def]
                exact keep
              · rw [if_neg p3, if_neg (show ¬ V 714 b 0 ≤ V 714 k 0 from Int32.not_le.mpr ((hO k b kn wb.1 hk2 wb.2.1).mpr (Int32.not_le.mp p3))), if_pos rfl]
                dsimp only
                rw [lt_def, lt_def]
                exact take
            · rw [if_neg p2, if_neg p2, if_neg (show ¬ false = true by decide)]
              dsimp only
              rw [lt_def, lt_def]
              exact keep
      · rw [if_neg ha, jn_def, jn_def, if_pos hk2, chk_t ik, if_neg ha]
        dsimp only
        rw [jn_def, if_neg (show ¬ false = true by decide), lt_def]
        exact step s hw (fun q => ⟨q, fun q2 => ha q2.2.2⟩)
    · rw [if_neg (fun q => hk2 (r1.mp q)), jn_def, jn_def, if_neg hk2]
      dsimp only
      rw [jn_def, if_neg (show ¬ false = true by decide), lt_def]
      exact step s hw (fun q => ⟨q, fun q2 => hk2 q2.2.1⟩)
def cw (W : HV) : Nat → Nat
  | 0 => 0
  | k + 1 => cw W k + (if W 4700 0 k = 2 then 1 else 0)
theorem cw_le (W : HV) : ∀ k, cw W k ≤ k
  | 0 => Nat.le_refl _
  | k + 1 => by
    have := cw_le W k
    unfold cw
    by_cases q : W 4700 0 k = 2
    · rw [if_pos q]; omega
    · rw [if_neg q]; omega
theorem cw_lt {W : HV} {t : Nat} (ht : ¬ W 4700 0 t = 2) : ∀ k, t < k → cw W k + 1 ≤ k
  | 0, h => absurd h (by omega)
  | k + 1, h => by
    unfold cw
    by_cases e : t = k
    · rw [← e, if_neg ht]
      have := cw_le W t
      omega
    · have := cw_lt ht k (by omega)
      by_cases q : W 4700 0 k = 2
      · rw [if_pos q]; omega
      · rw [if_neg q]; omega
theorem cw_same {W W' : HV} : ∀ k, (∀ u, u < k → W' 4700 0 u = W 4700 0 u) → cw W' k = cw W k
  | 0, _ => rfl
  | k + 1, h => by
    unfold cw
    rw [cw_same k (fun u hu => h u (by omega)), h k (by omega)]
theorem cw_dec {W W' : HV} {b : Nat} (h1 : W 4700 0 b = 2) (h2 : W' 4700 0 b = 0) (ho : ∀ u, u ≠ b → W' 4700 0 u = W 4700 0 u) : ∀ k, b < k → cw W' k + 1 = cw W k
  | 0, h => absurd h (by omega)
  | k + 1, h => by
    unfold cw
    by_cases e : b = k
    · rw [← e, h1, h2, if_pos rfl, if_neg (show ¬ (0 : Int32) = 2 by decide), cw_same b (fun u hu => ho u (by omega))]
    · have := cw_dec h1 h2 ho k (by omega)
      rw [ho k (by omega)]
      omega
theorem cw_pos {W : HV} {b : Nat} (h1 : W 4700 0 b = 2) : ∀ k, b < k → 0 < cw W k
  | 0, h => absurd h (by omega)
  | k + 1, h => by
    unfold cw
    by_cases e : b = k
    · rw [← e, if_pos h1]; omega
    · have := cw_pos h1 k (by omega)
      omega
theorem wk_no {kb t : Nat} {v4 : Int64} {v9 : Int32} {V : HV} {K : Int32 → HV → Option (Int32 × HV)} {m : Nat} (hm : v4.toInt = (m : Int)) (hm6 : m ≤ 6) (hn : f_X7_nextToWake kb 0 (V 0 (f_X9_reg t 10) 0) V = some none) : ∀ (r i f : Nat), i + r = 7 → r < f → f_X7_wake_L43 0 t kb v4 K f v9 (nI i) V = K v9 V
  | 0, _, 0, _, hf => absurd hf (by omega)
  | _ + 1, _, 0, _, hf => absurd hf (by omega)
  | 0, i, f + 1, hi, _ => by
    unfold f_X7_wake_L43
    rw [if_pos ((lg_cmp_ge _ _).mpr (Int64.le_iff_toInt_le.mpr (by rw [hm, nI64_toInt (by omega)]; omega)))]
  | r + 1, i, f + 1, hi, hf => by
    unfold f_X7_wake_L43
    by_cases q : 0 ≤ lg_cmp (nI i).toInt64 v4
    · rw [if_pos q]
    · rw [if_neg q, hn, bnd_some, jn_def, onn_none]
      dsimp only
      rw [lt_def, nI_1]
      exact wk_no hm hm6 hn r (i + 1) f (by omega) (by omega)
theorem QS_nx {kb T Tw t : Nat} {Y : HV} {l : List Ob} {V W : HV} {a : Int32} {K : Int32 → Option (Int32 × HV)} (h : QS kb T Tw t Y l V W) : ∃ s', f_X7_nextToWake kb 0 a V = some s' ∧ f_X12_wakes_L25 0 a W K FU (-1) 0 = K (bst s') ∧ (∀ b, s' = some b → Wt Y W a b) ∧ (s' = none → ∀ u, u < nth Y → ¬ Wt Y W a u) := by
  obtain ⟨V0, f, h1, h2, h4, h5, hn, hV, ho, hk, hz⟩ := h
  have hnW := nth_LY h1.2.1
  have hIn := h1.2.2.2.2.2.2.2.1
  have h19 : W 1019 0 0 = nI (nth Y) := by rw [← hnW]; exact hIn.2.2.2.1
  have h808 : V 808 0 0 = nI (nth Y) := by rw [hV.2 808 0 0 (by decide), h1.2.2.1.2.1]; exact h19
  obtain ⟨z1, z2, z3, z4, z5⟩ := h1.2.2.2.2.2.2.2.2.2.2.2.2.2
  obtain ⟨s', e1, e2, e3, e4⟩ := nx_L (kb := kb) (a := a) (Y := Y) (V := V) (W := W) (K := K) h808 h19 h1.1.2.2.2.2.1 (fun u hu => by
    have r := z2 u (by rw [hnW]; exact hu)
    rw [hV.2 711 u 0 (by decide), hV.2 713 u 0 (by decide), hV.2 706 u 0 (by decide)]
    refine ⟨?_, r.2.2.2.2.2.2.2.2.2.2.2, r.2.2.1⟩
    rcases r.2.2.2.2.2.2.2.2.2.2.1 with q | q
    · exact ⟨fun z => absurd (q.1.symm.trans z) (by decide), fun z => absurd (q.2.1.symm.trans z) (by decide)⟩
    · rw [q.1]) (fun u v hu hv q1 q2 => by
    rw [hV.2 714 u 0 (by decide), hV.2 714 v 0 (by decide)]
    exact z4 u v (by rw [hnW]; exact hu) (by rw [hnW]; exact hv) q1 q2) (nth Y) 0 FU FU none (by omega) (FU_gt (by have := h1.1.2.2.2.2.1; omega)) (FU_gt (by have := h1.1.2.2.2.2.1; omega)) (fun b q => by cases q)
  refine ⟨s', ?_, e2, e3, fun q u hu => (e4 q).2 u (by omega) hu⟩
  unfold f_X7_nextToWake
  rw [jn_def]
  exact e1
theorem wk_L {kb T t : Nat} {Y : HV} {l : List Ob} {a : Int32} {v4 x2 : Int64} {m m' : Nat} {KC KM : Int32 → HV → Option (Int32 × HV)} (hT2 : T < 1073741824) (hm : v4.toInt = (m : Int)) (hm6 : m ≤ 6) (hx2 : x2.toInt = (m' : Int)) (hmm : m = if m' ≤ 6 then m' else 6) : ∀ (c n f f' : Nat) (V W : HV), cw W (nth Y) = c → n + c ≤ 5 → 8 ≤ f + n → c + 3 ≤ f' → QS kb T T t Y l V W → V 0 (17 * t + 10) 0 = a → ¬ W 4700 0 t = 2 → ∃ n' V' W', f_X7_wake_L43 0 t kb v4 KC f (nI n) (nI n) V = KC (nI n') V' ∧ f_X12_wakes_L6 0 a x2 KM f' (nI n) true W = KM (nI n') W' ∧ QS kb T T t Y l V' W' := by
  intro c
  induction c with
  | zero =>
    intro n f f' V W hc hn hf hf' hQ ha hst
    have R10 : f_X9_reg t 10 = 17 * t + 10 := reg_C' (d := 10) (by decide)
    obtain ⟨f1, rfl⟩ : ∃ f1, f = f1 + 1 := ⟨f - 1, by omega⟩
    obtain ⟨f2, rfl⟩ : ∃ f2, f' = f2 + 2 := ⟨f' - 2, by omega⟩
    obtain ⟨s', e1, e2, e3, e4⟩ := QS_nx (kb := kb) (a := a) (K := fun v14 => lt (if v14 = (-1) then (false) else (true) : Bool) fun v15 =>
      if v15 = true then (chk (inb v14 6) <|
      lt (sv W 4700 0 (v14).toNatClampNeg 0) fun V19 =>
      chk (inb v14 6) <|
      lt (sv V19 4800 0 (v14).toNatClampNeg (-1)) fun V21 =>
      lt (f_X12_reg v14 10) fun v22 =>
      bnd (f_X12_number 0 v22 0 V21) fun p23 =>
      lt (nI n + 1) fun v24 =>
      f_X12_wakes_L6 0 a x2 KM (f2 + 1) v24 v15 p23) else (f_X12_wakes_L6 0 a x2 KM (f2 + 1) (nI n) v15 W)) hQ
    have hs : s' = none := by
      cases s' with
      | none => rfl
      | some b =>
        have := e3 b rfl
        have := cw_pos this.2.1 (nth Y) this.1
        omega
    subst hs
    have eC : f_X7_wake_L43 0 t kb v4 KC (f1 + 1) (nI n) (nI n) V = KC (nI n) V := wk_no hm hm6 (by rw [R10, ha]; exact e1) (7 - n) n (f1 + 1) (by omega) (by omega)
    refine ⟨n, V, W, eC, ?_, hQ⟩
    unfold f_X12_wakes_L6
    rw [if_pos rfl]
    by_cases q : 0 ≤ lg_cmp (nI n).toInt64 x2
    · rw [if_pos q]
    · rw [if_neg q, jn_def]
      refine Eq.trans e2 ?_
      rw [show bst none = -1 from rfl, lt_def, if_pos rfl, if_neg (show ¬ false = true by decide)]
      unfold f_X12_wakes_L6
      rw [if_neg (show ¬ false = true by decide)]
  | succ c ih =>
    intro n f f' V W hc hn hf hf' hQ ha hst
    have h6 := QS_t6 hQ
    have R10 : f_X9_reg t 10 = 17 * t + 10 := reg_C' (d := 10) (by decide)
    obtain ⟨f1, rfl⟩ : ∃ f1, f = f1 + 1 := ⟨f - 1, by omega⟩
    obtain ⟨f2, rfl⟩ : ∃ f2, f' = f2 + 2 := ⟨f' - 2, by omega⟩
    obtain ⟨s', e1, e2, e3, e4⟩ := QS_nx (kb := kb) (a := a) (K := fun v14 => lt (if v14 = (-1) then (false) else (true) : Bool) fun v15 =>
      if v15 = true then (chk (inb v14 6) <|
      lt (sv W 4700 0 (v14).toNatClampNeg 0) fun V19 =>
      chk (inb v14 6) <|
      lt (sv V19 4800 0 (v14).toNatClampNeg (-1)) fun V21 =>
      lt (f_X12_reg v14 10) fun v22 =>
      bnd (f_X12_number 0 v22 0 V21) fun p23 =>
      lt (nI n + 1) fun v24 =>
      f_X12_wakes_L6 0 a x2 KM (f2 + 1) v24 v15 p23) else (f_X12_wakes_L6 0 a x2 KM (f2 + 1) (nI n) v15 W)) hQ
    have hq1 : (0 ≤ lg_cmp (nI n).toInt64 v4) ↔ m ≤ n := by
      rw [lg_cmp_ge, Int64.le_iff_toInt_le, hm, nI64_toInt (by omega)]
      omega
    have hq2 : (0 ≤ lg_cmp (nI n).toInt64 x2) ↔ m' ≤ n := by
      rw [lg_cmp_ge, Int64.le_iff_toInt_le, hx2, nI64_toInt (by omega)]
      omega
    have hq3 : m ≤ n ↔ m' ≤ n := by
      by_cases z : m' ≤ 6
      · rw [hmm, if_pos z]
      · rw [hmm, if_neg z]; omega
    cases s' with
    | none =>
      have eC : f_X7_wake_L43 0 t kb v4 KC (f1 + 1) (nI n) (nI n) V = KC (nI n) V := wk_no hm hm6 (by rw [R10, ha]; exact e1) (7 - n) n (f1 + 1) (by omega) (by omega)
      refine ⟨n, V, W, eC, ?_, hQ⟩
      unfold f_X12_wakes_L6
      rw [if_pos rfl]
      by_cases q : 0 ≤ lg_cmp (nI n).toInt64 x2
      · rw [if_pos q]
      · rw [if_neg q, jn_def]
        refine Eq.trans e2 ?_
        rw [show bst none = -1 from rfl, lt_def, if_pos rfl, if_neg (show ¬ false = true by decide)]
        unfold f_X12_wakes_L6
        rw [if_neg (show ¬ false = true by decide)]
    | some b =>
      obtain ⟨w1, w2, w3⟩ := e3 b rfl
      have hb6 : b < 6 := by
        obtain ⟨V0, f, h1, -⟩ := hQ
        exact Nat.lt_of_lt_of_le w1 h1.1.2.2.2.2.1
      have hbt : b ≠ t := fun q => hst (by rw [← q]; exact w2)
      by_cases hmn : m ≤ n
      · refine ⟨n, V, W, ?_, ?_, hQ⟩
        · unfold f_X7_wake_L43
          rw [if_pos (hq1.mpr hmn)]
        · unfold f_X12_wakes_L6
          rw [if_pos rfl, if_pos (hq2.mpr (hq3.mp hmn))]
      · have hQ' := QS_wake hT2 hQ w1 hbt w2
        have B10 : f_X9_reg b 10 = 17 * b + 10 := reg_C' (d := 10) (by decide)
        have M10 : f_X12_reg (nI b) 10 = nI (17 * b + 10) := reg_M' b 10
        have hwM : (kM (sv (sv W 4700 0 b 0) 4800 0 b (-1)) (17 * b + 10) (nm 0)) = kM (sv (sv W 4700 0 b 0) 4800 0 b (-1)) (17 * b + 10) (nm 0) := rfl
        have g47 : ∀ u, (kM (sv (sv W 4700 0 b 0) 4800 0 b (-1)) (17 * b + 10) (nm 0)) 4700 0 u = if u = b then 0 else W 4700 0 u := by
          intro u
          rw [(kM_U _ _ _).2 4700 0 u (by decide), sv_col (by decide)]
          by_cases e : u = b
          · rw [if_pos e, e, sv_at]
          · rw [if_neg e, sv_ne (fun q => e q.2.2)]
        have hcw : cw (kM (sv (sv W 4700 0 b 0) 4800 0 b (-1)) (17 * b + 10) (nm 0)) (nth Y) = c := by
          have := cw_dec (W := W) (W' := kM (sv (sv W 4700 0 b 0) 4800 0 b (-1)) (17 * b + 10) (nm 0)) w2 (by rw [g47, if_pos rfl]) (fun u hu => by rw [g47, if_neg hu]) (nth Y) w1
          omega
        have hva : (kC (sv (sv V 711 b 0 0) 712 b 0 (-1)) (17 * b + 10) (nm 0)) 0 (17 * t + 10) 0 = a := by
          have z : cC (kC (sv (sv V 711 b 0 0) 712 b 0 (-1)) (17 * b + 10) (nm 0)) (17 * t + 10) = cC V (17 * t + 10) := by
            rw [(kC_U _ _ _).1, up_ne (by omega), cC_fr ((agr_sv V 711 b 0 0).app (agr_sv _ 712 b 0 _)) (by decide)]
          exact (V0_cap z).trans ha
        obtain ⟨n', V', W', i1, i2, i3⟩ := ih (n + 1) f1 (f2 + 1) _ _ hcw (by omega) (by omega) (by omega) hQ' hva (by rw [g47, if_neg (fun q => hbt q.symm)]; exact hst)
        refine ⟨n', V', W', ?_, ?_, i3⟩
        · unfold f_X7_wake_L43
          rw [if_neg (mt hq1.mp hmn), R10, ha, e1, bnd_some, jn_def, onn_some, chk_t hb6]
          unfold f_X9_becomeReady
          rw [lt_def, lt_def, lt_def, lt_def, lt_def, B10, number_C]
          dsimp only
          rw [lt_def, nI_1]
          exact i1
        · unfold f_X12_wakes_L6
          rw [if_pos rfl, if_neg (mt hq2.mp (mt hq3.mpr hmn)), jn_def]
          refine Eq.trans e2 ?_
          rw [show bst (some b) = nI b from rfl, lt_def, if_neg (show ¬ nI b = -1 from m1_ne b (by omega)), if_pos rfl, chk_t (inb_nI hb6 (by decide)), lt_def, chk_t (inb_nI hb6 (by decide)), lt_def, lt_def, cl_nI (by omega), M10, number_M (by omega), bnd_some, lt_def, nI_1]
          exact i2
