/-! threads whose time has come -/
theorem Tm_rdy {T Tw b : Nat} {V V' W W' : HV} (h : Tm T Tw V W) (hV : agr [711, 712] V V') (hW : agr [4700, 4800] W W') (oW : ∀ u, u ≠ b → W' 4700 0 u = W 4700 0 u) (hb : ¬ W' 4700 0 b = 2) : Tm T Tw V' W' := by
  obtain ⟨a1, a2, a3, a4, a5⟩ := h
  have hnth : nth W' = nth W := nth_fr hW (by decide)
  unfold Tm
  rw [hnth, hW 1047 0 0 (by decide), hW 1048 0 0 (by decide), hW 1080 0 0 (by decide), hW 1053 0 0 (by decide)]
  refine ⟨a1, fun u hu => ?_, ?_, fun u hu q => ?_, a5⟩
  · rw [hV 718 u 0 (by decide), hW 5900 0 u (by decide)]; exact a2 u hu
  · rcases a3 with a3 | ⟨c, c1, c2, c3⟩
    · exact Or.inl a3
    · refine Or.inr ⟨c, c1, c2, fun o hoo hne => ?_⟩
      rw [hV 718 o 0 (by decide), hV 718 c 0 (by decide), hW 5900 0 o (by decide), hW 5900 0 c (by decide)]
      exact c3 o hoo hne
  · by_cases e : u = b
    · rw [e] at q; exact absurd q hb
    · rw [oW u e] at q
      rw [hV 714 u 0 (by decide), hW 6200 0 u (by decide)]
      exact a4 u hu q
theorem ST_rdy {kb T Tw b : Nat} {Y : HV} {l : List Ob} {V W : HV} (h : ST 1000 kb Y l V W) (hT : Tm T Tw V W) (hb : b < nth Y) (h63 : W 6300 0 b = 0) : ST 1000 kb Y l (sv (sv V 711 b 0 0) 712 b 0 (-1)) (sv (sv W 4700 0 b 0) 4800 0 b (-1)) ∧ Tm T Tw (sv (sv V 711 b 0 0) 712 b 0 (-1)) (sv (sv W 4700 0 b 0) 4800 0 b (-1)) := by
  have aV : agr [711, 712] V (sv (sv V 711 b 0 0) 712 b 0 (-1)) := (agr_sv _ _ _ _ _).app (agr_sv _ _ _ _ _)
  have aW : agr [4700, 4800] W (sv (sv W 4700 0 b 0) 4800 0 b (-1)) := (agr_sv _ _ _ _ _).app (agr_sv _ _ _ _ _)
  have v1 : (sv (sv V 711 b 0 0) 712 b 0 (-1)) 711 b 0 = 0 := by rw [sv_col (by decide), sv_at]
  have v2 : (sv (sv V 711 b 0 0) 712 b 0 (-1)) 712 b 0 = -1 := sv_at _ _ _ _ _
  have vo : ∀ c, ∀ u, u ≠ b → (sv (sv V 711 b 0 0) 712 b 0 (-1)) c u 0 = V c u 0 := fun c u hu => by rw [sv_ne (fun q => hu q.2.1), sv_ne (fun q => hu q.2.1)]
  have w1 : (sv (sv W 4700 0 b 0) 4800 0 b (-1)) 4700 0 b = 0 := by rw [sv_col (by decide), sv_at]
  have w2 : (sv (sv W 4700 0 b 0) 4800 0 b (-1)) 4800 0 b = -1 := sv_at _ _ _ _ _
  have wo : ∀ c, ∀ u, u ≠ b → (sv (sv W 4700 0 b 0) 4800 0 b (-1)) c 0 u = W c 0 u := fun c u hu => by rw [sv_ne (fun q => hu q.2.2), sv_ne (fun q => hu q.2.2)]
  generalize sv (sv V 711 b 0 0) 712 b 0 (-1) = V' at *
  generalize sv (sv W 4700 0 b 0) 4800 0 b (-1) = W' at *
  have r : Rt1 V W b := h.2.2.2.2.2.2.2.2.2.2.2.2.2.2.1 b (by rw [nth_LY h.2.1]; exact hb)
  refine ⟨ST_state (t := b) h (aV.sub (by decide)) (aW.sub (by decide)) (fun c hc u he => vo c u he) (fun c _ u he => wo c u he) ?_ ?_ (fun q => absurd (w1.symm.trans q) (by decide)), Tm_rdy hT aV aW (fun u he => wo 4700 u he) (by rw [w1]; decide)⟩
  · unfold Rt1 at r ⊢
    rw [v1, v2, w1, w2, aV 704 b 0 (by decide), aV 705 b 0 (by decide), aV 706 b 0 (by decide), aV 707 b 0 (by decide), aV 708 b 0 (by decide), aV 709 b 0 (by decide), aV 710 b 0 (by decide), aV 713 b 0 (by decide), aV 715 b 0 (by decide), aV 716 b 0 (by decide), aV 717 b 0 (by decide), aW 4900 0 b (by decide), aW 5000 0 b (by decide), aW 5100 0 b (by decide), aW 5200 0 b (by decide), aW 5300 0 b (by decide), aW 5400 0 b (by decide), aW 5500 0 b (by decide), aW 5600 0 b (by decide), aW 5800 0 b (by decide), aW 6100 0 b (by decide), aW 6300 0 b (by decide)]
    obtain ⟨b1, b2, b3, b4, b5, b6, b7, b8, b9, b10, b11, b12⟩ := r
    exact ⟨b1, b2, b3, b4, b5, b6, b7, rfl, b9, b10, Or.inr ⟨rfl, h63, Or.inl rfl⟩, fun q => absurd q (by decide)⟩
  · rw [w1, w2]
    refine ⟨fun _ => rfl, fun q => absurd q (by decide), fun q => ?_⟩
    rcases q with q | q
    · exact absurd q (by decide)
    · exact absurd q.1 (by decide)
theorem ST_808 {x kb : Nat} {Y : HV} {l : List Ob} {V W : HV} (h : ST x kb Y l V W) : V 808 0 0 = nI (nth Y) ∧ W 1019 0 0 = nI (nth Y) ∧ nth Y ≤ 6 := by
  have hnW := nth_LY h.2.1
  have hIn := h.2.2.2.2.2.2.2.1
  have h19 : W 1019 0 0 = nI (nth Y) := by rw [← hnW]; exact hIn.2.2.2.1
  exact ⟨h.2.2.1.2.1.trans h19, h19, h.1.2.2.2.2.1⟩
theorem due_L {kb T Tw : Nat} {Y : HV} {l : List Ob} : ∀ (r k f f' : Nat) (V W : HV), k + r = nth Y → r < f → r < f' → ST 1000 kb Y l V W → Tm T Tw V W → ∃ V' W', (∀ K : HV → Option HV, f_X10_tick_L12 0 kb K f (nI k) V = K V') ∧ (∀ K : HV → Option HV, f_X12_step_L12 0 K f' (nI k) W = K W') ∧ ST 1000 kb Y l V' W' ∧ Tm T Tw V' W' ∧ agr [711, 712] V V' ∧ agr [4700, 4800] W W'
  | _, _, 0, _, _, _, _, hf, _, _, _ => absurd hf (by omega)
  | _, _, _, 0, _, _, _, _, hf, _, _ => absurd hf (by omega)
  | 0, k, f + 1, f' + 1, V, W, hk, _, _, h, hT => by
    obtain ⟨s1, s2, s3⟩ := ST_808 h
    refine ⟨V, W, fun K => ?_, fun K => ?_, h, hT, (agr_rfl V).sub (by decide), (agr_rfl W).sub (by decide)⟩
    · unfold f_X10_tick_L12
      rw [s1, if_pos (nI_le (by omega) (by omega))]
    · unfold f_X12_step_L12
      rw [s2, if_pos (nI_le (by omega) (by omega))]
  | r + 1, k, f + 1, f' + 1, V, W, hk, hf, hf', h, hT => by
    obtain ⟨s1, s2, s3⟩ := ST_808 h
    have kn : k < nth Y := by omega
    have ik : inb (nI k) 6 := inb_nI (by omega) (by decide)
    have n1 : ¬ nI (nth Y) ≤ nI k := fun q => by have := (nI_leI (by omega) (by omega)).mp q; omega
    have r1 : Rt1 V W k := h.2.2.2.2.2.2.2.2.2.2.2.2.2.2.1 k (by rw [nth_LY h.2.1]; exact kn)
    have hTh := (h.2.2.2.2.2.2.2.2.2.2.2.2.1 k kn).2.2.2.2.2
    have e12 := r1.2.2.2.2.2.2.2.1
    have et : V 810 0 0 = W 1047 0 0 := h.2.2.1.2.2.2.1
    have alt := r1.2.2.2.2.2.2.2.2.2.2.1
    have noC : f_X9_isDue kb k (V 810 0 0) V = false → ∀ K : HV → Option HV, f_X10_tick_L12 0 kb K (f + 1) (nI k) V = f_X10_tick_L12 0 kb K f (nI (k + 1)) V := by
      intro hd K
      conv => lhs; unfold f_X10_tick_L12
      rw [s1, if_neg n1, chk_t ik, cl_nI (by omega), lt_def, hd, jn_def, if_neg (show ¬ false = true by decide)]
      dsimp only
      rw [lt_def, nI_1]
    have yesC : f_X9_isDue kb k (V 810 0 0) V = true → ∀ K : HV → Option HV, f_X10_tick_L12 0 kb K (f + 1) (nI k) V = f_X10_tick_L12 0 kb K f (nI (k + 1)) (sv (sv V 711 k 0 0) 712 k 0 (-1)) := by
      intro hd K
      conv => lhs; unfold f_X10_tick_L12
      unfold f_X9_becomeReady
      rw [s1, if_neg n1, chk_t ik, cl_nI (by omega), lt_def, hd, jn_def, if_pos rfl, chk_t ik, lt_def, lt_def, lt_def]
      dsimp only
      rw [lt_def, nI_1]
    have noM : ¬ ((W 4700 0 k = 1 ∨ W 4700 0 k = 2) ∧ ¬ W 4800 0 k = -1 ∧ ¬ W 1047 0 0 < W 4800 0 k) → ∀ K : HV → Option HV, f_X12_step_L12 0 K (f' + 1) (nI k) W = f_X12_step_L12 0 K f' (nI (k + 1)) W := by
      intro hd K
      have fin : (jn (fun V44 => lt (nI k + 1) fun v47 => f_X12_step_L12 0 K f' v47 V44) fun k45 => if false = true then (chk (inb (nI k) 6) <| lt (sv W 4700 0 k 0) fun V50 => chk (inb (nI k) 6) <| lt (sv V50 4800 0 k (-1)) fun V52 => k45 V52) else (k45 W)) = f_X12_step_L12 0 K f' (nI (k + 1)) W := by
        rw [jn_def, if_neg (show ¬ false = true by decide)]
        dsimp only
        rw [lt_def, nI_1]
      conv => lhs; unfold f_X12_step_L12
      rw [s2, if_neg n1, chk_t ik, cl_nI (by omega), jn_def, jn_def, jn_def]
      by_cases q : W 4700 0 k = 1 ∨ W 4700 0 k = 2
      · have inner : (chk (inb (nI k) 6) <| if (W 4800 0 k) = (-1) then (jn (fun V44 => lt (nI k + 1) fun v47 => f_X12_step_L12 0 K f' v47 V44) fun k45 => if false = true then (chk (inb (nI k) 6) <| lt (sv W 4700 0 k 0) fun V50 => chk (inb (nI k) 6) <| lt (sv V50 4800 0 k (-1)) fun V52 => k45 V52) else (k45 W)) else (chk (inb (nI k) 6) <| if (W 1047 0 0) < (W 4800 0 k) then (jn (fun V44 => lt (nI k + 1) fun v47 => f_X12_step_L12 0 K f' v47 V44) fun k45 => if false = true then (chk (inb (nI k) 6) <| lt (sv W 4700 0 k 0) fun V50 => chk (inb (nI k) 6) <| lt (sv V50 4800 0 k (-1)) fun V52 => k45 V52) else (k45 W)) else (jn (fun V44 => lt (nI k + 1) fun v47 => f_X12_step_L12 0 K f' v47 V44) fun k45 => if true = true then (chk (inb (nI k) 6) <| lt (sv W 4700 0 k 0) fun V50 => chk (inb (nI k) 6) <| lt (sv V50 4800 0 k (-1)) fun V52 => k45 V52) else (k45 W)))) = f_X12_step_L12 0 K f' (nI (k + 1)) W := by
          rw [chk_t ik]
          by_cases q2 : W 4800 0 k = -1
          · rw [if_pos q2]; exact fin
          · rw [if_neg q2, chk_t ik]
            by_cases q3 : W 1047 0 0 < W 4800 0 k
            · rw [if_pos q3]; exact fin
            · exact absurd ⟨q, q2, q3⟩ hd
        by_cases q1 : W 4700 0 k = 1
        · rw [if_pos q1]; exact inner
        · rw [if_neg q1, chk_t ik, if_pos (by rcases q with z | z; exact absurd z q1; exact z)]; exact inner
      · rw [if_neg (fun z => q (Or.inl z)), chk_t ik, if_neg (fun z => q (Or.inr z))]; exact fin
    have yesM : ((W 4700 0 k = 1 ∨ W 4700 0 k = 2) ∧ ¬ W 4800 0 k = -1 ∧ ¬ W 1047 0 0 < W 4800 0 k) → ∀ K : HV → Option HV, f_X12_step_L12 0 K (f' + 1) (nI k) W = f_X12_step_L12 0 K f' (nI (k + 1)) (sv (sv W 4700 0 k 0) 4800 0 k (-1)) := by
      rintro ⟨q, q2, q3⟩ K
      have fin : (jn (fun V44 => lt (nI k + 1) fun v47 => f_X12_step_L12 0 K f' v47 V44) fun k45 => if true = true then (chk (inb (nI k) 6) <| lt (sv W 4700 0 k 0) fun V50 => chk (inb (nI k) 6) <| lt (sv V50 4800 0 k (-1)) fun V52 => k45 V52) else (k45 W)) = f_X12_step_L12 0 K f' (nI (k + 1)) (sv (sv W 4700 0 k 0) 4800 0 k (-1)) := by
        rw [jn_def, if_pos rfl, chk_t ik, lt_def, chk_t ik, lt_def]
        dsimp only
        rw [lt_def, nI_1]
      conv => lhs; unfold f_X12_step_L12
      rw [s2, if_neg n1, chk_t ik, cl_nI (by omega), jn_def, jn_def, jn_def]
      by_cases q1 : W 4700 0 k = 1
      · rw [if_pos q1, chk_t ik, if_neg q2, chk_t ik, if_neg q3]; exact fin
      · rw [if_neg q1, chk_t ik, if_pos (by rcases q with z | z; exact absurd z q1; exact z), chk_t ik, if_neg q2, chk_t ik, if_neg q3]; exact fin
    by_cases hd : (W 4700 0 k = 1 ∨ W 4700 0 k = 2) ∧ ¬ W 4800 0 k = -1 ∧ ¬ W 1047 0 0 < W 4800 0 k
    · have h63 : W 6300 0 k = 0 := by
        rcases alt with q | q
        · exact absurd (hTh.2.1 q.2.1 (by obtain ⟨z, z1, z2, z3, z4⟩ := q.2.2; rw [z3]; exact nI_ne0 (by omega) (by omega))) hd.2.1
        · exact q.2.1
      have hC : f_X9_isDue kb k (V 810 0 0) V = true := by
        have h711 : V 711 k 0 = W 4700 0 k := by
          rcases alt with q | q
          · obtain ⟨z, z1, z2, z3, z4⟩ := q.2.2
            rw [z3] at h63
            exact absurd h63 (nI_ne0 (by omega) (by omega))
          · exact q.1
        unfold f_X9_isDue
        rw [lt_def, h711, et, e12, if_neg hd.2.2]
        by_cases q1 : W 4700 0 k = 1
        · rw [if_pos q1]
        · rw [if_neg q1, if_pos (by rcases hd.1 with z | z; exact absurd z q1; exact z)]
      obtain ⟨g1, g2⟩ := ST_rdy h hT kn h63
      obtain ⟨V', W', e1, e2, e3, e4, e5, e6⟩ := due_L r (k + 1) f f' _ _ (by omega) (by omega) (by omega) g1 g2
      refine ⟨V', W', fun K => (yesC hC K).trans (e1 K), fun K => (yesM hd K).trans (e2 K), e3, e4, ?_, ?_⟩
      · exact (((agr_sv V 711 k 0 0).app (agr_sv _ 712 k 0 (-1))).app e5).sub (by decide)
      · exact (((agr_sv W 4700 0 k 0).app (agr_sv _ 4800 0 k (-1))).app e6).sub (by decide)
    · have hC : f_X9_isDue kb k (V 810 0 0) V = false := by
        unfold f_X9_isDue
        rw [lt_def]
        rcases alt with q | q
        · rw [q.1, if_neg (show ¬ (4 : Int32) = 1 by decide), if_neg (show ¬ (4 : Int32) = 2 by decide)]
        · rw [q.1, et, e12]
          by_cases q1 : W 4700 0 k = 1
          · rw [if_pos q1]
            by_cases q3 : W 1047 0 0 < W 4800 0 k
            · rw [if_pos q3]
            · exact absurd ⟨Or.inl q1, hTh.2.2 (Or.inr ⟨q1, q.2.1⟩), q3⟩ hd
          · rw [if_neg q1]
            by_cases q2 : W 4700 0 k = 2
            · rw [if_pos q2]
              by_cases q3 : W 1047 0 0 < W 4800 0 k
              · rw [if_pos q3]
              · exact absurd ⟨Or.inr q2, hTh.2.2 (Or.inl q2), q3⟩ hd
            · rw [if_neg q2]
      obtain ⟨V', W', e1, e2, e3, e4, e5, e6⟩ := due_L r (k + 1) f f' V W (by omega) (by omega) (by omega) h hT
      exact ⟨V', W', fun K => (noC hC K).trans (e1 K), fun K => (noM hd K).trans (e2 K), e3, e4, e5, e6⟩
