/-! services that change no memory -/
def mrg (A B : HV) : HV := fun c o j => if c < 6 then A c o j else B c o j
theorem cap_lt {c : Nat} (h : ¬ c < 6) : c ∉ [0, 1, 2, 3, 4, 5] := by
  simp
  omega
theorem mrg_ge {A B : HV} {c o j : Nat} (h : ¬ c < 6) : mrg A B c o j = B c o j := if_neg h
theorem mrg_lt {A B : HV} {c o j : Nat} (h : c < 6) : mrg A B c o j = A c o j := if_pos h
theorem mrg_cC (A B : HV) : cC (mrg A B) = cC A := rfl
theorem mrg_U (A B : HV) : UC (mrg A B) (cC B) B := ⟨rfl, fun c o j hc => by
  by_cases h : c < 6
  · exact absurd (show c ∈ [0, 1, 2, 3, 4, 5] by simp; omega) hc
  · exact (mrg_ge h).symm⟩
theorem mrg_agr {A V B : HV} {f : Nat → Cp} {L : List Nat} (h : UC A f V) (hB : agr L V B) : agr L A (mrg A B) := by
  intro c o j hc
  by_cases h6 : c < 6
  · exact mrg_lt h6
  · rw [mrg_ge h6, hB c o j hc, h.2 c o j (cap_lt h6)]
theorem sv_cm {V : HV} {c o j c' o' j' : Nat} {x y : Int32} (h : ¬ c = c') : sv (sv V c o j x) c' o' j' y = sv (sv V c' o' j' y) c o j x := by
  funext a b e
  by_cases h1 : a = c
  · have h2 : ¬ a = c' := fun q => h (h1.symm.trans q)
    rw [sv_col h2]
    subst h1
    by_cases h3 : b = o ∧ e = j
    · obtain ⟨rfl, rfl⟩ := h3
      rw [sv_at, sv_at]
    · rw [sv_ne (fun q => h3 q.2), sv_ne (fun q => h3 q.2), sv_col h2]
  · rw [sv_col (V := sv V c' o' j' y) h1]
    by_cases h3 : a = c' ∧ b = o' ∧ e = j'
    · obtain ⟨rfl, rfl, rfl⟩ := h3
      rw [sv_at, sv_at]
    · rw [sv_ne h3, sv_ne h3, sv_col h1]
theorem sv_kM {W : HV} {i c o j : Nat} {y : Cp} {x : Int32} (h : c ∉ [2400, 2500, 2600, 2700, 2800, 2900]) : sv (kM W i y) c o j x = kM (sv W c o j x) i y := by
  simp only [List.mem_cons, List.not_mem_nil, or_false, not_or] at h
  unfold kM
  rw [sv_cm (Ne.symm h.2.2.2.2.2), sv_cm (Ne.symm h.2.2.2.2.1), sv_cm (Ne.symm h.2.2.2.1), sv_cm (Ne.symm h.2.2.1), sv_cm (Ne.symm h.2.1), sv_cm (Ne.symm h.1)]
theorem ST_state {kb t : Nat} {Y : HV} {l : List Ob} {V V' W W' : HV} (h : ST 1000 kb Y l V W) (hV : agr [711, 712, 713, 714, 715] V V') (hW : agr [1053, 4700, 4800, 6100, 6200, 6300] W W') (oV : ∀ c ∈ [711, 712, 713, 714, 715], ∀ u, u ≠ t → V' c u 0 = V c u 0) (oW : ∀ c ∈ [4700, 4800, 6100, 6200, 6300], ∀ u, u ≠ t → W' c 0 u = W c 0 u) (h1 : Rt1 V' W' t) (hT : ((W' 4700 0 t = 0 ∨ W' 4700 0 t = 3) → W' 4800 0 t = -1) ∧ (W' 4700 0 t = 1 → ¬ W' 6300 0 t = 0 → W' 4800 0 t = -1) ∧ ((W' 4700 0 t = 2 ∨ (W' 4700 0 t = 1 ∧ W' 6300 0 t = 0)) → ¬ W' 4800 0 t = -1)) (hw : W' 4700 0 t = 2 → ∀ u, u < nth W → u ≠ t → W 4700 0 u = 2 → V 714 u 0 < V' 714 t 0 ∧ W 6200 0 u < W' 6200 0 t) : ST 1000 kb Y l V' W' := by
  have hnth : nth W' = nth W := nth_fr hW (by decide)
  have hTh := h.2.2.2.2.2.2.2.2.2.2.2.2.1
  obtain ⟨z1, z2, z3, z4, z5⟩ := h.2.2.2.2.2.2.2.2.2.2.2.2.2
  refine ST_thr h (hV.sub (by decide)) (hW.sub (by decide)) (Rs_fr hV hW (by decide) (by decide) h.2.2.1) (fun u hu => ?_) ⟨fun u hu => (hV 700 u 0 (by decide)).trans (z1 u hu), fun u hu => ?_, fun u v hu hv => ?_, fun u v hu hv q1 q2 => ?_, fun c hc q => ?_⟩
  · obtain ⟨a1, a2, a3, a4, a5, a6, a7, a8⟩ := hTh u hu
    unfold isG at a3 ⊢
    rw [xN_fr hW (by decide), gN_fr hW (by decide), hW 5000 0 u (by decide), hW 5800 0 u (by decide)]
    refine ⟨a1, a2, a3, a4, a5, ?_⟩
    by_cases e : u = t
    · rw [e]; exact hT
    · rw [oW 4700 (by decide) u e, oW 4800 (by decide) u e, oW 6300 (by decide) u e]; exact ⟨a6, a7, a8⟩
  · by_cases e : u = t
    · rw [e]; exact h1
    · refine Rt1_pt (fun c hc => ?_) (fun c hc => ?_) (z2 u (by rw [← hnth]; exact hu))
      · by_cases ec : c ∈ [711, 712, 713, 714, 715]
        · exact oV c ec u e
        · exact hV c u 0 ec
      · by_cases ec : c ∈ [4700, 4800, 6100, 6200, 6300]
        · exact oW c ec u e
        · exact hW c 0 u (by revert c; decide)
  · rw [hV 718 u 0 (by decide), hV 718 v 0 (by decide), hW 5900 0 u (by decide), hW 5900 0 v (by decide)]
    exact z3 u v (by rw [← hnth]; exact hu) (by rw [← hnth]; exact hv)
  · rw [hnth] at hu hv
    by_cases e : u = t
    · by_cases e' : v = t
      · rw [e, e']
        exact ⟨fun q => (Int32.lt_irrefl q).elim, fun q => (Int32.lt_irrefl q).elim⟩
      · rw [e] at q1
        rw [oW 4700 (by decide) v e'] at q2
        obtain ⟨w1, w2⟩ := hw q1 v hv e' q2
        rw [e, oV 714 (by decide) v e', oW 6200 (by decide) v e']
        exact ⟨fun q => (Int32.lt_irrefl (Int32.lt_trans w1 q)).elim, fun q => (Int32.lt_irrefl (Int32.lt_trans w2 q)).elim⟩
    · by_cases e' : v = t
      · rw [e'] at q2
        rw [oW 4700 (by decide) u e] at q1
        obtain ⟨w1, w2⟩ := hw q2 u hu e q1
        rw [e', oV 714 (by decide) u e, oW 6200 (by decide) u e]
        exact ⟨fun _ => w2, fun _ => w1⟩
      · rw [oW 4700 (by decide) u e] at q1
        rw [oW 4700 (by decide) v e'] at q2
        rw [oV 714 (by decide) u e, oW 6200 (by decide) u e, oV 714 (by decide) v e', oW 6200 (by decide) v e']
        exact z4 u v hu hv q1 q2
  · rw [hV 812 0 0 (by decide), hW 6000 0 c (by decide)]
    rw [hW 1048 0 0 (by decide)] at q
    exact z5 c (by rw [← hnth]; exact hc) q
theorem Tm_state {T Tw t o : Nat} {V V' W W' : HV} (h : Tm T Tw V W) (h1 : Tw ≤ T) (h2 : T < 2147483648) (hV : agr [711, 712, 713, 714, 715] V V') (hW : agr [1053, 4700, 4800, 6100, 6200, 6300] W W') (oV : ∀ c ∈ [711, 712, 713, 714, 715], ∀ u, u ≠ t → V' c u 0 = V c u 0) (oW : ∀ c ∈ [4700, 4800, 6100, 6200, 6300], ∀ u, u ≠ t → W' c 0 u = W c 0 u) (ho : o ≤ T) (e53 : W' 1053 0 0 = nI o) (hle : W 1053 0 0 ≤ W' 1053 0 0) (hw : W' 4700 0 t = 2 → V' 714 t 0 ≤ nI T ∧ W' 6200 0 t < W' 1053 0 0) : Tm T T V' W' := by
  obtain ⟨a1, a2, a3, a4, o', a5, a6⟩ := Tm_up h h1 h2
  have hnth : nth W' = nth W := nth_fr hW (by decide)
  unfold Tm
  rw [hnth, hW 1047 0 0 (by decide), hW 1048 0 0 (by decide), hW 1080 0 0 (by decide)]
  refine ⟨a1, fun u hu => ?_, ?_, fun u hu q => ?_, o, ho, e53⟩
  · rw [hV 718 u 0 (by decide), hW 5900 0 u (by decide)]; exact a2 u hu
  · rcases a3 with a3 | ⟨c, c1, c2, c3⟩
    · exact Or.inl a3
    · refine Or.inr ⟨c, c1, c2, fun o hoo hne => ?_⟩
      rw [hV 718 o 0 (by decide), hV 718 c 0 (by decide), hW 5900 0 o (by decide), hW 5900 0 c (by decide)]
      exact c3 o hoo hne
  · by_cases e : u = t
    · rw [e] at q ⊢; exact hw q
    · rw [oW 4700 (by decide) u e] at q
      rw [oV 714 (by decide) u e, oW 6200 (by decide) u e]
      exact ⟨(a4 u hu q).1, Int32.lt_of_lt_of_le (a4 u hu q).2 hle⟩
def QR (kb T t : Nat) (Y : HV) (V W : HV) : Prop := ∃ l, QS kb T T t Y l V W ∧ cC V (17 * t + 10) = cM W (17 * t + 10) ∧ fil kb l (cM W (17 * t + 10)) = cM W (17 * t + 10) ∧ gd Y (lv l) (cM W (17 * t + 10))
theorem QS_t6 {kb T Tw t : Nat} {Y : HV} {l : List Ob} {V W : HV} (h : QS kb T Tw t Y l V W) : t < 6 := by
  obtain ⟨V0, f, h1, -, -, -, hn, -⟩ := h
  exact Nat.lt_of_lt_of_le hn h1.1.2.2.2.2.1
/-- register 10 gets y -/
theorem QS_10 {kb T Tw t : Nat} {Y : HV} {l : List Ob} {V W : HV} {y : Cp} (h : QS kb T Tw t Y l V W) (hy : gd Y l y) : QS kb T Tw t Y l (kC V (17 * t + 10) y) (kM W (17 * t + 10) y) := by
  have h6 := QS_t6 h
  obtain ⟨V0, f, h1, h2, h4, h5, hn, hV, ho, hk, hz⟩ := h
  have u0 := kC_U V0 (17 * t + 10) y
  have m0 := kM_U W (17 * t + 10) y
  have hcap : ∀ k, k < 17 → cC V0 (17 * t + k) = cM W (17 * t + k) := fun k hk17 => (h1.2.2.2.2.2.2.2.2.2.1 (17 * t + k) (by omega)).1 (okc_reg' (by rw [nth_LY h1.2.1]; exact hn) (by rw [nth_LY h1.2.1]; exact h1.1.2.2.2.2.1) hk17) (by omega)
  refine ⟨kC V0 (17 * t + 10) y, up f (17 * t + 10) y, ST_reg h1 hn u0 m0 (fun i hi hni => ⟨up_ne (by omega), up_ne (by omega)⟩) (fun k hk17 => ?_) ?_ (Or.inl rfl), Tm_fr u0.2 m0.2 (by decide) (by decide) h2, Jm_fr m0.2 (by decide) h4, (UM_80 m0).trans h5, hn, ⟨by rw [(kC_U V (17 * t + 10) y).1, hV.1], fun c o j hc => ?_⟩, fun i hi hni => ?_, fun k hkp => ?_, fun k hk17 hnk hk10 => ?_⟩
  · by_cases e : k = 10
    · rw [e, up_at, up_at]; exact ⟨fun _ => rfl, hy⟩
    · rw [up_ne (by omega), up_ne (by omega)]
      exact ⟨fun _ => hcap k hk17, (h1.2.2.2.2.2.2.2.2.2.1 (17 * t + k) (by omega)).2.1⟩
  · rw [up_ne (by omega)]
    exact (h1.2.2.2.2.2.2.2.2.2.1 (17 * t) (by omega)).2.2.2 (by omega) (by omega)
  · rw [(kC_U V (17 * t + 10) y).2 c o j hc, u0.2 c o j hc]; exact hV.2 c o j hc
  · rw [up_ne (by omega), u0.1, up_ne (by omega)]; exact ho i hi hni
  · unfold kpt at hkp
    rw [up_ne (by omega), m0.1, up_ne (by omega)]; exact hk k hkp
  · rw [m0.1, up_ne (by omega)]; exact hz k hk17 hnk hk10
theorem QR_num {kb T t : Nat} {Y : HV} {l : List Ob} {V W : HV} {v : Int32} (h : QS kb T T t Y l V W) : QR kb T t Y (kC V (17 * t + 10) (nm v)) (kM W (17 * t + 10) (nm v)) := by
  have e1 : cM (kM W (17 * t + 10) (nm v)) (17 * t + 10) = nm v := by rw [(kM_U W _ _).1, up_at]
  have e2 : cC (kC V (17 * t + 10) (nm v)) (17 * t + 10) = nm v := by rw [(kC_U V _ _).1, up_at]
  exact ⟨l, QS_10 h (gd_num _ _ _), e2.trans e1.symm, by rw [e1]; exact fil_nm _ _ _, by rw [e1]; exact gd_num _ _ _⟩
theorem QS_up {kb T Tw t : Nat} {Y : HV} {l : List Ob} {V W : HV} (h : QS kb T Tw t Y l V W) (h1 : Tw ≤ T) (h2 : T < 2147483648) : QS kb T T t Y l V W := by
  obtain ⟨V0, f, a1, a2, a3⟩ := h
  exact ⟨V0, f, a1, Tm_up a2 h1 h2, a3⟩
/-- other columns change, no capability -/
theorem QS_col {kb T Tw t : Nat} {Y : HV} {l : List Ob} {V V' W W' : HV} {L M : List Nat} (h : QS kb T Tw t Y l V W) (hV : agr L V V') (hW : agr M W W') (hL : ∀ c ∈ [0, 1, 2, 3, 4, 5], c ∉ L) (hM : ∀ c ∈ [1080, 2400, 2500, 2600, 2700, 2800, 2900], c ∉ M) (hS : ∀ V0, agr [0, 1, 2, 3, 4, 5] V0 V → ST 1000 kb Y l V0 W → Tm T Tw V0 W → Jm Y l W → ST 1000 kb Y l (mrg V0 V') W' ∧ Tm T T (mrg V0 V') W' ∧ Jm Y l W') : QS kb T T t Y l V' W' := by
  obtain ⟨V0, f, h1, h2, h4, h5, hn, hu, ho, hk, hz⟩ := h
  obtain ⟨s1, s2, s3⟩ := hS V0 hu.2 h1 h2 h4
  have cW : cM W' = cM W := cM_fr hW (fun c hc => hM c (by revert c; decide))
  refine ⟨mrg V0 V', f, s1, s2, s3, (hW 1080 0 0 (hM 1080 (by decide))).trans h5, hn, ⟨(cC_fr hV hL).trans hu.1, (mrg_U V0 V').2⟩, fun i hi hni => ho i hi hni, fun k hkp => ?_, fun k hk17 hnk hk10 => ?_⟩
  · rw [cW]; exact hk k hkp
  · rw [cW]; exact hz k hk17 hnk hk10
