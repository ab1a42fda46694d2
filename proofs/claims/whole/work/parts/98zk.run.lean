/-! steps -/
theorem OK_RQ {kb T t : Nat} {Y : HV} {l : List Ob} {V W : HV} (h : OK 1000 kb T T t Y l V W) (hP : Pr Y) : RQ kb T Y l V W := by
  obtain ⟨h1, h2, h3, h4, h5, h6⟩ := id h
  have t6 := OK_t6 h
  refine ⟨h1, h2, h4, hP, fun u hu q => ?_⟩
  rcases h2.2.2.1 with e | ⟨c, c1, ⟨c2, c3⟩, -⟩
  · exact absurd (q.symm.trans e) (m1_ne u (by omega))
  · have hc6 : c < 6 := Nat.lt_of_lt_of_le c1 (by rw [nth_LY h1.2.1]; exact h1.1.2.2.2.2.1)
    have e1 : u = c := nI_inj (by omega) (by omega) (q.symm.trans c2)
    have e2 : t = c := nI_inj (by omega) (by omega) (h5.symm.trans c3)
    rw [e1, ← e2]
    exact h3
theorem ins_idle {kb : Nat} {V : HV} (h : f_X10_taskAt kb 0 (V 811 0 0) V = some none) : f_X2_instruction kb 0 V = some V := by
  unfold f_X2_instruction
  rw [h, bnd_some, onn_none]
theorem step_all {kb T : Nat} {Y : HV} {l : List Ob} {V W : HV} (h : RQ kb T Y l V W) (hT2 : T < 1073741000) : ∃ V' W' l', (bnd (f_X10_tick kb 0 V) fun p14 => bnd (f_X2_instruction kb 0 p14) fun p15 => bnd (f_X10_sweep kb 0 p15) fun p16 => some p16) = some V' ∧ f_X12_step 0 W = some W' ∧ RQ kb (T + 1) Y l' V' W' := by
  obtain ⟨V1, e1, e2 | e2⟩ := tick_all h hT2
  · obtain ⟨W5, x1, x2, x3⟩ := e2
    obtain ⟨V', W', l', y1, y2, y3⟩ := sweep_all (by omega) x3
    refine ⟨V', W', l', ?_, ?_, y3⟩
    · rw [e1, bnd_some, ins_idle, bnd_some, y1, bnd_some]
      rw [x2]
      refine taskAt_none x3.1.2.2.1 x3.1.2.2.2.2.2.2.2.1 (fun q => ?_)
      obtain ⟨t, ht, e⟩ := q
      have := x3.1.2.2.2.2.2.2.2.1.2.2.2.2.1
      exact m1_ne t (by omega) e.symm
    · rw [x1, y2, bnd_some]
  · obtain ⟨u, W14, x1, x2, x3, x4⟩ := e2
    obtain ⟨V2, W2, l2, y1, y2, y3⟩ := ins_all rfl (by omega) x4 x2 x3
    obtain ⟨V', W', l', z1, z2, z3⟩ := sweep_all (by omega) (OK_RQ y3 h.2.2.2.1)
    refine ⟨V', W', l', ?_, ?_, z3⟩
    · rw [e1, bnd_some, y1, bnd_some, z1, bnd_some]
    · rw [x1]
      unfold stp
      refine (y2 _).trans ?_
      rw [z2, bnd_some]
theorem std_L {V W : HV} {n : Nat} (h6 : n ≤ 6) (s1 : V 808 0 0 = nI n) (s2 : W 1019 0 0 = nI n) (hst : ∀ t, t < n → (V 711 t 0 = 3 ↔ W 4700 0 t = 3)) : ∀ (r k f f' : Nat), k + r = n → r < f → r < f' → ∃ b : Bool, f_X10_stands_L2 0 V (some true) f (nI k) = some b ∧ f_X12_areEnded_L4 0 W (fun v3 => some v3) f' true (nI k) = some b
  | _, _, 0, _, _, hf, _ => absurd hf (by omega)
  | _, _, _, 0, _, _, hf => absurd hf (by omega)
  | 0, k, f + 1, f' + 1, hk, _, _ => by
    refine ⟨true, ?_, ?_⟩
    · unfold f_X10_stands_L2
      rw [s1, if_pos (nI_le (by omega) (by omega))]
    · unfold f_X12_areEnded_L4
      rw [s2, if_pos (nI_le (by omega) (by omega))]
  | r + 1, k, f + 1, f' + 1, hk, hf, hf' => by
    have ik : inb (nI k) 6 := inb_nI (by omega) (by decide)
    have n1 : ¬ nI n ≤ nI k := fun q => by have := (nI_leI (by omega) (by omega)).mp q; omega
    by_cases e : W 4700 0 k = 3
    · obtain ⟨b, e1, e2⟩ := std_L h6 s1 s2 hst r (k + 1) f f' (by omega) (by omega) (by omega)
      refine ⟨b, ?_, ?_⟩
      · unfold f_X10_stands_L2
        rw [s1, if_neg n1, chk_t ik, cl_nI (by omega), if_pos ((hst k (by omega)).mpr e), lt_def, nI_1]
        exact e1
      · unfold f_X12_areEnded_L4
        rw [s2, if_neg n1, jn_def, jn_def, if_pos rfl, chk_t ik, cl_nI (by omega), if_pos e]
        dsimp only
        rw [lt_def, nI_1]
        exact e2
    · have no : ∀ (r k f' : Nat), k + r = n → r < f' → f_X12_areEnded_L4 0 W (fun v3 => some v3) f' false (nI k) = some false := by
        intro r
        induction r with
        | zero =>
          intro k f' hk hf'
          obtain ⟨f2, rfl⟩ : ∃ f2, f' = f2 + 1 := ⟨f' - 1, by omega⟩
          unfold f_X12_areEnded_L4
          rw [s2, if_pos (nI_le (by omega) (by omega))]
        | succ r ih =>
          intro k f' hk hf'
          obtain ⟨f2, rfl⟩ : ∃ f2, f' = f2 + 1 := ⟨f' - 1, by omega⟩
          unfold f_X12_areEnded_L4
          rw [s2, if_neg (fun q => by have := (nI_leI (by omega) (by omega)).mp q; omega), jn_def, jn_def, if_neg (show ¬ false = true by decide)]
          dsimp only
          rw [lt_def, nI_1]
          exact ih (k + 1) f2 (by omega) (by omega)
      refine ⟨false, ?_, ?_⟩
      · unfold f_X10_stands_L2
        rw [s1, if_neg n1, chk_t ik, cl_nI (by omega), if_neg (fun q => e ((hst k (by omega)).mp q))]
      · unfold f_X12_areEnded_L4
        rw [s2, if_neg n1, jn_def, jn_def, if_pos rfl, chk_t ik, cl_nI (by omega), if_neg e]
        dsimp only
        rw [lt_def, nI_1]
        exact no r (k + 1) f' (by omega) (by omega)
theorem std_all {x kb : Nat} {Y : HV} {l : List Ob} {V W : HV} (h : ST x kb Y l V W) : ∃ b : Bool, f_X10_stands kb 0 V = some b ∧ f_X12_areEnded 0 W = some b ∧ (nth Y = 0 → b = true) := by
  obtain ⟨s1, s2, s3⟩ := ST_808 h
  have hst : ∀ t, t < nth Y → (V 711 t 0 = 3 ↔ W 4700 0 t = 3) := by
    intro t ht
    have rr : Rt1 V W t := h.2.2.2.2.2.2.2.2.2.2.2.2.2.2.1 t (by rw [nth_LY h.2.1]; exact ht)
    rcases rr.2.2.2.2.2.2.2.2.2.2.1 with ⟨q1, q2, -⟩ | ⟨q1, -, -⟩
    · rw [q1, q2]
      exact ⟨fun q => absurd q (by decide), fun q => absurd q (by decide)⟩
    · rw [q1]
  obtain ⟨b, e1, e2⟩ := std_L (V := V) (W := W) s3 s1 s2 hst (nth Y) 0 FU FU (by omega) (FU_gt (by omega)) (FU_gt (by omega))
  have e1' : f_X10_stands kb 0 V = some b := by
    unfold f_X10_stands
    rw [jn_def]; exact e1
  refine ⟨b, e1', ?_, fun h0 => ?_⟩
  · unfold f_X12_areEnded
    rw [jn_def]; exact e2
  · unfold f_X10_stands at e1'
    rw [jn_def] at e1'
    obtain ⟨ff, hff⟩ : ∃ ff, FU = ff + 1 := ⟨FU - 1, by have := FU_gt (k := 5) (by decide); omega⟩
    rw [hff] at e1'
    unfold f_X10_stands_L2 at e1'
    rw [s1, h0, if_pos (show nI 0 ≤ 0 by decide)] at e1'
    exact (Option.some.inj e1').symm
theorem run_L {kb : Nat} {Y : HV} {n : Nat} (hn : n ≤ 5000) : ∀ (r k f f' T : Nat) (l : List Ob) (V W : HV), k + r = n → r < f → r < f' → T + r < 1073741000 → RQ kb T Y l V W → i2b (W 1017 0 0) = true → ∃ m V' W' l' T', f_X11_run_L15 (nI n) kb (fun v5 V6 => some (v5, V6)) f (nI k) V = some (m, V') ∧ f_X12_run_L15 0 (nI n) (fun v5 V6 => some (v5, V6)) f' (nI k) W = some (m, W') ∧ T' ≤ T + r ∧ RQ kb T' Y l' V' W'
  | _, _, 0, _, _, _, _, _, _, hf, _, _, _, _ => absurd hf (by omega)
  | _, _, _, 0, _, _, _, _, _, _, hf, _, _, _ => absurd hf (by omega)
  | 0, k, f + 1, f' + 1, T, l, V, W, hk, _, _, _, h, hb => by
    refine ⟨nI k, V, W, l, T, ?_, ?_, by omega, h⟩
    · unfold f_X11_run_L15
      rw [if_pos (nI_le (by omega) (by omega))]
    · unfold f_X12_run_L15
      rw [if_pos hb, if_pos (nI_le (by omega) (by omega))]
  | r + 1, k, f + 1, f' + 1, T, l, V, W, hk, hf, hf', hT, h, hb => by
    have n1 : ¬ nI n ≤ nI k := fun q => by have := (nI_leI (by omega) (by omega)).mp q; omega
    obtain ⟨b, s1, s2, s3⟩ := std_all h.1
    by_cases hbb : b = true
    · refine ⟨nI k, V, W, l, T, ?_, ?_, by omega, h⟩
      · unfold f_X11_run_L15
        rw [if_neg n1, s1, bnd_some, if_pos hbb]
      · unfold f_X12_run_L15
        rw [if_pos hb, if_neg n1, s2, bnd_some, if_pos hbb]
    · obtain ⟨V1, W1, l1, e1, e2, e3⟩ := step_all h (by omega)
      obtain ⟨m, V', W', l', T', x1, x2, x3, x4⟩ := run_L hn r (k + 1) f f' (T + 1) l1 V1 W1 (by omega) (by omega) (by omega) (by omega) e3 (by
        cases hq : i2b (W1 1017 0 0) with
        | true => rfl
        | false =>
          have := (e3.1.2.2.2.2.2.2.2.1.2.2.2.2.2.2.2 hq).1
          rw [nth_LY e3.1.2.1] at this
          exact absurd (s3 this) hbb)
      refine ⟨m, V', W', l', T', ?_, ?_, by omega, x4⟩
      · unfold f_X11_run_L15
        rw [if_neg n1, s1, bnd_some, if_neg hbb]
        have : ∀ (A : Option HV) (K : HV → Option (Int32 × HV)), (bnd A fun p14 => bnd (f_X2_instruction kb 0 p14) fun p15 => bnd (f_X10_sweep kb 0 p15) fun p16 => K p16) = bnd (bnd A fun p14 => bnd (f_X2_instruction kb 0 p14) fun p15 => bnd (f_X10_sweep kb 0 p15) fun p16 => some p16) K := by
          intro A K
          cases A with
          | none => rfl
          | some a =>
            rw [bnd_some, bnd_some]
            cases f_X2_instruction kb 0 a with
            | none => rfl
            | some c =>
              rw [bnd_some, bnd_some]
              cases f_X10_sweep kb 0 c with
              | none => rfl
              | some d => rfl
        rw [this, e1, bnd_some, lt_def, nI_1]
        exact x1
      · unfold f_X12_run_L15
        rw [if_pos hb, if_neg n1, s2, bnd_some, if_neg hbb, e2, bnd_some, lt_def, nI_1]
        exact x2
def RZ (cn kb : Nat) (V W : HV) : Prop := ∃ Y l T, T ≤ 5000 * cn ∧ RQ kb T Y l V W
theorem RZ_up {cn kb : Nat} {V W : HV} (h : RZ cn kb V W) : RZ (cn + 1) kb V W := by
  obtain ⟨Y, l, T, h1, h2⟩ := h
  exact ⟨Y, l, T, by omega, h2⟩
theorem run_all : S_run RZ := by
  intro cn kb V W hcn h x1
  obtain ⟨Y, l, T, hT, hq⟩ := id h
  unfold f_X11_run f_X12_run
  by_cases h0 : x1 < 0
  · rw [if_pos h0, if_pos h0]
    exact ⟨_, _, _, rfl, rfl, RZ_up h⟩
  · rw [if_neg h0, if_neg h0]
    by_cases h5 : x1 ≤ 5000
    · rw [if_pos h5, if_pos h5, jn_def, jn_def]
      obtain ⟨n, hn, rfl⟩ := nI_lt_of (n := 5001) h0 (Int32.lt_of_le_of_lt h5 (by decide)) (by decide)
      by_cases hb : i2b (W 1017 0 0) = true
      · obtain ⟨m, V', W', l', T', x1, x2, x3, x4⟩ := run_L (n := n) (by omega) n 0 FU FU T l V W (by omega) (FU_gt (by omega)) (FU_gt (by omega)) (by omega) hq hb
        exact ⟨m, V', W', x1, x2, Y, l', T', by omega, x4⟩
      · obtain ⟨ff, hff⟩ : ∃ ff, FU = ff + 1 := ⟨FU - 1, by have := FU_gt (k := 5) (by decide); omega⟩
        have hz : nth Y = 0 := by
          rw [← nth_LY hq.1.2.1]
          exact (hq.1.2.2.2.2.2.2.2.1.2.2.2.2.2.2.2 (bF hb)).1
        obtain ⟨b, s1, s2, s3⟩ := std_all hq.1
        have hbb := s3 hz
        rw [hff]
        refine ⟨0, V, W, ?_, ?_, RZ_up h⟩
        · unfold f_X11_run_L15
          by_cases e : nI n ≤ 0
          · rw [if_pos e]
          · rw [if_neg e, s1, bnd_some, if_pos hbb]
        · unfold f_X12_run_L15
          rw [if_neg hb]
    · rw [if_neg h5, if_neg h5]
      exact ⟨_, _, _, rfl, rfl, RZ_up h⟩
