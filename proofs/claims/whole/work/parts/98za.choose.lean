/-! must the current thread leave -/
def Pr (Y : HV) : Prop := ∀ t, t < nth Y → ∃ p, p ≤ 7 ∧ Y 5500 0 t = nI p
def lev (W : HV) (c u : Nat) : Prop := u ≠ c ∧ W 4700 0 u = 0 ∧ (W 5500 0 c < W 5500 0 u ∨ (W 5500 0 u = W 5500 0 c ∧ ¬ W 6000 0 c < 50))
theorem ml_no {c k f : Nat} {Y W : HV} {K : Bool → Option HV} (s2 : W 1019 0 0 = nI (nth Y)) (hc6 : c < 6) (hk6 : nth Y ≤ 6) (hk : k < nth Y) (hcur : W 1048 0 0 = nI c) (hn : ¬ (i2b (W 5200 0 c) = true ∧ lev W c k)) : f_X12_chooses_L28 0 W K (f + 1) true (nI k) = f_X12_chooses_L28 0 W K f true (nI (k + 1)) := by
  have ik : inb (nI k) 6 := inb_nI (by omega) (by decide)
  have ic : inb (nI c) 6 := inb_nI hc6 (by decide)
  have stay : (lt (if false = true then (false) else (true) : Bool) fun v59 => lt (nI k + 1) fun v61 => f_X12_chooses_L28 0 W K f v59 v61) = f_X12_chooses_L28 0 W K f true (nI (k + 1)) := by
    rw [lt_def, if_neg (show ¬ false = true by decide), lt_def, nI_1]
  conv => lhs; unfold f_X12_chooses_L28
  rw [s2, if_neg (fun q => by have := (nI_leI (by omega) (by omega)).mp q; omega), if_pos rfl, jn_def, jn_def, hcur, cl_nI (show c < 2147483648 by omega), cl_nI (show k < 2147483648 by omega)]
  by_cases e : k = c
  · rw [if_pos (by rw [e])]
    dsimp only
    rw [jn_def, jn_def, if_neg (show ¬ false = true by decide)]
    exact stay
  · rw [if_neg (fun q => e (nI_inj (by omega) (by omega) q)), chk_t ik]
    by_cases q0 : W 4700 0 k = 0
    · rw [if_pos q0]
      dsimp only
      rw [jn_def, jn_def, if_pos rfl, chk_t ic]
      by_cases q1 : i2b (W 5200 0 c) = true
      · rw [if_pos q1, chk_t ik, chk_t ic, jn_def]
        by_cases q2 : W 5500 0 c < W 5500 0 k
        · exact absurd ⟨q1, e, q0, Or.inl q2⟩ hn
        · rw [if_neg q2, chk_t ik, chk_t ic]
          by_cases q3 : W 5500 0 k = W 5500 0 c
          · rw [if_pos q3, chk_t ic]
            by_cases q4 : W 6000 0 c < 50
            · rw [if_pos q4]; exact stay
            · exact absurd ⟨q1, e, q0, Or.inr ⟨q3, q4⟩⟩ hn
          · rw [if_neg q3]; exact stay
      · rw [if_neg q1]; exact stay
    · rw [if_neg q0]
      dsimp only
      rw [jn_def, jn_def, if_neg (show ¬ false = true by decide)]
      exact stay
theorem ml_yes {c k f : Nat} {Y W : HV} {K : Bool → Option HV} (s2 : W 1019 0 0 = nI (nth Y)) (hc6 : c < 6) (hk6 : nth Y ≤ 6) (hk : k < nth Y) (hcur : W 1048 0 0 = nI c) (hon : i2b (W 5200 0 c) = true) (hl : lev W c k) : f_X12_chooses_L28 0 W K (f + 2) true (nI k) = K false := by
  have ik : inb (nI k) 6 := inb_nI (by omega) (by decide)
  have ic : inb (nI c) 6 := inb_nI hc6 (by decide)
  have go : (lt (if true = true then (false) else (true) : Bool) fun v59 => lt (nI k + 1) fun v61 => f_X12_chooses_L28 0 W K (f + 1) v59 v61) = K false := by
    rw [lt_def, if_pos rfl, lt_def]
    unfold f_X12_chooses_L28
    by_cases q : W 1019 0 0 ≤ nI k + 1
    · rw [if_pos q]
    · rw [if_neg q, if_neg (show ¬ false = true by decide)]
  obtain ⟨e, q0, hp⟩ := hl
  unfold f_X12_chooses_L28
  rw [s2, if_neg (fun q => by have := (nI_leI (by omega) (by omega)).mp q; omega), if_pos rfl, jn_def, jn_def, hcur, cl_nI (show c < 2147483648 by omega), cl_nI (show k < 2147483648 by omega), if_neg (fun q => e (nI_inj (by omega) (by omega) q)), chk_t ik, if_pos q0]
  dsimp only
  rw [jn_def, jn_def, if_pos rfl, chk_t ic, if_pos hon, chk_t ik, chk_t ic, jn_def]
  by_cases q2 : W 5500 0 c < W 5500 0 k
  · rw [if_pos q2]; exact go
  · rcases hp with hp | ⟨q3, q4⟩
    · exact absurd hp q2
    · rw [if_neg q2, chk_t ik, chk_t ic, if_pos q3, chk_t ic, if_neg q4]; exact go
theorem ml_L {c : Nat} {Y V W : HV} {v1 : Int32} (s1 : V 808 0 0 = nI (nth Y)) (s2 : W 1019 0 0 = nI (nth Y)) (h6 : nth Y ≤ 6) (hc : c < nth Y) (hcur : W 1048 0 0 = nI c) (h7 : V 700 c 0 = nI c) (hon : i2b (V 710 c 0) = i2b (W 5200 0 c)) (hst : ∀ u, u < nth Y → (V 711 u 0 = 0 ↔ W 4700 0 u = 0)) (hv : ∀ u, u < nth Y → (V 706 u 0 < v1 ↔ ¬ (W 5500 0 c < W 5500 0 u ∨ (W 5500 0 u = W 5500 0 c ∧ ¬ W 6000 0 c < 50)))) : ∀ (r k f f' : Nat), k + r = nth Y → r < f → r + 1 < f' → ∃ b : Bool, f_X10_mustLeave_L25 0 c V v1 (some (i2b (V 710 c 0))) f (nI k) = some b ∧ (∀ K : Bool → Option HV, f_X12_chooses_L28 0 W K f' true (nI k) = K (!b)) ∧ (b = true → ∃ u, u < nth Y ∧ lev W c u)
  | _, _, 0, _, _, hf, _ => absurd hf (by omega)
  | _, _, _, 0, _, _, hf => absurd hf (by omega)
  | 0, k, f + 1, f' + 1, hk, _, _ => by
    refine ⟨false, ?_, fun K => ?_, fun q => absurd q (by decide)⟩
    · unfold f_X10_mustLeave_L25
      rw [s1, if_pos (nI_le (by omega) (by omega))]
    · unfold f_X12_chooses_L28
      rw [s2, if_pos (nI_le (by omega) (by omega))]
      rfl
  | r + 1, k, f + 1, f' + 1, hk, hf, hf' => by
    have kn : k < nth Y := by omega
    have ik : inb (nI k) 6 := inb_nI (by omega) (by decide)
    have n1 : ¬ nI (nth Y) ≤ nI k := fun q => by have := (nI_leI (by omega) (by omega)).mp q; omega
    by_cases hl : lev W c k
    · have hC : f_X10_mustLeave_L25 0 c V v1 (some (i2b (V 710 c 0))) (f + 1) (nI k) = some (i2b (V 710 c 0)) := by
        unfold f_X10_mustLeave_L25
        rw [s1, if_neg n1, jn_def, h7, if_neg (fun q => hl.1 (nI_inj (by omega) (by omega) q)), chk_t ik, cl_nI (by omega), if_pos ((hst k kn).mpr hl.2.1), chk_t ik, if_neg (fun q => ((hv k kn).mp q) hl.2.2)]
      rw [hC]
      by_cases ho : i2b (W 5200 0 c) = true
      · rw [hon, ho]
        refine ⟨true, rfl, fun K => ?_, fun _ => ⟨k, kn, hl⟩⟩
        obtain ⟨f2, e⟩ : ∃ f2, f' + 1 = f2 + 2 := ⟨f' - 1, by omega⟩
        rw [e, ml_yes s2 (by omega) h6 kn hcur ho hl]
        rfl
      · rw [hon, bF ho]
        refine ⟨false, rfl, fun K => ?_, fun q => absurd q (by decide)⟩
        have all : ∀ (r k f' : Nat), k + r = nth Y → r < f' → f_X12_chooses_L28 0 W K f' true (nI k) = K true := by
          intro r
          induction r with
          | zero =>
            intro k f' hk hf
            obtain ⟨f2, rfl⟩ : ∃ f2, f' = f2 + 1 := ⟨f' - 1, by omega⟩
            unfold f_X12_chooses_L28
            rw [s2, if_pos (nI_le (by omega) (by omega))]
          | succ r ih =>
            intro k f' hk hf
            obtain ⟨f2, rfl⟩ : ∃ f2, f' = f2 + 1 := ⟨f' - 1, by omega⟩
            rw [ml_no s2 (by omega) h6 (by omega) hcur (fun q => ho q.1)]
            exact ih (k + 1) f2 (by omega) (by omega)
        exact all (r + 1) k (f' + 1) hk (by omega)
    · obtain ⟨b, e1, e2, e3⟩ := ml_L s1 s2 h6 hc hcur h7 hon hst hv r (k + 1) f f' (by omega) (by omega) (by omega)
      refine ⟨b, ?_, fun K => ?_, e3⟩
      · unfold f_X10_mustLeave_L25
        rw [s1, if_neg n1, jn_def, h7, lt_def, nI_1, e1]
        by_cases q : k = c
        · rw [if_pos (by rw [q])]
        · rw [if_neg (fun z => q (nI_inj (by omega) (by omega) z)), chk_t ik, cl_nI (by omega)]
          by_cases q0 : W 4700 0 k = 0
          · rw [if_pos ((hst k kn).mpr q0), chk_t ik, if_pos ((hv k kn).mpr (fun z => hl ⟨q, q0, z⟩))]
          · rw [if_neg (fun z => q0 ((hst k kn).mp z))]
      · rw [ml_no s2 (by omega) h6 kn hcur (fun q => hl q.2)]
        exact e2 K
/-! the best of those that are ready -/
def ah (W : HV) (u b : Nat) : Prop := W 5500 0 b < W 5500 0 u ∨ (W 5500 0 u = W 5500 0 b ∧ W 5900 0 u < W 5900 0 b)
theorem ah_tr {W : HV} {a b c : Nat} (h1 : ah W a b) (h2 : ah W b c) : ah W a c := by
  rcases h1 with h1 | ⟨h1, h1'⟩
  · rcases h2 with h2 | ⟨h2, h2'⟩
    · exact Or.inl (Int32.lt_trans h2 h1)
    · exact Or.inl (by rw [← h2]; exact h1)
  · rcases h2 with h2 | ⟨h2, h2'⟩
    · exact Or.inl (by rw [h1]; exact h2)
    · exact Or.inr ⟨h1.trans h2, Int32.lt_trans h1' h2'⟩
theorem ah_ir {W : HV} {a : Nat} (h : ah W a a) : False := by
  rcases h with h | ⟨_, h⟩
  · exact Int32.lt_irrefl h
  · exact Int32.lt_irrefl h
theorem gb_C {kb u b : Nat} {V W : HV} (h1 : V 706 u 0 = W 5500 0 u) (h2 : V 706 b 0 = W 5500 0 b) (h3 : V 718 u 0 < V 718 b 0 ↔ W 5900 0 u < W 5900 0 b) : (f_X9_goesBefore kb u b V = true ↔ ah W u b) := by
  unfold f_X9_goesBefore ah
  rw [lt_def, h1, h2]
  by_cases q1 : W 5500 0 b < W 5500 0 u
  · rw [if_pos q1]; exact ⟨fun _ => Or.inl q1, fun _ => rfl⟩
  · rw [if_neg q1]
    by_cases q2 : W 5500 0 u = W 5500 0 b
    · rw [if_pos q2]
      by_cases q3 : V 718 b 0 ≤ V 718 u 0
      · rw [if_pos q3]
        refine ⟨fun q => absurd q (by decide), fun q => ?_⟩
        rcases q with q | q
        · exact absurd q q1
        · exact absurd (h3.mpr q.2) (Int32.not_lt.mpr q3)
      · rw [if_neg q3]
        exact ⟨fun _ => Or.inr ⟨q2, h3.mp (Int32.not_le.mp q3)⟩, fun _ => rfl⟩
    · rw [if_neg q2]
      refine ⟨fun q => absurd q (by decide), fun q => ?_⟩
      rcases q with q | q
      · exact absurd q q1
      · exact absurd q.1 q2
theorem ia_M {u b : Nat} {W : HV} (hu : u < 6) (hb : b < 6) : ∃ s : Bool, f_X12_isAhead 0 (nI u) (nI b) W = some s ∧ (s = true ↔ ah W u b) := by
  have iu : inb (nI u) 6 := inb_nI hu (by decide)
  have ib : inb (nI b) 6 := inb_nI hb (by decide)
  unfold f_X12_isAhead ah
  rw [jn_def, if_neg (show ¬ nI b = -1 from m1_ne b (by omega)), chk_t iu, chk_t ib, cl_nI (show u < 2147483648 by omega), cl_nI (show b < 2147483648 by omega)]
  by_cases q1 : W 5500 0 b < W 5500 0 u
  · rw [if_pos q1]; exact ⟨true, rfl, fun _ => Or.inl q1, fun _ => rfl⟩
  · rw [if_neg q1, chk_t iu, chk_t ib]
    by_cases q2 : W 5500 0 u = W 5500 0 b
    · rw [if_pos q2, chk_t iu, chk_t ib]
      by_cases q3 : W 5900 0 b ≤ W 5900 0 u
      · rw [if_pos q3]
        refine ⟨false, rfl, fun q => absurd q (by decide), fun q => ?_⟩
        rcases q with q | q
        · exact absurd q q1
        · exact absurd q.2 (Int32.not_lt.mpr q3)
      · rw [if_neg q3]
        exact ⟨true, rfl, fun _ => Or.inr ⟨q2, Int32.not_le.mp q3⟩, fun _ => rfl⟩
    · rw [if_neg q2]
      refine ⟨false, rfl, fun q => absurd q (by decide), fun q => ?_⟩
      rcases q with q | q
      · exact absurd q q1
      · exact absurd q.1 q2
def Bs (Y W : HV) (k : Nat) (s : Option Nat) : Prop := (∀ b, s = some b → b < nth Y ∧ W 4700 0 b = 0 ∧ ∀ u, u < k → W 4700 0 u = 0 → ¬ ah W u b) ∧ (s = none → ∀ u, u < k → ¬ W 4700 0 u = 0)
theorem bs_L {kb : Nat} {Y V W : HV} (s1 : V 808 0 0 = nI (nth Y)) (s2 : W 1019 0 0 = nI (nth Y)) (h6 : nth Y ≤ 6) (htk : ∀ b, b < nth Y → f_X10_taskAt kb 0 (nI b) V = some (some b)) (htn : f_X10_taskAt kb 0 (-1) V = some none) (hst : ∀ u, u < nth Y → (V 711 u 0 = 0 ↔ W 4700 0 u = 0)) (hp : ∀ u, u < nth Y → V 706 u 0 = W 5500 0 u) (ho : ∀ u b, u < nth Y → b < nth Y → (V 718 u 0 < V 718 b 0 ↔ W 5900 0 u < W 5900 0 b)) : ∀ (r k f f' : Nat) (s : Option Nat), k + r = nth Y → r < f → r < f' → Bs Y W k s → ∃ s', f_X10_best_L4 0 kb V (fun v3 => some v3) f (bst s) (nI k) = some (bst s') ∧ (∀ K : Int32 → Option HV, f_X12_chooses_L162 0 W K f' (bst s) (nI k) = K (bst s')) ∧ Bs Y W (nth Y) s'
  | _, _, 0, _, _, _, hf, _, _ => absurd hf (by omega)
  | _, _, _, 0, _, _, _, hf, _ => absurd hf (by omega)
  | 0, k, f + 1, f' + 1, s, hk, _, _, hB => by
    refine ⟨s, ?_, fun K => ?_, ?_⟩
    · unfold f_X10_best_L4
      rw [s1, if_pos (nI_le (by omega) (by omega))]
    · unfold f_X12_chooses_L162
      rw [s2, if_pos (nI_le (by omega) (by omega))]
    · rw [show nth Y = k by omega]; exact hB
  | r + 1, k, f + 1, f' + 1, s, hk, hf, hf', hB => by
    have kn : k < nth Y := by omega
    have ik : inb (nI k) 6 := inb_nI (by omega) (by decide)
    have n1 : ¬ nI (nth Y) ≤ nI k := fun q => by have := (nI_leI (by omega) (by omega)).mp q; omega
    have htb : ∃ p, f_X10_taskAt kb 0 (bst s) V = some p ∧ p = s := by
      cases s with
      | none => exact ⟨none, htn, rfl⟩
      | some b => exact ⟨some b, htk b (hB.1 b rfl).1, rfl⟩
    obtain ⟨p, ht1, ht2⟩ := htb
    rw [ht2] at ht1
    have keep : Bs Y W (k + 1) s → (∃ s', f_X10_best_L4 0 kb V (fun v3 => some v3) f (bst s) (nI k + 1) = some (bst s') ∧ (∀ K : Int32 → Option HV, f_X12_chooses_L162 0 W K f' (bst s) (nI k + 1) = K (bst s')) ∧ Bs Y W (nth Y) s') := fun hB' => by
      rw [nI_1]
      exact bs_L s1 s2 h6 htk htn hst hp ho r (k + 1) f f' s (by omega) (by omega) (by omega) hB'
    have take : Bs Y W (k + 1) (some k) → (∃ s', f_X10_best_L4 0 kb V (fun v3 => some v3) f (nI k) (nI k + 1) = some (bst s') ∧ (∀ K : Int32 → Option HV, f_X12_chooses_L162 0 W K f' (nI k) (nI k + 1) = K (bst s')) ∧ Bs Y W (nth Y) s') := fun hB' => by
      rw [nI_1]
      exact bs_L s1 s2 h6 htk htn hst hp ho r (k + 1) f f' (some k) (by omega) (by omega) (by omega) hB'
    have cC1 : f_X10_best_L4 0 kb V (fun v3 => some v3) (f + 1) (bst s) (nI k) = (if (V 711 k 0) = 0 then (onn s (f_X10_best_L4 0 kb V (fun v3 => some v3) f (nI k) (nI k + 1)) fun a18 => chk (a18 < 6) <| if f_X9_goesBefore kb k a18 V = true then (f_X10_best_L4 0 kb V (fun v3 => some v3) f (nI k) (nI k + 1)) else (f_X10_best_L4 0 kb V (fun v3 => some v3) f (bst s) (nI k + 1))) else (f_X10_best_L4 0 kb V (fun v3 => some v3) f (bst s) (nI k + 1))) := by
      conv => lhs; unfold f_X10_best_L4
      rw [s1, if_neg n1, ht1, bnd_some, chk_t ik, cl_nI (by omega), jn_def, jn_def]
      refine ifc ?_ rfl
      cases s with
      | none => rfl
      | some b =>
        rw [onn_some, onn_some, chk_t ik]
        rfl
    have cM1 : ∀ K : Int32 → Option HV, f_X12_chooses_L162 0 W K (f' + 1) (bst s) (nI k) = (if (W 4700 0 k) = 0 then (bnd (f_X12_isAhead 0 (nI k) (bst s) W) fun p45 => if p45 = true then (f_X12_chooses_L162 0 W K f' (nI k) (nI k + 1)) else (f_X12_chooses_L162 0 W K f' (bst s) (nI k + 1))) else (f_X12_chooses_L162 0 W K f' (bst s) (nI k + 1))) := by
      intro K
      conv => lhs; unfold f_X12_chooses_L162
      rw [s2, if_neg n1, chk_t ik, cl_nI (by omega), jn_def]
      rfl
    by_cases q0 : W 4700 0 k = 0
    · rw [cC1, if_pos ((hst k kn).mpr q0)]
      cases s with
      | none =>
        rw [onn_none]
        obtain ⟨s', e1, e2, e3⟩ := take ⟨fun b q => by
          rw [← Option.some.inj q]
          refine ⟨kn, q0, fun u hu hu0 => ?_⟩
          by_cases e : u = k
          · rw [e]; exact ah_ir
          · exact absurd hu0 (hB.2 rfl u (by omega)), fun q => absurd q (by simp)⟩
        refine ⟨s', e1, fun K => ?_, e3⟩
        have hia : f_X12_isAhead 0 (nI k) (bst none) W = some true := by
          unfold f_X12_isAhead
          rw [jn_def, if_pos (show bst none = -1 from rfl)]
        rw [cM1, if_pos q0, hia, bnd_some, if_pos rfl]
        exact e2 K
      | some b =>
        obtain ⟨bn, b0, bmax⟩ := hB.1 b rfl
        obtain ⟨z, z1, z2⟩ := ia_M (W := W) (show k < 6 by omega) (show b < 6 by omega)
        have z1' : f_X12_isAhead 0 (nI k) (bst (some b)) W = some z := z1
        have zC := gb_C (kb := kb) (hp k kn) (hp b bn) (ho k b kn bn)
        rw [onn_some, chk_t (show b < 6 by omega)]
        by_cases qa : ah W k b
        · rw [if_pos (zC.mpr qa)]
          obtain ⟨s', e1, e2, e3⟩ := take ⟨fun b' q => by
            rw [← Option.some.inj q]
            refine ⟨kn, q0, fun u hu hu0 => ?_⟩
            by_cases e : u = k
            · rw [e]; exact ah_ir
            · exact fun q2 => bmax u (by omega) hu0 (ah_tr q2 qa), fun q => absurd q (by simp)⟩
          refine ⟨s', e1, fun K => ?_, e3⟩
          rw [cM1, if_pos q0, z1', bnd_some, if_pos (z2.mpr qa)]
          exact e2 K
        · rw [if_neg (fun q => qa (zC.mp q))]
          obtain ⟨s', e1, e2, e3⟩ := keep ⟨fun b' q => by
            have eb := Option.some.inj q
            subst eb
            refine ⟨bn, b0, fun u hu hu0 => ?_⟩
            by_cases e : u = k
            · rw [e]; exact qa
            · exact bmax u (by omega) hu0, fun q => absurd q (by simp)⟩
          refine ⟨s', e1, fun K => ?_, e3⟩
          rw [cM1, if_pos q0, z1', bnd_some, if_neg (fun q => qa (z2.mp q))]
          exact e2 K
    · rw [cC1, if_neg (fun q => q0 ((hst k kn).mp q))]
      obtain ⟨s', e1, e2, e3⟩ := keep ⟨fun b' q => by
        obtain ⟨bn, b0, bmax⟩ := hB.1 b' q
        refine ⟨bn, b0, fun u hu hu0 => ?_⟩
        by_cases e : u = k
        · rw [e] at hu0; exact absurd hu0 q0
        · exact bmax u (by omega) hu0, fun q u hu => by
        by_cases e : u = k
        · rw [e]; exact q0
        · exact hB.2 q u (by omega)⟩
      refine ⟨s', e1, fun K => ?_, e3⟩
      rw [cM1, if_neg q0]
      exact e2 K
