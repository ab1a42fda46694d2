/-! a sweep begins -/
def mk3 (l : List Ob) : List Ob := l.map fun o => if o.2.2 = 2 then (o.1, o.2.1, 3) else o
theorem mk3_c (o : Ob) (l : List Ob) : mk3 (o :: l) = (if o.2.2 = 2 then (o.1, o.2.1, 3) else o) :: mk3 l := rfl
theorem mk3_1 (o : Ob) : (if o.2.2 = 2 then (o.1, o.2.1, 3) else o).1 = o.1 ∧ (if o.2.2 = 2 then (o.1, o.2.1, 3) else o).2.1 = o.2.1 ∧ (if o.2.2 = 2 then (o.1, o.2.1, 3) else o).2.2 = (if o.2.2 = 2 then 3 else o.2.2) := by
  by_cases q : o.2.2 = 2
  · rw [if_pos q, if_pos q]; exact ⟨rfl, rfl, rfl⟩
  · rw [if_neg q, if_neg q]; exact ⟨rfl, rfl, rfl⟩
theorem srt_mk3 {hi : Nat} : ∀ (l : List Ob) (lo : Nat), srt hi lo l → srt hi lo (mk3 l)
  | [], lo, h => h
  | o :: l, lo, h => by
    rw [mk3_c]
    obtain ⟨e1, e2, e3⟩ := mk3_1 o
    unfold srt
    rw [e1, e2, e3]
    refine ⟨h.1, h.2.1, ?_, srt_mk3 l _ h.2.2.2⟩
    by_cases q : o.2.2 = 2
    · rw [if_pos q]; exact Or.inr (Or.inr rfl)
    · rw [if_neg q]; exact h.2.2.1
theorem lk_mk3 (g : Nat) : ∀ (l : List Ob), (lk (mk3 l) g).1 = (lk l g).1
  | [] => rfl
  | o :: l => by
    rw [mk3_c]
    obtain ⟨e1, e2, e3⟩ := mk3_1 o
    unfold lk
    rw [e1]
    by_cases q : g = o.1
    · rw [if_pos q, if_pos q]; exact e2
    · rw [if_neg q, if_neg q]; exact lk_mk3 g l
theorem cnt_mk3 : ∀ (l : List Ob), cnt (mk3 l) = cnt l ∧ gvn (mk3 l) = gvn l ∧ hld (mk3 l) = hld l ∧ (∀ g, rvk (mk3 l) g = rvk l g)
  | [] => ⟨rfl, rfl, rfl, fun _ => rfl⟩
  | o :: l => by
    obtain ⟨i1, i2, i3, i4⟩ := cnt_mk3 l
    obtain ⟨e1, e2, e3⟩ := mk3_1 o
    rw [mk3_c]
    generalize (if o.2.2 = 2 then (o.1, o.2.1, 3) else o) = o' at e1 e2 e3
    have e4 : (o'.2.2 = 1) ↔ (o.2.2 = 1) := by
      rw [e3]
      by_cases q : o.2.2 = 2
      · rw [if_pos q]; omega
      · rw [if_neg q]
    refine ⟨?_, ?_, ?_, fun g => ?_⟩
    · show (if o'.2.2 = 1 then 1 else 0) + cnt (mk3 l) = (if o.2.2 = 1 then 1 else 0) + cnt l
      rw [i1]
      by_cases q : o.2.2 = 1
      · rw [if_pos q, if_pos (e4.mpr q)]
      · rw [if_neg q, if_neg (fun z => q (e4.mp z))]
    · show (if o'.2.2 = 1 then o'.2.1 else 0) + gvn (mk3 l) = (if o.2.2 = 1 then o.2.1 else 0) + gvn l
      rw [i2, e2]
      by_cases q : o.2.2 = 1
      · rw [if_pos q, if_pos (e4.mpr q)]
      · rw [if_neg q, if_neg (fun z => q (e4.mp z))]
    · show (if o'.2.2 = 1 then 0 else o'.2.1) + hld (mk3 l) = (if o.2.2 = 1 then 0 else o.2.1) + hld l
      rw [i3, e2]
      by_cases q : o.2.2 = 1
      · rw [if_pos q, if_pos (e4.mpr q)]
      · rw [if_neg q, if_neg (fun z => q (e4.mp z))]
    · have := i4 g
      unfold rvk at this ⊢
      rw [List.any_cons, List.any_cons, this]
      congr 1
      apply decide_eq_decide.mpr
      rw [e1, e2]
      constructor
      · exact fun z => ⟨fun y => z.1 (e4.mpr y), z.2⟩
      · exact fun z => ⟨fun y => z.1 (e4.mp y), z.2⟩
theorem mk3_lv (l : List Ob) : lv (mk3 l) = lv l := by
  induction l with
  | nil => rfl
  | cons o l ih =>
    rw [mk3_c]
    unfold lv at ih ⊢
    rw [List.filter_cons, List.filter_cons, ih]
    by_cases q : o.2.2 = 2
    · rw [if_pos q]
      have n1 : ¬ (o.1, o.2.1, 3).2.2 = 1 := by show ¬ (3 : Nat) = 1; decide
      rw [if_neg (show ¬ decide ((o.1, o.2.1, 3).2.2 = 1) = true from fun z => n1 (of_decide_eq_true z)), if_neg (show ¬ decide (o.2.2 = 1) = true from fun z => by have := of_decide_eq_true z; omega)]
    · rw [if_neg q]
theorem map_mk3 {l : List Ob} : ∀ x, x ∈ l → ∃ o', o' ∈ mk3 l ∧ o'.1 = x.1 ∧ o'.2.1 = x.2.1 := fun x hx => ⟨_, List.mem_map.mpr ⟨x, hx, rfl⟩, (mk3_1 x).1, (mk3_1 x).2.1⟩
theorem max_C {n : Nat} (h : n < 2147483648) : f_J9_max_7cf53 1 (nI n) = nI (if 1 < n then n else 1) := by
  unfold f_J9_max_7cf53
  rw [lt_def]
  by_cases q : 1 < n
  · rw [if_pos q, if_pos (show (1 : Int32) < nI n from nI_lt (a := 1) q h)]
  · rw [if_neg q, if_neg (show ¬ (1 : Int32) < nI n from nI_nlt (b := n) (a := 1) (by omega) (by decide))]
    rfl
theorem bg_gap {kb e : Nat} {V : HV} {K : HV → Option HV} (hkb : kb ≤ 32) (he : e ≤ 64 * kb) : ∀ (r p f : Nat), p + r = e → (∀ g, p ≤ g → g < e → V 2500 0 g = 0 ∧ V 2600 0 g = 0) → r < f → f_X4_beginSweepIfDue_L78 kb K f (nI p) V = f_X4_beginSweepIfDue_L78 kb K (f - r) (nI e) V
  | 0, p, f, hr, _, _ => by rw [show p = e by omega, Nat.sub_zero]
  | r + 1, p, 0, _, _, hf => absurd hf (by omega)
  | r + 1, p, f + 1, hr, hz, hf => by
    have ip : inb (nI p) (64 * kb) := inb_nI (by omega) (by omega)
    have z := hz p (Nat.le_refl _) (by omega)
    conv => lhs; unfold f_X4_beginSweepIfDue_L78
    rw [ofNat_nI, if_neg (fun q => by have := (nI_leI (by omega) (by omega)).mp q; omega), chk_t ip, jn_def, cl_nI (by omega), z.2, if_neg (show ¬ (0 : Int32) = 2 by decide)]
    dsimp only
    rw [chk_t ip, z.1, lt_def, show (0 : Int32) = nI 0 from rfl, max_C (by decide), lt_def, if_neg (show ¬ 1 < 0 by decide), nI_add, bg_gap hkb he r (p + 1) f (by omega) (fun g h1 h2 => hz g (by omega) h2) (by omega), show f + 1 - (r + 1) = f - r by omega]
theorem bg_L {kb : Nat} (hkb : kb ≤ 32) : ∀ (l : List Ob) (p f : Nat) (V : HV), srt (64 * kb) p l → (∀ g, p ≤ g → g < 64 * kb → V 2500 0 g = nI (lk l g).1 ∧ V 2600 0 g = nI (lk l g).2) → 64 * kb - p + 1 < f → ∃ V', (∀ K : HV → Option HV, f_X4_beginSweepIfDue_L78 kb K f (nI p) V = K V') ∧ agr [2600] V V' ∧ (∀ g, g < p → V' 2600 0 g = V 2600 0 g) ∧ (∀ g, p ≤ g → g < 64 * kb → V' 2600 0 g = nI (lk (mk3 l) g).2)
  | [], p, f, V, hs, hz, hf => by
    have hle : p ≤ 64 * kb := hs
    refine ⟨V, fun K => ?_, (agr_rfl V).sub (by decide), fun _ _ => rfl, fun g h1 h2 => (hz g h1 h2).2⟩
    rw [bg_gap hkb (Nat.le_refl _) (64 * kb - p) p f (by omega) (fun g h1 h2 => hz g h1 h2) (by omega)]
    obtain ⟨f', e⟩ : ∃ f', f - (64 * kb - p) = f' + 1 := ⟨f - (64 * kb - p) - 1, by omega⟩
    rw [e]
    unfold f_X4_beginSweepIfDue_L78
    rw [ofNat_nI, if_pos (nI_le (Nat.le_refl _) (by omega))]
  | o :: l, p, f, V, hs, hz, hf => by
    obtain ⟨h1, h2, h3, h4⟩ := hs
    have hle := srt_le h4
    obtain ⟨f', ef⟩ : ∃ f', f - (o.1 - p) = f' + 1 := ⟨f - (o.1 - p) - 1, by omega⟩
    have zo : V 2500 0 o.1 = nI o.2.1 ∧ V 2600 0 o.1 = nI o.2.2 := by
      have := hz o.1 h1 (by omega)
      unfold lk at this
      rw [if_pos rfl] at this
      exact this
    have ip : inb (nI o.1) (64 * kb) := inb_nI (by omega) (by omega)
    have h22 : o.2.2 < 4 := by omega
    have emax : (if 1 < o.2.1 then o.2.1 else 1) = o.2.1 := by
      by_cases q : 1 < o.2.1
      · rw [if_pos q]
      · rw [if_neg q]; omega
    have rest : ∀ V1 : HV, agr [2600] V V1 → (∀ g, o.1 < g → V1 2600 0 g = V 2600 0 g) → ∃ V', (∀ K : HV → Option HV, f_X4_beginSweepIfDue_L78 kb K f' (nI (o.1 + o.2.1)) V1 = K V') ∧ agr [2600] V1 V' ∧ (∀ g, g < o.1 + o.2.1 → V' 2600 0 g = V1 2600 0 g) ∧ (∀ g, o.1 + o.2.1 ≤ g → g < 64 * kb → V' 2600 0 g = nI (lk (mk3 l) g).2) := fun V1 a1 g1 => bg_L hkb l (o.1 + o.2.1) f' V1 h4 (fun g y1 y2 => by
      rw [a1 2500 0 g (by decide), g1 g (by omega)]
      have := hz g (by omega) y2
      unfold lk at this
      rw [if_neg (by omega)] at this
      exact this) (by omega)
    have gap : ∀ K : HV → Option HV, f_X4_beginSweepIfDue_L78 kb K f (nI p) V = f_X4_beginSweepIfDue_L78 kb K (f' + 1) (nI o.1) V := fun K => by
      rw [bg_gap (e := o.1) hkb (by omega) (o.1 - p) p f (by omega) (fun g y1 y2 => by
        have := hz g y1 (by omega)
        have e0 : lk (o :: l) g = (0, 0) := by
          unfold lk
          rw [if_neg (by omega)]
          exact lk_lo h4 (by omega)
        rw [e0] at this
        exact this) (by omega), ef]
    have lkm : ∀ g, p ≤ g → g < 64 * kb → ∀ x : Int32, (g = o.1 → x = nI (if o.2.2 = 2 then 3 else o.2.2)) → (g ≠ o.1 → g < o.1 + o.2.1 → x = V 2600 0 g) → (o.1 + o.2.1 ≤ g → x = nI (lk (mk3 l) g).2) → x = nI (lk (mk3 (o :: l)) g).2 := by
      intro g y1 y2 x c1 c2 c3
      rw [mk3_c]
      obtain ⟨e1, e2, e3⟩ := mk3_1 o
      unfold lk
      rw [e1]
      by_cases q : g = o.1
      · rw [if_pos q, c1 q, e3]
      · rw [if_neg q]
        by_cases q2 : g < o.1 + o.2.1
        · rw [c2 q q2, (hz g y1 y2).2, lk_lo (srt_mk3 l _ h4) q2]
          unfold lk
          rw [if_neg q, lk_lo h4 q2]
        · exact c3 (by omega)
    by_cases q : o.2.2 = 2
    · obtain ⟨V', e1, e2, e3, e4⟩ := rest (sv V 2600 0 o.1 3) (agr_sv _ _ _ _ _) (fun g hg => sv_ne (by omega))
      refine ⟨V', fun K => ?_, (agr_sv V 2600 0 o.1 3).trans e2, fun g hg => ?_, fun g y1 y2 => lkm g y1 y2 _ (fun z => ?_) (fun z1 z2 => ?_) (fun z => e4 g z y2)⟩
      · rw [gap K]
        unfold f_X4_beginSweepIfDue_L78
        rw [ofNat_nI, if_neg (fun q => by have := (nI_leI (by omega) (by omega)).mp q; omega), chk_t ip, jn_def, cl_nI (by omega), zo.2, if_pos (by rw [q]; rfl), chk_t ip, lt_def]
        dsimp only
        rw [chk_t ip, sv_col (show ¬ 2500 = 2600 by decide), zo.1, lt_def, max_C (by omega), emax, lt_def, nI_add]
        exact e1 K
      · rw [e3 g (by omega), sv_ne (by omega)]
      · rw [z, e3 o.1 (by omega), sv_at, if_pos q]; rfl
      · rw [e3 g z2, sv_ne (by omega)]
    · obtain ⟨V', e1, e2, e3, e4⟩ := rest V ((agr_rfl V).sub (by decide)) (fun _ _ => rfl)
      refine ⟨V', fun K => ?_, e2, fun g hg => e3 g (by omega), fun g y1 y2 => lkm g y1 y2 _ (fun z => ?_) (fun z1 z2 => e3 g z2) (fun z => e4 g z y2)⟩
      · rw [gap K]
        unfold f_X4_beginSweepIfDue_L78
        rw [ofNat_nI, if_neg (fun q => by have := (nI_leI (by omega) (by omega)).mp q; omega), chk_t ip, jn_def, cl_nI (by omega), zo.2, if_neg (show ¬ nI o.2.2 = 2 from fun z => q (nI_inj (b := 2) (by omega) (by decide) z))]
        dsimp only
        rw [chk_t ip, zo.1, lt_def, max_C (by omega), emax, lt_def, nI_add]
        exact e1 K
      · rw [z, e3 o.1 (by omega), zo.2, if_neg q]
theorem fs_L {W : HV} {K : Int32 → Option HV} : ∀ (l : List Ob) (k f A : Nat), (∀ i o, l[i]? = some o → W 7700 0 (k + i) = nI (16 * o.2.1) ∧ i2b (W 7800 0 (k + i)) = decide (o.2.2 ≠ 1)) → W 1055 0 0 = nI (k + l.length) → k + l.length ≤ 2048 → l.length < f → f_X12_sweep_L12 0 W K f (nI A) (nI k) = K (nI (A + 16 * hld l))
  | _, _, 0, _, _, _, _, hf => absurd hf (by omega)
  | [], k, f + 1, A, ha, hn, hk, hf => by
    unfold f_X12_sweep_L12
    rw [hn, if_pos (show nI (k + ([] : List Ob).length) ≤ nI k from nI_le (by simp) (by simp at hk; omega))]
    rfl
  | o :: l, k, f + 1, A, ha, hn, hk, hf => by
    have hk' : k + l.length + 1 ≤ 2048 := by simp only [List.length_cons] at hk; omega
    have hf' : l.length < f := by simp only [List.length_cons] at hf; omega
    have ik : inb (nI k) 2049 := inb_nI (by omega) (by decide)
    obtain ⟨a1, a2⟩ := ha 0 o rfl
    rw [Nat.add_zero] at a1 a2
    have eh : hld (o :: l) = (if o.2.2 = 1 then 0 else o.2.1) + hld l := rfl
    have step : ∀ B, f_X12_sweep_L12 0 W K f (nI B) (nI (k + 1)) = K (nI (B + 16 * hld l)) := fun B => fs_L l (k + 1) f B (fun i o' hi' => by
        have := ha (i + 1) o' hi'
        rw [show k + (i + 1) = k + 1 + i by omega] at this
        exact this) (by rw [hn]; congr 1; simp only [List.length_cons]; omega) (by omega) hf'
    unfold f_X12_sweep_L12
    rw [hn, if_neg (fun q => by have := (nI_leI (by simp only [List.length_cons]; omega) (by omega)).mp q; simp only [List.length_cons] at this; omega), chk_t ik, jn_def, cl_nI (by omega), a2, eh]
    by_cases q : o.2.2 = 1
    · rw [decide_eq_false (fun z => z q), if_neg (show ¬ false = true by decide), if_pos q]
      dsimp only
      rw [lt_def, lt_def, nI_1, show (0 : Int32) = nI 0 from rfl, nI_add, step]
      congr 2; omega
    · rw [decide_eq_true q, if_pos rfl, chk_t ik, if_neg q]
      dsimp only
      rw [lt_def, lt_def, nI_1, a1, nI_add, step]
      congr 2; omega
theorem ss_L : ∀ (l : List Ob) (k f : Nat) (W : HV), (∀ i o, l[i]? = some o → i2b (W 7800 0 (k + i)) = decide (o.2.2 ≠ 1)) → W 1055 0 0 = nI (k + l.length) → k + l.length ≤ 2048 → l.length < f → ∃ W', (∀ K : HV → Option HV, f_X12_sweep_L81 0 K f (nI k) W = K W') ∧ agr [7900] W W' ∧ (∀ j, j < k → W' 7900 0 j = W 7900 0 j) ∧ (∀ i o, l[i]? = some o → i2b (W' 7900 0 (k + i)) = decide (o.2.2 ≠ 1))
  | _, _, 0, _, _, _, _, hf => absurd hf (by omega)
  | [], k, f + 1, W, ha, hn, hk, hf => by
    refine ⟨W, fun K => ?_, (agr_rfl W).sub (by decide), fun _ _ => rfl, fun i o h => by simp at h⟩
    unfold f_X12_sweep_L81
    rw [hn, if_pos (show nI (k + ([] : List Ob).length) ≤ nI k from nI_le (by simp) (by simp at hk; omega))]
  | o :: l, k, f + 1, W, ha, hn, hk, hf => by
    have hk' : k + l.length + 1 ≤ 2048 := by simp only [List.length_cons] at hk; omega
    have hf' : l.length < f := by simp only [List.length_cons] at hf; omega
    have ik : inb (nI k) 2049 := inb_nI (by omega) (by decide)
    have a1 := ha 0 o rfl
    rw [Nat.add_zero] at a1
    obtain ⟨W', e1, e2, e3, e4⟩ := ss_L l (k + 1) f (sv W 7900 0 k (b2i (i2b (W 7800 0 k)))) (fun i o' hi' => by
        have := ha (i + 1) o' hi'
        rw [sv_col (by decide), show k + 1 + i = k + (i + 1) by omega]
        exact this) (by rw [sv_col (by decide), hn]; congr 1; simp only [List.length_cons]; omega) (by omega) hf'
    refine ⟨W', fun K => ?_, (agr_sv W 7900 0 k _).trans e2, fun j hj => ?_, fun i o' hi => ?_⟩
    · unfold f_X12_sweep_L81
      rw [hn, if_neg (fun q => by have := (nI_leI (by simp only [List.length_cons]; omega) (by omega)).mp q; simp only [List.length_cons] at this; omega), chk_t ik, chk_t ik, lt_def, lt_def, cl_nI (by omega), nI_1]
      exact e1 K
    · rw [e3 j (by omega), sv_ne (by omega)]
    · cases i with
      | zero =>
        have e : o' = o := by simp at hi; exact hi.symm
        rw [Nat.add_zero, e3 k (by omega), sv_at, i2b_b2i, a1, e]
      | succ i =>
        rw [show k + (i + 1) = k + 1 + i by omega]
        exact e4 i o' hi
