/-! the image as read -/
noncomputable def rdt (V11 : HV) : Option HV := if (V11 1015 0 0) = 0 then (jn (fun V15 =>
  jn (fun V18 =>
  jn (fun V19 =>
  bnd (f_X12_layout 0 V19) fun p22 =>
  if (p22 1054 0 0) ≤ ((p22 1000 0 0) - 16) then (some p22) else (lt (f_X12_fails 0 5 (p22 1013 0 0) p22) fun V24 =>
  some V24)) fun k20 =>
  if (V18 1013 0 0) ≤ (V18 1014 0 0) then (k20 V18) else (lt (f_X12_fails 0 4 (V18 1014 0 0) V18) fun V26 =>
  k20 V26)) fun k16 =>
  f_X12_readAll_L323 0 k16 FU 0 V15) fun k13 =>
  f_X12_readAll_L172 0 k13 FU 0 V11) else (some V11)
def IM (n C T tt : Nat) (B : Nat → Nat) (V W : HV) : Prop := 1 ≤ C ∧ C ≤ 8 ∧ 1 ≤ T ∧ T ≤ 6 ∧ V 406 0 0 = nI C ∧ W 1018 0 0 = nI C ∧ V 407 0 0 = nI T ∧ W 1019 0 0 = nI T ∧ (∀ c, c < C → CI n B V W c) ∧ V 408 0 0 = nI tt ∧ (∀ t, t < T → TI B W t (tt + 5 * t)) ∧ tt + 5 * T ≤ n
theorem CI_ag {n c : Nat} {B : Nat → Nat} {cs ds : List Nat} {V V' W W' : HV} (h : CI n B V W c) (hc : c < 8) (hV : agr cs V V') (hW : agr ds W W') (h1 : ∀ l ∈ [102, 103, 104, 105, 106, 107, 2700, 2800], l ∉ cs) (h2 : ∀ l ∈ [8800, 8900, 4400, 9000, 9500, 4500, 4600, 9100, 9200, 9300, 9400], l ∉ ds) : CI n B V' W' c :=
  CI_fr (P := fun c _ _ => c ∈ cs) (Q := fun c _ _ => c ∈ ds) h hc hV hW (fun l j hl => h1 l (by simp; omega)) (fun l hl => h2 l (by simp; omega)) (fun l j _ hl => h2 l (by simp; omega)) (fun l j _ hl => h2 l (by simp; omega))
theorem TI_ag {t p : Nat} {B : Nat → Nat} {ds : List Nat} {W W' : HV} (h : TI B W t p) (hW : agr ds W W') (h2 : ∀ l ∈ [5100, 5500, 9600, 9700, 9800, 9900], l ∉ ds) : TI B W' t p := by
  unfold TI at h ⊢
  rw [hW 9600 0 t (h2 _ (by decide)), hW 9700 0 t (h2 _ (by decide)), hW 9800 0 t (h2 _ (by decide)), hW 5500 0 t (h2 _ (by decide)), hW 9900 0 t (h2 _ (by decide)), hW 5100 0 t (h2 _ (by decide))]
  exact h
theorem IM_ag {n C T tt : Nat} {B : Nat → Nat} {cs ds : List Nat} {V V' W W' : HV} (h : IM n C T tt B V W) (hV : agr cs V V') (hW : agr ds W W') (h1 : ∀ l ∈ [102, 103, 104, 105, 106, 107, 406, 407, 408, 2700, 2800], l ∉ cs) (h2 : ∀ l ∈ [1018, 1019, 4400, 4500, 4600, 5100, 5500, 8800, 8900, 9000, 9100, 9200, 9300, 9400, 9500, 9600, 9700, 9800, 9900], l ∉ ds) : IM n C T tt B V' W' := by
  obtain ⟨a1, a2, a3, a4, a5, a6, a7, a8, a9, a10, a11, a12⟩ := h
  refine ⟨a1, a2, a3, a4, ?_, ?_, ?_, ?_, fun c hc => CI_ag (a9 c hc) (by omega) hV hW (fun l hl => h1 l ?_) (fun l hl => h2 l ?_), ?_, fun t ht => TI_ag (a11 t ht) hW (fun l hl => h2 l ?_), a12⟩
  · rw [hV 406 0 0 (h1 _ (by decide))]; exact a5
  · rw [hW 1018 0 0 (h2 _ (by decide))]; exact a6
  · rw [hV 407 0 0 (h1 _ (by decide))]; exact a7
  · rw [hW 1019 0 0 (h2 _ (by decide))]; exact a8
  · simp only [List.mem_cons, List.not_mem_nil, or_false] at hl ⊢; omega
  · simp only [List.mem_cons, List.not_mem_nil, or_false] at hl ⊢; omega
  · rw [hV 408 0 0 (h1 _ (by decide))]; exact a10
  · simp only [List.mem_cons, List.not_mem_nil, or_false] at hl ⊢; omega
def riC : List Nat := [102, 103, 104, 105, 106, 107, 402, 404, 405, 406, 407, 408, 2700, 2800]
def riM : List Nat := [1014, 1015, 1016, 1018, 1019, 4400, 4500, 4600, 5100, 5500, 8800, 8900, 9000, 9100, 9200, 9300, 9400, 9500, 9600, 9700, 9800, 9900]
theorem ri_all {kb n : Nat} {B : Nat → Nat} {V W : HV} (h : PR n B V (sv W 1014 0 0 0)) : ∃ V' W', f_X5_readImage kb 0 0 V = some V' ∧ f_X12_readAll 0 W = rdt W' ∧ PR n B V' W' ∧ agr riC V V' ∧ agr riM W W' ∧ (V' 404 0 0 = 0 → ∃ C T tt, IM n C T tt B V' W' ∧ V' 402 0 0 = nI (tt + 5 * T) ∧ W' 1014 0 0 = nI (tt + 5 * T)) := by
  have hn := h.1
  have aW0 : agr [1014] W (sv W 1014 0 0 0) := agr_sv _ _ _ _ _
  obtain ⟨C, V1, W1, a1, a2, a3, a4, a5, a6, a7, a8, a9⟩ := num_all (kb := kb) (m := 1) (lo := 1) (hi := 8) h (Or.inl rfl) (by omega) (by omega)
  have aV2 : agr [406] V1 (sv V1 406 0 0 (nI C)) := agr_sv _ _ _ _ _
  have aW2 : agr [1018] W1 (sv W1 1018 0 0 (nI C)) := agr_sv _ _ _ _ _
  have p2 := PR_fr a3 aV2 aW2 (by decide) (by decide)
  have c2 : (sv V1 406 0 0 (nI C)) 406 0 0 = nI C := sv_at _ _ _ _ _
  have d2 : (sv W1 1018 0 0 (nI C)) 1018 0 0 = nI C := sv_at _ _ _ _ _
  obtain ⟨T, V3, W3, b1, b2, b3, b4, b5, b6, b7, b8, b9⟩ := num_all (kb := kb) (m := 1) (lo := 1) (hi := 6) p2 (Or.inl rfl) (by omega) (by omega)
  have aV4 : agr [407] V3 (sv V3 407 0 0 (nI T)) := agr_sv _ _ _ _ _
  have aW4 : agr [1019] W3 (sv W3 1019 0 0 (nI T)) := agr_sv _ _ _ _ _
  have p4 := PR_fr b3 aV4 aW4 (by decide) (by decide)
  have c4 : (sv V3 407 0 0 (nI T)) 407 0 0 = nI T := sv_at _ _ _ _ _
  have d4 : (sv W3 1019 0 0 (nI T)) 1019 0 0 = nI T := sv_at _ _ _ _ _
  have c4' : (sv V3 407 0 0 (nI T)) 406 0 0 = nI C := by rw [sv_col (by decide), b6 406 0 0 (by decide)]; exact c2
  have d4' : (sv W3 1019 0 0 (nI T)) 1018 0 0 = nI C := by rw [sv_col (by decide), b7 1018 0 0 (by decide)]; exact d2
  obtain ⟨V5, W5, e1, e2, e3, e4, e5, e6⟩ := cl_L (kb := kb) (n := n) (B := B) a5 C 0 FU FU _ _ (by omega) (FU_gt (by omega)) (FU_gt (by omega)) p4 c4' d4' (fun _ c hc => by omega)
  have aV6 : agr [408] V5 (sv V5 408 0 0 (V5 402 0 0)) := agr_sv _ _ _ _ _
  have p6 : PR n B (sv V5 408 0 0 (V5 402 0 0)) W5 := PR_fr e3 aV6 (agr_rfl W5) (by decide) (by decide)
  obtain ⟨V7, W7, g1, g2, g3, g4, g5, -, g7⟩ := tl_L (kb := kb) (n := n) (B := B) b5 T 0 FU FU (sv V5 408 0 0 (V5 402 0 0)) W5 (by omega) (FU_gt (by omega)) (FU_gt (by omega)) p6 (by rw [sv_col (by decide), e4 407 0 0 (by decide)]; exact c4) ((e5 1019 0 0 (by decide)).trans d4)
  refine ⟨V7, W7, ?_, ?_, g3, ((((((a6.app aV2).app b6).app aV4).app e4).app aV6).app g4).sub (by decide), (((((((aW0.app a7).app aW2).app b7).app aW4).app e5).app g5)).sub (by decide), fun q => ?_⟩
  · unfold f_X5_readImage
    rw [show f_X5_number kb 0 1 1 8 V = _ from a1, bnd_some]
    dsimp only
    rw [lt_def, show f_X5_number kb 0 1 1 6 (sv V1 406 0 0 (nI C)) = _ from b1, bnd_some]
    dsimp only
    rw [lt_def, jn_def]
    refine (e1 _).trans ?_
    rw [lt_def, jn_def]
    exact g1 _
  · unfold f_X12_readAll rdt
    rw [lt_def, show f_X12_next 0 1 1 8 (sv W 1014 0 0 0) = _ from a2, bnd_some]
    dsimp only
    rw [lt_def, show f_X12_next 0 1 1 6 (sv W1 1018 0 0 (nI C)) = _ from b2, bnd_some]
    dsimp only
    rw [lt_def, jn_def (fun V8 => _)]
    refine (e2 _).trans ?_
    rw [jn_def (fun V11 => _)]
    exact g2 _
  · obtain ⟨q5, tt, y1, y2, y3, y4⟩ := g7 q
    have q5' : V5 404 0 0 = 0 := by rw [sv_col (by decide)] at q5; exact q5
    have y1' : V5 402 0 0 = nI tt := by rw [sv_col (by decide)] at y1; exact y1
    obtain ⟨a, z1, z2, z3⟩ := g3.2.2.2.2.2.2 q
    refine ⟨C, T, tt, ⟨a4, a5, b4, b5, ?_, ?_, ?_, ?_, fun c hc => CI_ag ((e6 q5').2 c hc) (by omega) (aV6.app g4) g5 (by decide) (by decide), ?_, fun t ht => ?_, y2⟩, y3, by rw [z3, ← z2]; exact y3⟩
    · rw [g4 406 0 0 (by decide), sv_col (by decide), e4 406 0 0 (by decide)]; exact c4'
    · rw [g5 1018 0 0 (by decide), e5 1018 0 0 (by decide)]; exact d4'
    · rw [g4 407 0 0 (by decide), sv_col (by decide), e4 407 0 0 (by decide)]; exact c4
    · rw [g5 1019 0 0 (by decide), e5 1019 0 0 (by decide)]; exact d4
    · rw [g4 408 0 0 (by decide), sv_at]; exact y1'
    · have := y4 t ht
      rw [Nat.zero_add] at this
      exact this
/-! targets -/
def GK (W : HV) (C i : Nat) : Prop := (W 9100 0 i = nI 0 → ∃ x y e, W 9200 0 i = nI x ∧ W 9300 0 i = nI y ∧ x < C ∧ W 4400 0 x = nI e ∧ y < e ∧ e ≤ 8) ∧ (W 9100 0 i = nI 4 → ∃ x, W 9200 0 i = nI x ∧ x < C)
def GT (W : HV) (C t : Nat) : Prop := ∃ x y e, W 9700 0 t = nI x ∧ W 9800 0 t = nI y ∧ x < C ∧ W 4400 0 x = nI e ∧ y < e ∧ e ≤ 8
/-- one step of a check: both fail at the same place, or not -/
def FS (n : Nat) (B : Nat → Nat) (V W V' W' : HV) : Prop := PR n B V' W' ∧ agr [404, 405] V V' ∧ agr [1015, 1016] W W' ∧ fst V V'
theorem FS_rfl {n : Nat} {B : Nat → Nat} {V W : HV} (h : PR n B V W) : FS n B V W V W := ⟨h, (agr_rfl V).sub (by decide), (agr_rfl W).sub (by decide), fun _ => ⟨rfl, rfl⟩⟩
theorem FS.trans {n : Nat} {B : Nat → Nat} {V W V1 W1 V2 W2 : HV} (h1 : FS n B V W V1 W1) (h2 : FS n B V1 W1 V2 W2) : FS n B V W V2 W2 := ⟨h2.1, h1.2.1.trans h2.2.1, h1.2.2.1.trans h2.2.2.1, h1.2.2.2.trans h2.2.2.2⟩
theorem FS_fail {kb n : Nat} {B : Nat → Nat} {V W : HV} {x y : Int32} (h : PR n B V W) (hx : ¬ x = 0) : FS n B V W (f_X5_fail kb 0 x y V) (f_X12_fails 0 x y W) ∧ ¬ (f_X5_fail kb 0 x y V) 404 0 0 = 0 := by
  obtain ⟨a1, a2, a3, a4, a5⟩ := fl_all (kb := kb) (x := x) (y := y) h hx
  exact ⟨⟨a1, a2, a3, fun q => by rw [(a4 q).1]; exact ⟨rfl, rfl⟩⟩, a5⟩
/-- an export: compartment at p, export at p + 1 -/
theorem ce_all {kb n C p : Nat} {B : Nat → Nat} {V W : HV} (h : PR n B V W) (hC : C ≤ 8) (hci : ∀ c, c < C → CI n B V W c) (h6 : V 406 0 0 = nI C) (hp : p + 1 < n) : ∃ V' W', f_X5_checkExport kb 0 0 (nI p) V = some V' ∧ FS n B V W V' W' ∧ (¬ B p < C → W' = f_X12_fails 0 3 (nI p) W) ∧ (B p < C → ∃ e, W 4400 0 (B p) = nI e ∧ e ≤ 8 ∧ W' = if B (p + 1) < e then W else f_X12_fails 0 3 (nI (p + 1)) W) ∧ (V' 404 0 0 = 0 → V 404 0 0 = 0 ∧ B p < C ∧ ∃ e, W 4400 0 (B p) = nI e ∧ B (p + 1) < e ∧ e ≤ 8) := by
  have hn := h.1
  have b1 := (h.2.2.2.1 p (by omega)).2.2
  have b2 := (h.2.2.2.1 (p + 1) hp).2.2
  unfold f_X5_checkExport f_X5_checkCompartment
  rw [byte_C h (by omega), bnd_some, h6]
  by_cases q : B p < C
  · obtain ⟨w, gl, e, im, it, ct, c1, c2, c3, c4, c5, c6, c7, d1, d2, d3, d4, d5, d6, -⟩ := hci (B p) q
    rw [if_pos (nI_lt q (by omega)), bnd_some, byte_C h (by omega), bnd_some, if_neg (show ¬ (8 : Int32) ≤ nI (B p) from fun z => by have := (nI_leI (a := 8) (by decide) (by omega)).mp z; omega), chk_t (inb_nI (by omega) (by decide)), nI_1, byte_C h hp, bnd_some, lt_def, cl_nI (by omega)]
    have hx : f_X1_hasExport kb (B p) (nI (B (p + 1))) V = decide (B (p + 1) < e) := by
      unfold f_X1_hasExport
      rw [lt_def, if_neg (nI_pos (by omega)), d5]
      by_cases z : B (p + 1) < e
      · rw [decide_eq_true z, if_neg (fun y => by have := (nI_leI (by omega) (by omega)).mp y; omega), if_neg (show ¬ (8 : Int32) ≤ nI (B (p + 1)) from fun y => by have := (nI_leI (a := 8) (by decide) (by omega)).mp y; omega)]
      · rw [decide_eq_false z, if_pos (nI_le (by omega) (by omega))]
    rw [hx]
    by_cases z : B (p + 1) < e
    · rw [decide_eq_true z, if_pos rfl]
      exact ⟨V, W, rfl, FS_rfl h, fun y => absurd q y, fun _ => ⟨e, d6, c4, by rw [if_pos z]⟩, fun y => ⟨y, q, e, d6, z, c4⟩⟩
    · rw [decide_eq_false z, if_neg (show ¬ false = true by decide), lt_def]
      obtain ⟨f1, f2⟩ := FS_fail (kb := kb) (x := 3) (y := nI (p + 1)) h (by decide)
      exact ⟨_, _, rfl, f1, fun y => absurd q y, fun _ => ⟨e, d6, c4, by rw [if_neg z]⟩, fun y => absurd y f2⟩
  · obtain ⟨f1, f2⟩ := FS_fail (kb := kb) (x := 3) (y := nI p) h (by decide)
    have hP := f1.1
    rw [if_neg (nI_nlt (by omega) (by omega)), lt_def, bnd_some, byte_C hP (by omega), bnd_some]
    by_cases z : 8 ≤ B p
    · rw [if_pos (show (8 : Int32) ≤ nI (B p) from nI_le (a := 8) z (by omega))]
      exact ⟨_, _, rfl, f1, fun _ => rfl, fun y => absurd y q, fun y => absurd y f2⟩
    · rw [if_neg (show ¬ (8 : Int32) ≤ nI (B p) from fun y => by have := (nI_leI (a := 8) (by decide) (by omega)).mp y; omega), chk_t (inb_nI (by omega) (by decide)), nI_1, byte_C hP hp, bnd_some, lt_def]
      by_cases y : f_X1_hasExport kb (nI (B p)).toNatClampNeg (nI (B (p + 1))) (f_X5_fail kb 0 3 (nI p) V) = true
      · rw [if_pos y]
        exact ⟨_, _, rfl, f1, fun _ => rfl, fun y => absurd y q, fun y => absurd y f2⟩
      · rw [if_neg y, lt_def, fail_C kb 3 (nI (p + 1)), if_neg f2]
        exact ⟨_, _, rfl, f1, fun _ => rfl, fun y => absurd y q, fun y => absurd y f2⟩
